/-! chance, undo, kept -/
theorem draw_C {I : HI} {L : Nat} (hL : L < 2 ^ 31) (e : I 1 17 = nI L) : f_X11_draw I 100 = some (nI (((1103515245 * L + 12345) % 2 ^ 31) / 64 % 100), sI I 1 17 (nI ((1103515245 * L + 12345) % 2 ^ 31))) := by
  have e1 : ((1103515245 : Int32) * nI L + 12345) &&& 2147483647 = nI ((1103515245 * L + 12345) % 2 ^ 31) := by
    have q1 : (1103515245 : Int32) = nI 1103515245 := rfl
    have q2 : (12345 : Int32) = nI 12345 := rfl
    have key : ∀ q : Nat, (nI q).toBitVec.toNat % 2 ^ 31 = q % 2 ^ 31 := fun q => by
      have : (nI q).toBitVec.toNat = q % 2 ^ 32 := BitVec.toNat_ofNat q 32
      rw [this]
      omega
    rw [q1, q2, pk_mul, nI_add, pk_and _ 31 (by decide), key]
  have hlt : (1103515245 * L + 12345) % 2 ^ 31 < 2 ^ 31 := Nat.mod_lt _ (by decide)
  generalize (1103515245 * L + 12345) % 2 ^ 31 = L' at *
  have n1 : ¬ (100 : Int32) ≤ 0 := by decide
  have q64 : (64 : Int32) = nI 64 := rfl
  unfold f_X11_draw
  rw [e, e1]
  simp only [bnd, if_neg n1, zs_eq, zs_same]
  rw [q64, zq100]
  simp (disch := omega) only [dv_ok, div_ok, pk_mul, pk_sub, sdm]
theorem draw_M {M : HL} {L : Nat} (hL : L < 2 ^ 31) (e : M 100 55 = lN L) : f_X12_draw M 100 = some (nI (((1103515245 * L + 12345) % 2 ^ 31) / 64 % 100), sL M 100 55 (lN ((1103515245 * L + 12345) % 2 ^ 31))) := by
  have q1 : (1103515245 : Int64) = lN 1103515245 := rfl
  have q2 : (12345 : Int64) = lN 12345 := rfl
  have q3 : (2147483648 : Int64) = lN (2 ^ 31) := rfl
  have q4 : (64 : Int64) = lN 64 := rfl
  have q5 : Int32.toInt64 100 = lN 100 := rfl
  have d1 : ¬ lN (2 ^ 31) = 0 := by decide
  have d2 : ¬ lN 64 = 0 := by decide
  have d3 : ¬ lN 100 = 0 := by decide
  have hlt : (1103515245 * L + 12345) % 2 ^ 31 < 2 ^ 31 := Nat.mod_lt _ (by decide)
  unfold f_X12_draw
  rw [e, q1, q2, q3, q4, q5, lN_mul, lN_add, pk_lRem (by omega) (by decide) (by decide)]
  generalize (1103515245 * L + 12345) % 2 ^ 31 = L' at *
  simp only [bnd, dvL, if_neg d1, if_neg d2, if_neg d3, zL_eq, pk_uLs]
  rw [pk_lDiv (by omega) (by decide) (by decide), pk_lRem (by omega) (by decide) (by decide), lN_i]
theorem chance_loop {fu t b nh no nl m dr : Nat} {R : HR} (hf : 1600 < fu) : ∀ (k n i : Nat) (I J : HI) (M : HL) (w : Int32), LC I R J 49 0 t b nh no nl → SW (vw I t) (sc I 49) nh no nl → LWf (vw I t) nh → RLt I M → R 1 2 = t → I 49 1 = nI (m + i) → I t 4 = nI dr → J 111 b = nI dr → dr ≤ 100 → m + i + k ≤ 9999 → i + k < 2 ^ 30 → k < n → ∃ W I' J' M', f_X11_chance_L27 fu n I R (nI (i + k)) w (nI i) = some (W, I') ∧ f_X12_chance_L23 fu n J M (nI (i + k)) w (nI i) = some (W, J', M') ∧ SEp nl (sc I' 49) (lv J' 0) ∧ SW (vw I t) (sc I' 49) nh no nl ∧ (∀ x, x ≠ 1 → x < 49 ∨ 58 ≤ x → I' x = I x) ∧ (∀ k, k ≠ 17 → I' 1 k = I 1 k) ∧ PO 0 J J' ∧ RLt I' M' ∧ (∀ x, x = 117 ∨ x = 118 ∨ x = 119 → M' x = M x) := by
  intro k
  induction k with
  | zero =>
    intro n i I J M w hLC hS hD hlt hR1 he hd1 hd2 hd3 hk hi hn
    obtain ⟨n, rfl⟩ : ∃ q, n = q + 1 := ⟨n - 1, by omega⟩
    refine ⟨w, I, J, M, ?_, ?_, hLC.2.2.2.1, hS, fun _ _ _ => rfl, fun _ _ => rfl, PO.refl, hlt, fun _ _ => rfl⟩
    · simp (disch := omega) only [f_X11_chance_L27, sdm, ↓zm1, ↓zm2, ↓zm3, ↓zm4, ↓zm5, ↓zm6, ↓zm7, ↓zm8, ↓zm9, ↓zm10, ↓zm11, ↓zm12, ↓zm13, ↓zm14, ↓zm15, ↓zm16, ↓zm17, ↓zm18, ↓zm19, ↓zm20, ↓zm1000000000, zq0, zq1, zq2, zq3, zq4, zq5, zq6, zq7, zq8, zq9, zq10, zq11, zq12, zq13, zq14, zq15, zq16, zq17, zq18, zq19, zq20, zq21, zq22, zq23, zq24, zq25, zq26, zq30, zq31, zq32, zq33, zq34, zq35, zq36, zq37, zq38, zq39, zq40, zq41, zq42, zq43, zq44, zq45, zq47, zq48, zq57, zq59, zq60, zq61, zq62, zq80, zq91, zq93, zq97, zq99, zq100, zq107, zq110, zq120, zq122, zq128, zq149, zq160, zq208, zq240, zq251, zq255, zq256, zq500, zq936, zq999, zq1600, zq1800, zq2048, zq3200, zq4160, zq9999, zq12345, zq1000000, zq1048576, zq100000000, bnd, jnt, zg_ok, gz_0, gz_1, gz_n0, gz_n1, zs_eq, zs_ne, zs_same, zs_other, zA_eq, zA_ne, Option.bind_some, Option.bind_none, nI_add, pk_mul, nI_clamp, nI_leI, nI_ltI, nI_eq, pk_sub, nI_mI, nI_eq_mI, mI_eq_nI, nI_lt_m, ldI_ok, inb_ok, if_pos, if_neg, dv_ok, rem_ok, div_ok, if_true, if_false]
    · simp (disch := omega) only [f_X12_chance_L23, sdm, ↓zm1, ↓zm2, ↓zm3, ↓zm4, ↓zm5, ↓zm6, ↓zm7, ↓zm8, ↓zm9, ↓zm10, ↓zm11, ↓zm12, ↓zm13, ↓zm14, ↓zm15, ↓zm16, ↓zm17, ↓zm18, ↓zm19, ↓zm20, ↓zm1000000000, zq0, zq1, zq2, zq3, zq4, zq5, zq6, zq7, zq8, zq9, zq10, zq11, zq12, zq13, zq14, zq15, zq16, zq17, zq18, zq19, zq20, zq21, zq22, zq23, zq24, zq25, zq26, zq30, zq31, zq32, zq33, zq34, zq35, zq36, zq37, zq38, zq39, zq40, zq41, zq42, zq43, zq44, zq45, zq47, zq48, zq57, zq59, zq60, zq61, zq62, zq80, zq91, zq93, zq97, zq99, zq100, zq107, zq110, zq120, zq122, zq128, zq149, zq160, zq208, zq240, zq251, zq255, zq256, zq500, zq936, zq999, zq1600, zq1800, zq2048, zq3200, zq4160, zq9999, zq12345, zq1000000, zq1048576, zq100000000, bnd, jnt, zg_ok, gz_0, gz_1, gz_n0, gz_n1, zs_eq, zs_ne, zs_same, zs_other, zA_eq, zA_ne, Option.bind_some, Option.bind_none, nI_add, pk_mul, nI_clamp, nI_leI, nI_ltI, nI_eq, pk_sub, nI_mI, nI_eq_mI, mI_eq_nI, nI_lt_m, ldI_ok, inb_ok, if_pos, if_neg, dv_ok, rem_ok, div_ok, if_true, if_false]
  | succ k ih =>
    intro n i I J M w hLC hS hD hlt hR1 he hd1 hd2 hd3 hk hi hn
    obtain ⟨n, rfl⟩ : ∃ q, n = q + 1 := ⟨n - 1, by omega⟩
    obtain ⟨L, L1, L2, L3⟩ := hlt
    have dC := draw_C L1 L2
    have dM := draw_M L1 L3
    have hlt : (1103515245 * L + 12345) % 2 ^ 31 < 2 ^ 31 := Nat.mod_lt _ (by decide)
    generalize (1103515245 * L + 12345) % 2 ^ 31 = L' at *
    obtain ⟨y, hy⟩ : ∃ y, y = L' / 64 % 100 := ⟨_, rfl⟩
    rw [← hy] at dC dM
    have hC := hLC.1
    have ht := hC.2.2.1
    have hM0 := hLC.2.2.1
    have m0 : J 100 13 = nI b := hM0.1.1
    have m1 : b < 2 := hM0.1.2
    have ev : vw (sI I 1 17 (nI L')) t = vw I t := vw_congr (fun a ha => zs_ne (by omega))
    have es : sc (sI I 1 17 (nI L')) 49 = sc I 49 := sc_congr (fun a ha => zs_ne (by omega))
    have et : sI I 1 17 (nI L') t = I t := zs_ne (by omega)
    have hLC' : LC (sI I 1 17 (nI L')) R J 49 0 t b nh no nl := by
      obtain ⟨hC, hL, hM, hE, hB, hv, hk⟩ := hLC
      refine ⟨?_, by rw [ev]; exact hL, by rw [ev]; exact hM, by rw [es]; exact hE, by rw [es]; exact hB, hv, fun k hk' => by rw [zs_ne (by omega)]; exact hk k hk'⟩
      obtain ⟨h0, h1, h2, h3, h4, h5, h6, h7, h8, h9⟩ := hC
      exact ⟨h0, h1, h2, h3, by rw [et]; exact h4, by rw [et]; exact h5, by rw [et]; exact h6, h7, h8, h9⟩
    obtain ⟨d, hd⟩ : ∃ d, d = if dr ≤ y then 0 else 1 := ⟨_, rfl⟩
    have hd01 : d ≤ 1 := by split at hd <;> omega
    obtain ⟨W, I1, J1, M1, a1, a2, a3, a4, a5, a6, a7, a8⟩ := pass_now (M := sL M 100 55 (lN L')) hLC' (by rw [ev, es]; exact hS) (by rw [ev]; exact hD) hf (d := d) (n := m + i) hd01 (by omega) (by rw [zs_ne (by decide)]; exact he)
    have ev1 : vw I1 t = vw I t := (vw_congr (fun a ha => a3 _ (by omega))).trans ev
    have hrl : RLt I1 M1 := ⟨L', hlt, by rw [a3 1 (by omega), zs_eq, zs_same], by rw [a5 100 (by decide), zL_eq, pk_uLs]⟩
    obtain ⟨W2, I2, J2, M2, b1, b2, b3, b4, b5, b6, b7, b8, b9⟩ := ih n (i + 1) I1 J1 M1 (w + nI d) a7 (by rw [ev1, ← ev]; exact a8) (by rw [ev1]; exact hD) hrl hR1 (by rw [a6]; congr 1) (by rw [a3 t (by omega), et]; exact hd1) (by rw [a4.1 111 (by decide)]; exact hd2) hd3 (by omega) (by omega) (by omega)
    refine ⟨W2, I2, J2, M2, ?_, ?_, b3, by rw [← ev1]; exact b4, fun x q1 q2 => by rw [b5 x q1 q2, a3 x q2, zs_ne q1], fun k hk => by rw [b6 k hk, a3 1 (by omega), zs_eq, zs_other hk], a4.trans b7, b8, fun x hx => by rw [b9 x hx, a5 x (by omega), zL_ne (by omega)]⟩
    · have st : f_X11_chance_L27 fu (n + 1) I R (nI (i + (k + 1))) w (nI i) = f_X11_chance_L27 fu n I1 R (nI (i + (k + 1))) (w + nI d) (nI (i + 1)) := by
        by_cases c : dr ≤ y
        · rw [if_pos c] at hd
          subst hd
          simp (disch := omega) only [f_X11_chance_L27, nI_leI, if_neg, dC, Option.bind_some, hR1, zg_ok hC.1, et, hd1, if_pos, jnt, bnd, zq0, zq1, a1, nI_add]
        · rw [if_neg c] at hd
          subst hd
          simp (disch := omega) only [f_X11_chance_L27, nI_leI, if_neg, dC, Option.bind_some, hR1, zg_ok hC.1, et, hd1, jnt, bnd, zq0, zq1, a1, nI_add]
      rw [st, show i + (k + 1) = i + 1 + k by omega]
      exact b1
    · have st : f_X12_chance_L23 fu (n + 1) J M (nI (i + (k + 1))) w (nI i) = f_X12_chance_L23 fu n J1 M1 (nI (i + (k + 1))) (w + nI d) (nI (i + 1)) := by
        by_cases c : dr ≤ y
        · rw [if_pos c] at hd
          subst hd
          simp (disch := omega) only [f_X12_chance_L23, nI_leI, if_neg, dM, Option.bind_some, m0, ldI_ok, hd2, if_pos, jnt, bnd, zq0, zq1, a2, nI_add, nI_eq, if_true]
        · rw [if_neg c] at hd
          subst hd
          have n3 : ¬ nI 1 = nI 0 := by decide
          simp (disch := omega) only [f_X12_chance_L23, nI_leI, if_neg, dM, Option.bind_some, m0, ldI_ok, hd2, jnt, bnd, zq0, zq1, if_neg n3, a2, nI_add]
      rw [st, show i + (k + 1) = i + 1 + k by omega]
      exact b2
theorem eq_chance : Eq_chance Rel := by
  intro n I R J M a0 hn hR
  obtain ⟨t, b, nh, no, nl, h⟩ := hR
  obtain ⟨hC, hL, hM, hE, hS, hB, hB', h1⟩ := h.get
  obtain ⟨m, hm, em⟩ := hS.1
  have em1 : I 49 1 = nI m := em
  have em2 : J 127 0 = nI m := by rw [← em]; exact hE.1.symm
  have n3 : ¬ (1 : Int32) = 0 := by decide
  have r1 : f_X11_refuse I 2 = _ := refuse_C (I := I) (k := 2) (by decide)
  have r2 : f_X12_refuses J 2 = _ := refuses_M (J := J) (k := 2) (by decide)
  have fail : ∃ (r : Int32) (I' : HI) (J' : HI) (M' : HL), ((f_X11_refuse I 2).bind fun x11 => some (x11.1, x11.2)) = some (r, I') ∧ ((f_X12_refuses J 2).bind fun x2 => some (x2.1, x2.2, M)) = some (r, J', M') ∧ Rel (n + 6) I' R J' M' := ⟨-1, _, _, M, by rw [r1]; rfl, by rw [r2]; rfl, (Rel_ref h.up (k := 2) (by decide)).rel⟩
  unfold f_X11_chance f_X12_chance
  rcases x_cases a0 101 (by decide) with c | c | ⟨k, hk, rfl⟩
  · rw [ahead_Mn (by decide) (Or.inl c)]
    simp (disch := omega) only [jnt, Option.bind_some, Int32.le_iff_toInt_le, Int32.lt_iff_toInt_lt, ← Int32.toInt_inj, zt0, zt1, zt2, zt3, zt4, zt5, zt6, zt7, zt8, zt9, zt10, zt11, zt12, zt13, zt14, zt15, zt16, zt17, zt18, zt19, zt20, zt21, zt22, zt23, zt24, zt25, zt26, zt30, zt31, zt32, zt33, zt34, zt35, zt36, zt37, zt38, zt39, zt40, zt41, zt42, zt43, zt44, zt45, zt47, zt48, zt57, zt59, zt60, zt61, zt62, zt80, zt91, zt93, zt97, zt99, zt100, zt107, zt110, zt120, zt122, zt128, zt149, zt160, zt208, zt240, zt251, zt255, zt256, zt500, zt936, zt999, zt1600, zt1800, zt2048, zt3200, zt4160, zt9999, zt12345, zt1000000, zt1048576, zt100000000, zu1, zu2, zu3, zu4, zu5, zu6, zu7, zu8, zu9, zu10, zu11, zu12, zu13, zu14, zu15, zu16, zu17, zu18, zu19, zu20, zu1000000000, if_pos, if_neg, gz_0, gz_1, Option.bind_some, if_true, if_false]
    exact fail
  · rw [ahead_Mn (by decide) (Or.inr c), ahead_Cn (Or.inr c)]
    simp (disch := omega) only [jnt, Option.bind_some, Int32.le_iff_toInt_le, Int32.lt_iff_toInt_lt, ← Int32.toInt_inj, zt0, zt1, zt2, zt3, zt4, zt5, zt6, zt7, zt8, zt9, zt10, zt11, zt12, zt13, zt14, zt15, zt16, zt17, zt18, zt19, zt20, zt21, zt22, zt23, zt24, zt25, zt26, zt30, zt31, zt32, zt33, zt34, zt35, zt36, zt37, zt38, zt39, zt40, zt41, zt42, zt43, zt44, zt45, zt47, zt48, zt57, zt59, zt60, zt61, zt62, zt80, zt91, zt93, zt97, zt99, zt100, zt107, zt110, zt120, zt122, zt128, zt149, zt160, zt208, zt240, zt251, zt255, zt256, zt500, zt936, zt999, zt1600, zt1800, zt2048, zt3200, zt4160, zt9999, zt12345, zt1000000, zt1048576, zt100000000, zu1, zu2, zu3, zu4, zu5, zu6, zu7, zu8, zu9, zu10, zu11, zu12, zu13, zu14, zu15, zu16, zu17, zu18, zu19, zu20, zu1000000000, if_pos, if_neg, gz_0, gz_1, Option.bind_some, if_true, if_false]
    exact fail
  · have p1 := ahead_C (I := I) (k := k) (by omega) hm em1
    have p2 : f_X12_isAhead J (nI k) 1 = _ := ahead_M (J := J) (k := k) (l := 1) (by omega) hm (by decide) em2
    rw [p1, p2]
    by_cases c0 : k = 0
    · subst c0
      simp (disch := omega) only [jnt, Option.bind_some, zq1, nI_ltI, if_pos, if_neg, if_true]
      exact fail
    have k1 : ¬ nI k < 1 := Int32.not_lt.mpr (nI_le (a := 1) (by omega) (by omega))
    by_cases c : m + k ≤ 9999
    · have c1 : k ≤ 100 ∧ m + k ≤ 9999 := ⟨by omega, c⟩
      have c2 : 1 ≤ k ∧ k ≤ 100 ∧ m + k ≤ 9999 := ⟨by omega, by omega, c⟩
      obtain ⟨I1, J1, q1, q2, q3, q4, q5, q6, q7, q8, q9, q10, q11⟩ := push_R (fu := FU) h FU_big.1
      obtain ⟨_, _, hM1, _, hS1, _, _, hR1⟩ := q3.get
      have hD := q3.2.2.2.2.2.2.1.2.2.2.2.2.1
      obtain ⟨dr, dr1, dr2⟩ := hD.2.1
      have dr2' : I1 t 4 = nI dr := dr2
      obtain ⟨W, I2, J2, M2, s1, s2, s3, s4, s5, s6, s7, s8, s9⟩ := chance_loop (m := m) (dr := dr) FU_big.1 k FU 0 I1 J1 M 0 q3.LC hS1 hD q3.2.2.2.1 hR1 (by rw [q5 49 (by omega)]; exact em1) dr2' (by rw [hM1.2.2.2.2.2.2.2.2.1.1]; exact dr2) dr1 (by omega) (by omega) (by have := FU_big.1; omega)
      rw [Nat.zero_add] at s1 s2
      have s1' : f_X11_chance_L27 FU FU I1 R (nI k) 0 0 = _ := s1
      have s2' : f_X12_chance_L23 FU FU J1 M (nI k) 0 0 = _ := s2
      simp only [jnt, if_neg k1, if_pos c1, if_pos c2, Option.bind_some, if_neg n3, q1, q2, s1', s2']
      refine ⟨W, I2, J2, M2, rfl, rfl, (Rel_act q3 (by omega) s5 s6 s7.AC s8 s9 s3 s4).rel⟩
    · have c1 : ¬ (k ≤ 100 ∧ m + k ≤ 9999) := fun q => c q.2
      have c2 : ¬ (1 ≤ k ∧ k ≤ 100 ∧ m + k ≤ 9999) := fun q => c q.2.2
      simp only [jnt, if_neg k1, if_neg c1, if_neg c2, Option.bind_some, if_true]
      exact fail
theorem eq_kept : Eq_kept Rel := by
  intro n I R J M a0 a1 hn hR
  obtain ⟨t, b, nh, no, nl, h⟩ := hR
  obtain ⟨nx, dp, f, tt, hh⟩ := h.2.2.2.2.2.2.2.2
  obtain ⟨p1, p2, p3, p4, p5, p6, p7, p8, p9, p10, p11, p12⟩ := hh
  obtain ⟨q, hq⟩ : ∃ q, q = tt dp := ⟨_, rfl⟩
  rw [← hq] at p8 p9 p11
  obtain ⟨m, hm⟩ : ∃ m, m = min 40 q := ⟨_, rfl⟩
  obtain ⟨p11a, p11b⟩ := p11
  rw [← hm] at p11a p11b
  have hc : f_X5_count I = some (nI m) := by
    unfold f_X5_count f_J9_min_7cf53
    by_cases c : q < 40
    · rw [show m = q by omega]
      simp (disch := omega) only [sdm, ↓zm1, ↓zm2, ↓zm3, ↓zm4, ↓zm5, ↓zm6, ↓zm7, ↓zm8, ↓zm9, ↓zm10, ↓zm11, ↓zm12, ↓zm13, ↓zm14, ↓zm15, ↓zm16, ↓zm17, ↓zm18, ↓zm19, ↓zm20, ↓zm1000000000, zq0, zq1, zq2, zq3, zq4, zq5, zq6, zq7, zq8, zq9, zq10, zq11, zq12, zq13, zq14, zq15, zq16, zq17, zq18, zq19, zq20, zq21, zq22, zq23, zq24, zq25, zq26, zq30, zq31, zq32, zq33, zq34, zq35, zq36, zq37, zq38, zq39, zq40, zq41, zq42, zq43, zq44, zq45, zq47, zq48, zq57, zq59, zq60, zq61, zq62, zq80, zq91, zq93, zq97, zq99, zq100, zq107, zq110, zq120, zq122, zq128, zq149, zq160, zq208, zq240, zq251, zq255, zq256, zq500, zq936, zq999, zq1600, zq1800, zq2048, zq3200, zq4160, zq9999, zq12345, zq1000000, zq1048576, zq100000000, bnd, jnt, zg_ok, gz_0, gz_1, gz_n0, gz_n1, zs_eq, zs_ne, zs_same, zs_other, zA_eq, zA_ne, Option.bind_some, Option.bind_none, nI_add, pk_mul, nI_clamp, nI_leI, nI_ltI, nI_eq, pk_sub, nI_mI, nI_eq_mI, mI_eq_nI, nI_lt_m, ldI_ok, inb_ok, if_pos, if_neg, dv_ok, rem_ok, div_ok, if_true, if_false, p8]
    · rw [show m = 40 by omega]
      by_cases c2 : q = 40
      · rw [c2] at p8
        simp (disch := omega) only [sdm, ↓zm1, ↓zm2, ↓zm3, ↓zm4, ↓zm5, ↓zm6, ↓zm7, ↓zm8, ↓zm9, ↓zm10, ↓zm11, ↓zm12, ↓zm13, ↓zm14, ↓zm15, ↓zm16, ↓zm17, ↓zm18, ↓zm19, ↓zm20, ↓zm1000000000, zq0, zq1, zq2, zq3, zq4, zq5, zq6, zq7, zq8, zq9, zq10, zq11, zq12, zq13, zq14, zq15, zq16, zq17, zq18, zq19, zq20, zq21, zq22, zq23, zq24, zq25, zq26, zq30, zq31, zq32, zq33, zq34, zq35, zq36, zq37, zq38, zq39, zq40, zq41, zq42, zq43, zq44, zq45, zq47, zq48, zq57, zq59, zq60, zq61, zq62, zq80, zq91, zq93, zq97, zq99, zq100, zq107, zq110, zq120, zq122, zq128, zq149, zq160, zq208, zq240, zq251, zq255, zq256, zq500, zq936, zq999, zq1600, zq1800, zq2048, zq3200, zq4160, zq9999, zq12345, zq1000000, zq1048576, zq100000000, bnd, jnt, zg_ok, gz_0, gz_1, gz_n0, gz_n1, zs_eq, zs_ne, zs_same, zs_other, zA_eq, zA_ne, Option.bind_some, Option.bind_none, nI_add, pk_mul, nI_clamp, nI_leI, nI_ltI, nI_eq, pk_sub, nI_mI, nI_eq_mI, mI_eq_nI, nI_lt_m, ldI_ok, inb_ok, if_pos, if_neg, dv_ok, rem_ok, div_ok, if_true, if_false, p8]
      · simp (disch := omega) only [sdm, ↓zm1, ↓zm2, ↓zm3, ↓zm4, ↓zm5, ↓zm6, ↓zm7, ↓zm8, ↓zm9, ↓zm10, ↓zm11, ↓zm12, ↓zm13, ↓zm14, ↓zm15, ↓zm16, ↓zm17, ↓zm18, ↓zm19, ↓zm20, ↓zm1000000000, zq0, zq1, zq2, zq3, zq4, zq5, zq6, zq7, zq8, zq9, zq10, zq11, zq12, zq13, zq14, zq15, zq16, zq17, zq18, zq19, zq20, zq21, zq22, zq23, zq24, zq25, zq26, zq30, zq31, zq32, zq33, zq34, zq35, zq36, zq37, zq38, zq39, zq40, zq41, zq42, zq43, zq44, zq45, zq47, zq48, zq57, zq59, zq60, zq61, zq62, zq80, zq91, zq93, zq97, zq99, zq100, zq107, zq110, zq120, zq122, zq128, zq149, zq160, zq208, zq240, zq251, zq255, zq256, zq500, zq936, zq999, zq1600, zq1800, zq2048, zq3200, zq4160, zq9999, zq12345, zq1000000, zq1048576, zq100000000, bnd, jnt, zg_ok, gz_0, gz_1, gz_n0, gz_n1, zs_eq, zs_ne, zs_same, zs_other, zA_eq, zA_ne, Option.bind_some, Option.bind_none, nI_add, pk_mul, nI_clamp, nI_leI, nI_ltI, nI_eq, pk_sub, nI_mI, nI_eq_mI, mI_eq_nI, nI_lt_m, ldI_ok, inb_ok, if_pos, if_neg, dv_ok, rem_ok, div_ok, if_true, if_false, p8]
  have hz : (nI m).toInt = m := nI_toInt (by omega)
  have hz1 : (nI m - 1).toInt = (m : Int) - 1 := by
    rw [Int32.toInt_sub, hz, zt1, Int.bmod_eq_of_le (by omega) (by omega)]
  have l0 : ∀ k : Int32 → Option Int32, ldI (J 132) 26 0 k = k (nI m) := fun k => by
    rw [zq0, ldI_ok (by decide), p11a]
  unfold f_X11_kept f_X12_kept f_X12_is
  rw [hc, l0]
  rcases x_cases a0 m (by omega) with c | c | ⟨j, hj, rfl⟩
  · refine ⟨-1, ?_, ?_, h.up.rel⟩ <;> simp (disch := omega) only [hz, hz1, Int32.le_iff_toInt_le, Int32.lt_iff_toInt_lt, ← Int32.toInt_inj, zt0, zt1, zt2, zt3, zt4, zt5, zt6, zt7, zt8, zt9, zt10, zt11, zt12, zt13, zt14, zt15, zt16, zt17, zt18, zt19, zt20, zt21, zt22, zt23, zt24, zt25, zt26, zt30, zt31, zt32, zt33, zt34, zt35, zt36, zt37, zt38, zt39, zt40, zt41, zt42, zt43, zt44, zt45, zt47, zt48, zt57, zt59, zt60, zt61, zt62, zt80, zt91, zt93, zt97, zt99, zt100, zt107, zt110, zt120, zt122, zt128, zt149, zt160, zt208, zt240, zt251, zt255, zt256, zt500, zt936, zt999, zt1600, zt1800, zt2048, zt3200, zt4160, zt9999, zt12345, zt1000000, zt1048576, zt100000000, zu1, zu2, zu3, zu4, zu5, zu6, zu7, zu8, zu9, zu10, zu11, zu12, zu13, zu14, zu15, zu16, zu17, zu18, zu19, zu20, zu1000000000, if_pos, if_neg, gz_0, gz_1, Option.bind_some, if_true, if_false]
  · refine ⟨-1, ?_, ?_, h.up.rel⟩ <;> simp (disch := omega) only [hz, hz1, Int32.le_iff_toInt_le, Int32.lt_iff_toInt_lt, ← Int32.toInt_inj, zt0, zt1, zt2, zt3, zt4, zt5, zt6, zt7, zt8, zt9, zt10, zt11, zt12, zt13, zt14, zt15, zt16, zt17, zt18, zt19, zt20, zt21, zt22, zt23, zt24, zt25, zt26, zt30, zt31, zt32, zt33, zt34, zt35, zt36, zt37, zt38, zt39, zt40, zt41, zt42, zt43, zt44, zt45, zt47, zt48, zt57, zt59, zt60, zt61, zt62, zt80, zt91, zt93, zt97, zt99, zt100, zt107, zt110, zt120, zt122, zt128, zt149, zt160, zt208, zt240, zt251, zt255, zt256, zt500, zt936, zt999, zt1600, zt1800, zt2048, zt3200, zt4160, zt9999, zt12345, zt1000000, zt1048576, zt100000000, zu1, zu2, zu3, zu4, zu5, zu6, zu7, zu8, zu9, zu10, zu11, zu12, zu13, zu14, zu15, zu16, zu17, zu18, zu19, zu20, zu1000000000, if_pos, if_neg, gz_0, gz_1, Option.bind_some, if_true, if_false]
  · have hjt : (nI j).toInt = j := nI_toInt (by omega)
    have n1 : ¬ nI j < 0 := nI_pos (by omega)
    have n2 : ¬ nI m ≤ nI j := nI_ge hj (by omega)
    have n4 : nI j ≤ nI m - 1 := by
      rw [Int32.le_iff_toInt_le, hz1, hjt]
      omega
    have n5 : ¬ nI m - 1 < nI j := Int32.not_lt.mpr n4
    have n3 : ¬ (1 : Int32) = 0 := by decide
    simp only [if_neg n1, if_neg n2, if_pos n4, if_neg n5, Option.bind_some, gz_1, if_neg n3]
    rcases x_cases a1 4 (by decide) with c | c | ⟨w, hw, rfl⟩
    · refine ⟨-1, ?_, ?_, h.up.rel⟩ <;> simp (disch := omega) only [Int32.le_iff_toInt_le, Int32.lt_iff_toInt_lt, ← Int32.toInt_inj, zt0, zt1, zt2, zt3, zt4, zt5, zt6, zt7, zt8, zt9, zt10, zt11, zt12, zt13, zt14, zt15, zt16, zt17, zt18, zt19, zt20, zt21, zt22, zt23, zt24, zt25, zt26, zt30, zt31, zt32, zt33, zt34, zt35, zt36, zt37, zt38, zt39, zt40, zt41, zt42, zt43, zt44, zt45, zt47, zt48, zt57, zt59, zt60, zt61, zt62, zt80, zt91, zt93, zt97, zt99, zt100, zt107, zt110, zt120, zt122, zt128, zt149, zt160, zt208, zt240, zt251, zt255, zt256, zt500, zt936, zt999, zt1600, zt1800, zt2048, zt3200, zt4160, zt9999, zt12345, zt1000000, zt1048576, zt100000000, zu1, zu2, zu3, zu4, zu5, zu6, zu7, zu8, zu9, zu10, zu11, zu12, zu13, zu14, zu15, zu16, zu17, zu18, zu19, zu20, zu1000000000, if_pos, if_neg, gz_0, gz_1, Option.bind_some, if_true, if_false]
    · refine ⟨-1, ?_, ?_, h.up.rel⟩ <;> simp (disch := omega) only [Int32.le_iff_toInt_le, Int32.lt_iff_toInt_lt, ← Int32.toInt_inj, zt0, zt1, zt2, zt3, zt4, zt5, zt6, zt7, zt8, zt9, zt10, zt11, zt12, zt13, zt14, zt15, zt16, zt17, zt18, zt19, zt20, zt21, zt22, zt23, zt24, zt25, zt26, zt30, zt31, zt32, zt33, zt34, zt35, zt36, zt37, zt38, zt39, zt40, zt41, zt42, zt43, zt44, zt45, zt47, zt48, zt57, zt59, zt60, zt61, zt62, zt80, zt91, zt93, zt97, zt99, zt100, zt107, zt110, zt120, zt122, zt128, zt149, zt160, zt208, zt240, zt251, zt255, zt256, zt500, zt936, zt999, zt1600, zt1800, zt2048, zt3200, zt4160, zt9999, zt12345, zt1000000, zt1048576, zt100000000, zu1, zu2, zu3, zu4, zu5, zu6, zu7, zu8, zu9, zu10, zu11, zu12, zu13, zu14, zu15, zu16, zu17, zu18, zu19, zu20, zu1000000000, if_pos, if_neg, gz_0, gz_1, Option.bind_some, if_true, if_false]
    · refine ⟨I 33 (4 * ((q - m + j) % 60) + w), ?_, ?_, h.up.rel⟩
      · unfold f_X5_tell
        rw [hc]
        have q60 : (60 : Int32) = nI 60 := rfl
        simp (disch := omega) only [sdm, ↓zm1, ↓zm2, ↓zm3, ↓zm4, ↓zm5, ↓zm6, ↓zm7, ↓zm8, ↓zm9, ↓zm10, ↓zm11, ↓zm12, ↓zm13, ↓zm14, ↓zm15, ↓zm16, ↓zm17, ↓zm18, ↓zm19, ↓zm20, ↓zm1000000000, zq0, zq1, zq2, zq3, zq4, zq5, zq6, zq7, zq8, zq9, zq10, zq11, zq12, zq13, zq14, zq15, zq16, zq17, zq18, zq19, zq20, zq21, zq22, zq23, zq24, zq25, zq26, zq30, zq31, zq32, zq33, zq34, zq35, zq36, zq37, zq38, zq39, zq40, zq41, zq42, zq43, zq44, zq45, zq47, zq48, zq57, zq59, zq60, zq61, zq62, zq80, zq91, zq93, zq97, zq99, zq100, zq107, zq110, zq120, zq122, zq128, zq149, zq160, zq208, zq240, zq251, zq255, zq256, zq500, zq936, zq999, zq1600, zq1800, zq2048, zq3200, zq4160, zq9999, zq12345, zq1000000, zq1048576, zq100000000, bnd, jnt, zg_ok, gz_0, gz_1, gz_n0, gz_n1, zs_eq, zs_ne, zs_same, zs_other, zA_eq, zA_ne, Option.bind_some, Option.bind_none, nI_add, pk_mul, nI_clamp, nI_leI, nI_ltI, nI_eq, pk_sub, nI_mI, nI_eq_mI, mI_eq_nI, nI_lt_m, ldI_ok, inb_ok, if_pos, if_neg, dv_ok, rem_ok, div_ok, if_true, if_false, p8, q60]
      · have := p11b j w hj hw
        rw [Nat.mul_zero, Nat.zero_add] at this
        rw [← this]
        simp (disch := omega) only [sdm, ↓zm1, ↓zm2, ↓zm3, ↓zm4, ↓zm5, ↓zm6, ↓zm7, ↓zm8, ↓zm9, ↓zm10, ↓zm11, ↓zm12, ↓zm13, ↓zm14, ↓zm15, ↓zm16, ↓zm17, ↓zm18, ↓zm19, ↓zm20, ↓zm1000000000, zq0, zq1, zq2, zq3, zq4, zq5, zq6, zq7, zq8, zq9, zq10, zq11, zq12, zq13, zq14, zq15, zq16, zq17, zq18, zq19, zq20, zq21, zq22, zq23, zq24, zq25, zq26, zq30, zq31, zq32, zq33, zq34, zq35, zq36, zq37, zq38, zq39, zq40, zq41, zq42, zq43, zq44, zq45, zq47, zq48, zq57, zq59, zq60, zq61, zq62, zq80, zq91, zq93, zq97, zq99, zq100, zq107, zq110, zq120, zq122, zq128, zq149, zq160, zq208, zq240, zq251, zq255, zq256, zq500, zq936, zq999, zq1600, zq1800, zq2048, zq3200, zq4160, zq9999, zq12345, zq1000000, zq1048576, zq100000000, bnd, jnt, zg_ok, gz_0, gz_1, gz_n0, gz_n1, zs_eq, zs_ne, zs_same, zs_other, zA_eq, zA_ne, Option.bind_some, Option.bind_none, nI_add, pk_mul, nI_clamp, nI_leI, nI_ltI, nI_eq, pk_sub, nI_mI, nI_eq_mI, mI_eq_nI, nI_lt_m, ldI_ok, inb_ok, if_pos, if_neg, dv_ok, rem_ok, div_ok, if_true, if_false]
theorem pop_C {I : HI} {nx dp : Nat} (h1 : I 9 2 = nI nx) (h2 : I 9 3 = nI (dp + 1)) (hnx : nx < 20) (hdp : dp < 20) : ∃ I', f_X1_pop I 49 = some (I 11 ((nx + 19) % 20), I') ∧ (∀ x, x ≠ 9 → x < 49 ∨ 54 ≤ x → I' x = I x) ∧ I' 9 2 = nI ((nx + 19) % 20) ∧ I' 9 3 = nI dp ∧ SE (rwv (I (12 + (nx + 19) % 20))) (sc I' 49) := by
  have t0 : (0 : Int32).toNatClampNeg = 0 := by decide
  have t1 : (1 : Int32).toNatClampNeg = 1 := by decide
  have t8 : (8 : Int32).toNatClampNeg = 8 := by decide
  have t9 : (9 : Int32).toNatClampNeg = 9 := by decide
  have t17 : (17 : Int32).toNatClampNeg = 17 := by decide
  have t25 : (25 : Int32).toNatClampNeg = 25 := by decide
  have t36 : (36 : Int32).toNatClampNeg = 36 := by decide
  obtain ⟨r, hr⟩ : ∃ r, r = (nx + 19) % 20 := ⟨_, rfl⟩
  have hr2 : r < 20 := by omega
  have hw : ∀ V : HI, ∃ K, f_X9_readFrom V 49 (12 + r) = some K ∧ (∀ x, x < 49 ∨ 54 ≤ x → K x = V x) ∧ SE (rwv (V (12 + r))) (sc K 49) := by
    intro V
    refine ⟨_, by unfold f_X9_readFrom; simp only [show (0 : Int32) = nI 0 from rfl, ldI_ok (show 0 < 61 ∧ 61 < 2 ^ 31 by decide), bnd]; rfl, ?_, ?_⟩
    · intro x hx
      simp (disch := omega) only [zA_ne, zs_ne]
    · simp only [t0, t1, t8, t9, t17, t25, t36, nI_0]
      refine ⟨?_, fun k hk => ⟨?_, ?_, ?_⟩, fun k hk => ?_⟩
      · simp (disch := omega) only [sc, rwv, Nat.reduceLT, if_true, Nat.add_zero, zA_ne, zA_eq, zs_eq, zs_ne, zs_same, pk_cpy_in, pk_cpy_out]
      · simp (disch := omega) only [sc, rwv, Nat.reduceLT, Nat.reduceEqDiff, if_true, if_false, zA_ne, zA_eq, zs_ne, pk_cpy_in, pk_cpy_out, Nat.sub_zero]
      · simp (disch := omega) only [sc, rwv, Nat.reduceLT, Nat.reduceEqDiff, if_true, if_false, zA_ne, zA_eq, zs_ne, pk_cpy_in, pk_cpy_out, Nat.sub_zero]
      · simp (disch := omega) only [sc, rwv, Nat.reduceLT, Nat.reduceEqDiff, if_true, if_false, zA_ne, zA_eq, zs_ne, pk_cpy_in, pk_cpy_out, Nat.sub_zero]
      · simp (disch := omega) only [sc, rwv, Nat.reduceLT, Nat.reduceEqDiff, if_true, if_false, zA_ne, zA_eq, zs_ne, pk_cpy_in, pk_cpy_out, Nat.sub_zero]
  obtain ⟨K, k1, k2, k3⟩ := hw (sI (sI I 9 2 (nI r)) 9 3 (nI dp))
  have e9 : K 9 2 = nI r := by rw [k2 9 (by omega)]; simp (disch := omega) only [bnd, jnt, zg_ok, gz_0, gz_1, gz_n0, gz_n1, zs_eq, zs_ne, zs_same, zs_other, zA_eq, zA_ne, Option.bind_some, Option.bind_none]
  have e11 : K 11 = I 11 := by rw [k2 11 (by omega)]; simp (disch := omega) only [bnd, jnt, zg_ok, gz_0, gz_1, gz_n0, gz_n1, zs_eq, zs_ne, zs_same, zs_other, zA_eq, zA_ne, Option.bind_some, Option.bind_none]
  rw [← hr]
  refine ⟨K, ?_, ?_, e9, ?_, ?_⟩
  · unfold f_X1_pop
    have er : nx + 20 - 1 = nx + 19 := by omega
    have ed : dp + 1 - 1 = dp := by omega
    simp (disch := omega) only [sdm, ↓zm1, ↓zm2, ↓zm3, ↓zm4, ↓zm5, ↓zm6, ↓zm7, ↓zm8, ↓zm9, ↓zm10, ↓zm11, ↓zm12, ↓zm13, ↓zm14, ↓zm15, ↓zm16, ↓zm17, ↓zm18, ↓zm19, ↓zm20, ↓zm1000000000, zq0, zq1, zq2, zq3, zq4, zq5, zq6, zq7, zq8, zq9, zq10, zq11, zq12, zq13, zq14, zq15, zq16, zq17, zq18, zq19, zq20, zq21, zq22, zq23, zq24, zq25, zq26, zq30, zq31, zq32, zq33, zq34, zq35, zq36, zq37, zq38, zq39, zq40, zq41, zq42, zq43, zq44, zq45, zq47, zq48, zq57, zq59, zq60, zq61, zq62, zq80, zq91, zq93, zq97, zq99, zq100, zq107, zq110, zq120, zq122, zq128, zq149, zq160, zq208, zq240, zq251, zq255, zq256, zq500, zq936, zq999, zq1600, zq1800, zq2048, zq3200, zq4160, zq9999, zq12345, zq1000000, zq1048576, zq100000000, bnd, jnt, zg_ok, gz_0, gz_1, gz_n0, gz_n1, zs_eq, zs_ne, zs_same, zs_other, zA_eq, zA_ne, Option.bind_some, Option.bind_none, nI_add, pk_mul, nI_clamp, nI_leI, nI_ltI, nI_eq, pk_sub, nI_mI, nI_eq_mI, mI_eq_nI, nI_lt_m, ldI_ok, inb_ok, if_pos, if_neg, dv_ok, rem_ok, div_ok, if_true, if_false, h1, h2, er, ed, ← hr, rowAt, k1, e9, e11]
  · intro x q1 q2
    rw [k2 x q2, zs_ne q1, zs_ne q1]
  · rw [k2 9 (by omega)]
    simp (disch := omega) only [bnd, jnt, zg_ok, gz_0, gz_1, gz_n0, gz_n1, zs_eq, zs_ne, zs_same, zs_other, zA_eq, zA_ne, Option.bind_some, Option.bind_none]
  · have : sI (sI I 9 2 (nI r)) 9 3 (nI dp) (12 + r) = I (12 + r) := by rw [zs_ne (by omega), zs_ne (by omega)]
    rw [this] at k3
    exact k3
theorem eq_undo : Eq_undo Rel := by
  intro n I R J M hn hR
  obtain ⟨t, b, nh, no, nl, h⟩ := hR
  have h' := h
  obtain ⟨g1, g2, g3, g4, g5, g6, g7, g8, ⟨nx, dp, f, tt, hh⟩⟩ := h'
  obtain ⟨p1, p2, p3, p4, p5, p6, p7, p8, p9, p10, p11, p12⟩ := hh
  have ht := g7.2.2.1.2.2.1
  have h9 := g7.2.2.1.2.2.2.2.2.2.2.2.2
  unfold f_X11_undo f_X12_undo
  by_cases c : dp = 0
  · have r1 : f_X11_refuse I 4 = _ := refuse_C (I := I) (k := 4) (by decide)
    have r2 : f_X12_refuses J 4 = _ := refuses_M (J := J) (k := 4) (by decide)
    have e1 : I 9 3 = 0 := by rw [p5, c]; rfl
    have e2 : J 100 54 = 0 := by rw [p7, c]; rfl
    have n1 : (-1 : Int32) < 0 := by decide
    refine ⟨0, _, _, ?_, ?_, (Rel_ref h.up (k := 4) (by decide)).rel⟩
    · simp only [if_pos e1, r1, Option.bind_some, gz_0]
    · simp only [if_pos e2, r2, Option.bind_some, if_pos n1, gz_0]
  · obtain ⟨d, rfl⟩ : ∃ d, dp = d + 1 := ⟨dp - 1, by omega⟩
    have e1 : ¬ I 9 3 = 0 := by rw [p5]; exact nI_ne0 (by omega) (by omega)
    have e2 : ¬ nI (d + 1) = 0 := nI_ne0 (by omega) (by omega)
    obtain ⟨I1, a1, a2, a3, a4, a5⟩ := pop_C p4 p5 p1 (by omega)
    obtain ⟨q1, q2, q3, q4⟩ := p12 d (by omega)
    have i1 : (nx + 20 - (d + 1) + d) % 20 = (nx + 19) % 20 := by omega
    rw [i1] at q1 q2 q3
    obtain ⟨to, hto⟩ : ∃ to, to = 6 + (f + d) % 20 := ⟨_, rfl⟩
    rw [← hto] at q2 q4
    have hto2 : 6 ≤ to ∧ to < 26 := by omega
    obtain ⟨J1, b1, b2⟩ := copies_M (J := sI J 100 54 (nI d)) (to := 0) (fr := to) FU_big.1 (by decide) (by omega) (by omega) (m := min 40 (tt d)) (by rw [zs_ne (by decide)]; exact q4.1) (by omega)
    have es : f_X12_slot (sI J 100 54 (nI d)) (nI d) = some (nI to) := by
      unfold f_X12_slot
      rw [zs_eq, zs_other (by decide), p6, hto]
      simp (disch := omega) only [sdm, ↓zm1, ↓zm2, ↓zm3, ↓zm4, ↓zm5, ↓zm6, ↓zm7, ↓zm8, ↓zm9, ↓zm10, ↓zm11, ↓zm12, ↓zm13, ↓zm14, ↓zm15, ↓zm16, ↓zm17, ↓zm18, ↓zm19, ↓zm20, ↓zm1000000000, zq0, zq1, zq2, zq3, zq4, zq5, zq6, zq7, zq8, zq9, zq10, zq11, zq12, zq13, zq14, zq15, zq16, zq17, zq18, zq19, zq20, zq21, zq22, zq23, zq24, zq25, zq26, zq30, zq31, zq32, zq33, zq34, zq35, zq36, zq37, zq38, zq39, zq40, zq41, zq42, zq43, zq44, zq45, zq47, zq48, zq57, zq59, zq60, zq61, zq62, zq80, zq91, zq93, zq97, zq99, zq100, zq107, zq110, zq120, zq122, zq128, zq149, zq160, zq208, zq240, zq251, zq255, zq256, zq500, zq936, zq999, zq1600, zq1800, zq2048, zq3200, zq4160, zq9999, zq12345, zq1000000, zq1048576, zq100000000, bnd, jnt, zg_ok, gz_0, gz_1, gz_n0, gz_n1, zs_eq, zs_ne, zs_same, zs_other, zA_eq, zA_ne, Option.bind_some, Option.bind_none, nI_add, pk_mul, nI_clamp, nI_leI, nI_ltI, nI_eq, pk_sub, nI_mI, nI_eq_mI, mI_eq_nI, nI_lt_m, ldI_ok, inb_ok, if_pos, if_neg, dv_ok, rem_ok, div_ok, if_true, if_false]
    have e54 : nI (d + 1) - 1 = nI d := nI_pred d
    have s54 : sI J 100 54 (nI d) 100 54 = nI d := by rw [zs_eq, zs_same]
    have b1' : f_X12_copies FU (sI J 100 54 (nI d)) 0 (nI to) = some J1 := b1
    have hL := b2.lvE
    obtain ⟨c0, c1, c2, c3, c4, c5, c6, c7⟩ := b2
    rw [zs_ne (by decide)] at c1 c2 c3 c4 c5 c6 c7
    have lvV : lv (sI J 100 54 (nI d)) to = lv J to := by
      funext a k
      unfold lv
      rw [zs_ne (by decide), zs_ne (by decide), zs_ne (by decide), zs_ne (by decide), zs_ne (by decide)]
    rw [lvV] at hL
    have hSE : SEp nl (sc (sI I1 32 1 (I 11 ((nx + 19) % 20))) 49) (lv J1 0) := by
      have : sc (sI I1 32 1 (I 11 ((nx + 19) % 20))) 49 = sc I1 49 := sc_congr (fun a ha => zs_ne (by omega))
      rw [this]
      exact SEp.lr a5.symm q2 hL
    obtain ⟨I2, hI2⟩ : ∃ I2, I2 = sI I1 32 1 (I 11 ((nx + 19) % 20)) := ⟨_, rfl⟩
    rw [← hI2] at hSE
    have hI : ∀ x, x ≠ 9 → x ≠ 32 → x < 49 ∨ 54 ≤ x → I2 x = I x := fun x q1 q2 q3 => by rw [hI2, zs_ne q2]; exact a2 x q1 q3
    have hJ : ∀ x, x ≠ 100 → x < 127 ∨ 134 ≤ x → J1 x = J x := fun x q1 q2 => by rw [c0 x q2, zs_ne q1]
    have hJ1 : ∀ k, k ≠ 54 → J1 100 k = J 100 k := fun k hk => by rw [c0 100 (by decide), zs_eq, zs_other hk]
    have ev : vw I2 t = vw I t := vw_congr (fun a ha => hI _ (by omega) (by omega) (by omega))
    refine ⟨1, I2, J1, ?_, ?_, ⟨t, b, nh, no, nl, RTp_c g1 (by rw [hI 1 (by decide) (by decide) (by decide)]) (hI 2 (by decide) (by decide) (by decide)) (hJ1 1 (by decide)) (hJ 101 (by decide) (by decide)), RFl_c g2 (by rw [hI 1 (by decide) (by decide) (by decide)]) (by rw [hI 1 (by decide) (by decide) (by decide)]) (hJ1 10 (by decide)) (hJ1 11 (by decide)), RRf_c g3 (hI 5 (by decide) (by decide) (by decide)) (hJ 126 (by decide) (by decide)), RLt_c g4 (by rw [hI 1 (by decide) (by decide) (by decide)]) rfl, RSt_c g5 (by rw [hI 1 (by decide) (by decide) (by decide)]) (hJ1 66 (by decide)) (hI 3 (by decide) (by decide) (by decide)) (hI 4 (by decide) (by decide) (by decide)) (hJ 144 (by decide) (by decide)) (hJ 145 (by decide) (by decide)), RIm_c g6 (by rw [hI 47 (by decide) (by decide) (by decide)]) (hJ1 70 (by decide)) (hI 48 (by decide) (by decide) (by decide)) (hJ 146 (by decide) (by decide)), RLd_c g7 (fun x q1 q2 => hI x (by omega) (by omega) (by omega)) ⟨rfl, rfl, rfl⟩ (hJ1 13 (by decide)) (fun x q1 q2 => hJ x (by omega) (by omega)) ⟨rfl, rfl, rfl⟩, ⟨hSE, ?_⟩, ?_⟩⟩
    · simp only [if_neg e1, a1, Option.bind_some, bnd, gz_1, ← hI2]
    · simp only [p7, if_neg e2, e54, bnd, s54, es, Option.bind_some, b1', gz_1]
    · rw [ev]
      have : sc I2 49 = sc I1 49 := by rw [hI2]; exact sc_congr (fun a ha => zs_ne (by omega))
      rw [this]
      exact q3.se h9 a5
    · refine ⟨(nx + 19) % 20, d, f, tt, by omega, by omega, p3, ?_, ?_, ?_, ?_, ?_, ?_, ?_, ?_, ?_⟩
      · rw [hI2, zs_ne (by decide)]; exact a3
      · rw [hI2, zs_ne (by decide)]; exact a4
      · rw [hJ1 53 (by decide)]; exact p6
      · rw [c0 100 (by decide), zs_eq, zs_same]
      · rw [hI2, zs_eq, zs_same]; exact q1
      · have := p10 d (d + 1) (by omega) (by omega)
        omega
      · intro j k h1 h2
        exact p10 j k h1 (by omega)
      · refine ⟨by rw [c6, zs_same]; exact q4.1, fun j c hj hc => ?_⟩
        rw [Nat.mul_zero, Nat.zero_add, hI 33 (by decide) (by decide) (by decide), c7]
        have := cpy_in (f := J 133) (s := 160 * to) (d := 160 * 0) (i := 4 * min 40 (tt d)) (k := 4 * j + c) (by omega)
        rw [Nat.mul_zero, Nat.zero_add] at this
        rw [Nat.mul_zero, this]
        exact q4.2 j c hj hc
      · intro k hk
        obtain ⟨z1, z2, z3, z4⟩ := p12 k (by omega)
        have i2 : ((nx + 19) % 20 + 20 - d + k) % 20 = (nx + 20 - (d + 1) + k) % 20 := by omega
        rw [i2, ev, hI 11 (by decide) (by decide) (by decide), hI (12 + (nx + 20 - (d + 1) + k) % 20) (by omega) (by omega) (by omega)]
        refine ⟨z1, SE_lv z2 ?_ (fun j h1 h2 => ⟨?_, ?_, ?_⟩) (fun j h1 h2 => ?_), z3, PR_congr z4 ?_ (fun j h1 h2 => ?_) (fun j _ => by rw [hI 33 (by decide) (by decide) (by decide)])⟩
        · rw [c1, zs_other (by omega)]
        · rw [c2, cpy_out (by omega)]
        · rw [c3, cpy_out (by omega)]
        · rw [c4, cpy_out (by omega)]
        · rw [c5, cpy_out (by omega)]
        · rw [c6, zs_other (by omega)]
        · rw [c7, cpy_out (by omega)]
