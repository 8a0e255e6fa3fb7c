theorem heirOf_C {K : HI} {fu c l kk : Nat} {m e : Nat → Nat} (hf : 8 < fu) (hc : c ≤ 8) (h1 : K 34 2 = nI c) (h2 : ∀ k, k < c → K 35 k = nI (m k)) (hm8 : ∀ k, k < c → m k < 8) (h3 : ∀ k, k < c → K 41 k = nI (e k)) (hi : inc m c) (hk : kk < c) (hl : m kk = l) : f_X0_heirOf fu K (nI l) = some (nI (e kk)) := by
  have key : ∀ q i n, i + q = kk → q < n → f_X0_heirOf_L2 n K (nI l) (nI i) = some (.inl (nI (e kk))) := by
    intro q
    induction q with
    | zero =>
      intro i n e1 e2
      obtain ⟨n, rfl⟩ : ∃ z, n = z + 1 := ⟨n - 1, by omega⟩
      have ei : i = kk := by omega
      subst ei
      have c1 : ¬ nI c ≤ nI i := nI_ge hk (by omega)
      have e35 : K 35 i = nI l := by rw [h2 i hk, hl]
      have e41 := h3 i hk
      simp (disch := omega) only [f_X0_heirOf_L2, h1, if_neg c1, ldI_ok, e35, if_true, e41]
    | succ q ih =>
      intro i n e1 e2
      obtain ⟨n, rfl⟩ : ∃ z, n = z + 1 := ⟨n - 1, by omega⟩
      have c1 : ¬ nI c ≤ nI i := nI_ge (by omega) (by omega)
      have hlt := hi i kk (by omega) hk
      have h8 := hm8 kk hk
      have e35 := h2 i (by omega)
      have c2 : ¬ nI (m i) = nI l := fun w => by
        have := (nI_eq (by omega) (by omega)).mp w
        omega
      have A1 : nI i + 1 = nI (i + 1) := nI_1 i
      rw [← ih (i + 1) n (by omega) (by omega)]
      simp (disch := omega) only [f_X0_heirOf_L2, h1, if_neg c1, ldI_ok, e35, if_neg c2, A1]
  unfold f_X0_heirOf
  rw [show (0 : Int32) = nI 0 from rfl, key kk 0 fu (by omega) (by omega)]
  rfl
theorem vl_0 {h : Nat} : ∀ c, vl h (fun _ => 0) c = 0 := by
  intro c
  induction c with
  | zero => rfl
  | succ c ih =>
    show vl h (fun _ => 0) c * h + 0 = 0
    rw [ih, Nat.zero_mul]
theorem eq_share : Eq_share Rel := by
  intro n I R J M a0 a1 a2 hn hR
  obtain ⟨t, b, nh, no, nl, h⟩ := hR
  obtain ⟨hC, hL, hM, hE, hS, hB, hB', h1⟩ := h.get
  have h8 := hC.2.2.2.2.2.2.2.2.1
  have h9 := hC.2.2.2.2.2.2.2.2.2
  have ht := hC.2.2.1
  have hfu := FU_big.1
  have hfu9 : 10000 < FU := by unfold FU; omega
  have n3 : ¬ (1 : Int32) = 0 := by decide
  unfold f_X11_share f_X12_share f_X12_is
  rw [isOwner_C hC, isOwner_M hM]
  rcases own_cases (x := a0) (no := no) (by omega) with c | ⟨p, hp, rfl, c⟩
  · refine ⟨-1, I, J, M, ?_, ?_, h.up.rel⟩ <;> simp only [if_neg c, Option.bind_some, if_true]
  simp only [if_pos c, Option.bind_some, if_neg n3]
  rcases x_cases a1 4 (by decide) with d | d | ⟨w, hw, rfl⟩
  · refine ⟨-1, I, J, M, ?_, ?_, h.up.rel⟩ <;> simp (disch := omega) only [Int32.le_iff_toInt_le, Int32.lt_iff_toInt_lt, ← Int32.toInt_inj, zt0, zt1, zt2, zt3, zt4, zt5, zt6, zt7, zt8, zt9, zt10, zt11, zt12, zt13, zt14, zt15, zt16, zt17, zt18, zt19, zt20, zt21, zt22, zt23, zt24, zt25, zt26, zt30, zt31, zt32, zt33, zt34, zt35, zt36, zt37, zt38, zt39, zt40, zt41, zt42, zt43, zt44, zt45, zt47, zt48, zt57, zt59, zt60, zt61, zt62, zt80, zt91, zt93, zt97, zt99, zt100, zt107, zt110, zt120, zt122, zt128, zt149, zt160, zt208, zt240, zt251, zt255, zt256, zt500, zt936, zt999, zt1600, zt1800, zt2048, zt3200, zt4160, zt9999, zt12345, zt1000000, zt1048576, zt100000000, zu1, zu2, zu3, zu4, zu5, zu6, zu7, zu8, zu9, zu10, zu11, zu12, zu13, zu14, zu15, zu16, zu17, zu18, zu19, zu20, zu1000000000, if_pos, if_neg, gz_0, gz_1, Option.bind_some, if_true, if_false]
  · refine ⟨-1, I, J, M, ?_, ?_, h.up.rel⟩ <;> simp (disch := omega) only [Int32.le_iff_toInt_le, Int32.lt_iff_toInt_lt, ← Int32.toInt_inj, zt0, zt1, zt2, zt3, zt4, zt5, zt6, zt7, zt8, zt9, zt10, zt11, zt12, zt13, zt14, zt15, zt16, zt17, zt18, zt19, zt20, zt21, zt22, zt23, zt24, zt25, zt26, zt30, zt31, zt32, zt33, zt34, zt35, zt36, zt37, zt38, zt39, zt40, zt41, zt42, zt43, zt44, zt45, zt47, zt48, zt57, zt59, zt60, zt61, zt62, zt80, zt91, zt93, zt97, zt99, zt100, zt107, zt110, zt120, zt122, zt128, zt149, zt160, zt208, zt240, zt251, zt255, zt256, zt500, zt936, zt999, zt1600, zt1800, zt2048, zt3200, zt4160, zt9999, zt12345, zt1000000, zt1048576, zt100000000, zu1, zu2, zu3, zu4, zu5, zu6, zu7, zu8, zu9, zu10, zu11, zu12, zu13, zu14, zu15, zu16, zu17, zu18, zu19, zu20, zu1000000000, if_pos, if_neg, gz_0, gz_1, Option.bind_some, if_true, if_false]
  by_cases cw : w < 2
  · have k3 : nI w < 2 := nI_lt (b := 2) cw (by decide)
    refine ⟨-1, I, J, M, ?_, ?_, h.up.rel⟩ <;> simp only [if_pos k3, gz_0, Option.bind_some, if_true]
  have hh : w = 2 ∨ w = 3 := by omega
  have k3 : ¬ nI w < 2 := nI_nlt (b := 2) (by omega) (by omega)
  have k4 : nI w ≤ 3 := nI_le (b := 3) (by omega) (by decide)
  have k5 : ¬ 3 < nI w := Int32.not_lt.mpr k4
  simp only [if_neg k3, if_pos k4, if_neg k5, gz_1, Option.bind_some, if_neg n3, jnt]
  obtain ⟨Bo, b1, b2, b3, b4⟩ := lakesOf_R (fu := FU) h FU_big.2 (nI p)
  obtain ⟨P, hP⟩ : ∃ P, P = pO (sc I 49) (nI p) := ⟨_, rfl⟩
  obtain ⟨cc, hcc⟩ : ∃ cc, cc = cnt P nl := ⟨_, rfl⟩
  have hcc8 : cc ≤ 8 := by rw [hcc]; exact Nat.le_trans (cnt_le nl) h9
  obtain ⟨m, hm⟩ : ∃ m : Nat → Nat, m = fun k => nth P k nl := ⟨_, rfl⟩
  obtain ⟨wo, hwo⟩ : ∃ wo : Nat → Nat, wo = woN (vw I t) (sc I 49) nl := ⟨_, rfl⟩
  obtain ⟨v, hv⟩ : ∃ v : Nat → Nat, v = fun k => wo (nth P k nl) := ⟨_, rfl⟩
  have hm1 : ∀ k, k < cc → m k < nl := fun k hk => by
    rw [hm]
    exact (nth_2 (p := P) (k := k) nl (by rw [← hcc]; exact hk)).1
  have hinc : inc m cc := fun j k hj hk => by
    rw [hm]
    exact nth_lt hj (by rw [← hcc]; exact hk)
  have hwo9 : ∀ l, l < nl → wo l ≤ 9999 := fun l hl => by
    rw [hwo]
    unfold woN
    split
    · omega
    · split
      · exact clN_le
      · obtain ⟨y, hy, ey⟩ := hB.1 l (by omega)
        rw [ey, nI_clamp (by omega)]
        omega
  have hv9 : ∀ k, k < cc → v k ≤ 9999 := fun k hk => by
    rw [hv]
    have := hm1 k hk
    rw [hm] at this
    exact hwo9 _ this
  have hb : ∀ l, l < nl → (Bo.testBit l = true ↔ P l = true) := fun l hl => by
    rw [b2, btN_bit, decide_eq_true hl, Bool.true_and, hP]
    exact Iff.rfl
  obtain ⟨g, e, K, q1, q2, q3, q4, q5, q6, q7⟩ := fairest_C (fu := FU) (h := w) (c := cc) (m := m) (v := v) (x := nI p) hC hL hB hfu hh (by rw [hcc, hP]) (by rw [hm, hP]) (by rw [hv, hm, hwo]) hv9
  obtain ⟨J1, M1, w1, w2, w3, w4⟩ := worths_M (fu := FU) (M := M) (h := w) (his := Bo) (P := P) (wo := woN (vw I t) (lv J 0) nl) hM hL hB' hfu hh b1 hb rfl
  rw [← hcc] at w1
  have w5 : ∀ l, l < nl → J1 143 l = nI (wo l) := fun l hl => by rw [w4 l hl, hwo, hE.woE h9 hl]
  have hM1 : ML J1 b nh no nl (vw I t) := ML_congr (by rw [w2 100 (by decide) (by decide)]) (fun x x1 x2 => w2 x (by omega) (by omega)) hM
  have hpos : 0 < w ^ cc := Nat.pow_pos (by omega)
  have hp9 := pow9 (k := cc) hh hcc8
  have hz : okD w cc (fun _ => 0) := fun k hk => by show 0 < w; omega
  have hgz : gap w v (fun _ => 0) cc ≤ 79992 := gpN_le (fun j => shr_le hcc8 hv9)
  have hB1 : Bst w cc v 1 (gap w v (fun _ => 0) cc) (fun _ => 0) := by
    have := Bst_put (h := w) (c := cc) (v := v) (N := 0) (g := 1048576) (e := fun _ => 0) (d := fun _ => 0) ⟨fun d _ z => absurd z (by omega), Or.inl ⟨rfl, rfl⟩⟩ hz (vl_0 cc) (by omega)
    rw [if_pos (by omega)] at this
    exact this
  obtain ⟨e', J2, y1, y2, y3, y4⟩ := ways_M (J := J1) (fu := FU) (h := w) (c := cc) (his := Bo) (P := P) (wo := wo) (v := v) hM1 hfu hh b1 hb hcc hv w5 hv9 (w ^ cc - 1) 1 FU J1 (fun _ => 0) (by omega) (by omega) (fun _ _ => rfl) hz hB1
  rw [vl_0] at y1
  have y1' : f_X12_share_L122 FU FU J1 (nI w) (nI Bo) (nI (w ^ cc)) 0 1 = some (nI (vl w e' cc), J2) := y1
  obtain ⟨u1, u2, u3⟩ := Bst_uniq q4 y4 hpos
  obtain ⟨J3, t1, t2⟩ := apart_M (J := J1) (fu := FU) (h := w) (c := cc) (his := Bo) (P := P) (wo := wo) (v := v) hM1 FU_big.2 hh b1 hb hcc hv w5 hv9 y3 y2
  have sm : ∀ X : HI, (∀ x, x ≠ 142 → X x = J1 x) → SM J X := fun X hX => by
    have hJ2 : ∀ x, x ≠ 135 → x ≠ 142 → x ≠ 143 → X x = J x := fun x x1 x2 x3 => (hX x x2).trans (w2 x x1 x3)
    refine ⟨fun k hk => by rw [hJ2 100 (by decide) (by decide) (by decide)], fun x hx => hJ2 x (by omega) (by omega) (by omega), fun v hv => ?_, fun k hk => ?_, fun k hk => by rw [hJ2 131 (by decide) (by decide) (by decide)], fun k hk => by rw [hJ2 133 (by decide) (by decide) (by decide)]⟩
    · rw [hJ2 127 (by decide) (by decide) (by decide), hJ2 132 (by decide) (by decide) (by decide)]; exact ⟨rfl, rfl⟩
    · rw [hJ2 128 (by decide) (by decide) (by decide), hJ2 129 (by decide) (by decide) (by decide), hJ2 130 (by decide) (by decide) (by decide)]; exact ⟨rfl, rfl, rfl⟩
  have hsx : SX t I K := fun x hx => q2 x (by omega) (by omega)
  by_cases ca : a2 = -1
  · refine ⟨nI g, K, J3, M1, ?_, ?_, (Rel_same h (n' := n + 6) (by omega) hsx SR.refl (sm J3 t2) w3.SL).rel⟩
    · simp only [if_pos ca, q1, Option.bind_some]
    · simp only [if_pos ca, b4, Option.bind_some, w1, y1', t1, u1]
  · simp only [if_neg ca]
    rw [isLake_M hM]
    rcases own_cases (x := a2) (no := nl) h9 with c5 | ⟨l, hl, rfl, c5⟩
    · have c6 : ¬ ((0 ≤ a2 ∧ a2 < nI nl) ∧ ¬ I (49 + 1) a2.toNatClampNeg ≤ 0) := fun z => c5 z.1
      rw [stands_C hC]
      refine ⟨-1, I, J, M, ?_, ?_, h.up.rel⟩
      · simp only [if_neg c6, Option.bind_some, if_true]
      · simp only [if_neg c5, Option.bind_some, if_true]
    · rw [stands_Cn hC hl]
      simp only [if_pos c5, Option.bind_some, if_neg n3]
      have hhb := has2_ok (x := Bo) (i := l) (by omega) (by omega)
      obtain ⟨x, x1, x2, x3, x4⟩ := hS.2.1 l (by omega)
      have e50 : I (49 + 1) l = nI x := x2
      have l52 : ∀ k : Int32 → Option (Int32 × HI), ldI (I 52) 8 (nI l) k = k (sc I 49 3 l) := fun k => by
        rw [ldI_ok (by omega)]
        rfl
      by_cases cx : x = 0
      · have c6 : I (49 + 1) l ≤ 0 := by rw [e50, cx]; decide
        have hno : ¬ Bo.testBit l = true := fun z => by
          have z1 := (hb l hl).mp z
          rw [hP] at z1
          have z2 : sc I 49 3 l = nI p := decide_eq_true_iff.mp z1
          rw [(x3 cx).2] at z2
          exact (mI_eq_nI (by omega) (by decide)).mp z2
        rw [if_neg hno] at hhb
        refine ⟨-1, I, J, M, ?_, ?_, h.up.rel⟩
        · simp only [if_pos c6, Option.bind_some, if_true]
        · simp only [b4, hhb, Option.bind_some, if_true]
      · have c6 : ¬ I (49 + 1) l ≤ 0 := by rw [e50]; exact nI_nle (by omega) (by omega)
        by_cases cb : P l = true
        · have cb' : sc I 49 3 l = nI p := by
            rw [hP] at cb
            exact decide_eq_true_iff.mp cb
          rw [if_pos ((hb l hl).mpr cb)] at hhb
          have hkk : cnt P l < cc := by
            have := cnt_mono (p := P) (show l + 1 ≤ nl by omega)
            rw [cnt_t cb, ← hcc] at this
            omega
          have hml : m (cnt P l) = l := by
            rw [hm]
            exact nth_1 hl cb
          have hhe := heirOf_C (K := K) (fu := FU) (c := cc) (l := l) (kk := cnt P l) (m := m) (e := e) FU_big.2 hcc8 q5 q6 (fun k hk => by have := hm1 k hk; omega) q7 hinc hkk hml
          have hhr := heir_M (nl := nl) (h := w) (c := cc) (his := Bo) (P := P) h9 hh b1 hb hcc y3 cb (nl - (l + 1)) nl FU (by omega) (Nat.le_refl _) (by omega)
          rw [← hcc] at hhr
          have e0 : J2 100 13 = nI b := by rw [y2 100 (by decide), w2 100 (by decide) (by decide)]; exact hM.1.1
          have e6 : J2 106 b = nI nl := by rw [y2 106 (by decide), w2 106 (by decide) (by decide)]; exact hM.2.2.2.1
          have hb2 := hM.1.2
          have hvl := vl9 hh (show cnt P l + 1 ≤ 8 by omega) (y3.le (show cnt P l + 1 ≤ cc by omega))
          have evl : vl w e' (cnt P l + 1) = vl w e' (cnt P l) * w + e' (cnt P l) := rfl
          have g1 := (dg_mod (a := vl w e' (cnt P l)) hh (y3 (cnt P l) hkk)).1
          rw [← evl] at g1
          have dv : ∀ kk : Option (Int32 × HI × HL), dvI (nI w) kk = kk := fun kk => dv_ok ⟨by omega, by omega⟩
          have er : nI (vl w e' (cnt P l + 1)) - nI (vl w e' (cnt P l + 1)) / nI w * nI w = nI (e (cnt P l)) := by rw [rem_ok ⟨by omega, by omega, by omega⟩, g1, u3 _ hkk]
          have l106 : ∀ k : Int32 → Option (Int32 × HI × HL), ldI (J2 106) 2 (nI b) k = k (nI nl) := fun k => by rw [ldI_ok (by omega), e6]
          refine ⟨nI (e (cnt P l)), K, J2, M1, ?_, ?_, (Rel_same h (n' := n + 6) (by omega) hsx SR.refl (sm J2 y2) w3.SL).rel⟩
          · simp only [if_neg c6, Option.bind_some, if_neg n3, l52, if_pos cb', q1, hhe]
          · simp only [b4, hhb, Option.bind_some, if_neg n3, w1, y1', e0, l106, bnd, sub1, hhr, dv, er]
        · have cb' : ¬ sc I 49 3 l = nI p := fun z => cb (by rw [hP]; exact decide_eq_true_iff.mpr z)
          rw [if_neg (fun z => cb ((hb l hl).mp z))] at hhb
          refine ⟨-1, I, J, M, ?_, ?_, h.up.rel⟩
          · simp only [if_neg c6, Option.bind_some, if_neg n3, l52, if_neg cb']
          · simp only [b4, hhb, Option.bind_some, if_true]
