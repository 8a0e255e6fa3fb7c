theorem eq_pack : Eq_pack Rel := by
  intro n I R J M a0 a1 hn hR
  obtain ⟨t, b, nh, no, nl, h⟩ := hR
  obtain ⟨hC, hL, hM, hE, hS, hB, hB', h1⟩ := h.get
  have h7 := hC.2.2.2.2.2.2.2.1
  have h8 := hC.2.2.2.2.2.2.2.2.1
  have h9 := hC.2.2.2.2.2.2.2.2.2
  have ht := hC.2.2.1
  have hfu := FU_big.1
  have n3 : ¬ (1 : Int32) = 0 := by decide
  have hSW : SW (vw I t) (sc I 49) nh no nl := h.2.2.2.2.2.2.2.1.2
  unfold f_X11_pack f_X12_pack f_X12_is
  rw [isOwner_C hC, isOwner_M hM]
  rcases own_cases (x := a0) (no := no) (by omega) with c | ⟨p, hp, rfl, c⟩
  · refine ⟨-1, I, J, ?_, ?_, h.up.rel⟩ <;> simp only [if_neg c, Option.bind_some, if_true]
  simp only [if_pos c, Option.bind_some, if_neg n3]
  rcases x_cases a1 2 (by decide) with d | d | ⟨w, hw, rfl⟩
  · refine ⟨-1, I, J, ?_, ?_, h.up.rel⟩ <;> simp (disch := omega) only [Int32.le_iff_toInt_le, Int32.lt_iff_toInt_lt, ← Int32.toInt_inj, zt0, zt1, zt2, zt3, zt4, zt5, zt6, zt7, zt8, zt9, zt10, zt11, zt12, zt13, zt14, zt15, zt16, zt17, zt18, zt19, zt20, zt21, zt22, zt23, zt24, zt25, zt26, zt30, zt31, zt32, zt33, zt34, zt35, zt36, zt37, zt38, zt39, zt40, zt41, zt42, zt43, zt44, zt45, zt47, zt48, zt57, zt59, zt60, zt61, zt62, zt80, zt91, zt93, zt97, zt99, zt100, zt107, zt110, zt120, zt122, zt128, zt149, zt160, zt208, zt240, zt251, zt255, zt256, zt500, zt936, zt999, zt1600, zt1800, zt2048, zt3200, zt4160, zt9999, zt12345, zt1000000, zt1048576, zt100000000, zu1, zu2, zu3, zu4, zu5, zu6, zu7, zu8, zu9, zu10, zu11, zu12, zu13, zu14, zu15, zu16, zu17, zu18, zu19, zu20, zu1000000000, if_pos, if_neg, gz_0, gz_1, Option.bind_some, if_true, if_false]
  · refine ⟨-1, I, J, ?_, ?_, h.up.rel⟩ <;> simp (disch := omega) only [Int32.le_iff_toInt_le, Int32.lt_iff_toInt_lt, ← Int32.toInt_inj, zt0, zt1, zt2, zt3, zt4, zt5, zt6, zt7, zt8, zt9, zt10, zt11, zt12, zt13, zt14, zt15, zt16, zt17, zt18, zt19, zt20, zt21, zt22, zt23, zt24, zt25, zt26, zt30, zt31, zt32, zt33, zt34, zt35, zt36, zt37, zt38, zt39, zt40, zt41, zt42, zt43, zt44, zt45, zt47, zt48, zt57, zt59, zt60, zt61, zt62, zt80, zt91, zt93, zt97, zt99, zt100, zt107, zt110, zt120, zt122, zt128, zt149, zt160, zt208, zt240, zt251, zt255, zt256, zt500, zt936, zt999, zt1600, zt1800, zt2048, zt3200, zt4160, zt9999, zt12345, zt1000000, zt1048576, zt100000000, zu1, zu2, zu3, zu4, zu5, zu6, zu7, zu8, zu9, zu10, zu11, zu12, zu13, zu14, zu15, zu16, zu17, zu18, zu19, zu20, zu1000000000, if_pos, if_neg, gz_0, gz_1, Option.bind_some, if_true, if_false]
  have k3 : ¬ nI w < 0 := nI_pos (by omega)
  have k4 : nI w ≤ 1 := nI_le (b := 1) (by omega) (by decide)
  have k5 : ¬ 1 < nI w := Int32.not_lt.mpr k4
  simp only [if_neg k3, if_pos k4, if_neg k5, gz_1, Option.bind_some, if_neg n3, jnt]
  obtain ⟨Bo, b1, b2, b3, b4⟩ := lakesOf_R (fu := FU) h FU_big.2 (nI p)
  obtain ⟨P, hP⟩ : ∃ P, P = pO (sc I 49) (nI p) := ⟨_, rfl⟩
  obtain ⟨cc, hcc⟩ : ∃ cc, cc = cnt P nl := ⟨_, rfl⟩
  have hcc8 : cc ≤ 8 := by rw [hcc]; exact Nat.le_trans (cnt_le nl) h9
  obtain ⟨m, hm⟩ : ∃ m : Nat → Nat, m = fun k => nth P k nl := ⟨_, rfl⟩
  obtain ⟨v, hv⟩ : ∃ v : Nat → Nat, v = fun k => (sc I 49 1 (m k)).toNatClampNeg := ⟨_, rfl⟩
  have hm1 : ∀ k, k < cc → m k < nl := fun k hk => by
    rw [hm]
    exact (nth_2 (p := P) (k := k) nl (by rw [← hcc]; exact hk)).1
  have hinc : inc m cc := fun j k hj hk => by
    rw [hm]
    exact nth_lt hj (by rw [← hcc]; exact hk)
  have hBo : exM m (2 ^ cc - 1) cc = Bo := by
    have := exM_top (p := P) (nl := nl)
    rw [← hcc, ← hm] at this
    rw [this, b2, hP]
    rfl
  have hp8 : 2 ^ cc ≤ 2 ^ 8 := Nat.pow_le_pow_right (by decide) hcc8
  have hpos : 0 < 2 ^ cc := Nat.pow_pos (by decide)
  obtain ⟨rm0, hrm⟩ : ∃ rm0 : Nat → Nat, ∀ h, h < nh → rmI (vw I t) (sc I 49) h nl = nI (rm0 h) ∧ rm0 h ≤ 999 := ⟨fun h => (rmI (vw I t) (sc I 49) h nl).toNatClampNeg, fun h hh => by
    obtain ⟨x, x1, x2⟩ := hSW.2.2.2 h hh
    show rmI (vw I t) (sc I 49) h nl = nI (rmI (vw I t) (sc I 49) h nl).toNatClampNeg ∧ (rmI (vw I t) (sc I 49) h nl).toNatClampNeg ≤ 999
    rw [x2, nI_clamp (by omega)]
    exact ⟨rfl, x1⟩⟩
  obtain ⟨F, hF⟩ : ∃ F : Nat → Nat, F = WS (fun l => (sc I 49 1 l).toNatClampNeg) nl := ⟨_, rfl⟩
  obtain ⟨r, hr⟩ : ∃ r : Nat → Nat, r = fun h => rW (sc I 49) m v (rm0 h) cc h := ⟨_, rfl⟩
  have hv9 : ∀ l, l < 8 → (sc I 49 1 l).toNatClampNeg ≤ 999 := fun l hl => by
    obtain ⟨y, y1, y2⟩ := hB.1 l hl
    rw [y2, nI_clamp (by omega)]
    exact y1
  obtain ⟨y, K, q1, q2, q3, q4⟩ := packing_C (fu := FU) (p := p) (c := cc) (m := m) (v := v) (rm0 := rm0) (x := nI p) hC hL hB hfu (by rw [hcc, hP]) (by rw [hm, hP]) hv hrm
  rw [← hF, ← hr] at q4
  obtain ⟨J1, j1, j2, j3⟩ := hasAll_M' (fu := FU) hM hB' hfu
  have hFF : ∀ s, WS (fun l => (lv J 0 1 l).toNatClampNeg) nl s = F s := fun s => by
    rw [hF]
    unfold WS
    exact smN_congr (fun l hl => by
      show (if s.testBit l = true then (lv J 0 1 l).toNatClampNeg else 0) = if s.testBit l = true then (sc I 49 1 l).toNatClampNeg else 0
      rw [hE.2.2.2 l (by omega)])
  have hM1 : ML J1 b nh no nl (vw I t) := ML_congr (by rw [j2 100 (by decide)]) (fun x x1 x2 => j2 x (by omega)) hM
  have elv : lv J1 0 = lv J 0 := by
    funext a k
    unfold lv
    rw [j2 127 (by decide), j2 128 (by decide), j2 129 (by decide), j2 130 (by decide), j2 131 (by decide)]
  have hrr : ∀ h, h < nh → r h = rm0 h + smN (fun l => if Bo.testBit l = true ∧ lv J 0 2 l = nI h then (lv J 0 1 l).toNatClampNeg else 0) nl := fun h hh => by
    have e1 := nth_sum (p := P) (g := fun l => if sc I 49 2 l = nI h then (sc I 49 1 l).toNatClampNeg else 0) (nl := nl) nl (Nat.le_refl _)
    rw [← hcc] at e1
    have e2 : r h = rm0 h + smN (fun k => (fun l => if sc I 49 2 l = nI h then (sc I 49 1 l).toNatClampNeg else 0) (nth P k nl)) cc := by
      rw [hr, hv, hm]
      rfl
    rw [e2, e1]
    congr 1
    refine smN_congr (fun l hl => ?_)
    obtain ⟨z1, z2, z3⟩ := hE.2.1 l (by omega)
    have hb : Bo.testBit l = true ↔ P l = true := by
      rw [b2, btN_bit, decide_eq_true hl, Bool.true_and, hP]
      exact Iff.rfl
    rw [← z1, ← z2]
    by_cases c2 : P l = true
    · rw [if_pos c2]
      by_cases c3 : sc I 49 2 l = nI h
      · rw [if_pos c3, if_pos ⟨hb.mpr c2, c3⟩]
      · rw [if_neg c3, if_neg (fun w => c3 w.2)]
    · rw [if_neg c2, if_neg (fun w => c2 (hb.mp w.1))]
  have hr9 : ∀ h, h < nh → r h ≤ 99999 := fun h hh => by
    have := smN_le (f := fun k => if sc I 49 2 (m k) = nI h then v k else 0) (m := 999) cc (fun i hi => by
      show (if sc I 49 2 (m i) = nI h then v i else 0) ≤ 999
      have : v i ≤ 999 := by
        rw [hv]
        exact hv9 _ (by have := hm1 i hi; omega)
      split <;> omega)
    have h10 : cc * 999 ≤ 8 * 999 := Nat.mul_le_mul_right _ hcc8
    have := (hrm h hh).2
    rw [hr]
    show rm0 h + smN (fun k => if sc I 49 2 (m k) = nI h then v k else 0) cc ≤ 99999
    omega
  have hF0 : F 0 = 0 := by
    rw [hF]
    have := smN_le (f := fun l => if (0 : Nat).testBit l = true then (sc I 49 1 l).toNatClampNeg else 0) (m := 0) nl (fun i hi => by
      show (if (0 : Nat).testBit i = true then (sc I 49 1 i).toNatClampNeg else 0) ≤ 0
      rw [Nat.zero_testBit]
      exact Nat.le_refl _)
    show smN (fun l => if (0 : Nat).testBit l = true then (sc I 49 1 l).toNatClampNeg else 0) nl = 0
    omega
  have hF9 : ∀ s, F s ≤ 99999 := fun s => by
    have := WS_le (wo := fun l => (sc I 49 1 l).toNatClampNeg) (nl := nl) (B := s) h9 (fun l hl => by
      have := hv9 l (by omega)
      show (sc I 49 1 l).toNatClampNeg ≤ 9999
      omega)
    rw [hF]
    omega
  have hpn : 0 < 2 ^ nh := Nat.pow_pos (by decide)
  have hpn8 : 2 ^ nh ≤ 2 ^ 8 := Nat.pow_le_pow_right (by decide) h7
  obtain ⟨B', J2, s1, s2, s3⟩ := hsets_M (J := J1) (fu := FU) (his := Bo) (F := F) (r := r) (rm0 := rm0) hM1 (by rw [elv]; exact hB') hfu b1 (fun s hs => by rw [j3 s hs, hFF]; exact ⟨rfl, hF9 s⟩) hF0 (fun h hh => by
    rw [elv]
    refine ⟨?_, hrr h hh, hr9 h hh⟩
    rw [← hE.rmE nl (Nat.le_refl _) h9]
    exact (hrm h hh).1) (2 ^ nh) 0 FU J1 (-1) (by omega) (by omega) (fun _ _ => rfl) (fun H' hH' => absurd hH' (by omega)) (Or.inl ⟨rfl, fun H' hH' => absurd hH' (by omega)⟩)
  have s1' : f_X12_pack_L111 FU FU J1 (nI Bo) (-1) 0 = some (B', J2) := s1
  have hJ2 : ∀ x, x ≠ 139 → x ≠ 140 → J2 x = J x := fun x x1 x2 => (s2 x x1).trans (j2 x x2)
  have hsm : SM J J2 := by
    refine ⟨fun k hk => by rw [hJ2 100 (by decide) (by decide)], fun x hx => hJ2 x (by omega) (by omega), fun v hv => ?_, fun k hk => ?_, fun k hk => by rw [hJ2 131 (by decide) (by decide)], fun k hk => by rw [hJ2 133 (by decide) (by decide)]⟩
    · rw [hJ2 127 (by decide) (by decide), hJ2 132 (by decide) (by decide)]; exact ⟨rfl, rfl⟩
    · rw [hJ2 128 (by decide) (by decide), hJ2 129 (by decide) (by decide), hJ2 130 (by decide) (by decide)]; exact ⟨rfl, rfl, rfl⟩
  have hsx : SX t I K := fun x hx => q2 x (by omega) (by omega)
  have hrel := (Rel_same h (n' := n + 6) (by omega) hsx SR.refl hsm SL.refl).rel
  have has : ∀ H, AS F r H Bo ↔ AS (fun s => F (exM m s cc)) r H (2 ^ cc - 1) := fun H => by
    rw [← hBo]
    exact as_ex hinc (fun k hk => by have := hm1 k hk; omega) hcc8 (by omega)
  have top256 : 2 ^ cc - 1 < 256 := by omega
  simp only [q1, b4, j1, s1', Option.bind_some]
  rcases s3 with ⟨z1, z2⟩ | ⟨x, x1, x2, x3, x4⟩
  · have hy : y = 1048576 := by
      rcases q4.2 with w | ⟨H, w, _⟩
      · exact w
      · exact absurd ((has H).mpr (PK.as _ _ _ top256 w)) (z2 H (PK.lt _ _ _ w))
    refine ⟨-1, K, J2, ?_, ?_, hrel⟩
    · simp only [if_pos hy, if_true]
    · simp only [z1, if_true]
  · obtain ⟨H', w1, w2⟩ := AS.pk nh x (2 ^ cc - 1) top256 x1 ((has x).mp x3)
    have g1 := q4.1 H' w2
    have g2 := cst_sb w1
    have g3 : cst x ≤ 256 * 8 + 255 := by
      have := pc_le (s := x)
      unfold cst
      omega
    have hy : ¬ y = 1048576 := by omega
    obtain ⟨H2, v1, v2⟩ := q4.2.resolve_left hy
    have g4 := x4 H2 (PK.lt _ _ _ v1) ((has H2).mpr (PK.as _ _ _ top256 v1))
    have ey : y = 256 * pc x + x := by
      have : y = cst x := by omega
      exact this
    have hp9 := pc_le (s := x)
    have m1 : ¬ nI y = -1 := fun q => (nI_eq_mI (a := y) (b := 1) (by omega) (by decide)).mp q
    have m2 : ¬ nI x = -1 := fun q => (nI_eq_mI (a := x) (b := 1) (by omega) (by decide)).mp q
    have ed : nI y / 256 = nI (pc x) := by
      rw [zq256, div_ok ⟨by omega, by decide, by decide⟩]
      congr 1
      omega
    have dv : ∀ k : Option (Int32 × HI), dvI 256 k = k := fun k => by rw [zq256, dv_ok ⟨by decide, by decide⟩]
    have bx := bits_M (u := x) (fu := FU) (by omega) FU_big.2
    by_cases cw : w = 0
    · have cw' : nI w = 0 := by rw [cw]; rfl
      have em : nI y - nI (pc x) * 256 = nI x := by
        rw [zq256, pk_mul, pk_sub (by omega)]
        congr 1
        omega
      refine ⟨nI x, K, J2, ?_, ?_, hrel⟩
      · simp only [if_neg hy, if_neg m1, if_pos cw', dv, ed, em]
      · simp only [x2, if_neg m2, if_pos cw']
    · have cw' : ¬ nI w = 0 := nI_ne0 (by omega) (by omega)
      refine ⟨nI (pc x), K, J2, ?_, ?_, hrel⟩
      · simp only [if_neg hy, if_neg m1, if_neg cw', dv, ed]
      · simp only [x2, if_neg m2, if_neg cw', bx, Option.bind_some]
