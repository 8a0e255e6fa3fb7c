/-! image -/
def PI (I J I' J' : HI) (z : Nat) : Prop := I' 47 1 = nI z ∧ J' 100 70 = nI z ∧ (∀ k, k < z → I' 48 k = J' 146 k ∧ ∃ x, x < 256 ∧ I' 48 k = nI x) ∧ (∀ x, x ≠ 47 → x ≠ 48 → I' x = I x) ∧ (∀ x, x ≠ 100 → x ≠ 146 → J' x = J x) ∧ (∀ k, k ≠ 70 → J' 100 k = J 100 k)
theorem put_I {I J I' J' : HI} {z v : Nat} {p : Int32} (h : PI I J I' J' z) (hz : z < 107) (hv : v < 256) (hp : p &&& 255 = nI v) : ∃ I'' J'', f_X6_put I' (nI v) = some I'' ∧ f_X12_writes J' p = some J'' ∧ PI I J I'' J'' (z + 1) := by
  obtain ⟨h1, h2, h3, h4, h5, h6⟩ := h
  have q107 : (107 : Int32) = nI 107 := rfl
  refine ⟨sI (sI I' 48 z (nI v)) 47 1 (nI (z + 1)), sI (sI J' 146 z (nI v)) 100 70 (nI (z + 1)), ?_, ?_, ?_, ?_, ?_, ?_, ?_, ?_⟩
  · unfold f_X6_put
    simp (disch := omega) only [q107, sdm, ↓zm1, ↓zm2, ↓zm3, ↓zm4, ↓zm5, ↓zm6, ↓zm7, ↓zm8, ↓zm9, ↓zm10, ↓zm11, ↓zm12, ↓zm13, ↓zm14, ↓zm15, ↓zm16, ↓zm17, ↓zm18, ↓zm19, ↓zm20, ↓zm1000000000, zq0, zq1, zq2, zq3, zq4, zq5, zq6, zq7, zq8, zq9, zq10, zq11, zq12, zq13, zq14, zq15, zq16, zq17, zq18, zq19, zq20, zq21, zq22, zq23, zq24, zq25, zq26, zq30, zq31, zq32, zq33, zq34, zq35, zq36, zq37, zq38, zq39, zq40, zq41, zq42, zq43, zq44, zq45, zq47, zq48, zq57, zq59, zq60, zq61, zq62, zq80, zq91, zq93, zq97, zq99, zq100, zq107, zq110, zq120, zq122, zq128, zq149, zq160, zq208, zq240, zq251, zq255, zq256, zq500, zq936, zq999, zq1600, zq1800, zq2048, zq3200, zq4160, zq9999, zq12345, zq1000000, zq1048576, zq100000000, bnd, jnt, zg_ok, gz_0, gz_1, gz_n0, gz_n1, zs_eq, zs_ne, zs_same, zs_other, zA_eq, zA_ne, Option.bind_some, Option.bind_none, nI_add, pk_mul, nI_clamp, nI_leI, nI_ltI, nI_eq, pk_sub, nI_mI, nI_eq_mI, mI_eq_nI, nI_lt_m, ldI_ok, inb_ok, if_pos, if_neg, dv_ok, rem_ok, div_ok, if_true, if_false, h1]
  · unfold f_X12_writes
    rw [hp]
    simp (disch := omega) only [sdm, ↓zm1, ↓zm2, ↓zm3, ↓zm4, ↓zm5, ↓zm6, ↓zm7, ↓zm8, ↓zm9, ↓zm10, ↓zm11, ↓zm12, ↓zm13, ↓zm14, ↓zm15, ↓zm16, ↓zm17, ↓zm18, ↓zm19, ↓zm20, ↓zm1000000000, zq0, zq1, zq2, zq3, zq4, zq5, zq6, zq7, zq8, zq9, zq10, zq11, zq12, zq13, zq14, zq15, zq16, zq17, zq18, zq19, zq20, zq21, zq22, zq23, zq24, zq25, zq26, zq30, zq31, zq32, zq33, zq34, zq35, zq36, zq37, zq38, zq39, zq40, zq41, zq42, zq43, zq44, zq45, zq47, zq48, zq57, zq59, zq60, zq61, zq62, zq80, zq91, zq93, zq97, zq99, zq100, zq107, zq110, zq120, zq122, zq128, zq149, zq160, zq208, zq240, zq251, zq255, zq256, zq500, zq936, zq999, zq1600, zq1800, zq2048, zq3200, zq4160, zq9999, zq12345, zq1000000, zq1048576, zq100000000, bnd, jnt, zg_ok, gz_0, gz_1, gz_n0, gz_n1, zs_eq, zs_ne, zs_same, zs_other, zA_eq, zA_ne, Option.bind_some, Option.bind_none, nI_add, pk_mul, nI_clamp, nI_leI, nI_ltI, nI_eq, pk_sub, nI_mI, nI_eq_mI, mI_eq_nI, nI_lt_m, ldI_ok, inb_ok, if_pos, if_neg, dv_ok, rem_ok, div_ok, if_true, if_false, h2]
  · rw [zs_eq, zs_same]
  · rw [zs_eq, zs_same]
  · intro k hk
    rw [zs_ne (show 48 ≠ 47 by decide), zs_ne (show 146 ≠ 100 by decide), zs_eq, zs_eq]
    by_cases c : k = z
    · subst c
      rw [zs_same, zs_same]
      exact ⟨rfl, v, hv, rfl⟩
    · rw [zs_other c, zs_other c]
      exact h3 k (by omega)
  · intro x x1 x2
    rw [zs_ne x1, zs_ne x2, h4 x x1 x2]
  · intro x x1 x2
    rw [zs_ne x1, zs_ne x2, h5 x x1 x2]
  · intro k hk
    rw [zs_eq, zs_other hk, zs_ne (by decide), h6 k hk]
theorem and255 {n : Nat} (h : n < 2 ^ 31) : nI n &&& 255 = nI (n % 256) := pk_andN (n := n) (by omega) 8 (by decide)
theorem pair_I {I J I' J' : HI} {z v : Nat} (h : PI I J I' J' z) (hz : z + 1 < 107) (hv : v < 65536) : ∃ I'' J'', f_X6_putPair I' (nI v) = some I'' ∧ f_X12_writesTwo J' (nI v) = some J'' ∧ PI I J I'' J'' (z + 2) := by
  have e1 : nI v >>> ((8 : Int32) &&& 31) = nI (v / 256) := pk_shrN (by omega) _ 8 (by decide)
  obtain ⟨I1, J1, a1, a2, a3⟩ := put_I (v := v / 256) (p := nI v >>> ((8 : Int32) &&& 31)) h (by omega) (by omega) (by rw [e1, and255 (by omega)]; congr 1; omega)
  obtain ⟨I2, J2, b1, b2, b3⟩ := put_I (v := v % 256) (p := nI v) a3 (by omega) (by omega) (and255 (by omega))
  refine ⟨I2, J2, ?_, ?_, b3⟩
  · unfold f_X6_putPair
    simp (disch := omega) only [zq256, dv_ok, div_ok, pk_mul, pk_sub, sdm, a1, b1, Option.bind_some]
  · unfold f_X12_writesTwo
    simp only [a2, b2, Option.bind_some]
theorem PI.CL {I J I' J' : HI} {R : HR} {z s t nh no nl : Nat} (h : PI I J I' J' z) (hC : CL I R s t nh no nl) : CL I' R s t nh no nl := by
  obtain ⟨h0, h1, h2, h3, h4, h5, h6, h7, h8, h9⟩ := hC
  have et : I' t = I t := h.2.2.2.1 t (by omega) (by omega)
  exact ⟨h0, h1, h2, h3, by rw [et]; exact h4, by rw [et]; exact h5, by rw [et]; exact h6, h7, h8, h9⟩
section
variable {I : HI} {R : HR} {J : HI} {t b nh no nl fu : Nat} {D : HI}
theorem lakes_I (hC : CL I R 49 t nh no nl) (hM : ML J b nh no nl D) (hE : SEp nl (sc I 49) (lv J 0)) (hS : SW D (sc I 49) nh no nl) : ∀ (q i n : Nat) (I' J' : HI), i + q = nl → q < n → PI I J I' J' (2 + 4 * i) → ∃ I'' J'', f_X6_draw_L15 n I' R 49 (nI i) = some I'' ∧ f_X12_image_L17 n J' (nI i) = some J'' ∧ PI I J I'' J'' (2 + 4 * nl) := by
  have h7 := hC.2.2.2.2.2.2.2.1
  have h8 := hC.2.2.2.2.2.2.2.2.1
  have h9 := hC.2.2.2.2.2.2.2.2.2
  have n3 : ¬ (1 : Int32) = 0 := by decide
  intro q
  induction q with
  | zero =>
    intro i n I' J' e1 e2 h
    obtain ⟨n, rfl⟩ : ∃ q, n = q + 1 := ⟨n - 1, by omega⟩
    have : i = nl := by omega
    subst this
    obtain ⟨g0, g1, g2, g3, g4, g5, g6, g7, g8, g9⟩ := h.CL hC
    obtain ⟨⟨m0, m1⟩, m2, m3, m4, m5, m6, m7, m8, m9, m10⟩ := hM
    have e0 : J' 100 13 = nI b := by rw [h.2.2.2.2.2 13 (by decide)]; exact m0
    have e6 : J' 106 b = nI i := by rw [h.2.2.2.2.1 106 (by decide) (by decide)]; exact m4
    refine ⟨I', J', ?_, ?_, h⟩
    · simp (disch := omega) only [f_X6_draw_L15, sdm, ↓zm1, ↓zm2, ↓zm3, ↓zm4, ↓zm5, ↓zm6, ↓zm7, ↓zm8, ↓zm9, ↓zm10, ↓zm11, ↓zm12, ↓zm13, ↓zm14, ↓zm15, ↓zm16, ↓zm17, ↓zm18, ↓zm19, ↓zm20, ↓zm1000000000, zq0, zq1, zq2, zq3, zq4, zq5, zq6, zq7, zq8, zq9, zq10, zq11, zq12, zq13, zq14, zq15, zq16, zq17, zq18, zq19, zq20, zq21, zq22, zq23, zq24, zq25, zq26, zq30, zq31, zq32, zq33, zq34, zq35, zq36, zq37, zq38, zq39, zq40, zq41, zq42, zq43, zq44, zq45, zq47, zq48, zq57, zq59, zq60, zq61, zq62, zq80, zq91, zq93, zq97, zq99, zq100, zq107, zq110, zq120, zq122, zq128, zq149, zq160, zq208, zq240, zq251, zq255, zq256, zq500, zq936, zq999, zq1600, zq1800, zq2048, zq3200, zq4160, zq9999, zq12345, zq1000000, zq1048576, zq100000000, bnd, jnt, zg_ok, gz_0, gz_1, gz_n0, gz_n1, zs_eq, zs_ne, zs_same, zs_other, zA_eq, zA_ne, Option.bind_some, Option.bind_none, nI_add, pk_mul, nI_clamp, nI_leI, nI_ltI, nI_eq, pk_sub, nI_mI, nI_eq_mI, mI_eq_nI, nI_lt_m, ldI_ok, inb_ok, if_pos, if_neg, dv_ok, rem_ok, div_ok, if_true, if_false, zg_ok g0, g1, g6]
    · simp (disch := omega) only [f_X12_image_L17, sdm, ↓zm1, ↓zm2, ↓zm3, ↓zm4, ↓zm5, ↓zm6, ↓zm7, ↓zm8, ↓zm9, ↓zm10, ↓zm11, ↓zm12, ↓zm13, ↓zm14, ↓zm15, ↓zm16, ↓zm17, ↓zm18, ↓zm19, ↓zm20, ↓zm1000000000, zq0, zq1, zq2, zq3, zq4, zq5, zq6, zq7, zq8, zq9, zq10, zq11, zq12, zq13, zq14, zq15, zq16, zq17, zq18, zq19, zq20, zq21, zq22, zq23, zq24, zq25, zq26, zq30, zq31, zq32, zq33, zq34, zq35, zq36, zq37, zq38, zq39, zq40, zq41, zq42, zq43, zq44, zq45, zq47, zq48, zq57, zq59, zq60, zq61, zq62, zq80, zq91, zq93, zq97, zq99, zq100, zq107, zq110, zq120, zq122, zq128, zq149, zq160, zq208, zq240, zq251, zq255, zq256, zq500, zq936, zq999, zq1600, zq1800, zq2048, zq3200, zq4160, zq9999, zq12345, zq1000000, zq1048576, zq100000000, bnd, jnt, zg_ok, gz_0, gz_1, gz_n0, gz_n1, zs_eq, zs_ne, zs_same, zs_other, zA_eq, zA_ne, Option.bind_some, Option.bind_none, nI_add, pk_mul, nI_clamp, nI_leI, nI_ltI, nI_eq, pk_sub, nI_mI, nI_eq_mI, mI_eq_nI, nI_lt_m, ldI_ok, inb_ok, if_pos, if_neg, dv_ok, rem_ok, div_ok, if_true, if_false, e0, e6]
  | succ q ih =>
    intro i n I' J' e1 e2 h
    obtain ⟨n, rfl⟩ : ∃ q, n = q + 1 := ⟨n - 1, by omega⟩
    have hC' := h.CL hC
    obtain ⟨g0, g1, g2, g3, g4, g5, g6, g7, g8, g9⟩ := hC'
    obtain ⟨⟨m0, m1⟩, m2, m3, m4, m5, m6, m7, m8, m9, m10⟩ := id hM
    have e0 : J' 100 13 = nI b := by rw [h.2.2.2.2.2 13 (by decide)]; exact m0
    have e6 : J' 106 b = nI nl := by rw [h.2.2.2.2.1 106 (by decide) (by decide)]; exact m4
    obtain ⟨x, x1, x2, x3, x4⟩ := hS.2.1 i (by omega)
    have x2' : I 50 i = nI x := x2
    obtain ⟨I1, J1, a1, a2, a3⟩ := pair_I (v := x) h (by omega) (by omega)
    have hl : ∃ v w : Nat, ∃ y y' : Int32, v < 256 ∧ w < 256 ∧ lv J 0 2 i = y ∧ lv J 0 3 i = y' ∧ y &&& 255 = nI v ∧ y' &&& 255 = nI w ∧ (x = 0 → v = 255 ∧ w = 255) ∧ (0 < x → I 51 i = nI v ∧ I 52 i = nI w) := by
      rw [← (hE.2.1 i (by omega)).2.1, ← (hE.2.1 i (by omega)).2.2]
      rcases Nat.eq_zero_or_pos x with c | c
      · obtain ⟨z1, z2⟩ := x3 c
        exact ⟨255, 255, mI 1, mI 1, by decide, by decide, z1, z2, by decide, by decide, fun _ => ⟨rfl, rfl⟩, fun z => absurd z (by omega)⟩
      · obtain ⟨-, ⟨g, hg, eg⟩, ⟨o, ho, eo⟩⟩ := x4 c
        exact ⟨g, o, nI g, nI o, by omega, by omega, eg, eo, by rw [and255 (by omega)]; congr 1; omega, by rw [and255 (by omega)]; congr 1; omega, fun z => absurd z (by omega), fun _ => ⟨eg, eo⟩⟩
    obtain ⟨v, w, y, y', v1, w1, ly, lo, ey, eo, hx0, hx1⟩ := hl
    obtain ⟨I2, J2, b1, b2, b3⟩ := put_I (v := v) (p := y) a3 (by omega) v1 ey
    obtain ⟨I3, J3, c1, c2, c3⟩ := put_I (v := w) (p := y') b3 (by omega) w1 eo
    rw [show 2 + 4 * i + 2 + 1 + 1 = 2 + 4 * (i + 1) by omega] at c3
    obtain ⟨I4, J4, d1, d2, d3⟩ := ih (i + 1) n I3 J3 (by omega) (by omega) c3
    refine ⟨I4, J4, ?_, ?_, d3⟩
    · have i50 : I' 50 i = nI x := by rw [h.2.2.2.1 50 (by decide) (by decide)]; exact x2'
      have s1 := stands_Cn (a3.CL hC) (show i < nl by omega)
      have s2 := stands_Cn (b3.CL hC) (show i < nl by omega)
      have j1 : I1 (49 + 1) i = nI x := by rw [a3.2.2.2.1 50 (by decide) (by decide)]; exact x2'
      have j2 : I2 (49 + 1) i = nI x := by rw [b3.2.2.2.1 50 (by decide) (by decide)]; exact x2'
      rw [j1] at s1
      rw [j2] at s2
      rw [← d1]
      rcases Nat.eq_zero_or_pos x with c | c
      · obtain ⟨z1, z2⟩ := hx0 c
        rw [z1] at b1
        rw [z2] at c1
        have b1' : f_X6_put I1 255 = some I2 := b1
        have c1' : f_X6_put I2 255 = some I3 := c1
        rw [if_pos (by rw [c]; decide)] at s1 s2
        simp (disch := omega) only [f_X6_draw_L15, zg_ok g0, g1, g6, nI_leI, if_neg, ldI_ok, i50, a1, Option.bind_some, s1, s2, jnt, if_true, b1', c1', zq1, nI_add]
      · obtain ⟨z1, z2⟩ := hx1 c
        have k1 : I1 (49 + 2) i = nI v := by rw [a3.2.2.2.1 51 (by decide) (by decide)]; exact z1
        have k2 : I2 (49 + 3) i = nI w := by rw [b3.2.2.2.1 52 (by decide) (by decide)]; exact z2
        rw [if_neg (nI_nle (by omega) (by omega))] at s1 s2
        simp (disch := omega) only [f_X6_draw_L15, zg_ok g0, g1, g6, nI_leI, if_neg, ldI_ok, i50, a1, Option.bind_some, s1, s2, jnt, if_neg n3, k1, k2, b1, c1]
        rw [show nI i + 1 = nI (i + 1) from nI_1 i]
    · have f1 : f_X12_fill J' 0 (nI i) = _ := fill_M (J := J') (v := 0) (l := i) (by decide) (by omega)
      have f2 : f_X12_liesIn J1 0 (nI i) = _ := liesIn_M (J := J1) (v := 0) (l := i) (by decide) (by omega)
      have f3 : f_X12_ownerOf J2 0 (nI i) = _ := ownerOf_M (J := J2) (v := 0) (l := i) (by decide) (by omega)
      have l1 : lv J' 0 1 i = nI x := by
        show J' 128 (8 * 0 + i) = nI x
        rw [h.2.2.2.2.1 128 (by decide) (by decide), ← x2]
        exact (hE.2.1 i (by omega)).1.symm
      have l2 : lv J1 0 2 i = y := by
        show J1 129 (8 * 0 + i) = y
        rw [a3.2.2.2.2.1 129 (by decide) (by decide)]
        exact ly
      have l3 : lv J2 0 3 i = y' := by
        show J2 130 (8 * 0 + i) = y'
        rw [b3.2.2.2.2.1 130 (by decide) (by decide)]
        exact lo
      rw [l1] at f1
      rw [l2] at f2
      rw [l3] at f3
      rw [← d2]
      simp (disch := omega) only [f_X12_image_L17, e0, ldI_ok, e6, nI_leI, if_neg, f1, a2, Option.bind_some, f2, b2, f3, c2, zq1, nI_add]
theorem debts2_I (hC : CL I R 49 t nh no nl) (hM : ML J b nh no nl D) (hk : ∀ k, k < 36 → I 53 k = J 131 k) (hS : SW D (sc I 49) nh no nl) {a : Nat} (ha : a < no) : ∀ (q i n : Nat) (I' J' : HI), i + q = no → q < n → PI I J I' J' (2 + 4 * nl + 2 * (no * a + i)) → ∃ I'' J'', f_X6_draw_L105 n I' R 49 (nI a) (nI i) = some I'' ∧ f_X12_image_L83 n J' (nI a) (nI i) = some J'' ∧ PI I J I'' J'' (2 + 4 * nl + 2 * (no * (a + 1))) := by
  have h8 := hC.2.2.2.2.2.2.2.2.1
  have h9 := hC.2.2.2.2.2.2.2.2.2
  have hmul : no * (a + 1) ≤ 6 * 6 := Nat.mul_le_mul h8 (by omega)
  rw [Nat.mul_succ] at hmul
  intro q
  induction q with
  | zero =>
    intro i n I' J' e1 e2 h
    obtain ⟨n, rfl⟩ : ∃ q, n = q + 1 := ⟨n - 1, by omega⟩
    have : i = no := by omega
    subst this
    obtain ⟨g0, g1, g2, g3, g4, g5, g6, g7, g8, g9⟩ := h.CL hC
    obtain ⟨⟨m0, m1⟩, m2, m3, m4, m5, m6, m7, m8, m9, m10⟩ := hM
    have e0 : J' 100 13 = nI b := by rw [h.2.2.2.2.2 13 (by decide)]; exact m0
    have e6 : J' 105 b = nI i := by rw [h.2.2.2.2.1 105 (by decide) (by decide)]; exact m3
    refine ⟨I', J', ?_, ?_, by rw [Nat.mul_succ]; exact h⟩
    · simp (disch := omega) only [f_X6_draw_L105, sdm, ↓zm1, ↓zm2, ↓zm3, ↓zm4, ↓zm5, ↓zm6, ↓zm7, ↓zm8, ↓zm9, ↓zm10, ↓zm11, ↓zm12, ↓zm13, ↓zm14, ↓zm15, ↓zm16, ↓zm17, ↓zm18, ↓zm19, ↓zm20, ↓zm1000000000, zq0, zq1, zq2, zq3, zq4, zq5, zq6, zq7, zq8, zq9, zq10, zq11, zq12, zq13, zq14, zq15, zq16, zq17, zq18, zq19, zq20, zq21, zq22, zq23, zq24, zq25, zq26, zq30, zq31, zq32, zq33, zq34, zq35, zq36, zq37, zq38, zq39, zq40, zq41, zq42, zq43, zq44, zq45, zq47, zq48, zq57, zq59, zq60, zq61, zq62, zq80, zq91, zq93, zq97, zq99, zq100, zq107, zq110, zq120, zq122, zq128, zq149, zq160, zq208, zq240, zq251, zq255, zq256, zq500, zq936, zq999, zq1600, zq1800, zq2048, zq3200, zq4160, zq9999, zq12345, zq1000000, zq1048576, zq100000000, bnd, jnt, zg_ok, gz_0, gz_1, gz_n0, gz_n1, zs_eq, zs_ne, zs_same, zs_other, zA_eq, zA_ne, Option.bind_some, Option.bind_none, nI_add, pk_mul, nI_clamp, nI_leI, nI_ltI, nI_eq, pk_sub, nI_mI, nI_eq_mI, mI_eq_nI, nI_lt_m, ldI_ok, inb_ok, if_pos, if_neg, dv_ok, rem_ok, div_ok, if_true, if_false, zg_ok g0, g1, g5]
    · simp (disch := omega) only [f_X12_image_L83, sdm, ↓zm1, ↓zm2, ↓zm3, ↓zm4, ↓zm5, ↓zm6, ↓zm7, ↓zm8, ↓zm9, ↓zm10, ↓zm11, ↓zm12, ↓zm13, ↓zm14, ↓zm15, ↓zm16, ↓zm17, ↓zm18, ↓zm19, ↓zm20, ↓zm1000000000, zq0, zq1, zq2, zq3, zq4, zq5, zq6, zq7, zq8, zq9, zq10, zq11, zq12, zq13, zq14, zq15, zq16, zq17, zq18, zq19, zq20, zq21, zq22, zq23, zq24, zq25, zq26, zq30, zq31, zq32, zq33, zq34, zq35, zq36, zq37, zq38, zq39, zq40, zq41, zq42, zq43, zq44, zq45, zq47, zq48, zq57, zq59, zq60, zq61, zq62, zq80, zq91, zq93, zq97, zq99, zq100, zq107, zq110, zq120, zq122, zq128, zq149, zq160, zq208, zq240, zq251, zq255, zq256, zq500, zq936, zq999, zq1600, zq1800, zq2048, zq3200, zq4160, zq9999, zq12345, zq1000000, zq1048576, zq100000000, bnd, jnt, zg_ok, gz_0, gz_1, gz_n0, gz_n1, zs_eq, zs_ne, zs_same, zs_other, zA_eq, zA_ne, Option.bind_some, Option.bind_none, nI_add, pk_mul, nI_clamp, nI_leI, nI_ltI, nI_eq, pk_sub, nI_mI, nI_eq_mI, mI_eq_nI, nI_lt_m, ldI_ok, inb_ok, if_pos, if_neg, dv_ok, rem_ok, div_ok, if_true, if_false, e0, e6]
  | succ q ih =>
    intro i n I' J' e1 e2 h
    obtain ⟨n, rfl⟩ : ∃ q, n = q + 1 := ⟨n - 1, by omega⟩
    obtain ⟨g0, g1, g2, g3, g4, g5, g6, g7, g8, g9⟩ := h.CL hC
    obtain ⟨⟨m0, m1⟩, m2, m3, m4, m5, m6, m7, m8, m9, m10⟩ := id hM
    have e0 : J' 100 13 = nI b := by rw [h.2.2.2.2.2 13 (by decide)]; exact m0
    have e6 : J' 105 b = nI no := by rw [h.2.2.2.2.1 105 (by decide) (by decide)]; exact m3
    obtain ⟨x, x1, x2⟩ := hS.2.2.1 (6 * a + i) (by omega)
    have x2' : I 53 (6 * a + i) = nI x := x2
    have i53 : I' (49 + 4) (a * 6 + i) = nI x := by
      rw [h.2.2.2.1 53 (by decide) (by decide), Nat.mul_comm a 6]
      exact x2'
    have j131 : J' 131 (6 * a + i) = nI x := by
      rw [h.2.2.2.2.1 131 (by decide) (by decide), ← hk _ (by omega)]
      exact x2'
    obtain ⟨I1, J1, a1, a2, a3⟩ := pair_I (v := x) h (by omega) (by omega)
    rw [show 2 + 4 * nl + 2 * (no * a + i) + 2 = 2 + 4 * nl + 2 * (no * a + (i + 1)) by omega] at a3
    obtain ⟨I4, J4, d1, d2, d3⟩ := ih (i + 1) n I1 J1 (by omega) (by omega) a3
    refine ⟨I4, J4, ?_, ?_, d3⟩
    · rw [← d1]
      simp (disch := omega) only [f_X6_draw_L105, sdm, ↓zm1, ↓zm2, ↓zm3, ↓zm4, ↓zm5, ↓zm6, ↓zm7, ↓zm8, ↓zm9, ↓zm10, ↓zm11, ↓zm12, ↓zm13, ↓zm14, ↓zm15, ↓zm16, ↓zm17, ↓zm18, ↓zm19, ↓zm20, ↓zm1000000000, zq0, zq1, zq2, zq3, zq4, zq5, zq6, zq7, zq8, zq9, zq10, zq11, zq12, zq13, zq14, zq15, zq16, zq17, zq18, zq19, zq20, zq21, zq22, zq23, zq24, zq25, zq26, zq30, zq31, zq32, zq33, zq34, zq35, zq36, zq37, zq38, zq39, zq40, zq41, zq42, zq43, zq44, zq45, zq47, zq48, zq57, zq59, zq60, zq61, zq62, zq80, zq91, zq93, zq97, zq99, zq100, zq107, zq110, zq120, zq122, zq128, zq149, zq160, zq208, zq240, zq251, zq255, zq256, zq500, zq936, zq999, zq1600, zq1800, zq2048, zq3200, zq4160, zq9999, zq12345, zq1000000, zq1048576, zq100000000, bnd, jnt, zg_ok, gz_0, gz_1, gz_n0, gz_n1, zs_eq, zs_ne, zs_same, zs_other, zA_eq, zA_ne, Option.bind_some, Option.bind_none, nI_add, pk_mul, nI_clamp, nI_leI, nI_ltI, nI_eq, pk_sub, nI_mI, nI_eq_mI, mI_eq_nI, nI_lt_m, ldI_ok, inb_ok, if_pos, if_neg, dv_ok, rem_ok, div_ok, if_true, if_false, zg_ok g0, g1, g5, i53, a1]
    · rw [← d2]
      simp (disch := omega) only [f_X12_image_L83, f_X12_debt, sdm, ↓zm1, ↓zm2, ↓zm3, ↓zm4, ↓zm5, ↓zm6, ↓zm7, ↓zm8, ↓zm9, ↓zm10, ↓zm11, ↓zm12, ↓zm13, ↓zm14, ↓zm15, ↓zm16, ↓zm17, ↓zm18, ↓zm19, ↓zm20, ↓zm1000000000, zq0, zq1, zq2, zq3, zq4, zq5, zq6, zq7, zq8, zq9, zq10, zq11, zq12, zq13, zq14, zq15, zq16, zq17, zq18, zq19, zq20, zq21, zq22, zq23, zq24, zq25, zq26, zq30, zq31, zq32, zq33, zq34, zq35, zq36, zq37, zq38, zq39, zq40, zq41, zq42, zq43, zq44, zq45, zq47, zq48, zq57, zq59, zq60, zq61, zq62, zq80, zq91, zq93, zq97, zq99, zq100, zq107, zq110, zq120, zq122, zq128, zq149, zq160, zq208, zq240, zq251, zq255, zq256, zq500, zq936, zq999, zq1600, zq1800, zq2048, zq3200, zq4160, zq9999, zq12345, zq1000000, zq1048576, zq100000000, bnd, jnt, zg_ok, gz_0, gz_1, gz_n0, gz_n1, zs_eq, zs_ne, zs_same, zs_other, zA_eq, zA_ne, Option.bind_some, Option.bind_none, nI_add, pk_mul, nI_clamp, nI_leI, nI_ltI, nI_eq, pk_sub, nI_mI, nI_eq_mI, mI_eq_nI, nI_lt_m, ldI_ok, inb_ok, if_pos, if_neg, dv_ok, rem_ok, div_ok, if_true, if_false, e0, e6, j131, a2]
theorem debts_I (hC : CL I R 49 t nh no nl) (hM : ML J b nh no nl D) (hk : ∀ k, k < 36 → I 53 k = J 131 k) (hS : SW D (sc I 49) nh no nl) (hf : 8 < fu) : ∀ (q i n : Nat) (I' J' : HI), i + q = no → q < n → PI I J I' J' (2 + 4 * nl + 2 * (no * i)) → ∃ I'' J'', f_X6_draw_L92 fu n I' R 49 (nI i) = some I'' ∧ f_X12_image_L68 fu n J' (nI i) = some J'' ∧ PI I J I'' J'' (2 + 4 * nl + 2 * (no * no)) := by
  have h8 := hC.2.2.2.2.2.2.2.2.1
  intro q
  induction q with
  | zero =>
    intro i n I' J' e1 e2 h
    obtain ⟨n, rfl⟩ : ∃ q, n = q + 1 := ⟨n - 1, by omega⟩
    have : i = no := by omega
    subst this
    obtain ⟨g0, g1, g2, g3, g4, g5, g6, g7, g8, g9⟩ := h.CL hC
    obtain ⟨⟨m0, m1⟩, m2, m3, m4, m5, m6, m7, m8, m9, m10⟩ := hM
    have e0 : J' 100 13 = nI b := by rw [h.2.2.2.2.2 13 (by decide)]; exact m0
    have e6 : J' 105 b = nI i := by rw [h.2.2.2.2.1 105 (by decide) (by decide)]; exact m3
    refine ⟨I', J', ?_, ?_, h⟩
    · simp (disch := omega) only [f_X6_draw_L92, sdm, ↓zm1, ↓zm2, ↓zm3, ↓zm4, ↓zm5, ↓zm6, ↓zm7, ↓zm8, ↓zm9, ↓zm10, ↓zm11, ↓zm12, ↓zm13, ↓zm14, ↓zm15, ↓zm16, ↓zm17, ↓zm18, ↓zm19, ↓zm20, ↓zm1000000000, zq0, zq1, zq2, zq3, zq4, zq5, zq6, zq7, zq8, zq9, zq10, zq11, zq12, zq13, zq14, zq15, zq16, zq17, zq18, zq19, zq20, zq21, zq22, zq23, zq24, zq25, zq26, zq30, zq31, zq32, zq33, zq34, zq35, zq36, zq37, zq38, zq39, zq40, zq41, zq42, zq43, zq44, zq45, zq47, zq48, zq57, zq59, zq60, zq61, zq62, zq80, zq91, zq93, zq97, zq99, zq100, zq107, zq110, zq120, zq122, zq128, zq149, zq160, zq208, zq240, zq251, zq255, zq256, zq500, zq936, zq999, zq1600, zq1800, zq2048, zq3200, zq4160, zq9999, zq12345, zq1000000, zq1048576, zq100000000, bnd, jnt, zg_ok, gz_0, gz_1, gz_n0, gz_n1, zs_eq, zs_ne, zs_same, zs_other, zA_eq, zA_ne, Option.bind_some, Option.bind_none, nI_add, pk_mul, nI_clamp, nI_leI, nI_ltI, nI_eq, pk_sub, nI_mI, nI_eq_mI, mI_eq_nI, nI_lt_m, ldI_ok, inb_ok, if_pos, if_neg, dv_ok, rem_ok, div_ok, if_true, if_false, zg_ok g0, g1, g5]
    · simp (disch := omega) only [f_X12_image_L68, sdm, ↓zm1, ↓zm2, ↓zm3, ↓zm4, ↓zm5, ↓zm6, ↓zm7, ↓zm8, ↓zm9, ↓zm10, ↓zm11, ↓zm12, ↓zm13, ↓zm14, ↓zm15, ↓zm16, ↓zm17, ↓zm18, ↓zm19, ↓zm20, ↓zm1000000000, zq0, zq1, zq2, zq3, zq4, zq5, zq6, zq7, zq8, zq9, zq10, zq11, zq12, zq13, zq14, zq15, zq16, zq17, zq18, zq19, zq20, zq21, zq22, zq23, zq24, zq25, zq26, zq30, zq31, zq32, zq33, zq34, zq35, zq36, zq37, zq38, zq39, zq40, zq41, zq42, zq43, zq44, zq45, zq47, zq48, zq57, zq59, zq60, zq61, zq62, zq80, zq91, zq93, zq97, zq99, zq100, zq107, zq110, zq120, zq122, zq128, zq149, zq160, zq208, zq240, zq251, zq255, zq256, zq500, zq936, zq999, zq1600, zq1800, zq2048, zq3200, zq4160, zq9999, zq12345, zq1000000, zq1048576, zq100000000, bnd, jnt, zg_ok, gz_0, gz_1, gz_n0, gz_n1, zs_eq, zs_ne, zs_same, zs_other, zA_eq, zA_ne, Option.bind_some, Option.bind_none, nI_add, pk_mul, nI_clamp, nI_leI, nI_ltI, nI_eq, pk_sub, nI_mI, nI_eq_mI, mI_eq_nI, nI_lt_m, ldI_ok, inb_ok, if_pos, if_neg, dv_ok, rem_ok, div_ok, if_true, if_false, e0, e6]
  | succ q ih =>
    intro i n I' J' e1 e2 h
    obtain ⟨n, rfl⟩ : ∃ q, n = q + 1 := ⟨n - 1, by omega⟩
    obtain ⟨g0, g1, g2, g3, g4, g5, g6, g7, g8, g9⟩ := h.CL hC
    obtain ⟨⟨m0, m1⟩, m2, m3, m4, m5, m6, m7, m8, m9, m10⟩ := id hM
    have e0 : J' 100 13 = nI b := by rw [h.2.2.2.2.2 13 (by decide)]; exact m0
    have e6 : J' 105 b = nI no := by rw [h.2.2.2.2.1 105 (by decide) (by decide)]; exact m3
    obtain ⟨I1, J1, a1, a2, a3⟩ := debts2_I hC hM hk hS (a := i) (by omega) no 0 fu I' J' (by omega) (by omega) (by rw [Nat.add_zero]; exact h)
    obtain ⟨I4, J4, d1, d2, d3⟩ := ih (i + 1) n I1 J1 (by omega) (by omega) a3
    refine ⟨I4, J4, ?_, ?_, d3⟩
    · rw [← d1]
      simp (disch := omega) only [f_X6_draw_L92, sdm, ↓zm1, ↓zm2, ↓zm3, ↓zm4, ↓zm5, ↓zm6, ↓zm7, ↓zm8, ↓zm9, ↓zm10, ↓zm11, ↓zm12, ↓zm13, ↓zm14, ↓zm15, ↓zm16, ↓zm17, ↓zm18, ↓zm19, ↓zm20, ↓zm1000000000, zq0, zq1, zq2, zq3, zq4, zq5, zq6, zq7, zq8, zq9, zq10, zq11, zq12, zq13, zq14, zq15, zq16, zq17, zq18, zq19, zq20, zq21, zq22, zq23, zq24, zq25, zq26, zq30, zq31, zq32, zq33, zq34, zq35, zq36, zq37, zq38, zq39, zq40, zq41, zq42, zq43, zq44, zq45, zq47, zq48, zq57, zq59, zq60, zq61, zq62, zq80, zq91, zq93, zq97, zq99, zq100, zq107, zq110, zq120, zq122, zq128, zq149, zq160, zq208, zq240, zq251, zq255, zq256, zq500, zq936, zq999, zq1600, zq1800, zq2048, zq3200, zq4160, zq9999, zq12345, zq1000000, zq1048576, zq100000000, bnd, jnt, zg_ok, gz_0, gz_1, gz_n0, gz_n1, zs_eq, zs_ne, zs_same, zs_other, zA_eq, zA_ne, Option.bind_some, Option.bind_none, nI_add, pk_mul, nI_clamp, nI_leI, nI_ltI, nI_eq, pk_sub, nI_mI, nI_eq_mI, mI_eq_nI, nI_lt_m, ldI_ok, inb_ok, if_pos, if_neg, dv_ok, rem_ok, div_ok, if_true, if_false, zg_ok g0, g1, g5, a1]
    · rw [← d2]
      simp (disch := omega) only [f_X12_image_L68, sdm, ↓zm1, ↓zm2, ↓zm3, ↓zm4, ↓zm5, ↓zm6, ↓zm7, ↓zm8, ↓zm9, ↓zm10, ↓zm11, ↓zm12, ↓zm13, ↓zm14, ↓zm15, ↓zm16, ↓zm17, ↓zm18, ↓zm19, ↓zm20, ↓zm1000000000, zq0, zq1, zq2, zq3, zq4, zq5, zq6, zq7, zq8, zq9, zq10, zq11, zq12, zq13, zq14, zq15, zq16, zq17, zq18, zq19, zq20, zq21, zq22, zq23, zq24, zq25, zq26, zq30, zq31, zq32, zq33, zq34, zq35, zq36, zq37, zq38, zq39, zq40, zq41, zq42, zq43, zq44, zq45, zq47, zq48, zq57, zq59, zq60, zq61, zq62, zq80, zq91, zq93, zq97, zq99, zq100, zq107, zq110, zq120, zq122, zq128, zq149, zq160, zq208, zq240, zq251, zq255, zq256, zq500, zq936, zq999, zq1600, zq1800, zq2048, zq3200, zq4160, zq9999, zq12345, zq1000000, zq1048576, zq100000000, bnd, jnt, zg_ok, gz_0, gz_1, gz_n0, gz_n1, zs_eq, zs_ne, zs_same, zs_other, zA_eq, zA_ne, Option.bind_some, Option.bind_none, nI_add, pk_mul, nI_clamp, nI_leI, nI_ltI, nI_eq, pk_sub, nI_mI, nI_eq_mI, mI_eq_nI, nI_lt_m, ldI_ok, inb_ok, if_pos, if_neg, dv_ok, rem_ok, div_ok, if_true, if_false, e0, e6, a2]
end
theorem check_I {I J : HI} {z : Nat} (hz : z ≤ 106) (h1 : J 100 70 = nI z) (h : ∀ k, k < z → I 48 k = J 146 k ∧ ∃ x, x < 256 ∧ I 48 k = nI x) : ∀ (q i n c : Nat), i + q = z → q < n → c < 251 → ∃ c', c' < 251 ∧ f_X6_check_L6 n I 48 107 (nI z) (nI c) (nI i) = some (nI c') ∧ f_X12_image_L124 n J (nI c) (nI i) = some (nI c') := by
  intro q
  induction q with
  | zero =>
    intro i n c e1 e2 hc
    obtain ⟨n, rfl⟩ : ∃ q, n = q + 1 := ⟨n - 1, by omega⟩
    have : i = z := by omega
    subst this
    refine ⟨c, hc, ?_, ?_⟩
    · simp (disch := omega) only [f_X6_check_L6, sdm, ↓zm1, ↓zm2, ↓zm3, ↓zm4, ↓zm5, ↓zm6, ↓zm7, ↓zm8, ↓zm9, ↓zm10, ↓zm11, ↓zm12, ↓zm13, ↓zm14, ↓zm15, ↓zm16, ↓zm17, ↓zm18, ↓zm19, ↓zm20, ↓zm1000000000, zq0, zq1, zq2, zq3, zq4, zq5, zq6, zq7, zq8, zq9, zq10, zq11, zq12, zq13, zq14, zq15, zq16, zq17, zq18, zq19, zq20, zq21, zq22, zq23, zq24, zq25, zq26, zq30, zq31, zq32, zq33, zq34, zq35, zq36, zq37, zq38, zq39, zq40, zq41, zq42, zq43, zq44, zq45, zq47, zq48, zq57, zq59, zq60, zq61, zq62, zq80, zq91, zq93, zq97, zq99, zq100, zq107, zq110, zq120, zq122, zq128, zq149, zq160, zq208, zq240, zq251, zq255, zq256, zq500, zq936, zq999, zq1600, zq1800, zq2048, zq3200, zq4160, zq9999, zq12345, zq1000000, zq1048576, zq100000000, bnd, jnt, zg_ok, gz_0, gz_1, gz_n0, gz_n1, zs_eq, zs_ne, zs_same, zs_other, zA_eq, zA_ne, Option.bind_some, Option.bind_none, nI_add, pk_mul, nI_clamp, nI_leI, nI_ltI, nI_eq, pk_sub, nI_mI, nI_eq_mI, mI_eq_nI, nI_lt_m, ldI_ok, inb_ok, if_pos, if_neg, dv_ok, rem_ok, div_ok, if_true, if_false]
    · simp (disch := omega) only [f_X12_image_L124, sdm, ↓zm1, ↓zm2, ↓zm3, ↓zm4, ↓zm5, ↓zm6, ↓zm7, ↓zm8, ↓zm9, ↓zm10, ↓zm11, ↓zm12, ↓zm13, ↓zm14, ↓zm15, ↓zm16, ↓zm17, ↓zm18, ↓zm19, ↓zm20, ↓zm1000000000, zq0, zq1, zq2, zq3, zq4, zq5, zq6, zq7, zq8, zq9, zq10, zq11, zq12, zq13, zq14, zq15, zq16, zq17, zq18, zq19, zq20, zq21, zq22, zq23, zq24, zq25, zq26, zq30, zq31, zq32, zq33, zq34, zq35, zq36, zq37, zq38, zq39, zq40, zq41, zq42, zq43, zq44, zq45, zq47, zq48, zq57, zq59, zq60, zq61, zq62, zq80, zq91, zq93, zq97, zq99, zq100, zq107, zq110, zq120, zq122, zq128, zq149, zq160, zq208, zq240, zq251, zq255, zq256, zq500, zq936, zq999, zq1600, zq1800, zq2048, zq3200, zq4160, zq9999, zq12345, zq1000000, zq1048576, zq100000000, bnd, jnt, zg_ok, gz_0, gz_1, gz_n0, gz_n1, zs_eq, zs_ne, zs_same, zs_other, zA_eq, zA_ne, Option.bind_some, Option.bind_none, nI_add, pk_mul, nI_clamp, nI_leI, nI_ltI, nI_eq, pk_sub, nI_mI, nI_eq_mI, mI_eq_nI, nI_lt_m, ldI_ok, inb_ok, if_pos, if_neg, dv_ok, rem_ok, div_ok, if_true, if_false, h1]
  | succ q ih =>
    intro i n c e1 e2 hc
    obtain ⟨n, rfl⟩ : ∃ q, n = q + 1 := ⟨n - 1, by omega⟩
    obtain ⟨x1, x, x2, x3⟩ := h i (by omega)
    have x4 : J 146 i = nI x := by rw [← x1]; exact x3
    obtain ⟨c', c1, c2, c3⟩ := ih (i + 1) n ((5 * c + x) % 251) (by omega) (by omega) (by omega)
    refine ⟨c', c1, ?_, ?_⟩
    · rw [← c2]
      simp (disch := omega) only [f_X6_check_L6, sdm, ↓zm1, ↓zm2, ↓zm3, ↓zm4, ↓zm5, ↓zm6, ↓zm7, ↓zm8, ↓zm9, ↓zm10, ↓zm11, ↓zm12, ↓zm13, ↓zm14, ↓zm15, ↓zm16, ↓zm17, ↓zm18, ↓zm19, ↓zm20, ↓zm1000000000, zq0, zq1, zq2, zq3, zq4, zq5, zq6, zq7, zq8, zq9, zq10, zq11, zq12, zq13, zq14, zq15, zq16, zq17, zq18, zq19, zq20, zq21, zq22, zq23, zq24, zq25, zq26, zq30, zq31, zq32, zq33, zq34, zq35, zq36, zq37, zq38, zq39, zq40, zq41, zq42, zq43, zq44, zq45, zq47, zq48, zq57, zq59, zq60, zq61, zq62, zq80, zq91, zq93, zq97, zq99, zq100, zq107, zq110, zq120, zq122, zq128, zq149, zq160, zq208, zq240, zq251, zq255, zq256, zq500, zq936, zq999, zq1600, zq1800, zq2048, zq3200, zq4160, zq9999, zq12345, zq1000000, zq1048576, zq100000000, bnd, jnt, zg_ok, gz_0, gz_1, gz_n0, gz_n1, zs_eq, zs_ne, zs_same, zs_other, zA_eq, zA_ne, Option.bind_some, Option.bind_none, nI_add, pk_mul, nI_clamp, nI_leI, nI_ltI, nI_eq, pk_sub, nI_mI, nI_eq_mI, mI_eq_nI, nI_lt_m, ldI_ok, inb_ok, if_pos, if_neg, dv_ok, rem_ok, div_ok, if_true, if_false, x3]
    · rw [← c3]
      simp (disch := omega) only [f_X12_image_L124, sdm, ↓zm1, ↓zm2, ↓zm3, ↓zm4, ↓zm5, ↓zm6, ↓zm7, ↓zm8, ↓zm9, ↓zm10, ↓zm11, ↓zm12, ↓zm13, ↓zm14, ↓zm15, ↓zm16, ↓zm17, ↓zm18, ↓zm19, ↓zm20, ↓zm1000000000, zq0, zq1, zq2, zq3, zq4, zq5, zq6, zq7, zq8, zq9, zq10, zq11, zq12, zq13, zq14, zq15, zq16, zq17, zq18, zq19, zq20, zq21, zq22, zq23, zq24, zq25, zq26, zq30, zq31, zq32, zq33, zq34, zq35, zq36, zq37, zq38, zq39, zq40, zq41, zq42, zq43, zq44, zq45, zq47, zq48, zq57, zq59, zq60, zq61, zq62, zq80, zq91, zq93, zq97, zq99, zq100, zq107, zq110, zq120, zq122, zq128, zq149, zq160, zq208, zq240, zq251, zq255, zq256, zq500, zq936, zq999, zq1600, zq1800, zq2048, zq3200, zq4160, zq9999, zq12345, zq1000000, zq1048576, zq100000000, bnd, jnt, zg_ok, gz_0, gz_1, gz_n0, gz_n1, zs_eq, zs_ne, zs_same, zs_other, zA_eq, zA_ne, Option.bind_some, Option.bind_none, nI_add, pk_mul, nI_clamp, nI_leI, nI_ltI, nI_eq, pk_sub, nI_mI, nI_eq_mI, mI_eq_nI, nI_lt_m, ldI_ok, inb_ok, if_pos, if_neg, dv_ok, rem_ok, div_ok, if_true, if_false, h1, x4]
theorem eq_image : Eq_image Rel := by
  intro n I R J M hn hR
  obtain ⟨t, b, nh, no, nl, h⟩ := hR
  have hLC := h.LC
  obtain ⟨hC, hL, hM, hE, hS, hB, hB', h1⟩ := h.get
  have h8 := hC.2.2.2.2.2.2.2.2.1
  have h9 := hC.2.2.2.2.2.2.2.2.2
  have ht := hC.2.2.1
  have hfu := FU_big.1
  obtain ⟨m, hm, em⟩ := hS.1
  have em1 : I 49 1 = nI m := em
  have em2 : J 127 0 = nI m := by rw [← em]; exact hE.1.symm
  have p0 : PI I J (sI I 47 1 (nI 0)) (sI J 100 70 (nI 0)) 0 := ⟨by rw [zs_eq, zs_same], by rw [zs_eq, zs_same], fun k hk => absurd hk (by omega), fun x x1 _ => zs_ne x1, fun x x1 _ => zs_ne x1, fun k hk => by rw [zs_eq, zs_other hk]⟩
  obtain ⟨I1, J1, a1, a2, a3⟩ := pair_I (v := m) p0 (by decide) (by omega)
  obtain ⟨I2, J2, b1, b2, b3⟩ := lakes_I hC hM hE hS nl 0 FU I1 J1 (by omega) (by omega) a3
  obtain ⟨I3, J3, c1, c2, c3⟩ := debts_I (fu := FU) hC hM hLC.2.2.2.2.2.2 hS FU_big.2 no 0 FU I2 J2 (by omega) (by omega) (by rw [Nat.mul_zero, Nat.mul_zero, Nat.add_zero]; exact b3)
  have hmul : no * no ≤ 6 * 6 := Nat.mul_le_mul h8 h8
  obtain ⟨z, hz⟩ : ∃ z, z = 2 + 4 * nl + 2 * (no * no) := ⟨_, rfl⟩
  rw [← hz] at c3
  obtain ⟨c', d1, d2, d3⟩ := check_I (I := I3) (J := J3) (z := z) (by omega) c3.2.1 c3.2.2.1 z 0 FU 149 (by omega) (by omega) (by decide)
  obtain ⟨I4, J4, e1, e2, e3⟩ := put_I (v := c') (p := nI c') c3 (by omega) (by omega) (by rw [and255 (by omega)]; congr 1; omega)
  have a1' : f_X6_putPair (sI I 47 1 0) (nI m) = _ := a1
  have a2' : f_X12_writesTwo (sI J 100 70 0) (nI m) = _ := a2
  have b1' : f_X6_draw_L15 FU I1 R 49 0 = _ := b1
  have b2' : f_X12_image_L17 FU J1 0 = _ := b2
  have c1' : f_X6_draw_L92 FU FU I2 R 49 0 = _ := c1
  have c2' : f_X12_image_L68 FU FU J2 0 = _ := c2
  have d2' : f_X6_check_L6 FU I3 48 107 (nI z) 149 0 = _ := d2
  have d3' : f_X12_image_L124 FU J3 149 0 = _ := d3
  obtain ⟨f1, f2, f3, f4, f5, f6⟩ := e3
  refine ⟨nI (z + 1), I4, J4, ?_, ?_, ?_⟩
  · unfold f_X11_image f_X6_draw f_X6_check
    have k1 : sI I 47 1 0 49 1 = nI m := by rw [zs_ne (by decide)]; exact em1
    simp only [bnd, k1, a1', Option.bind_some, b1', c1', c3.1, d2', e1, f1]
  · unfold f_X12_image
    have k1 : ∀ k : Int32 → Option (Int32 × HI), ldI (sI J 100 70 0 127) 26 0 k = k (nI m) := fun k => by
      rw [zs_ne (by decide), zq0, ldI_ok (by decide), em2]
    simp only [bnd, k1, a2', Option.bind_some, b2', c2', d3', e2, f2]
  · obtain ⟨g1, g2, g3, g4, g5, g6, g7, g8, g9⟩ := h
    have ev : vw I4 t = vw I t := vw_congr (fun a ha => f4 _ (by omega) (by omega))
    refine ⟨t, b, nh, no, nl, RTp_c g1 (by rw [f4 1 (by decide) (by decide)]) (f4 2 (by decide) (by decide)) (f6 1 (by decide)) (f5 101 (by decide) (by decide)), RFl_c g2 (by rw [f4 1 (by decide) (by decide)]) (by rw [f4 1 (by decide) (by decide)]) (f6 10 (by decide)) (f6 11 (by decide)), RRf_c g3 (f4 5 (by decide) (by decide)) (f5 126 (by decide) (by decide)), RLt_c g4 (by rw [f4 1 (by decide) (by decide)]) rfl, RSt_c g5 (by rw [f4 1 (by decide) (by decide)]) (f6 66 (by decide)) (f4 3 (by decide) (by decide)) (f4 4 (by decide) (by decide)) (f5 144 (by decide) (by decide)) (f5 145 (by decide) (by decide)), ⟨z + 1, by omega, f1, f2, fun k hk => (f3 k hk).1⟩, RLd_c g7 (fun x q1 q2 => f4 x (by omega) (by omega)) ⟨rfl, rfl, rfl⟩ (f6 13 (by decide)) (fun x q1 q2 => f5 x (by omega) (by omega)) ⟨rfl, rfl, rfl⟩, ?_, ?_⟩
    · rw [ev]
      exact RSc_c g8 (fun x q1 q2 => f4 x (by omega) (by omega)) (by rw [f5 127 (by decide) (by decide)]) (fun k hk => by rw [f5 128 (by decide) (by decide), f5 129 (by decide) (by decide), f5 130 (by decide) (by decide)]; exact ⟨rfl, rfl, rfl⟩) (fun k hk => by rw [f5 131 (by decide) (by decide)])
    · rw [ev]
      exact RHs_c g9 (by omega) (fun x q1 q2 => f4 x (by omega) (by omega)) ⟨f6 53 (by decide), f6 54 (by decide)⟩ (fun v _ => by rw [f5 127 (by decide) (by decide), f5 132 (by decide) (by decide)]; exact ⟨rfl, rfl⟩) (fun k _ => by rw [f5 128 (by decide) (by decide), f5 129 (by decide) (by decide), f5 130 (by decide) (by decide)]; exact ⟨rfl, rfl, rfl⟩) (fun k _ => by rw [f5 131 (by decide) (by decide)]) (fun k _ => by rw [f5 133 (by decide) (by decide)])
