/-! on -/
def okR (nh no x u w : Nat) : Bool := if x = 0 then decide (u = 255 ∧ w = 255) else decide (x ≤ 999 ∧ u < nh ∧ w < no)
def gn (u w : Nat) (v : Nat) : Int32 := if u = 255 ∧ w = 255 then mI 1 else nI v
section
variable {I : HI} {R : HR} {J : HI} {t b nh no nl fu : Nat} {D : HI}
theorem isLakeRow_C {s : Nat} (hC : CL I R s t nh no nl) {x u w : Nat} (hx : x < 65536) (hu : u < 256) (hw : w < 256) : f_X6_isLakeRow I R (nI x) (nI u) (nI w) s = some (if okR nh no x u w = true then 1 else 0) := by
  have h7 := hC.2.2.2.2.2.2.2.1
  have h8 := hC.2.2.2.2.2.2.2.2.1
  have n3 : ¬ nI 1 = nI 0 := by decide
  have a1 := isHollow_C hC (nI u)
  have a2 := isOwner_C hC (nI w)
  unfold f_X6_isLakeRow okR
  by_cases c0 : x = 0
  · rw [if_pos c0]
    by_cases c1 : u = 255
    · by_cases c2 : w = 255
      · simp (disch := omega) only [sdm, ↓zm1, ↓zm2, ↓zm3, ↓zm4, ↓zm5, ↓zm6, ↓zm7, ↓zm8, ↓zm9, ↓zm10, ↓zm11, ↓zm12, ↓zm13, ↓zm14, ↓zm15, ↓zm16, ↓zm17, ↓zm18, ↓zm19, ↓zm20, ↓zm1000000000, zq0, zq1, zq2, zq3, zq4, zq5, zq6, zq7, zq8, zq9, zq10, zq11, zq12, zq13, zq14, zq15, zq16, zq17, zq18, zq19, zq20, zq21, zq22, zq23, zq24, zq25, zq26, zq30, zq31, zq32, zq33, zq34, zq35, zq36, zq37, zq38, zq39, zq40, zq41, zq42, zq43, zq44, zq45, zq47, zq48, zq57, zq59, zq60, zq61, zq62, zq80, zq91, zq93, zq97, zq99, zq100, zq107, zq110, zq120, zq122, zq128, zq149, zq160, zq208, zq240, zq251, zq255, zq256, zq500, zq936, zq999, zq1600, zq1800, zq2048, zq3200, zq4160, zq9999, zq12345, zq1000000, zq1048576, zq100000000, bnd, jnt, zg_ok, gz_0, gz_1, gz_n0, gz_n1, zs_eq, zs_ne, zs_same, zs_other, zA_eq, zA_ne, Option.bind_some, Option.bind_none, nI_add, pk_mul, nI_clamp, nI_leI, nI_ltI, nI_eq, pk_sub, nI_mI, nI_eq_mI, mI_eq_nI, nI_lt_m, ldI_ok, inb_ok, if_pos, if_neg, dv_ok, rem_ok, div_ok, if_true, if_false, decide_eq_true_eq]
      · simp (disch := omega) only [sdm, ↓zm1, ↓zm2, ↓zm3, ↓zm4, ↓zm5, ↓zm6, ↓zm7, ↓zm8, ↓zm9, ↓zm10, ↓zm11, ↓zm12, ↓zm13, ↓zm14, ↓zm15, ↓zm16, ↓zm17, ↓zm18, ↓zm19, ↓zm20, ↓zm1000000000, zq0, zq1, zq2, zq3, zq4, zq5, zq6, zq7, zq8, zq9, zq10, zq11, zq12, zq13, zq14, zq15, zq16, zq17, zq18, zq19, zq20, zq21, zq22, zq23, zq24, zq25, zq26, zq30, zq31, zq32, zq33, zq34, zq35, zq36, zq37, zq38, zq39, zq40, zq41, zq42, zq43, zq44, zq45, zq47, zq48, zq57, zq59, zq60, zq61, zq62, zq80, zq91, zq93, zq97, zq99, zq100, zq107, zq110, zq120, zq122, zq128, zq149, zq160, zq208, zq240, zq251, zq255, zq256, zq500, zq936, zq999, zq1600, zq1800, zq2048, zq3200, zq4160, zq9999, zq12345, zq1000000, zq1048576, zq100000000, bnd, jnt, zg_ok, gz_0, gz_1, gz_n0, gz_n1, zs_eq, zs_ne, zs_same, zs_other, zA_eq, zA_ne, Option.bind_some, Option.bind_none, nI_add, pk_mul, nI_clamp, nI_leI, nI_ltI, nI_eq, pk_sub, nI_mI, nI_eq_mI, mI_eq_nI, nI_lt_m, ldI_ok, inb_ok, if_pos, if_neg, dv_ok, rem_ok, div_ok, if_true, if_false, decide_eq_true_eq]
    · simp (disch := omega) only [sdm, ↓zm1, ↓zm2, ↓zm3, ↓zm4, ↓zm5, ↓zm6, ↓zm7, ↓zm8, ↓zm9, ↓zm10, ↓zm11, ↓zm12, ↓zm13, ↓zm14, ↓zm15, ↓zm16, ↓zm17, ↓zm18, ↓zm19, ↓zm20, ↓zm1000000000, zq0, zq1, zq2, zq3, zq4, zq5, zq6, zq7, zq8, zq9, zq10, zq11, zq12, zq13, zq14, zq15, zq16, zq17, zq18, zq19, zq20, zq21, zq22, zq23, zq24, zq25, zq26, zq30, zq31, zq32, zq33, zq34, zq35, zq36, zq37, zq38, zq39, zq40, zq41, zq42, zq43, zq44, zq45, zq47, zq48, zq57, zq59, zq60, zq61, zq62, zq80, zq91, zq93, zq97, zq99, zq100, zq107, zq110, zq120, zq122, zq128, zq149, zq160, zq208, zq240, zq251, zq255, zq256, zq500, zq936, zq999, zq1600, zq1800, zq2048, zq3200, zq4160, zq9999, zq12345, zq1000000, zq1048576, zq100000000, bnd, jnt, zg_ok, gz_0, gz_1, gz_n0, gz_n1, zs_eq, zs_ne, zs_same, zs_other, zA_eq, zA_ne, Option.bind_some, Option.bind_none, nI_add, pk_mul, nI_clamp, nI_leI, nI_ltI, nI_eq, pk_sub, nI_mI, nI_eq_mI, mI_eq_nI, nI_lt_m, ldI_ok, inb_ok, if_pos, if_neg, dv_ok, rem_ok, div_ok, if_true, if_false, decide_eq_true_eq]
  · rw [if_neg c0]
    by_cases c1 : x ≤ 999
    · by_cases c2 : u < nh
      · rw [if_pos ⟨nI_pos' (by omega), nI_lt c2 (by omega)⟩] at a1
        by_cases c3 : w < no
        · rw [if_pos ⟨nI_pos' (by omega), nI_lt c3 (by omega)⟩] at a2
          simp (disch := omega) only [sdm, ↓zm1, ↓zm2, ↓zm3, ↓zm4, ↓zm5, ↓zm6, ↓zm7, ↓zm8, ↓zm9, ↓zm10, ↓zm11, ↓zm12, ↓zm13, ↓zm14, ↓zm15, ↓zm16, ↓zm17, ↓zm18, ↓zm19, ↓zm20, ↓zm1000000000, zq0, zq1, zq2, zq3, zq4, zq5, zq6, zq7, zq8, zq9, zq10, zq11, zq12, zq13, zq14, zq15, zq16, zq17, zq18, zq19, zq20, zq21, zq22, zq23, zq24, zq25, zq26, zq30, zq31, zq32, zq33, zq34, zq35, zq36, zq37, zq38, zq39, zq40, zq41, zq42, zq43, zq44, zq45, zq47, zq48, zq57, zq59, zq60, zq61, zq62, zq80, zq91, zq93, zq97, zq99, zq100, zq107, zq110, zq120, zq122, zq128, zq149, zq160, zq208, zq240, zq251, zq255, zq256, zq500, zq936, zq999, zq1600, zq1800, zq2048, zq3200, zq4160, zq9999, zq12345, zq1000000, zq1048576, zq100000000, bnd, jnt, zg_ok, gz_0, gz_1, gz_n0, gz_n1, zs_eq, zs_ne, zs_same, zs_other, zA_eq, zA_ne, Option.bind_some, Option.bind_none, nI_add, pk_mul, nI_clamp, nI_leI, nI_ltI, nI_eq, pk_sub, nI_mI, nI_eq_mI, mI_eq_nI, nI_lt_m, ldI_ok, inb_ok, if_pos, if_neg, dv_ok, rem_ok, div_ok, if_true, if_false, decide_eq_true_eq, a1, a2, if_neg n3]
        · rw [if_neg (fun q => c3 ((nI_ltI (by omega) (by omega)).mp q.2))] at a2
          simp (disch := omega) only [sdm, ↓zm1, ↓zm2, ↓zm3, ↓zm4, ↓zm5, ↓zm6, ↓zm7, ↓zm8, ↓zm9, ↓zm10, ↓zm11, ↓zm12, ↓zm13, ↓zm14, ↓zm15, ↓zm16, ↓zm17, ↓zm18, ↓zm19, ↓zm20, ↓zm1000000000, zq0, zq1, zq2, zq3, zq4, zq5, zq6, zq7, zq8, zq9, zq10, zq11, zq12, zq13, zq14, zq15, zq16, zq17, zq18, zq19, zq20, zq21, zq22, zq23, zq24, zq25, zq26, zq30, zq31, zq32, zq33, zq34, zq35, zq36, zq37, zq38, zq39, zq40, zq41, zq42, zq43, zq44, zq45, zq47, zq48, zq57, zq59, zq60, zq61, zq62, zq80, zq91, zq93, zq97, zq99, zq100, zq107, zq110, zq120, zq122, zq128, zq149, zq160, zq208, zq240, zq251, zq255, zq256, zq500, zq936, zq999, zq1600, zq1800, zq2048, zq3200, zq4160, zq9999, zq12345, zq1000000, zq1048576, zq100000000, bnd, jnt, zg_ok, gz_0, gz_1, gz_n0, gz_n1, zs_eq, zs_ne, zs_same, zs_other, zA_eq, zA_ne, Option.bind_some, Option.bind_none, nI_add, pk_mul, nI_clamp, nI_leI, nI_ltI, nI_eq, pk_sub, nI_mI, nI_eq_mI, mI_eq_nI, nI_lt_m, ldI_ok, inb_ok, if_pos, if_neg, dv_ok, rem_ok, div_ok, if_true, if_false, decide_eq_true_eq, a1, a2, if_neg n3]
      · rw [if_neg (fun q => c2 ((nI_ltI (by omega) (by omega)).mp q.2))] at a1
        simp (disch := omega) only [sdm, ↓zm1, ↓zm2, ↓zm3, ↓zm4, ↓zm5, ↓zm6, ↓zm7, ↓zm8, ↓zm9, ↓zm10, ↓zm11, ↓zm12, ↓zm13, ↓zm14, ↓zm15, ↓zm16, ↓zm17, ↓zm18, ↓zm19, ↓zm20, ↓zm1000000000, zq0, zq1, zq2, zq3, zq4, zq5, zq6, zq7, zq8, zq9, zq10, zq11, zq12, zq13, zq14, zq15, zq16, zq17, zq18, zq19, zq20, zq21, zq22, zq23, zq24, zq25, zq26, zq30, zq31, zq32, zq33, zq34, zq35, zq36, zq37, zq38, zq39, zq40, zq41, zq42, zq43, zq44, zq45, zq47, zq48, zq57, zq59, zq60, zq61, zq62, zq80, zq91, zq93, zq97, zq99, zq100, zq107, zq110, zq120, zq122, zq128, zq149, zq160, zq208, zq240, zq251, zq255, zq256, zq500, zq936, zq999, zq1600, zq1800, zq2048, zq3200, zq4160, zq9999, zq12345, zq1000000, zq1048576, zq100000000, bnd, jnt, zg_ok, gz_0, gz_1, gz_n0, gz_n1, zs_eq, zs_ne, zs_same, zs_other, zA_eq, zA_ne, Option.bind_some, Option.bind_none, nI_add, pk_mul, nI_clamp, nI_leI, nI_ltI, nI_eq, pk_sub, nI_mI, nI_eq_mI, mI_eq_nI, nI_lt_m, ldI_ok, inb_ok, if_pos, if_neg, dv_ok, rem_ok, div_ok, if_true, if_false, decide_eq_true_eq, a1]
    · simp (disch := omega) only [sdm, ↓zm1, ↓zm2, ↓zm3, ↓zm4, ↓zm5, ↓zm6, ↓zm7, ↓zm8, ↓zm9, ↓zm10, ↓zm11, ↓zm12, ↓zm13, ↓zm14, ↓zm15, ↓zm16, ↓zm17, ↓zm18, ↓zm19, ↓zm20, ↓zm1000000000, zq0, zq1, zq2, zq3, zq4, zq5, zq6, zq7, zq8, zq9, zq10, zq11, zq12, zq13, zq14, zq15, zq16, zq17, zq18, zq19, zq20, zq21, zq22, zq23, zq24, zq25, zq26, zq30, zq31, zq32, zq33, zq34, zq35, zq36, zq37, zq38, zq39, zq40, zq41, zq42, zq43, zq44, zq45, zq47, zq48, zq57, zq59, zq60, zq61, zq62, zq80, zq91, zq93, zq97, zq99, zq100, zq107, zq110, zq120, zq122, zq128, zq149, zq160, zq208, zq240, zq251, zq255, zq256, zq500, zq936, zq999, zq1600, zq1800, zq2048, zq3200, zq4160, zq9999, zq12345, zq1000000, zq1048576, zq100000000, bnd, jnt, zg_ok, gz_0, gz_1, gz_n0, gz_n1, zs_eq, zs_ne, zs_same, zs_other, zA_eq, zA_ne, Option.bind_some, Option.bind_none, nI_add, pk_mul, nI_clamp, nI_leI, nI_ltI, nI_eq, pk_sub, nI_mI, nI_eq_mI, mI_eq_nI, nI_lt_m, ldI_ok, inb_ok, if_pos, if_neg, dv_ok, rem_ok, div_ok, if_true, if_false, decide_eq_true_eq]
theorem lkE_1 {K : HI} (hM : ML K b nh no nl D) {x a u w : Nat} {y9 : Int32} (ha : a + 3 < 1800) (h1 : K 101 (a + 2) = nI u) (h2 : K 101 (a + 3) = nI w) (hx : x < 65536) (hu : u < 256) (hw : w < 256) (hy : y9 = 0 ∨ y9 = 1) : (if nI x = 0 then gz y9 (some (y9, K)) else if 999 < nI x then gz (0) (some (0, K)) else ldI (K 101) 1800 (nI (a + 2)) fun v22 => (f_X12_isHollow K v22).bind fun x23 => if x23 = 0 then gz (0) (some (0, K)) else ldI (K 101) 1800 (nI (a + 3)) fun v24 => (f_X12_isOwner K v24).bind fun x25 => if x25 = 0 then gz (0) (some (0, K)) else gz (1) (some (1, K))) = some (if x = 0 then y9 else if x ≤ 999 ∧ u < nh ∧ w < no then 1 else 0, K) := by
  have h7 := hM.2.2.2.2.1
  have h8 := hM.2.2.2.2.2.1
  have n4 : ¬ (1 : Int32) = 0 := by decide
  have a1 := isHollow_M hM (nI u)
  have a2 := isOwner_M hM (nI w)
  by_cases c0 : x = 0
  · rw [if_pos (show nI x = 0 by rw [c0]; rfl), if_pos c0]
    rcases hy with q | q <;> rw [q]
    · exact gz_0
    · exact gz_1
  · rw [if_neg (show ¬ nI x = 0 from nI_ne0 (by omega) (by omega)), if_neg c0]
    by_cases c1 : x ≤ 999
    · rw [if_neg (show ¬ (999 : Int32) < nI x from nI_nlt (b := x) (a := 999) c1 (by decide)), ldI_ok (by omega), h1, ldI_ok (by omega), h2]
      by_cases c2 : u < nh
      · rw [if_pos ⟨nI_pos' (by omega), nI_lt c2 (by omega)⟩] at a1
        rw [a1]
        simp only [Option.bind_some]
        rw [if_neg n4]
        by_cases c3 : w < no
        · rw [if_pos ⟨nI_pos' (by omega), nI_lt c3 (by omega)⟩] at a2
          rw [a2]
          simp only [Option.bind_some]
          rw [if_neg n4, gz_1, if_pos ⟨c1, c2, c3⟩]
        · rw [if_neg (fun q => c3 ((nI_ltI (by omega) (by omega)).mp q.2))] at a2
          rw [a2]
          simp only [Option.bind_some]
          rw [if_pos trivial, gz_0, if_neg (fun q => c3 q.2.2)]
      · rw [if_neg (fun q => c2 ((nI_ltI (by omega) (by omega)).mp q.2))] at a1
        rw [a1]
        simp only [Option.bind_some]
        rw [if_pos trivial, gz_0, if_neg (fun q => c2 q.2.1)]
    · rw [if_pos (show (999 : Int32) < nI x from nI_lt (a := 999) (by omega) (by omega)), gz_0, if_neg (fun q => c1 q.1)]
theorem lakeOn_M (hM : ML J b nh no nl D) {i x1 x2 u w : Nat} (hi : i < 8) (e1 : J 101 (2 + 4 * i) = nI x1) (e2 : J 101 (2 + 4 * i + 1) = nI x2) (e3 : J 101 (2 + 4 * i + 2) = nI u) (e4 : J 101 (2 + 4 * i + 3) = nI w) (h1 : x1 < 256) (h2 : x2 < 256) (hu : u < 256) (hw : w < 256) : f_X12_lakeOn J (nI i) (nI (2 + 4 * i)) = some (if okR nh no (x1 * 256 + x2) u w = true then 1 else 0, sI (sI (sI J 128 (8 + i) (nI (x1 * 256 + x2))) 129 (8 + i) (gn u w u)) 130 (8 + i) (gn u w w)) := by
  have h7 := hM.2.2.2.2.1
  have h8 := hM.2.2.2.2.2.1
  have n4 : ¬ nI 1 = nI 0 := by decide
  have t2 := two_M (J := J) (k := 2 + 4 * i) (by omega) e1 e2 h1 h2
  obtain ⟨x, hx⟩ : ∃ x, x = x1 * 256 + x2 := ⟨_, rfl⟩
  rw [← hx] at t2 ⊢
  have hxl : x < 65536 := by omega
  obtain ⟨a, ha⟩ : ∃ a, a = 2 + 4 * i := ⟨_, rfl⟩
  rw [← ha] at t2 e1 e2 e3 e4 ⊢
  have haa : a + 3 < 1800 := by omega
  have hE : ∀ (y y' : Int32) (y9 : Int32), (y9 = 0 ∨ y9 = 1) → _ := fun y y' y9 hy => lkE_1 (K := sI (sI (sI J 128 (8 + i) (nI x)) 129 (8 + i) y) 130 (8 + i) y') (ML_congr (by rw [zs_ne (by decide), zs_ne (by decide), zs_ne (by decide)]) (fun z z1 z2 => by rw [zs_ne (by omega), zs_ne (by omega), zs_ne (by omega)]) hM) (x := x) (a := a) (u := u) (w := w) (y9 := y9) haa (by rw [zs_ne (by decide), zs_ne (by decide), zs_ne (by decide)]; exact e3) (by rw [zs_ne (by decide), zs_ne (by decide), zs_ne (by decide)]; exact e4) hxl hu hw hy
  have k101 : ∀ (y : Int32), sI J 128 (8 + i) y 101 = J 101 := fun y => zs_ne (by decide)
  have k101' : ∀ (y y' : Int32), sI (sI J 128 (8 + i) y) 129 (8 + i) y' 101 = J 101 := fun y y' => by rw [zs_ne (by decide), zs_ne (by decide)]
  have hok : (if okR nh no x u w = true then (1 : Int32) else 0) = (if x = 0 then (if u = 255 ∧ w = 255 then 1 else 0) else if x ≤ 999 ∧ u < nh ∧ w < no then 1 else 0) := by
    unfold okR
    by_cases c0 : x = 0
    · rw [if_pos c0, if_pos c0]
      by_cases cg : u = 255 ∧ w = 255
      · rw [if_pos (decide_eq_true cg), if_pos cg]
      · rw [decide_eq_false cg, if_neg (by decide), if_neg cg]
    · rw [if_neg c0, if_neg c0]
      by_cases cg : x ≤ 999 ∧ u < nh ∧ w < no
      · rw [if_pos (decide_eq_true cg), if_pos cg]
      · rw [decide_eq_false cg, if_neg (by decide), if_neg cg]
  rw [hok]
  have n3 : ¬ (1 : Int32) = 0 := by decide
  have A2 : nI a + 2 = nI (a + 2) := by rw [zq2, nI_add]
  have A3 : nI a + 3 = nI (a + 3) := by rw [zq3, nI_add]
  have A8 : 8 + nI i = nI (8 + i) := by rw [zq8, nI_add]
  have B1 : ∀ k : Option (Int32 × HI), inb 208 (nI (8 + i)) k = k := fun k => inb_ok (by omega)
  have B2 : (nI (8 + i)).toNatClampNeg = 8 + i := nI_clamp (by omega)
  unfold f_X12_lakeOn
  rw [t2]
  simp only [Option.bind_some, A2, A3, A8]
  rw [ldI_ok (by omega), e3]
  by_cases cg : u = 255 ∧ w = 255
  · have eg : ∀ v, gn u w v = mI 1 := fun v => by unfold gn; rw [if_pos cg]
    have c1 : nI u = 255 := by rw [cg.1]; rfl
    have c2 : nI w = 255 := by rw [cg.2]; rfl
    rw [eg, eg, if_pos cg, ← hE (mI 1) (mI 1) 1 (Or.inr rfl)]
    simp only [jnt, if_pos c1]
    rw [ldI_ok (by omega), e4]
    simp only [if_pos c2, bnd, B1, B2, if_neg n3]
    rfl
  · have eg : ∀ v, gn u w v = nI v := fun v => by unfold gn; rw [if_neg cg]
    rw [eg, eg, if_neg cg, ← hE (nI u) (nI w) 0 (Or.inl rfl)]
    have L1 : ∀ (y : Int32) (k : Int32 → Option (Int32 × HI)), ldI (sI J 128 (8 + i) y 101) 1800 (nI (a + 2)) k = k (nI u) := fun y k => by rw [k101, ldI_ok (by omega), e3]
    have L2 : ∀ (y y' : Int32) (k : Int32 → Option (Int32 × HI)), ldI (sI (sI J 128 (8 + i) y) 129 (8 + i) y' 101) 1800 (nI (a + 3)) k = k (nI w) := fun y y' k => by rw [k101', ldI_ok (by omega), e4]
    by_cases cu : u = 255
    · have c1 : nI u = 255 := by rw [cu]; rfl
      have c2 : ¬ nI w = 255 := fun q => cg ⟨cu, (nI_eq (a := w) (b := 255) (by omega) (by omega)).mp q⟩
      simp only [jnt, if_pos c1]
      rw [ldI_ok (by omega), e4]
      simp only [if_neg c2, bnd, B1, B2, if_true, L1, L2]
    · have c1 : ¬ nI u = 255 := fun q => cu ((nI_eq (a := u) (b := 255) (by omega) (by omega)).mp q)
      simp only [jnt, if_neg c1, bnd, B1, B2, if_true, L1, L2]
/-- the scene ahead and the layer that is tried, while an image is read -/
def OS (I J K V : HI) (nh no nl : Nat) : Prop := (∀ x, x < 58 ∨ 63 ≤ x → K x = I x) ∧ (∀ x, x < 127 ∨ 132 ≤ x → V x = J x) ∧ (∀ v, v ≠ 1 → V 127 v = J 127 v) ∧ (∀ k, k < 8 ∨ 16 ≤ k → V 128 k = J 128 k ∧ V 129 k = J 129 k ∧ V 130 k = J 130 k) ∧ (∀ k, k < 36 ∨ 72 ≤ k → V 131 k = J 131 k) ∧ SEp nl (sc K 58) (lv V 1) ∧ SWl (sc K 58) nh no nl
theorem OS.SX {K V : HI} (h : OS I J K V nh no nl) (ht : t = 67 ∨ t = 80) : SX t I K := fun x hx => h.1 x (by omega)
theorem OS.SM {K V : HI} (h : OS I J K V nh no nl) : SM J V := by
  obtain ⟨h1, h2, h3, h4, h5, h6, h7⟩ := h
  exact ⟨fun k _ => by rw [h2 100 (by decide)], fun x hx => h2 x (by omega), fun v hv => ⟨h3 v (by omega), by rw [h2 132 (by decide)]⟩, fun k hk => h4 k (by omega), fun k hk => h5 k (by omega), fun k _ => by rw [h2 133 (by decide)]⟩
theorem OS.CL {K V : HI} (h : OS I J K V nh no nl) (hC : CL I R 58 t nh no nl) : CL K R 58 t nh no nl := by
  obtain ⟨h0, h1, h2, h3, h4, h5, h6, h7, h8, h9⟩ := hC
  have et : K t = I t := h.1 t (by omega)
  exact ⟨h0, h1, h2, h3, by rw [et]; exact h4, by rw [et]; exact h5, by rw [et]; exact h6, h7, h8, h9⟩
theorem OS.ML {K V : HI} (h : OS I J K V nh no nl) (hM : ML J b nh no nl D) : ML V b nh no nl D := ML_congr (by rw [h.2.1 100 (by decide)]) (fun x q1 q2 => h.2.1 x (by omega)) hM
theorem sc59 {k : Nat} {v : Int32} : sc (sI I 59 k v) 58 = sI (sc I 58) 1 k v := sc_put (s := 58) (a := 1) (by decide)
theorem sc60 {k : Nat} {v : Int32} : sc (sI I 60 k v) 58 = sI (sc I 58) 2 k v := sc_put (s := 58) (a := 2) (by decide)
theorem sc61 {k : Nat} {v : Int32} : sc (sI I 61 k v) 58 = sI (sc I 58) 3 k v := sc_put (s := 58) (a := 3) (by decide)
theorem lv1 {a k : Nat} {v : Int32} (ha : 1 ≤ a ∧ a ≤ 3) : lv (sI J (127 + a) (8 + k) v) 1 = sI (lv J 1) a k v := by
  have := lv_put (J := J) (v := 1) (k := k) (w := v) ha
  rw [Nat.mul_one] at this
  exact this
theorem OS.row {K V : HI} (h : OS I J K V nh no nl) {i x : Nat} {y y' : Int32} (hi : i < nl) (h9 : nl ≤ 8) (hx : x ≤ 999) (h0 : x = 0 → y = mI 1 ∧ y' = mI 1) (h1 : 0 < x → (∃ g, g < nh ∧ y = nI g) ∧ ∃ o, o < no ∧ y' = nI o) {K' : HI} (hK1 : ∀ z, z ≠ 59 → z ≠ 60 → z ≠ 61 → K' z = K z) (hK2 : K' 59 = upd (K 59) i (nI x)) (hK3 : K' 60 = upd (K 60) i y) (hK4 : K' 61 = upd (K 61) i y') : OS I J K' (sI (sI (sI V 128 (8 + i) (nI x)) 129 (8 + i) y) 130 (8 + i) y') nh no nl := by
  obtain ⟨a1, a2, a3, a4, a5, a6, a7⟩ := h
  have es : sc K' 58 = sI (sI (sI (sc K 58) 1 i (nI x)) 2 i y) 3 i y' := by
    funext a
    unfold sc
    have hz : a = 0 ∨ a = 1 ∨ a = 2 ∨ a = 3 ∨ a = 4 ∨ 5 ≤ a := by omega
    rcases hz with q | q | q | q | q | q
    · subst q; rw [zs_ne (by decide), zs_ne (by decide), zs_ne (by decide)]; show K' 58 = K 58; exact hK1 58 (by decide) (by decide) (by decide)
    · subst q; rw [zs_ne (by decide), zs_ne (by decide), zs_eq]; exact hK2
    · subst q; rw [zs_ne (by decide), zs_eq]; exact hK3
    · subst q; rw [zs_eq]; exact hK4
    · subst q; rw [zs_ne (by decide), zs_ne (by decide), zs_ne (by decide)]; show K' 62 = K 62; exact hK1 62 (by decide) (by decide) (by decide)
    · rw [zs_ne (by omega), zs_ne (by omega), zs_ne (by omega), if_neg (by omega), if_neg (by omega)]
  have el : lv (sI (sI (sI V 128 (8 + i) (nI x)) 129 (8 + i) y) 130 (8 + i) y') 1 = sI (sI (sI (lv V 1) 1 i (nI x)) 2 i y) 3 i y' := by
    have e3 := lv1 (J := sI (sI V 128 (8 + i) (nI x)) 129 (8 + i) y) (a := 3) (k := i) (v := y') (by decide)
    have e2 := lv1 (J := sI V 128 (8 + i) (nI x)) (a := 2) (k := i) (v := y) (by decide)
    have e1 := lv1 (J := V) (a := 1) (k := i) (v := nI x) (by decide)
    rw [show 127 + 3 = 130 from rfl] at e3
    rw [show 127 + 2 = 129 from rfl] at e2
    rw [show 127 + 1 = 128 from rfl] at e1
    rw [e3, e2, e1]
  refine ⟨fun z hz => by rw [hK1 z (by omega) (by omega) (by omega)]; exact a1 z hz, fun z hz => by rw [zs_ne (by omega), zs_ne (by omega), zs_ne (by omega)]; exact a2 z hz, fun v hv => by rw [zs_ne (by decide), zs_ne (by decide), zs_ne (by decide)]; exact a3 v hv, fun k hk => ?_, fun k hk => by rw [zs_ne (by decide), zs_ne (by decide), zs_ne (by decide)]; exact a5 k hk, by rw [es, el]; exact ((a6.put (by decide)).put (by decide)).put (by decide), ?_⟩
  · obtain ⟨b1, b2, b3⟩ := a4 k hk
    simp (disch := omega) only [bnd, jnt, zg_ok, gz_0, gz_1, gz_n0, gz_n1, zs_eq, zs_ne, zs_same, zs_other, zA_eq, zA_ne, Option.bind_some, Option.bind_none]
    exact ⟨b1, b2, b3⟩
  · rw [es]
    refine ⟨by simp (disch := omega) only [zs_ne]; exact a7.1, fun l hl => ?_, by simp (disch := omega) only [zs_ne]; exact a7.2.2⟩
    by_cases cl : l = i
    · subst cl
      refine ⟨x, hx, by simp (disch := omega) only [bnd, jnt, zg_ok, gz_0, gz_1, gz_n0, gz_n1, zs_eq, zs_ne, zs_same, zs_other, zA_eq, zA_ne, Option.bind_some, Option.bind_none], fun q => ?_, fun q => ⟨hi, ?_, ?_⟩⟩
      · simp (disch := omega) only [bnd, jnt, zg_ok, gz_0, gz_1, gz_n0, gz_n1, zs_eq, zs_ne, zs_same, zs_other, zA_eq, zA_ne, Option.bind_some, Option.bind_none]
        exact h0 q
      · simp (disch := omega) only [bnd, jnt, zg_ok, gz_0, gz_1, gz_n0, gz_n1, zs_eq, zs_ne, zs_same, zs_other, zA_eq, zA_ne, Option.bind_some, Option.bind_none]
        exact (h1 q).1
      · simp (disch := omega) only [bnd, jnt, zg_ok, gz_0, gz_1, gz_n0, gz_n1, zs_eq, zs_ne, zs_same, zs_other, zA_eq, zA_ne, Option.bind_some, Option.bind_none]
        exact (h1 q).2
    · simp (disch := omega) only [bnd, jnt, zg_ok, gz_0, gz_1, gz_n0, gz_n1, zs_eq, zs_ne, zs_same, zs_other, zA_eq, zA_ne, Option.bind_some, Option.bind_none]
      exact a7.2.1 l hl
theorem lakes_O (hC : CL I R 58 t nh no nl) (hM : ML J b nh no nl D) {o : Nat → Nat} (ho : ∀ k, k < 1600 → o k < 256 ∧ I 2 k = nI (o k) ∧ J 101 k = nI (o k)) : ∀ (q i n : Nat) (K V : HI), i + q = nl → q < n → OS I J K V nh no nl → (∃ K' V', f_X6_restoresLakes_L2 n K R 2 1600 58 (nI i) = some (.inl (0, K')) ∧ f_X12_comesOn_L132 n V (nI i) = some (.inl (0, V')) ∧ SX t I K' ∧ SM J V') ∨ (∃ K' V', f_X6_restoresLakes_L2 n K R 2 1600 58 (nI i) = some (.inr K') ∧ f_X12_comesOn_L132 n V (nI i) = some (.inr V') ∧ OS I J K' V' nh no nl) := by
  have h7 := hC.2.2.2.2.2.2.2.1
  have h8 := hC.2.2.2.2.2.2.2.2.1
  have h9 := hC.2.2.2.2.2.2.2.2.2
  have ht := hC.2.2.1
  have n3 : ¬ (1 : Int32) = 0 := by decide
  intro q
  induction q with
  | zero =>
    intro i n K V e1 e2 h
    obtain ⟨n, rfl⟩ : ∃ q, n = q + 1 := ⟨n - 1, by omega⟩
    have : i = nl := by omega
    subst this
    obtain ⟨g0, g1, g2, g3, g4, g5, g6, g7, g8, g9⟩ := h.CL hC
    obtain ⟨⟨m0, m1⟩, m2, m3, m4, m5, m6, m7, m8, m9, m10⟩ := h.ML hM
    right
    refine ⟨K, V, ?_, ?_, h⟩
    · simp (disch := omega) only [f_X6_restoresLakes_L2, sdm, ↓zm1, ↓zm2, ↓zm3, ↓zm4, ↓zm5, ↓zm6, ↓zm7, ↓zm8, ↓zm9, ↓zm10, ↓zm11, ↓zm12, ↓zm13, ↓zm14, ↓zm15, ↓zm16, ↓zm17, ↓zm18, ↓zm19, ↓zm20, ↓zm1000000000, zq0, zq1, zq2, zq3, zq4, zq5, zq6, zq7, zq8, zq9, zq10, zq11, zq12, zq13, zq14, zq15, zq16, zq17, zq18, zq19, zq20, zq21, zq22, zq23, zq24, zq25, zq26, zq30, zq31, zq32, zq33, zq34, zq35, zq36, zq37, zq38, zq39, zq40, zq41, zq42, zq43, zq44, zq45, zq47, zq48, zq57, zq59, zq60, zq61, zq62, zq80, zq91, zq93, zq97, zq99, zq100, zq107, zq110, zq120, zq122, zq128, zq149, zq160, zq208, zq240, zq251, zq255, zq256, zq500, zq936, zq999, zq1600, zq1800, zq2048, zq3200, zq4160, zq9999, zq12345, zq1000000, zq1048576, zq100000000, bnd, jnt, zg_ok, gz_0, gz_1, gz_n0, gz_n1, zs_eq, zs_ne, zs_same, zs_other, zA_eq, zA_ne, Option.bind_some, Option.bind_none, nI_add, pk_mul, nI_clamp, nI_leI, nI_ltI, nI_eq, pk_sub, nI_mI, nI_eq_mI, mI_eq_nI, nI_lt_m, ldI_ok, inb_ok, if_pos, if_neg, dv_ok, rem_ok, div_ok, if_true, if_false, zg_ok g0, g1, g6]
    · simp (disch := omega) only [f_X12_comesOn_L132, sdm, ↓zm1, ↓zm2, ↓zm3, ↓zm4, ↓zm5, ↓zm6, ↓zm7, ↓zm8, ↓zm9, ↓zm10, ↓zm11, ↓zm12, ↓zm13, ↓zm14, ↓zm15, ↓zm16, ↓zm17, ↓zm18, ↓zm19, ↓zm20, ↓zm1000000000, zq0, zq1, zq2, zq3, zq4, zq5, zq6, zq7, zq8, zq9, zq10, zq11, zq12, zq13, zq14, zq15, zq16, zq17, zq18, zq19, zq20, zq21, zq22, zq23, zq24, zq25, zq26, zq30, zq31, zq32, zq33, zq34, zq35, zq36, zq37, zq38, zq39, zq40, zq41, zq42, zq43, zq44, zq45, zq47, zq48, zq57, zq59, zq60, zq61, zq62, zq80, zq91, zq93, zq97, zq99, zq100, zq107, zq110, zq120, zq122, zq128, zq149, zq160, zq208, zq240, zq251, zq255, zq256, zq500, zq936, zq999, zq1600, zq1800, zq2048, zq3200, zq4160, zq9999, zq12345, zq1000000, zq1048576, zq100000000, bnd, jnt, zg_ok, gz_0, gz_1, gz_n0, gz_n1, zs_eq, zs_ne, zs_same, zs_other, zA_eq, zA_ne, Option.bind_some, Option.bind_none, nI_add, pk_mul, nI_clamp, nI_leI, nI_ltI, nI_eq, pk_sub, nI_mI, nI_eq_mI, mI_eq_nI, nI_lt_m, ldI_ok, inb_ok, if_pos, if_neg, dv_ok, rem_ok, div_ok, if_true, if_false, m0, m4]
  | succ q ih =>
    intro i n K V e1 e2 h
    obtain ⟨n, rfl⟩ : ∃ q, n = q + 1 := ⟨n - 1, by omega⟩
    have hCK := h.CL hC
    have hMV := h.ML hM
    obtain ⟨g0, g1, g2, g3, g4, g5, g6, g7, g8, g9⟩ := id hCK
    obtain ⟨⟨m0, m1⟩, m2, m3, m4, m5, m6, m7, m8, m9, m10⟩ := id hMV
    have k2 : K 2 = I 2 := h.1 2 (by omega)
    have v101 : V 101 = J 101 := h.2.1 101 (by decide)
    obtain ⟨p1, p2, p3⟩ := ho (2 + 4 * i) (by omega)
    obtain ⟨r1, r2, r3⟩ := ho (2 + 4 * i + 1) (by omega)
    obtain ⟨u1, u2, u3⟩ := ho (2 + 4 * i + 2) (by omega)
    obtain ⟨w1, w2, w3⟩ := ho (2 + 4 * i + 3) (by omega)
    rw [← k2] at p2 r2 u2 w2
    rw [← v101] at p3 r3 u3 w3
    have lM := lakeOn_M hMV (show i < 8 by omega) p3 r3 u3 w3 p1 r1 u1 w1
    obtain ⟨x, hx⟩ : ∃ x, x = o (2 + 4 * i) * 256 + o (2 + 4 * i + 1) := ⟨_, rfl⟩
    obtain ⟨u, hu⟩ : ∃ u, u = o (2 + 4 * i + 2) := ⟨_, rfl⟩
    obtain ⟨w, hw⟩ : ∃ w, w = o (2 + 4 * i + 3) := ⟨_, rfl⟩
    rw [← hx, ← hu, ← hw] at lM
    rw [← hu] at u1 u2 u3
    rw [← hw] at w1 w2 w3
    have rC := isLakeRow_C hCK (x := x) (u := u) (w := w) (by omega) u1 w1
    by_cases c : okR nh no x u w = true
    · rw [if_pos c] at lM rC
      obtain ⟨y, hy⟩ : ∃ y, y = gn u w u := ⟨_, rfl⟩
      obtain ⟨y', hy'⟩ : ∃ y', y' = gn u w w := ⟨_, rfl⟩
      rw [← hy, ← hy'] at lM
      have hsb := setBarrels_C (s := 58) (K := sI (sI K 60 i (nI u)) 61 i (nI w)) (j := i) (x := x) (by omega) (by omega)
      obtain ⟨K', hK'⟩ : ∃ K', K' = (if x = 0 then sI (sI (sI (sI (sI K 60 i (nI u)) 61 i (nI w)) (58 + 1) i (nI 0)) (58 + 2) i (mI 1)) (58 + 3) i (mI 1) else sI (sI (sI K 60 i (nI u)) 61 i (nI w)) (58 + 1) i (nI x)) := ⟨_, rfl⟩
      rw [← hK'] at hsb
      have hx999 : x ≤ 999 := by
        unfold okR at c
        split at c
        · omega
        · simp only [decide_eq_true_eq] at c
          exact c.1
      have hz0 : x = 0 → y = mI 1 ∧ y' = mI 1 := fun q => by
        unfold okR at c
        rw [if_pos q] at c
        simp only [decide_eq_true_eq] at c
        rw [hy, hy']
        unfold gn
        rw [if_pos c, if_pos c]
        exact ⟨rfl, rfl⟩
      have hz1 : 0 < x → y = nI u ∧ y' = nI w ∧ u < nh ∧ w < no := fun q => by
        unfold okR at c
        rw [if_neg (by omega)] at c
        simp only [decide_eq_true_eq] at c
        have cg : ¬ (u = 255 ∧ w = 255) := by omega
        rw [hy, hy']
        unfold gn
        rw [if_neg cg, if_neg cg]
        exact ⟨rfl, rfl, c.2.1, c.2.2⟩
      have hOS := OS.row (K' := K') (y := y) (y' := y') h (show i < nl by omega) h9 hx999 hz0 (fun q => by
          obtain ⟨z1, z2, z3, z4⟩ := hz1 q
          exact ⟨⟨u, z3, z1⟩, ⟨w, z4, z2⟩⟩) (fun z z1 z2 z3 => by
          rw [hK']
          split
          · rw [zs_ne z3, zs_ne z2, zs_ne z1, zs_ne z3, zs_ne z2]
          · rw [zs_ne z1, zs_ne z3, zs_ne z2]) (by
          rw [hK']
          split
          · rename_i z
            rw [z]
            simp (disch := omega) only [bnd, jnt, zg_ok, gz_0, gz_1, gz_n0, gz_n1, zs_eq, zs_ne, zs_same, zs_other, zA_eq, zA_ne, Option.bind_some, Option.bind_none]
          · simp (disch := omega) only [bnd, jnt, zg_ok, gz_0, gz_1, gz_n0, gz_n1, zs_eq, zs_ne, zs_same, zs_other, zA_eq, zA_ne, Option.bind_some, Option.bind_none]) (by
          rw [hK']
          split
          · rename_i z
            rw [(hz0 z).1]
            simp (disch := omega) only [bnd, jnt, zg_ok, gz_0, gz_1, gz_n0, gz_n1, zs_eq, zs_ne, zs_same, zs_other, zA_eq, zA_ne, Option.bind_some, Option.bind_none]
            funext j
            by_cases cj : j = i
            · subst cj; rw [zs_same, zs_same]
            · rw [zs_other cj, zs_other cj, zs_other cj]
          · rename_i z
            rw [(hz1 (by omega)).1]
            simp (disch := omega) only [bnd, jnt, zg_ok, gz_0, gz_1, gz_n0, gz_n1, zs_eq, zs_ne, zs_same, zs_other, zA_eq, zA_ne, Option.bind_some, Option.bind_none]) (by
          rw [hK']
          split
          · rename_i z
            rw [(hz0 z).2]
            simp (disch := omega) only [bnd, jnt, zg_ok, gz_0, gz_1, gz_n0, gz_n1, zs_eq, zs_ne, zs_same, zs_other, zA_eq, zA_ne, Option.bind_some, Option.bind_none]
            funext j
            by_cases cj : j = i
            · subst cj; rw [zs_same, zs_same]
            · rw [zs_other cj, zs_other cj, zs_other cj]
          · rename_i z
            rw [(hz1 (by omega)).2.1]
            simp (disch := omega) only [bnd, jnt, zg_ok, gz_0, gz_1, gz_n0, gz_n1, zs_eq, zs_ne, zs_same, zs_other, zA_eq, zA_ne, Option.bind_some, Option.bind_none])
      have sC : f_X6_restoresLakes_L2 (n + 1) K R 2 1600 58 (nI i) = f_X6_restoresLakes_L2 n K' R 2 1600 58 (nI (i + 1)) := by
        have hsb' : f_X9_setBarrels (sI (sI K (58 + 2) i (nI u)) (58 + 3) i (nI w)) 58 (nI i) (nI x) = some K' := hsb
        have n4 : ¬ (1 : Int32) = nI 0 := by decide
        simp (disch := omega) only [f_X6_restoresLakes_L2, f_X6_pair, sdm, ↓zm1, ↓zm2, ↓zm3, ↓zm4, ↓zm5, ↓zm6, ↓zm7, ↓zm8, ↓zm9, ↓zm10, ↓zm11, ↓zm12, ↓zm13, ↓zm14, ↓zm15, ↓zm16, ↓zm17, ↓zm18, ↓zm19, ↓zm20, ↓zm1000000000, zq0, zq1, zq2, zq3, zq4, zq5, zq6, zq7, zq8, zq9, zq10, zq11, zq12, zq13, zq14, zq15, zq16, zq17, zq18, zq19, zq20, zq21, zq22, zq23, zq24, zq25, zq26, zq30, zq31, zq32, zq33, zq34, zq35, zq36, zq37, zq38, zq39, zq40, zq41, zq42, zq43, zq44, zq45, zq47, zq48, zq57, zq59, zq60, zq61, zq62, zq80, zq91, zq93, zq97, zq99, zq100, zq107, zq110, zq120, zq122, zq128, zq149, zq160, zq208, zq240, zq251, zq255, zq256, zq500, zq936, zq999, zq1600, zq1800, zq2048, zq3200, zq4160, zq9999, zq12345, zq1000000, zq1048576, zq100000000, bnd, jnt, zg_ok, gz_0, gz_1, gz_n0, gz_n1, zs_eq, zs_ne, zs_same, zs_other, zA_eq, zA_ne, Option.bind_some, Option.bind_none, nI_add, pk_mul, nI_clamp, nI_leI, nI_ltI, nI_eq, pk_sub, nI_mI, nI_eq_mI, mI_eq_nI, nI_lt_m, ldI_ok, inb_ok, if_pos, if_neg, dv_ok, rem_ok, div_ok, if_true, if_false, zg_ok g0, g1, g6, p2, r2, ← hx, u2, w2, rC, if_neg n4, hsb']
      have sM : f_X12_comesOn_L132 (n + 1) V (nI i) = f_X12_comesOn_L132 n (sI (sI (sI V 128 (8 + i) (nI x)) 129 (8 + i) y) 130 (8 + i) y') (nI (i + 1)) := by
        have n4 : ¬ (1 : Int32) = nI 0 := by decide
        simp (disch := omega) only [f_X12_comesOn_L132, sdm, ↓zm1, ↓zm2, ↓zm3, ↓zm4, ↓zm5, ↓zm6, ↓zm7, ↓zm8, ↓zm9, ↓zm10, ↓zm11, ↓zm12, ↓zm13, ↓zm14, ↓zm15, ↓zm16, ↓zm17, ↓zm18, ↓zm19, ↓zm20, ↓zm1000000000, zq0, zq1, zq2, zq3, zq4, zq5, zq6, zq7, zq8, zq9, zq10, zq11, zq12, zq13, zq14, zq15, zq16, zq17, zq18, zq19, zq20, zq21, zq22, zq23, zq24, zq25, zq26, zq30, zq31, zq32, zq33, zq34, zq35, zq36, zq37, zq38, zq39, zq40, zq41, zq42, zq43, zq44, zq45, zq47, zq48, zq57, zq59, zq60, zq61, zq62, zq80, zq91, zq93, zq97, zq99, zq100, zq107, zq110, zq120, zq122, zq128, zq149, zq160, zq208, zq240, zq251, zq255, zq256, zq500, zq936, zq999, zq1600, zq1800, zq2048, zq3200, zq4160, zq9999, zq12345, zq1000000, zq1048576, zq100000000, bnd, jnt, zg_ok, gz_0, gz_1, gz_n0, gz_n1, zs_eq, zs_ne, zs_same, zs_other, zA_eq, zA_ne, Option.bind_some, Option.bind_none, nI_add, pk_mul, nI_clamp, nI_leI, nI_ltI, nI_eq, pk_sub, nI_mI, nI_eq_mI, mI_eq_nI, nI_lt_m, ldI_ok, inb_ok, if_pos, if_neg, dv_ok, rem_ok, div_ok, if_true, if_false, m0, m4, lM, if_neg n4]
      rw [sC, sM]
      exact ih (i + 1) n K' _ (by omega) (by omega) hOS
    · left
      rw [if_neg c] at lM rC
      refine ⟨K, sI (sI (sI V 128 (8 + i) (nI x)) 129 (8 + i) (gn u w u)) 130 (8 + i) (gn u w w), ?_, ?_, h.SX ht, ?_⟩
      · simp (disch := omega) only [f_X6_restoresLakes_L2, f_X6_pair, sdm, ↓zm1, ↓zm2, ↓zm3, ↓zm4, ↓zm5, ↓zm6, ↓zm7, ↓zm8, ↓zm9, ↓zm10, ↓zm11, ↓zm12, ↓zm13, ↓zm14, ↓zm15, ↓zm16, ↓zm17, ↓zm18, ↓zm19, ↓zm20, ↓zm1000000000, zq0, zq1, zq2, zq3, zq4, zq5, zq6, zq7, zq8, zq9, zq10, zq11, zq12, zq13, zq14, zq15, zq16, zq17, zq18, zq19, zq20, zq21, zq22, zq23, zq24, zq25, zq26, zq30, zq31, zq32, zq33, zq34, zq35, zq36, zq37, zq38, zq39, zq40, zq41, zq42, zq43, zq44, zq45, zq47, zq48, zq57, zq59, zq60, zq61, zq62, zq80, zq91, zq93, zq97, zq99, zq100, zq107, zq110, zq120, zq122, zq128, zq149, zq160, zq208, zq240, zq251, zq255, zq256, zq500, zq936, zq999, zq1600, zq1800, zq2048, zq3200, zq4160, zq9999, zq12345, zq1000000, zq1048576, zq100000000, bnd, jnt, zg_ok, gz_0, gz_1, gz_n0, gz_n1, zs_eq, zs_ne, zs_same, zs_other, zA_eq, zA_ne, Option.bind_some, Option.bind_none, nI_add, pk_mul, nI_clamp, nI_leI, nI_ltI, nI_eq, pk_sub, nI_mI, nI_eq_mI, mI_eq_nI, nI_lt_m, ldI_ok, inb_ok, if_pos, if_neg, dv_ok, rem_ok, div_ok, if_true, if_false, zg_ok g0, g1, g6, p2, r2, ← hx, u2, w2, rC]
      · simp (disch := omega) only [f_X12_comesOn_L132, sdm, ↓zm1, ↓zm2, ↓zm3, ↓zm4, ↓zm5, ↓zm6, ↓zm7, ↓zm8, ↓zm9, ↓zm10, ↓zm11, ↓zm12, ↓zm13, ↓zm14, ↓zm15, ↓zm16, ↓zm17, ↓zm18, ↓zm19, ↓zm20, ↓zm1000000000, zq0, zq1, zq2, zq3, zq4, zq5, zq6, zq7, zq8, zq9, zq10, zq11, zq12, zq13, zq14, zq15, zq16, zq17, zq18, zq19, zq20, zq21, zq22, zq23, zq24, zq25, zq26, zq30, zq31, zq32, zq33, zq34, zq35, zq36, zq37, zq38, zq39, zq40, zq41, zq42, zq43, zq44, zq45, zq47, zq48, zq57, zq59, zq60, zq61, zq62, zq80, zq91, zq93, zq97, zq99, zq100, zq107, zq110, zq120, zq122, zq128, zq149, zq160, zq208, zq240, zq251, zq255, zq256, zq500, zq936, zq999, zq1600, zq1800, zq2048, zq3200, zq4160, zq9999, zq12345, zq1000000, zq1048576, zq100000000, bnd, jnt, zg_ok, gz_0, gz_1, gz_n0, gz_n1, zs_eq, zs_ne, zs_same, zs_other, zA_eq, zA_ne, Option.bind_some, Option.bind_none, nI_add, pk_mul, nI_clamp, nI_leI, nI_ltI, nI_eq, pk_sub, nI_mI, nI_eq_mI, mI_eq_nI, nI_lt_m, ldI_ok, inb_ok, if_pos, if_neg, dv_ok, rem_ok, div_ok, if_true, if_false, m0, m4, lM]
      · refine SM.trans h.SM ⟨fun k _ => by rw [zs_ne (by decide), zs_ne (by decide), zs_ne (by decide)], fun z hz => by rw [zs_ne (by omega), zs_ne (by omega), zs_ne (by omega)], fun v _ => by rw [zs_ne (by decide), zs_ne (by decide), zs_ne (by decide), zs_ne (by decide), zs_ne (by decide), zs_ne (by decide)]; exact ⟨rfl, rfl⟩, fun k hk => ?_, fun k _ => by rw [zs_ne (by decide), zs_ne (by decide), zs_ne (by decide)], fun k _ => by rw [zs_ne (by decide), zs_ne (by decide), zs_ne (by decide)]⟩
        simp (disch := omega) only [bnd, jnt, zg_ok, gz_0, gz_1, gz_n0, gz_n1, zs_eq, zs_ne, zs_same, zs_other, zA_eq, zA_ne, Option.bind_some, Option.bind_none]
        exact ⟨trivial, trivial, trivial⟩
theorem rooms_O (hC : CL I R 58 t nh no nl) (hM : ML J b nh no nl (vw I t)) (hE : SEp nl (sc I 58) (lv J 1)) (hf : 8 < fu) : ∀ (q i n : Nat), i + q = nh → q < n → (f_X6_restoresLakes_L90 fu n I R 58 (nI i) = some (.inl (0, I)) ∧ f_X12_comesOn_L172 fu n J (nI i) = some (.inl (0, J))) ∨ (f_X6_restoresLakes_L90 fu n I R 58 (nI i) = some (.inr ()) ∧ f_X12_comesOn_L172 fu n J (nI i) = some (.inr ()) ∧ ∀ h, i ≤ h → h < nh → 0 ≤ rmI (vw I t) (sc I 58) h nl) := by
  obtain ⟨g0, g1, g2, g3, g4, g5, g6, g7, g8, g9⟩ := id hC
  obtain ⟨⟨m0, m1⟩, m2, m3, m4, m5, m6, m7, m8, m9, m10⟩ := id hM
  intro q
  induction q with
  | zero =>
    intro i n e1 e2
    obtain ⟨n, rfl⟩ : ∃ q, n = q + 1 := ⟨n - 1, by omega⟩
    have : i = nh := by omega
    subst this
    right
    refine ⟨?_, ?_, fun h h1 h2 => absurd h1 (by omega)⟩
    · simp (disch := omega) only [f_X6_restoresLakes_L90, sdm, ↓zm1, ↓zm2, ↓zm3, ↓zm4, ↓zm5, ↓zm6, ↓zm7, ↓zm8, ↓zm9, ↓zm10, ↓zm11, ↓zm12, ↓zm13, ↓zm14, ↓zm15, ↓zm16, ↓zm17, ↓zm18, ↓zm19, ↓zm20, ↓zm1000000000, zq0, zq1, zq2, zq3, zq4, zq5, zq6, zq7, zq8, zq9, zq10, zq11, zq12, zq13, zq14, zq15, zq16, zq17, zq18, zq19, zq20, zq21, zq22, zq23, zq24, zq25, zq26, zq30, zq31, zq32, zq33, zq34, zq35, zq36, zq37, zq38, zq39, zq40, zq41, zq42, zq43, zq44, zq45, zq47, zq48, zq57, zq59, zq60, zq61, zq62, zq80, zq91, zq93, zq97, zq99, zq100, zq107, zq110, zq120, zq122, zq128, zq149, zq160, zq208, zq240, zq251, zq255, zq256, zq500, zq936, zq999, zq1600, zq1800, zq2048, zq3200, zq4160, zq9999, zq12345, zq1000000, zq1048576, zq100000000, bnd, jnt, zg_ok, gz_0, gz_1, gz_n0, gz_n1, zs_eq, zs_ne, zs_same, zs_other, zA_eq, zA_ne, Option.bind_some, Option.bind_none, nI_add, pk_mul, nI_clamp, nI_leI, nI_ltI, nI_eq, pk_sub, nI_mI, nI_eq_mI, mI_eq_nI, nI_lt_m, ldI_ok, inb_ok, if_pos, if_neg, dv_ok, rem_ok, div_ok, if_true, if_false, zg_ok g0, g1, g4]
    · simp (disch := omega) only [f_X12_comesOn_L172, sdm, ↓zm1, ↓zm2, ↓zm3, ↓zm4, ↓zm5, ↓zm6, ↓zm7, ↓zm8, ↓zm9, ↓zm10, ↓zm11, ↓zm12, ↓zm13, ↓zm14, ↓zm15, ↓zm16, ↓zm17, ↓zm18, ↓zm19, ↓zm20, ↓zm1000000000, zq0, zq1, zq2, zq3, zq4, zq5, zq6, zq7, zq8, zq9, zq10, zq11, zq12, zq13, zq14, zq15, zq16, zq17, zq18, zq19, zq20, zq21, zq22, zq23, zq24, zq25, zq26, zq30, zq31, zq32, zq33, zq34, zq35, zq36, zq37, zq38, zq39, zq40, zq41, zq42, zq43, zq44, zq45, zq47, zq48, zq57, zq59, zq60, zq61, zq62, zq80, zq91, zq93, zq97, zq99, zq100, zq107, zq110, zq120, zq122, zq128, zq149, zq160, zq208, zq240, zq251, zq255, zq256, zq500, zq936, zq999, zq1600, zq1800, zq2048, zq3200, zq4160, zq9999, zq12345, zq1000000, zq1048576, zq100000000, bnd, jnt, zg_ok, gz_0, gz_1, gz_n0, gz_n1, zs_eq, zs_ne, zs_same, zs_other, zA_eq, zA_ne, Option.bind_some, Option.bind_none, nI_add, pk_mul, nI_clamp, nI_leI, nI_ltI, nI_eq, pk_sub, nI_mI, nI_eq_mI, mI_eq_nI, nI_lt_m, ldI_ok, inb_ok, if_pos, if_neg, dv_ok, rem_ok, div_ok, if_true, if_false, m0, m2]
  | succ q ih =>
    intro i n e1 e2
    obtain ⟨n, rfl⟩ : ∃ q, n = q + 1 := ⟨n - 1, by omega⟩
    have rC := roomIn_C (fu := fu) hC hf (show i < 8 by omega)
    have rM : f_X12_room fu J (nI 1) (nI i) = _ := room_M (fu := fu) (v := 1) hM hf (by decide) (show i < nh by omega)
    rw [← hE.rmE nl (Nat.le_refl nl) g9] at rM
    by_cases c : 0 ≤ rmI (vw I t) (sc I 58) i nl
    · have c' : nI 0 ≤ rmI (vw I t) (sc I 58) i nl := c
      have sC : f_X6_restoresLakes_L90 fu (n + 1) I R 58 (nI i) = f_X6_restoresLakes_L90 fu n I R 58 (nI (i + 1)) := by
        simp (disch := omega) only [f_X6_restoresLakes_L90, sdm, ↓zm1, ↓zm2, ↓zm3, ↓zm4, ↓zm5, ↓zm6, ↓zm7, ↓zm8, ↓zm9, ↓zm10, ↓zm11, ↓zm12, ↓zm13, ↓zm14, ↓zm15, ↓zm16, ↓zm17, ↓zm18, ↓zm19, ↓zm20, ↓zm1000000000, zq0, zq1, zq2, zq3, zq4, zq5, zq6, zq7, zq8, zq9, zq10, zq11, zq12, zq13, zq14, zq15, zq16, zq17, zq18, zq19, zq20, zq21, zq22, zq23, zq24, zq25, zq26, zq30, zq31, zq32, zq33, zq34, zq35, zq36, zq37, zq38, zq39, zq40, zq41, zq42, zq43, zq44, zq45, zq47, zq48, zq57, zq59, zq60, zq61, zq62, zq80, zq91, zq93, zq97, zq99, zq100, zq107, zq110, zq120, zq122, zq128, zq149, zq160, zq208, zq240, zq251, zq255, zq256, zq500, zq936, zq999, zq1600, zq1800, zq2048, zq3200, zq4160, zq9999, zq12345, zq1000000, zq1048576, zq100000000, bnd, jnt, zg_ok, gz_0, gz_1, gz_n0, gz_n1, zs_eq, zs_ne, zs_same, zs_other, zA_eq, zA_ne, Option.bind_some, Option.bind_none, nI_add, pk_mul, nI_clamp, nI_leI, nI_ltI, nI_eq, pk_sub, nI_mI, nI_eq_mI, mI_eq_nI, nI_lt_m, ldI_ok, inb_ok, if_pos, if_neg, dv_ok, rem_ok, div_ok, if_true, if_false, zg_ok g0, g1, g4, rC, if_pos c']
      have sM : f_X12_comesOn_L172 fu (n + 1) J (nI i) = f_X12_comesOn_L172 fu n J (nI (i + 1)) := by
        simp (disch := omega) only [f_X12_comesOn_L172, sdm, ↓zm1, ↓zm2, ↓zm3, ↓zm4, ↓zm5, ↓zm6, ↓zm7, ↓zm8, ↓zm9, ↓zm10, ↓zm11, ↓zm12, ↓zm13, ↓zm14, ↓zm15, ↓zm16, ↓zm17, ↓zm18, ↓zm19, ↓zm20, ↓zm1000000000, zq0, zq1, zq2, zq3, zq4, zq5, zq6, zq7, zq8, zq9, zq10, zq11, zq12, zq13, zq14, zq15, zq16, zq17, zq18, zq19, zq20, zq21, zq22, zq23, zq24, zq25, zq26, zq30, zq31, zq32, zq33, zq34, zq35, zq36, zq37, zq38, zq39, zq40, zq41, zq42, zq43, zq44, zq45, zq47, zq48, zq57, zq59, zq60, zq61, zq62, zq80, zq91, zq93, zq97, zq99, zq100, zq107, zq110, zq120, zq122, zq128, zq149, zq160, zq208, zq240, zq251, zq255, zq256, zq500, zq936, zq999, zq1600, zq1800, zq2048, zq3200, zq4160, zq9999, zq12345, zq1000000, zq1048576, zq100000000, bnd, jnt, zg_ok, gz_0, gz_1, gz_n0, gz_n1, zs_eq, zs_ne, zs_same, zs_other, zA_eq, zA_ne, Option.bind_some, Option.bind_none, nI_add, pk_mul, nI_clamp, nI_leI, nI_ltI, nI_eq, pk_sub, nI_mI, nI_eq_mI, mI_eq_nI, nI_lt_m, ldI_ok, inb_ok, if_pos, if_neg, dv_ok, rem_ok, div_ok, if_true, if_false, m0, m2, rM, if_pos c']
      rw [sC, sM]
      rcases ih (i + 1) n (by omega) (by omega) with ⟨a1, a2⟩ | ⟨a1, a2, a3⟩
      · exact Or.inl ⟨a1, a2⟩
      · exact Or.inr ⟨a1, a2, fun h h1 h2 => by
          by_cases ch : h = i
          · subst ch; exact c
          · exact a3 h (by omega) h2⟩
    · have c' : ¬ nI 0 ≤ rmI (vw I t) (sc I 58) i nl := c
      left
      refine ⟨?_, ?_⟩
      · simp (disch := omega) only [f_X6_restoresLakes_L90, sdm, ↓zm1, ↓zm2, ↓zm3, ↓zm4, ↓zm5, ↓zm6, ↓zm7, ↓zm8, ↓zm9, ↓zm10, ↓zm11, ↓zm12, ↓zm13, ↓zm14, ↓zm15, ↓zm16, ↓zm17, ↓zm18, ↓zm19, ↓zm20, ↓zm1000000000, zq0, zq1, zq2, zq3, zq4, zq5, zq6, zq7, zq8, zq9, zq10, zq11, zq12, zq13, zq14, zq15, zq16, zq17, zq18, zq19, zq20, zq21, zq22, zq23, zq24, zq25, zq26, zq30, zq31, zq32, zq33, zq34, zq35, zq36, zq37, zq38, zq39, zq40, zq41, zq42, zq43, zq44, zq45, zq47, zq48, zq57, zq59, zq60, zq61, zq62, zq80, zq91, zq93, zq97, zq99, zq100, zq107, zq110, zq120, zq122, zq128, zq149, zq160, zq208, zq240, zq251, zq255, zq256, zq500, zq936, zq999, zq1600, zq1800, zq2048, zq3200, zq4160, zq9999, zq12345, zq1000000, zq1048576, zq100000000, bnd, jnt, zg_ok, gz_0, gz_1, gz_n0, gz_n1, zs_eq, zs_ne, zs_same, zs_other, zA_eq, zA_ne, Option.bind_some, Option.bind_none, nI_add, pk_mul, nI_clamp, nI_leI, nI_ltI, nI_eq, pk_sub, nI_mI, nI_eq_mI, mI_eq_nI, nI_lt_m, ldI_ok, inb_ok, if_pos, if_neg, dv_ok, rem_ok, div_ok, if_true, if_false, zg_ok g0, g1, g4, rC, if_neg c']
      · simp (disch := omega) only [f_X12_comesOn_L172, sdm, ↓zm1, ↓zm2, ↓zm3, ↓zm4, ↓zm5, ↓zm6, ↓zm7, ↓zm8, ↓zm9, ↓zm10, ↓zm11, ↓zm12, ↓zm13, ↓zm14, ↓zm15, ↓zm16, ↓zm17, ↓zm18, ↓zm19, ↓zm20, ↓zm1000000000, zq0, zq1, zq2, zq3, zq4, zq5, zq6, zq7, zq8, zq9, zq10, zq11, zq12, zq13, zq14, zq15, zq16, zq17, zq18, zq19, zq20, zq21, zq22, zq23, zq24, zq25, zq26, zq30, zq31, zq32, zq33, zq34, zq35, zq36, zq37, zq38, zq39, zq40, zq41, zq42, zq43, zq44, zq45, zq47, zq48, zq57, zq59, zq60, zq61, zq62, zq80, zq91, zq93, zq97, zq99, zq100, zq107, zq110, zq120, zq122, zq128, zq149, zq160, zq208, zq240, zq251, zq255, zq256, zq500, zq936, zq999, zq1600, zq1800, zq2048, zq3200, zq4160, zq9999, zq12345, zq1000000, zq1048576, zq100000000, bnd, jnt, zg_ok, gz_0, gz_1, gz_n0, gz_n1, zs_eq, zs_ne, zs_same, zs_other, zA_eq, zA_ne, Option.bind_some, Option.bind_none, nI_add, pk_mul, nI_clamp, nI_leI, nI_ltI, nI_eq, pk_sub, nI_mI, nI_eq_mI, mI_eq_nI, nI_lt_m, ldI_ok, inb_ok, if_pos, if_neg, dv_ok, rem_ok, div_ok, if_true, if_false, m0, m2, rM, if_neg c']
end
