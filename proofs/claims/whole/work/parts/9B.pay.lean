/-! pay -/
theorem sub_bits {B Bo l : Nat} (hl : l < 31) (h : nI B &&& (nI Bo ^^^ (-1)) = 0) (hb : B.testBit l = true) : Bo.testBit l = true := by
  have h1 : (nI B &&& (nI Bo ^^^ (-1))).toBitVec = (0 : Int32).toBitVec := by rw [h]
  have e : (-1 : Int32).toBitVec = BitVec.allOnes 32 := by decide
  have h2 : (BitVec.ofNat 32 B &&& (BitVec.ofNat 32 Bo ^^^ BitVec.allOnes 32)) = 0#32 := by
    rw [← e]
    exact h1
  have h3 : (BitVec.ofNat 32 B &&& (BitVec.ofNat 32 Bo ^^^ BitVec.allOnes 32)).getLsbD l = false := by
    rw [h2]
    exact BitVec.getLsbD_zero
  have hl2 : l < 32 := by omega
  cases hbo : Bo.testBit l with
  | true => rfl
  | false =>
    rw [BitVec.getLsbD_and, BitVec.getLsbD_xor, BitVec.getLsbD_ofNat, BitVec.getLsbD_ofNat, BitVec.getLsbD_allOnes, hb, hbo, decide_eq_true hl2] at h3
    simp at h3
def gv (f : Nat → Int32) (B : Nat) (v : Int32) (n : Nat) : Nat → Int32 := fun j => if j < n ∧ B.testBit j = true then v else f j
theorem gv_step {f : Nat → Int32} {B i : Nat} {v : Int32} (h : B.testBit i = true) : upd (gv f B v i) i v = gv f B v (i + 1) := by
  funext j
  unfold gv
  by_cases c : j = i
  · subst c
    rw [zs_same, if_pos ⟨by omega, h⟩]
  · rw [zs_other c]
    by_cases c2 : j < i ∧ B.testBit j = true
    · rw [if_pos c2, if_pos ⟨by omega, c2.2⟩]
    · rw [if_neg c2, if_neg (fun q => c2 ⟨by omega, q.2⟩)]
theorem gv_skip {f : Nat → Int32} {B i : Nat} {v : Int32} (h : ¬ B.testBit i = true) : gv f B v i = gv f B v (i + 1) := by
  funext j
  unfold gv
  by_cases c2 : j < i ∧ B.testBit j = true
  · rw [if_pos c2, if_pos ⟨by omega, c2.2⟩]
  · rw [if_neg c2, if_neg (fun q => c2 ⟨by
      have h1 := q.1
      by_cases c : j = i
      · subst c; exact absurd q.2 h
      · omega, q.2⟩)]
theorem give_C {I : HI} {R : HR} {t nh no nl fu B : Nat} {v : Int32} (h : CL I R 49 t nh no nl) (hf : 8 < fu) (hB : B < 2 ^ 31) : ∃ K, f_X9_give fu I R 49 (nI B) v = some K ∧ (∀ x, x ≠ 52 → K x = I x) ∧ K 52 = gv (I 52) B v nl := by
  obtain ⟨h0, h1, h2, h3, h4, h5, h6, h7, h8, h9⟩ := h
  have key : ∃ K : HI, f_X9_give_L2 fu I R 49 (nI B) v 0 = some K ∧ (∀ x, x ≠ 52 → K x = I x) ∧ K 52 = gv (I 52) B v nl := by
    refine loopP (fun n (a : HI) i => f_X9_give_L2 n a R 49 (nI B) v i) (fun i a => (∀ x, x ≠ 52 → a x = I x) ∧ a 52 = gv (I 52) B v i) (fun a => (∀ x, x ≠ 52 → a x = I x) ∧ a 52 = gv (I 52) B v nl) nl fu I ⟨fun _ _ => rfl, ?_⟩ ?_ ?_ (by omega)
    · funext j
      unfold gv
      rw [if_neg (fun q => absurd q.1 (by omega))]
    · intro n i K hi ha
      obtain ⟨a1, a2⟩ := ha
      have e6 : K t 3 = nI nl := by rw [a1 t (by omega)]; exact h6
      by_cases c : B.testBit i = true
      · have cb : ¬ nI (B &&& 2 ^ i) = nI 0 := fun q => (and_bit hB (by omega)).mp q c
        refine ⟨sI K 52 i v, ?_, fun x hx => by rw [zs_ne hx]; exact a1 x hx, ?_⟩
        · simp (disch := omega) only [f_X9_give_L2, sdm, ↓zm1, ↓zm2, ↓zm3, ↓zm4, ↓zm5, ↓zm6, ↓zm7, ↓zm8, ↓zm9, ↓zm10, ↓zm11, ↓zm12, ↓zm13, ↓zm14, ↓zm15, ↓zm16, ↓zm17, ↓zm18, ↓zm19, ↓zm20, ↓zm1000000000, zq0, zq1, zq2, zq3, zq4, zq5, zq6, zq7, zq8, zq9, zq10, zq11, zq12, zq13, zq14, zq15, zq16, zq17, zq18, zq19, zq20, zq21, zq22, zq23, zq24, zq25, zq26, zq30, zq31, zq32, zq33, zq34, zq35, zq36, zq37, zq38, zq39, zq40, zq41, zq42, zq43, zq44, zq45, zq47, zq48, zq57, zq59, zq60, zq61, zq62, zq80, zq91, zq93, zq97, zq99, zq100, zq107, zq110, zq120, zq122, zq128, zq149, zq160, zq208, zq240, zq251, zq255, zq256, zq500, zq936, zq999, zq1600, zq1800, zq2048, zq3200, zq4160, zq9999, zq12345, zq1000000, zq1048576, zq100000000, bnd, jnt, zg_ok, gz_0, gz_1, gz_n0, gz_n1, zs_eq, zs_ne, zs_same, zs_other, zA_eq, zA_ne, Option.bind_some, Option.bind_none, nI_add, pk_mul, nI_clamp, nI_leI, nI_ltI, nI_eq, pk_sub, nI_mI, nI_eq_mI, mI_eq_nI, nI_lt_m, ldI_ok, inb_ok, if_pos, if_neg, dv_ok, rem_ok, div_ok, if_true, if_false, zg_ok h0, h1, e6, sh_ok, andb_ok, if_neg cb]
        · rw [zs_eq, a2, gv_step c]
      · have cb : nI (B &&& 2 ^ i) = nI 0 := (and_bit hB (by omega)).mpr c
        refine ⟨K, ?_, a1, ?_⟩
        · simp (disch := omega) only [f_X9_give_L2, sdm, ↓zm1, ↓zm2, ↓zm3, ↓zm4, ↓zm5, ↓zm6, ↓zm7, ↓zm8, ↓zm9, ↓zm10, ↓zm11, ↓zm12, ↓zm13, ↓zm14, ↓zm15, ↓zm16, ↓zm17, ↓zm18, ↓zm19, ↓zm20, ↓zm1000000000, zq0, zq1, zq2, zq3, zq4, zq5, zq6, zq7, zq8, zq9, zq10, zq11, zq12, zq13, zq14, zq15, zq16, zq17, zq18, zq19, zq20, zq21, zq22, zq23, zq24, zq25, zq26, zq30, zq31, zq32, zq33, zq34, zq35, zq36, zq37, zq38, zq39, zq40, zq41, zq42, zq43, zq44, zq45, zq47, zq48, zq57, zq59, zq60, zq61, zq62, zq80, zq91, zq93, zq97, zq99, zq100, zq107, zq110, zq120, zq122, zq128, zq149, zq160, zq208, zq240, zq251, zq255, zq256, zq500, zq936, zq999, zq1600, zq1800, zq2048, zq3200, zq4160, zq9999, zq12345, zq1000000, zq1048576, zq100000000, bnd, jnt, zg_ok, gz_0, gz_1, gz_n0, gz_n1, zs_eq, zs_ne, zs_same, zs_other, zA_eq, zA_ne, Option.bind_some, Option.bind_none, nI_add, pk_mul, nI_clamp, nI_leI, nI_ltI, nI_eq, pk_sub, nI_mI, nI_eq_mI, mI_eq_nI, nI_lt_m, ldI_ok, inb_ok, if_pos, if_neg, dv_ok, rem_ok, div_ok, if_true, if_false, zg_ok h0, h1, e6, sh_ok, andb_ok, if_pos cb]
        · rw [a2, gv_skip c]
    · intro n K ha
      have e6 : K t 3 = nI nl := by rw [ha.1 t (by omega)]; exact h6
      refine ⟨K, ?_, ha⟩
      simp (disch := omega) only [f_X9_give_L2, sdm, ↓zm1, ↓zm2, ↓zm3, ↓zm4, ↓zm5, ↓zm6, ↓zm7, ↓zm8, ↓zm9, ↓zm10, ↓zm11, ↓zm12, ↓zm13, ↓zm14, ↓zm15, ↓zm16, ↓zm17, ↓zm18, ↓zm19, ↓zm20, ↓zm1000000000, zq0, zq1, zq2, zq3, zq4, zq5, zq6, zq7, zq8, zq9, zq10, zq11, zq12, zq13, zq14, zq15, zq16, zq17, zq18, zq19, zq20, zq21, zq22, zq23, zq24, zq25, zq26, zq30, zq31, zq32, zq33, zq34, zq35, zq36, zq37, zq38, zq39, zq40, zq41, zq42, zq43, zq44, zq45, zq47, zq48, zq57, zq59, zq60, zq61, zq62, zq80, zq91, zq93, zq97, zq99, zq100, zq107, zq110, zq120, zq122, zq128, zq149, zq160, zq208, zq240, zq251, zq255, zq256, zq500, zq936, zq999, zq1600, zq1800, zq2048, zq3200, zq4160, zq9999, zq12345, zq1000000, zq1048576, zq100000000, bnd, jnt, zg_ok, gz_0, gz_1, gz_n0, gz_n1, zs_eq, zs_ne, zs_same, zs_other, zA_eq, zA_ne, Option.bind_some, Option.bind_none, nI_add, pk_mul, nI_clamp, nI_leI, nI_ltI, nI_eq, pk_sub, nI_mI, nI_eq_mI, mI_eq_nI, nI_lt_m, ldI_ok, inb_ok, if_pos, if_neg, dv_ok, rem_ok, div_ok, if_true, if_false, zg_ok h0, h1, e6]
  obtain ⟨K, k1, k2⟩ := key
  refine ⟨K, ?_, k2⟩
  unfold f_X9_give
  rw [k1]
  rfl
theorem give_M {J : HI} {b nh no nl fu B : Nat} {D : HI} {v : Int32} (h : ML J b nh no nl D) (hf : 8 < fu) (hB : B < 2 ^ 31) : ∃ K, f_X12_pay_L144 fu J v (nI B) 0 = some K ∧ (∀ x, x ≠ 130 → K x = J x) ∧ K 130 = gv (J 130) B v nl := by
  obtain ⟨⟨h0, h1⟩, h2, h3, h4, h5, h6, h7, h8, h9, h10⟩ := h
  refine loopP (fun n (a : HI) i => f_X12_pay_L144 n a v (nI B) i) (fun i a => (∀ x, x ≠ 130 → a x = J x) ∧ a 130 = gv (J 130) B v i) (fun a => (∀ x, x ≠ 130 → a x = J x) ∧ a 130 = gv (J 130) B v nl) nl fu J ⟨fun _ _ => rfl, ?_⟩ ?_ ?_ (by omega)
  · funext j
    unfold gv
    rw [if_neg (fun q => absurd q.1 (by omega))]
  · intro n i K hi ha
    obtain ⟨a1, a2⟩ := ha
    have e0 : K 100 13 = nI b := by rw [a1 100 (by omega)]; exact h0
    have e6 : K 106 b = nI nl := by rw [a1 106 (by omega)]; exact h4
    have hb := has2_ok (x := B) (i := i) hB (by omega)
    have n4 : ¬ nI 1 = nI 0 := by decide
    by_cases c : B.testBit i = true
    · rw [if_pos c] at hb
      refine ⟨sI K 130 i v, ?_, fun x hx => by rw [zs_ne hx]; exact a1 x hx, ?_⟩
      · simp (disch := omega) only [f_X12_pay_L144, sdm, ↓zm1, ↓zm2, ↓zm3, ↓zm4, ↓zm5, ↓zm6, ↓zm7, ↓zm8, ↓zm9, ↓zm10, ↓zm11, ↓zm12, ↓zm13, ↓zm14, ↓zm15, ↓zm16, ↓zm17, ↓zm18, ↓zm19, ↓zm20, ↓zm1000000000, zq0, zq1, zq2, zq3, zq4, zq5, zq6, zq7, zq8, zq9, zq10, zq11, zq12, zq13, zq14, zq15, zq16, zq17, zq18, zq19, zq20, zq21, zq22, zq23, zq24, zq25, zq26, zq30, zq31, zq32, zq33, zq34, zq35, zq36, zq37, zq38, zq39, zq40, zq41, zq42, zq43, zq44, zq45, zq47, zq48, zq57, zq59, zq60, zq61, zq62, zq80, zq91, zq93, zq97, zq99, zq100, zq107, zq110, zq120, zq122, zq128, zq149, zq160, zq208, zq240, zq251, zq255, zq256, zq500, zq936, zq999, zq1600, zq1800, zq2048, zq3200, zq4160, zq9999, zq12345, zq1000000, zq1048576, zq100000000, bnd, jnt, zg_ok, gz_0, gz_1, gz_n0, gz_n1, zs_eq, zs_ne, zs_same, zs_other, zA_eq, zA_ne, Option.bind_some, Option.bind_none, nI_add, pk_mul, nI_clamp, nI_leI, nI_ltI, nI_eq, pk_sub, nI_mI, nI_eq_mI, mI_eq_nI, nI_lt_m, ldI_ok, inb_ok, if_pos, if_neg, dv_ok, rem_ok, div_ok, if_true, if_false, e0, e6, hb, if_neg n4]
      · rw [zs_eq, a2, gv_step c]
    · rw [if_neg c] at hb
      refine ⟨K, ?_, a1, ?_⟩
      · simp (disch := omega) only [f_X12_pay_L144, sdm, ↓zm1, ↓zm2, ↓zm3, ↓zm4, ↓zm5, ↓zm6, ↓zm7, ↓zm8, ↓zm9, ↓zm10, ↓zm11, ↓zm12, ↓zm13, ↓zm14, ↓zm15, ↓zm16, ↓zm17, ↓zm18, ↓zm19, ↓zm20, ↓zm1000000000, zq0, zq1, zq2, zq3, zq4, zq5, zq6, zq7, zq8, zq9, zq10, zq11, zq12, zq13, zq14, zq15, zq16, zq17, zq18, zq19, zq20, zq21, zq22, zq23, zq24, zq25, zq26, zq30, zq31, zq32, zq33, zq34, zq35, zq36, zq37, zq38, zq39, zq40, zq41, zq42, zq43, zq44, zq45, zq47, zq48, zq57, zq59, zq60, zq61, zq62, zq80, zq91, zq93, zq97, zq99, zq100, zq107, zq110, zq120, zq122, zq128, zq149, zq160, zq208, zq240, zq251, zq255, zq256, zq500, zq936, zq999, zq1600, zq1800, zq2048, zq3200, zq4160, zq9999, zq12345, zq1000000, zq1048576, zq100000000, bnd, jnt, zg_ok, gz_0, gz_1, gz_n0, gz_n1, zs_eq, zs_ne, zs_same, zs_other, zA_eq, zA_ne, Option.bind_some, Option.bind_none, nI_add, pk_mul, nI_clamp, nI_leI, nI_ltI, nI_eq, pk_sub, nI_mI, nI_eq_mI, mI_eq_nI, nI_lt_m, ldI_ok, inb_ok, if_pos, if_neg, dv_ok, rem_ok, div_ok, if_true, if_false, e0, e6, hb]
      · rw [a2, gv_skip c]
  · intro n K ha
    have e0 : K 100 13 = nI b := by rw [ha.1 100 (by omega)]; exact h0
    have e6 : K 106 b = nI nl := by rw [ha.1 106 (by omega)]; exact h4
    refine ⟨K, ?_, ha⟩
    simp (disch := omega) only [f_X12_pay_L144, sdm, ↓zm1, ↓zm2, ↓zm3, ↓zm4, ↓zm5, ↓zm6, ↓zm7, ↓zm8, ↓zm9, ↓zm10, ↓zm11, ↓zm12, ↓zm13, ↓zm14, ↓zm15, ↓zm16, ↓zm17, ↓zm18, ↓zm19, ↓zm20, ↓zm1000000000, zq0, zq1, zq2, zq3, zq4, zq5, zq6, zq7, zq8, zq9, zq10, zq11, zq12, zq13, zq14, zq15, zq16, zq17, zq18, zq19, zq20, zq21, zq22, zq23, zq24, zq25, zq26, zq30, zq31, zq32, zq33, zq34, zq35, zq36, zq37, zq38, zq39, zq40, zq41, zq42, zq43, zq44, zq45, zq47, zq48, zq57, zq59, zq60, zq61, zq62, zq80, zq91, zq93, zq97, zq99, zq100, zq107, zq110, zq120, zq122, zq128, zq149, zq160, zq208, zq240, zq251, zq255, zq256, zq500, zq936, zq999, zq1600, zq1800, zq2048, zq3200, zq4160, zq9999, zq12345, zq1000000, zq1048576, zq100000000, bnd, jnt, zg_ok, gz_0, gz_1, gz_n0, gz_n1, zs_eq, zs_ne, zs_same, zs_other, zA_eq, zA_ne, Option.bind_some, Option.bind_none, nI_add, pk_mul, nI_clamp, nI_leI, nI_ltI, nI_eq, pk_sub, nI_mI, nI_eq_mI, mI_eq_nI, nI_lt_m, ldI_ok, inb_ok, if_pos, if_neg, dv_ok, rem_ok, div_ok, if_true, if_false, e0, e6]
/-- four cells -/
def up4 (f : Nat → Int32) (a : Nat) (v : Nat → Int32) : Nat → Int32 := upd (upd (upd (upd f a (v 0)) (a + 1) (v 1)) (a + 2) (v 2)) (a + 3) (v 3)
theorem up4_in {f v : Nat → Int32} {a c : Nat} (hc : c < 4) : up4 f a v (a + c) = v c := by
  have hz : c = 0 ∨ c = 1 ∨ c = 2 ∨ c = 3 := by omega
  unfold up4
  rcases hz with q | q | q | q <;> subst q <;> simp (disch := omega) only [zs_same, zs_other, Nat.add_zero]
theorem up4_out {f v : Nat → Int32} {a k : Nat} (h : k < a ∨ a + 4 ≤ k) : up4 f a v k = f k := by
  unfold up4
  simp (disch := omega) only [zs_other]
def sh4 (f : Nat → Int32) (i : Nat) : Nat → Int32 := fun k => if k < i then f (k + 4) else f k
theorem shift_M {J : HI} {fu : Nat} (hf : 1600 < fu) : ∃ K, f_X12_writesDown_L14 fu J 0 = some K ∧ (∀ x, x ≠ 133 → K x = J x) ∧ K 133 = sh4 (J 133) 156 := by
  refine loopP (fun n (a : HI) i => f_X12_writesDown_L14 n a i) (fun i a => (∀ x, x ≠ 133 → a x = J x) ∧ a 133 = sh4 (J 133) i) (fun a => (∀ x, x ≠ 133 → a x = J x) ∧ a 133 = sh4 (J 133) 156) 156 fu J ⟨fun _ _ => rfl, ?_⟩ ?_ ?_ (by omega)
  · funext j
    unfold sh4
    rw [if_neg (by omega)]
  · intro n i K hi ha
    obtain ⟨a1, a2⟩ := ha
    have q156 : (156 : Int32) = nI 156 := rfl
    have e : K 133 (i + 4) = J 133 (i + 4) := by
      rw [a2]
      unfold sh4
      rw [if_neg (by omega)]
    refine ⟨sI K 133 i (J 133 (i + 4)), ?_, fun x hx => by rw [zs_ne hx]; exact a1 x hx, ?_⟩
    · simp (disch := omega) only [f_X12_writesDown_L14, q156, sdm, ↓zm1, ↓zm2, ↓zm3, ↓zm4, ↓zm5, ↓zm6, ↓zm7, ↓zm8, ↓zm9, ↓zm10, ↓zm11, ↓zm12, ↓zm13, ↓zm14, ↓zm15, ↓zm16, ↓zm17, ↓zm18, ↓zm19, ↓zm20, ↓zm1000000000, zq0, zq1, zq2, zq3, zq4, zq5, zq6, zq7, zq8, zq9, zq10, zq11, zq12, zq13, zq14, zq15, zq16, zq17, zq18, zq19, zq20, zq21, zq22, zq23, zq24, zq25, zq26, zq30, zq31, zq32, zq33, zq34, zq35, zq36, zq37, zq38, zq39, zq40, zq41, zq42, zq43, zq44, zq45, zq47, zq48, zq57, zq59, zq60, zq61, zq62, zq80, zq91, zq93, zq97, zq99, zq100, zq107, zq110, zq120, zq122, zq128, zq149, zq160, zq208, zq240, zq251, zq255, zq256, zq500, zq936, zq999, zq1600, zq1800, zq2048, zq3200, zq4160, zq9999, zq12345, zq1000000, zq1048576, zq100000000, bnd, jnt, zg_ok, gz_0, gz_1, gz_n0, gz_n1, zs_eq, zs_ne, zs_same, zs_other, zA_eq, zA_ne, Option.bind_some, Option.bind_none, nI_add, pk_mul, nI_clamp, nI_leI, nI_ltI, nI_eq, pk_sub, nI_mI, nI_eq_mI, mI_eq_nI, nI_lt_m, ldI_ok, inb_ok, if_pos, if_neg, dv_ok, rem_ok, div_ok, if_true, if_false, e]
    · rw [zs_eq, a2]
      funext j
      unfold sh4
      by_cases c : j = i
      · subst c
        rw [zs_same, if_pos (by omega)]
      · rw [zs_other c]
        by_cases c2 : j < i
        · rw [if_pos c2, if_pos (by omega)]
        · rw [if_neg c2, if_neg (by omega)]
  · intro n K ha
    refine ⟨K, ?_, ha⟩
    have q156 : (156 : Int32) = nI 156 := rfl
    simp (disch := omega) only [f_X12_writesDown_L14, q156, sdm, ↓zm1, ↓zm2, ↓zm3, ↓zm4, ↓zm5, ↓zm6, ↓zm7, ↓zm8, ↓zm9, ↓zm10, ↓zm11, ↓zm12, ↓zm13, ↓zm14, ↓zm15, ↓zm16, ↓zm17, ↓zm18, ↓zm19, ↓zm20, ↓zm1000000000, zq0, zq1, zq2, zq3, zq4, zq5, zq6, zq7, zq8, zq9, zq10, zq11, zq12, zq13, zq14, zq15, zq16, zq17, zq18, zq19, zq20, zq21, zq22, zq23, zq24, zq25, zq26, zq30, zq31, zq32, zq33, zq34, zq35, zq36, zq37, zq38, zq39, zq40, zq41, zq42, zq43, zq44, zq45, zq47, zq48, zq57, zq59, zq60, zq61, zq62, zq80, zq91, zq93, zq97, zq99, zq100, zq107, zq110, zq120, zq122, zq128, zq149, zq160, zq208, zq240, zq251, zq255, zq256, zq500, zq936, zq999, zq1600, zq1800, zq2048, zq3200, zq4160, zq9999, zq12345, zq1000000, zq1048576, zq100000000, bnd, jnt, zg_ok, gz_0, gz_1, gz_n0, gz_n1, zs_eq, zs_ne, zs_same, zs_other, zA_eq, zA_ne, Option.bind_some, Option.bind_none, nI_add, pk_mul, nI_clamp, nI_leI, nI_ltI, nI_eq, pk_sub, nI_mI, nI_eq_mI, mI_eq_nI, nI_lt_m, ldI_ok, inb_ok, if_pos, if_neg, dv_ok, rem_ok, div_ok, if_true, if_false]
theorem add_C {I : HI} {q : Nat} (hq : I 32 1 = nI q) (hq2 : q < 2 ^ 30) (v : Nat → Int32) : ∃ I', f_X5_add I (v 0) (v 1) (v 2) (v 3) = some I' ∧ (∀ x, x ≠ 32 → x ≠ 33 → I' x = I x) ∧ I' 32 1 = nI (q + 1) ∧ I' 33 = up4 (I 33) (4 * (q % 60)) v := by
  have q60 : (60 : Int32) = nI 60 := rfl
  refine ⟨sI (sI (sI (sI (sI I 33 (4 * (q % 60)) (v 0)) 33 (4 * (q % 60) + 1) (v 1)) 33 (4 * (q % 60) + 2) (v 2)) 33 (4 * (q % 60) + 3) (v 3)) 32 1 (nI (q + 1)), ?_, ?_, ?_, ?_⟩
  · unfold f_X5_add
    simp (disch := omega) only [q60, sdm, ↓zm1, ↓zm2, ↓zm3, ↓zm4, ↓zm5, ↓zm6, ↓zm7, ↓zm8, ↓zm9, ↓zm10, ↓zm11, ↓zm12, ↓zm13, ↓zm14, ↓zm15, ↓zm16, ↓zm17, ↓zm18, ↓zm19, ↓zm20, ↓zm1000000000, zq0, zq1, zq2, zq3, zq4, zq5, zq6, zq7, zq8, zq9, zq10, zq11, zq12, zq13, zq14, zq15, zq16, zq17, zq18, zq19, zq20, zq21, zq22, zq23, zq24, zq25, zq26, zq30, zq31, zq32, zq33, zq34, zq35, zq36, zq37, zq38, zq39, zq40, zq41, zq42, zq43, zq44, zq45, zq47, zq48, zq57, zq59, zq60, zq61, zq62, zq80, zq91, zq93, zq97, zq99, zq100, zq107, zq110, zq120, zq122, zq128, zq149, zq160, zq208, zq240, zq251, zq255, zq256, zq500, zq936, zq999, zq1600, zq1800, zq2048, zq3200, zq4160, zq9999, zq12345, zq1000000, zq1048576, zq100000000, bnd, jnt, zg_ok, gz_0, gz_1, gz_n0, gz_n1, zs_eq, zs_ne, zs_same, zs_other, zA_eq, zA_ne, Option.bind_some, Option.bind_none, nI_add, pk_mul, nI_clamp, nI_leI, nI_ltI, nI_eq, pk_sub, nI_mI, nI_eq_mI, mI_eq_nI, nI_lt_m, ldI_ok, inb_ok, if_pos, if_neg, dv_ok, rem_ok, div_ok, if_true, if_false, hq]
  · intro x h1 h2
    rw [zs_ne h1, zs_ne h2, zs_ne h2, zs_ne h2, zs_ne h2]
  · rw [zs_eq, zs_same]
  · rw [zs_ne (by decide), zs_eq, zs_eq, zs_eq, zs_eq]
    rfl
def dnK (K : HI) (p1 p2 p3 : Int32) : Option HI :=
  ldI (K 132) 26 0 fun v11 =>
    bnd ((4 * v11)) fun v12 =>
    ldI (K 127) 26 0 fun v13 =>
    inb 4160 v12 <|
    bnd (sI K 133 (v12 : Int32).toNatClampNeg v13) fun I14 =>
    inb 4160 (v12 + 1) <|
    bnd (sI I14 133 ((v12 + 1) : Int32).toNatClampNeg p1) fun I15 =>
    inb 4160 (v12 + 2) <|
    bnd (sI I15 133 ((v12 + 2) : Int32).toNatClampNeg p2) fun I16 =>
    inb 4160 (v12 + 3) <|
    bnd (sI I16 133 ((v12 + 3) : Int32).toNatClampNeg p3) fun I17 =>
    ldI (I17 132) 26 0 fun v18 =>
    inb 26 0 <|
    bnd (sI I17 132 (0 : Int32).toNatClampNeg (v18 + 1)) fun I19 =>
    some I19
theorem down_K {K : HI} {g : Nat} {v : Nat → Int32} (e1 : K 132 0 = nI g) (e2 : g < 40) (e3 : K 127 0 = v 0) : ∃ J', dnK K (v 1) (v 2) (v 3) = some J' ∧ (∀ x, x ≠ 132 → x ≠ 133 → J' x = K x) ∧ (∀ k, k ≠ 0 → J' 132 k = K 132 k) ∧ J' 132 0 = nI (g + 1) ∧ J' 133 = up4 (K 133) (4 * g) v := by
  refine ⟨sI (sI (sI (sI (sI K 133 (4 * g) (v 0)) 133 (4 * g + 1) (v 1)) 133 (4 * g + 2) (v 2)) 133 (4 * g + 3) (v 3)) 132 0 (nI (g + 1)), ?_, ?_, ?_, ?_, ?_⟩
  · unfold dnK
    simp (disch := omega) only [sdm, ↓zm1, ↓zm2, ↓zm3, ↓zm4, ↓zm5, ↓zm6, ↓zm7, ↓zm8, ↓zm9, ↓zm10, ↓zm11, ↓zm12, ↓zm13, ↓zm14, ↓zm15, ↓zm16, ↓zm17, ↓zm18, ↓zm19, ↓zm20, ↓zm1000000000, zq0, zq1, zq2, zq3, zq4, zq5, zq6, zq7, zq8, zq9, zq10, zq11, zq12, zq13, zq14, zq15, zq16, zq17, zq18, zq19, zq20, zq21, zq22, zq23, zq24, zq25, zq26, zq30, zq31, zq32, zq33, zq34, zq35, zq36, zq37, zq38, zq39, zq40, zq41, zq42, zq43, zq44, zq45, zq47, zq48, zq57, zq59, zq60, zq61, zq62, zq80, zq91, zq93, zq97, zq99, zq100, zq107, zq110, zq120, zq122, zq128, zq149, zq160, zq208, zq240, zq251, zq255, zq256, zq500, zq936, zq999, zq1600, zq1800, zq2048, zq3200, zq4160, zq9999, zq12345, zq1000000, zq1048576, zq100000000, bnd, jnt, zg_ok, gz_0, gz_1, gz_n0, gz_n1, zs_eq, zs_ne, zs_same, zs_other, zA_eq, zA_ne, Option.bind_some, Option.bind_none, nI_add, pk_mul, nI_clamp, nI_leI, nI_ltI, nI_eq, pk_sub, nI_mI, nI_eq_mI, mI_eq_nI, nI_lt_m, ldI_ok, inb_ok, if_pos, if_neg, dv_ok, rem_ok, div_ok, if_true, if_false, e1, e3]
  · intro x h1 h2
    rw [zs_ne h1, zs_ne h2, zs_ne h2, zs_ne h2, zs_ne h2]
  · intro k hk
    rw [zs_eq, zs_other hk, zs_ne (by decide), zs_ne (by decide), zs_ne (by decide), zs_ne (by decide)]
  · rw [zs_eq, zs_same]
  · rw [zs_ne (by decide), zs_eq, zs_eq, zs_eq, zs_eq]
    rfl
theorem down_D {J : HI} {fu : Nat} {p1 p2 p3 : Int32} : f_X12_writesDown fu J p1 p2 p3 = ldI (J 132) 26 0 fun v1 => if v1 = 40 then (f_X12_writesDown_L14 fu J 0).bind fun x6 => ldI (x6 132) 26 0 fun v7 => inb 26 0 (dnK (sI x6 132 (0 : Int32).toNatClampNeg (v7 - 1)) p1 p2 p3) else dnK J p1 p2 p3 := by
  unfold f_X12_writesDown dnK
  simp only [jnt, bnd]
theorem down_2 {J : HI} {fu m : Nat} (hm : J 132 0 = nI m) (hm2 : m < 40) {v : Nat → Int32} : f_X12_writesDown fu J (v 1) (v 2) (v 3) = dnK J (v 1) (v 2) (v 3) := by
  have e40 : ¬ nI m = nI 40 := fun q => absurd ((nI_eq (by omega) (by decide)).mp q) (by omega)
  rw [down_D, zq0, zq40, ldI_ok (by decide), hm, if_neg e40]
theorem ld26 {f : Nat → Int32} {k : Int32 → Option HI} : ldI f 26 0 k = k (f 0) := ldI_ok (a := 0) (n := 26) (by decide)
theorem in26 {k : Option HI} : inb 26 0 k = k := inb_ok (a := 0) (n := 26) (by decide)
theorem cl0 : (0 : Int32).toNatClampNeg = 0 := by decide
theorem m39 : nI 40 - 1 = nI 39 := nI_pred 39
theorem down_1a {J K : HI} {fu : Nat} {p1 p2 p3 : Int32} (hm : J 132 0 = 40) (k1 : f_X12_writesDown_L14 fu J 0 = some K) : f_X12_writesDown fu J p1 p2 p3 = ldI (K 132) 26 0 fun v7 => inb 26 0 (dnK (sI K 132 (0 : Int32).toNatClampNeg (v7 - 1)) p1 p2 p3) := by
  rw [down_D, ld26, if_pos hm, k1, Option.bind_some]
theorem down_1b {K : HI} {p1 p2 p3 : Int32} (e0 : K 132 0 = nI 40) : (ldI (K 132) 26 0 fun v7 => inb 26 0 (dnK (sI K 132 (0 : Int32).toNatClampNeg (v7 - 1)) p1 p2 p3)) = dnK (sI K 132 0 (nI 39)) p1 p2 p3 := by
  rw [ld26, in26, cl0, e0, m39]
theorem down_1 {J K : HI} {fu : Nat} (hm : J 132 0 = nI 40) (k1 : f_X12_writesDown_L14 fu J 0 = some K) (e0 : K 132 0 = nI 40) {v : Nat → Int32} : f_X12_writesDown fu J (v 1) (v 2) (v 3) = dnK (sI K 132 0 (nI 39)) (v 1) (v 2) (v 3) := (down_1a hm k1).trans (down_1b e0)
theorem down_M {J : HI} {fu m : Nat} (hf : 1600 < fu) (hm : J 132 0 = nI m) (hm2 : m ≤ 40) (v : Nat → Int32) (hv : J 127 0 = v 0) : ∃ J', f_X12_writesDown fu J (v 1) (v 2) (v 3) = some J' ∧ (∀ x, x ≠ 132 → x ≠ 133 → J' x = J x) ∧ (∀ k, k ≠ 0 → J' 132 k = J 132 k) ∧ J' 132 0 = nI (min 40 (m + 1)) ∧ J' 133 = (if m = 40 then up4 (sh4 (J 133) 156) 156 v else up4 (J 133) (4 * m) v) := by
  by_cases c : m = 40
  · obtain ⟨K, k1, k2, k3⟩ := shift_M (J := J) (fu := fu) hf
    rw [c] at hm
    have e0 : K 132 0 = nI 40 := by rw [k2 132 (by decide)]; exact hm
    obtain ⟨J', a1, a2, a3, a4, a5⟩ := down_K (K := sI K 132 0 (nI 39)) (g := 39) (v := v) (by rw [zs_eq, zs_same]) (by decide) (by rw [zs_ne (by decide), k2 127 (by decide)]; exact hv)
    refine ⟨J', (down_1 hm k1 e0).trans a1, ?_, ?_, ?_, ?_⟩
    · intro x h1 h2
      rw [a2 x h1 h2, zs_ne h1, k2 x h2]
    · intro k hk
      rw [a3 k hk, zs_eq, zs_other hk, k2 132 (by decide)]
    · rw [a4]
      congr 1
      omega
    · rw [if_pos c, a5, zs_ne (show 133 ≠ 132 by decide), k3]
  · obtain ⟨J', a1, a2, a3, a4, a5⟩ := down_K (K := J) (g := m) (v := v) hm (by omega) hv
    refine ⟨J', (down_2 hm (by omega)).trans a1, a2, a3, by rw [show min 40 (m + 1) = m + 1 by omega]; exact a4, by rw [if_neg c]; exact a5⟩
theorem Rel_paid {n : Nat} {I : HI} {R : HR} {J : HI} {M : HL} {t b nh no nl fu : Nat} (h : RelB n I R J M t b nh no nl) (hr : RHf n I J (vw I t) nh no nl) (hn : n ≤ 3072) (hf : 1600 < fu) (p1 p2 w : Int32) : ∃ I' J', f_X5_add I (I 49 1) p1 p2 w = some I' ∧ f_X12_writesDown fu J p1 p2 w = some J' ∧ RelB (n + 6) I' R J' M t b nh no nl := by
  obtain ⟨g1, g2, g3, g4, g5, g6, g7, g8, _⟩ := h
  obtain ⟨nx, dp, f, tt, hh, htt⟩ := hr
  obtain ⟨a1, a2, a3, a4, a5, a6, a7, a8, a9, a10, a11, a12⟩ := hh
  have ht := g7.2.2.1.2.2.1
  obtain ⟨q, hq⟩ : ∃ q, q = tt (dp + 1) := ⟨_, rfl⟩
  rw [← hq] at a8 a9 a11
  have e7 : J 127 0 = I 49 1 := g8.1.1.symm
  obtain ⟨v, hv0, hv1, hv2, hv3⟩ : ∃ v : Nat → Int32, v 0 = I 49 1 ∧ v 1 = p1 ∧ v 2 = p2 ∧ v 3 = w := ⟨fun c => if c = 0 then I 49 1 else if c = 1 then p1 else if c = 2 then p2 else w, rfl, rfl, rfl, rfl⟩
  obtain ⟨I', b1, b2, b3, b4⟩ := add_C a8 (by omega) v
  obtain ⟨J', c1, c2, c3, c4, c5⟩ := down_M (J := J) (fu := fu) (m := min 40 q) hf a11.1 (by omega) v (by rw [e7, hv0])
  rw [hv0, hv1, hv2, hv3] at b1
  rw [hv1, hv2, hv3] at c1
  have ev : vw I' t = vw I t := vw_congr (fun a ha => b2 _ (by omega) (by omega))
  refine ⟨I', J', b1, c1, RTp_c g1 (by rw [b2 1 (by decide) (by decide)]) (b2 2 (by decide) (by decide)) (by rw [c2 100 (by decide) (by decide)]) (c2 101 (by decide) (by decide)), RFl_c g2 (by rw [b2 1 (by decide) (by decide)]) (by rw [b2 1 (by decide) (by decide)]) (by rw [c2 100 (by decide) (by decide)]) (by rw [c2 100 (by decide) (by decide)]), RRf_c g3 (b2 5 (by decide) (by decide)) (c2 126 (by decide) (by decide)), RLt_c g4 (by rw [b2 1 (by decide) (by decide)]) rfl, RSt_c g5 (by rw [b2 1 (by decide) (by decide)]) (by rw [c2 100 (by decide) (by decide)]) (b2 3 (by decide) (by decide)) (b2 4 (by decide) (by decide)) (c2 144 (by decide) (by decide)) (c2 145 (by decide) (by decide)), RIm_c g6 (by rw [b2 47 (by decide) (by decide)]) (by rw [c2 100 (by decide) (by decide)]) (b2 48 (by decide) (by decide)) (c2 146 (by decide) (by decide)), RLd_c g7 (fun x q1 q2 => b2 x (by omega) (by omega)) ⟨rfl, rfl, rfl⟩ (by rw [c2 100 (by decide) (by decide)]) (fun x q1 q2 => c2 x (by omega) (by omega)) ⟨rfl, rfl, rfl⟩, ?_, ?_⟩
  · rw [ev]
    exact RSc_c g8 (fun x q1 q2 => b2 x (by omega) (by omega)) (by rw [c2 127 (by decide) (by decide)]) (fun k hk => by rw [c2 128 (by decide) (by decide), c2 129 (by decide) (by decide), c2 130 (by decide) (by decide)]; exact ⟨rfl, rfl, rfl⟩) (fun k hk => by rw [c2 131 (by decide) (by decide)])
  · rw [ev]
    obtain ⟨tt', ht1, ht2⟩ : ∃ tt' : Nat → Nat, tt' (dp + 1) = q + 1 ∧ ∀ j, j ≠ dp + 1 → tt' j = tt j := ⟨fun j => if j = dp + 1 then q + 1 else tt j, if_pos rfl, fun j hj => if_neg hj⟩
    refine ⟨nx, dp + 1, f, tt', a1, a2, a3, by rw [b2 9 (by decide) (by decide)]; exact a4, by rw [b2 9 (by decide) (by decide)]; exact a5, by rw [c2 100 (by decide) (by decide)]; exact a6, by rw [c2 100 (by decide) (by decide)]; exact a7, by rw [ht1]; exact b3, by rw [ht1]; omega, fun j k hjk hk => ?_, ?_, fun k hk => ?_⟩
    · have z := a10 j k hjk hk
      by_cases ck : k = dp + 1
      · by_cases cj : j = dp + 1
        · rw [ck, cj]
          omega
        · have z2 := a10 j dp (by omega) (by omega)
          rw [ck, ht1, ht2 j cj]
          omega
      · rw [ht2 k ck, ht2 j (by omega)]
        exact z
    · rw [ht1]
      refine ⟨by rw [c4]; congr 1; omega, fun k c hk hc => ?_⟩
      rw [Nat.mul_zero, Nat.zero_add, b4, c5]
      by_cases cq : q < 40
      · rw [if_neg (by omega), show min 40 q = q by omega]
        by_cases ck : k = q
        · subst ck
          rw [up4_in hc, show (k + 1 - min 40 (k + 1) + k) % 60 = k % 60 by omega, up4_in hc]
        · have old := a11.2 k c (by omega) hc
          rw [Nat.mul_zero, Nat.zero_add] at old
          rw [up4_out (by omega), old, up4_out (by omega)]
          congr 2
          omega
      · rw [if_pos (by omega)]
        by_cases ck : k = 39
        · subst ck
          rw [show 4 * 39 + c = 156 + c by omega, up4_in hc, show (q + 1 - min 40 (q + 1) + 39) % 60 = q % 60 by omega, up4_in hc]
        · have old := a11.2 (k + 1) c (by omega) hc
          rw [Nat.mul_zero, Nat.zero_add] at old
          rw [up4_out (by omega), up4_out (by omega)]
          unfold sh4
          rw [if_pos (by omega), show 4 * k + c + 4 = 4 * (k + 1) + c by omega, old]
          congr 2
          omega
    · obtain ⟨d1, d2, d3, d4⟩ := a12 k hk
      have e : I' (12 + (nx + 20 - (dp + 1) + k) % 20) = I (12 + (nx + 20 - (dp + 1) + k) % 20) := b2 _ (by omega) (by omega)
      have z := a10 k dp (by omega) (by omega)
      rw [e, b2 11 (by decide) (by decide), ht2 k (by omega)]
      refine ⟨d1, SE_lv d2 (by rw [c2 127 (by decide) (by decide)]) (fun j _ _ => by rw [c2 128 (by decide) (by decide), c2 129 (by decide) (by decide), c2 130 (by decide) (by decide)]; exact ⟨rfl, rfl, rfl⟩) (fun j _ _ => by rw [c2 131 (by decide) (by decide)]), d3, by rw [c3 _ (by omega)]; exact d4.1, fun i c hi hc => ?_⟩
      rw [b4, up4_out (by omega), c5]
      have old := d4.2 i c hi hc
      by_cases cm : min 40 q = 40
      · rw [if_pos cm, up4_out (by omega)]
        unfold sh4
        rw [if_neg (by omega)]
        exact old
      · rw [if_neg cm, up4_out (by omega)]
        exact old
