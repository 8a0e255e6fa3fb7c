/-! calls that look ahead -/
section
variable {n : Nat} {I : HI} {R : HR} {J : HI} {M : HL} {t b nh no nl fu : Nat}
theorem RelB.LC (h : RelB n I R J M t b nh no nl) : LC I R J 49 0 t b nh no nl := by
  obtain ⟨hC, hL, hM, hE, hS, hB, hB', h1⟩ := h.get
  refine ⟨hC, hL, hM, hE, hB, by decide, fun k hk => ?_⟩
  have := hE.2.2.1 k hk
  have q : I (49 + 4) k = J 131 (36 * 0 + k) := this
  rw [q, Nat.mul_zero, Nat.zero_add]
theorem RelB.pays (h : RelB n I R J M t b nh no nl) : ∃ m, m ≤ 40 ∧ J 132 0 = nI m := by
  obtain ⟨nx, dp, f, tt, hh⟩ := h.2.2.2.2.2.2.2.2
  exact ⟨_, by omega, hh.2.2.2.2.2.2.2.2.2.2.1.1⟩
/-- the scene ahead, and the layer that is tried, begin as all lies now -/
theorem ahead_R (h : RelB n I R J M t b nh no nl) (hf : 1600 < fu) : ∃ I' J', f_X9_copyFrom I R 58 49 = some (I', sR R 58 0 (R 49 0)) ∧ f_X12_copies fu J 1 0 = some J' ∧ LC I' (sR R 58 0 (R 49 0)) J' 58 1 t b nh no nl ∧ SX t I I' ∧ SM J J' ∧ SR R (sR R 58 0 (R 49 0)) ∧ SE (sc I 49) (sc I' 58) ∧ (∀ x, x < 58 ∨ 63 ≤ x → I' x = I x) := by
  obtain ⟨hC, hL, hM, hE, hS, hB, hB', h1⟩ := h.get
  obtain ⟨m, hm1, hm2⟩ := h.pays
  have ht := hC.2.2.1
  obtain ⟨I', a1, a2, a3⟩ := copyFrom_C (I := I) (R := R) (s := 49) (s' := 58) (by rw [hC.2.1]; exact hC.1) (by decide)
  obtain ⟨J', b1, b2⟩ := copies_M (J := J) (to := 1) (fr := 0) hf (by decide) (by decide) (by decide) hm2 hm1
  have ev : vw I' t = vw I t := vw_congr (fun a ha => a3 _ (by omega))
  have et : I' t = I t := a3 t (by omega)
  refine ⟨I', J', a1, b1, ⟨?_, by rw [ev]; exact hL, ?_, ?_, ?_, by decide, ?_⟩, fun x hx => a3 x (by omega), b2.SM (by decide) hm1, ⟨by rw [zR_ne (by decide)], by rw [zR_ne (by decide)], by rw [zR_ne (by decide)]⟩, a2, a3⟩
  · obtain ⟨h0, h1, h2, h3, h4, h5, h6, h7, h8, h9⟩ := hC
    exact ⟨h0, by rw [zR_eq]; exact h1, h2, by decide, by rw [et]; exact h4, by rw [et]; exact h5, by rw [et]; exact h6, h7, h8, h9⟩
  · rw [ev]
    exact ML_congr (by rw [b2.1 100 (by decide)]) (fun x q1 q2 => b2.1 x (by omega)) hM
  · exact SEp.lr a2.symm hE b2.lvE
  · exact a2.bw hB
  · intro k hk
    have q := (a2.2.2 k hk).symm.trans (hE.2.2.1 k hk)
    have q1 : I' (58 + 4) k = J 131 (36 * 0 + k) := q
    rw [q1, b2.2.2.2.2.2.1, cpy_out (by omega), Nat.mul_zero, Nat.zero_add]
theorem ahead_C {k m : Nat} (hk : k < 2 ^ 30) (hm : m ≤ 9999) (e : I 49 1 = nI m) : f_X11_nightsCanBe I (nI k) = some (if k ≤ 100 ∧ m + k ≤ 9999 then 1 else 0) := by
  unfold f_X11_nightsCanBe
  by_cases c : k ≤ 100
  · by_cases c2 : m + k ≤ 9999
    · simp (disch := omega) only [↓zm1, ↓zm2, ↓zm3, ↓zm4, ↓zm5, ↓zm6, ↓zm7, ↓zm8, ↓zm9, ↓zm10, ↓zm11, ↓zm12, ↓zm13, ↓zm14, ↓zm15, ↓zm16, ↓zm17, ↓zm18, ↓zm19, ↓zm20, ↓zm1000000000, zq0, zq1, zq2, zq3, zq4, zq5, zq6, zq7, zq8, zq9, zq10, zq11, zq12, zq13, zq14, zq15, zq16, zq17, zq18, zq19, zq20, zq21, zq22, zq23, zq24, zq25, zq26, zq30, zq31, zq32, zq33, zq34, zq35, zq36, zq37, zq38, zq39, zq40, zq41, zq42, zq43, zq44, zq45, zq47, zq48, zq57, zq59, zq60, zq61, zq62, zq80, zq91, zq93, zq97, zq99, zq100, zq107, zq110, zq120, zq122, zq128, zq149, zq160, zq208, zq240, zq251, zq255, zq256, zq500, zq936, zq999, zq1600, zq1800, zq2048, zq3200, zq4160, zq9999, zq12345, zq1000000, zq1048576, zq100000000, bnd, jnt, zg_ok, gz_0, gz_1, gz_n0, gz_n1, zs_eq, zs_ne, zs_same, zs_other, zA_eq, zA_ne, Option.bind_some, Option.bind_none, nI_add, pk_mul, nI_clamp, nI_leI, nI_ltI, nI_eq, pk_sub, nI_mI, nI_eq_mI, mI_eq_nI, nI_lt_m, ldI_ok, inb_ok, if_pos, if_neg, dv_ok, rem_ok, div_ok, if_true, if_false, e]
    · simp (disch := omega) only [↓zm1, ↓zm2, ↓zm3, ↓zm4, ↓zm5, ↓zm6, ↓zm7, ↓zm8, ↓zm9, ↓zm10, ↓zm11, ↓zm12, ↓zm13, ↓zm14, ↓zm15, ↓zm16, ↓zm17, ↓zm18, ↓zm19, ↓zm20, ↓zm1000000000, zq0, zq1, zq2, zq3, zq4, zq5, zq6, zq7, zq8, zq9, zq10, zq11, zq12, zq13, zq14, zq15, zq16, zq17, zq18, zq19, zq20, zq21, zq22, zq23, zq24, zq25, zq26, zq30, zq31, zq32, zq33, zq34, zq35, zq36, zq37, zq38, zq39, zq40, zq41, zq42, zq43, zq44, zq45, zq47, zq48, zq57, zq59, zq60, zq61, zq62, zq80, zq91, zq93, zq97, zq99, zq100, zq107, zq110, zq120, zq122, zq128, zq149, zq160, zq208, zq240, zq251, zq255, zq256, zq500, zq936, zq999, zq1600, zq1800, zq2048, zq3200, zq4160, zq9999, zq12345, zq1000000, zq1048576, zq100000000, bnd, jnt, zg_ok, gz_0, gz_1, gz_n0, gz_n1, zs_eq, zs_ne, zs_same, zs_other, zA_eq, zA_ne, Option.bind_some, Option.bind_none, nI_add, pk_mul, nI_clamp, nI_leI, nI_ltI, nI_eq, pk_sub, nI_mI, nI_eq_mI, mI_eq_nI, nI_lt_m, ldI_ok, inb_ok, if_pos, if_neg, dv_ok, rem_ok, div_ok, if_true, if_false, e]
  · simp (disch := omega) only [↓zm1, ↓zm2, ↓zm3, ↓zm4, ↓zm5, ↓zm6, ↓zm7, ↓zm8, ↓zm9, ↓zm10, ↓zm11, ↓zm12, ↓zm13, ↓zm14, ↓zm15, ↓zm16, ↓zm17, ↓zm18, ↓zm19, ↓zm20, ↓zm1000000000, zq0, zq1, zq2, zq3, zq4, zq5, zq6, zq7, zq8, zq9, zq10, zq11, zq12, zq13, zq14, zq15, zq16, zq17, zq18, zq19, zq20, zq21, zq22, zq23, zq24, zq25, zq26, zq30, zq31, zq32, zq33, zq34, zq35, zq36, zq37, zq38, zq39, zq40, zq41, zq42, zq43, zq44, zq45, zq47, zq48, zq57, zq59, zq60, zq61, zq62, zq80, zq91, zq93, zq97, zq99, zq100, zq107, zq110, zq120, zq122, zq128, zq149, zq160, zq208, zq240, zq251, zq255, zq256, zq500, zq936, zq999, zq1600, zq1800, zq2048, zq3200, zq4160, zq9999, zq12345, zq1000000, zq1048576, zq100000000, bnd, jnt, zg_ok, gz_0, gz_1, gz_n0, gz_n1, zs_eq, zs_ne, zs_same, zs_other, zA_eq, zA_ne, Option.bind_some, Option.bind_none, nI_add, pk_mul, nI_clamp, nI_leI, nI_ltI, nI_eq, pk_sub, nI_mI, nI_eq_mI, mI_eq_nI, nI_lt_m, ldI_ok, inb_ok, if_pos, if_neg, dv_ok, rem_ok, div_ok, if_true, if_false, e]
theorem ahead_M {k m l : Nat} (hk : k < 2 ^ 30) (hm : m ≤ 9999) (hl : l ≤ 1) (e : J 127 0 = nI m) : f_X12_isAhead J (nI k) (nI l) = some (if l ≤ k ∧ k ≤ 100 ∧ m + k ≤ 9999 then 1 else 0) := by
  unfold f_X12_isAhead f_X12_is
  by_cases c0 : l ≤ k
  · by_cases c : k ≤ 100
    · by_cases c2 : m + k ≤ 9999
      · simp (disch := omega) only [↓zm1, ↓zm2, ↓zm3, ↓zm4, ↓zm5, ↓zm6, ↓zm7, ↓zm8, ↓zm9, ↓zm10, ↓zm11, ↓zm12, ↓zm13, ↓zm14, ↓zm15, ↓zm16, ↓zm17, ↓zm18, ↓zm19, ↓zm20, ↓zm1000000000, zq0, zq1, zq2, zq3, zq4, zq5, zq6, zq7, zq8, zq9, zq10, zq11, zq12, zq13, zq14, zq15, zq16, zq17, zq18, zq19, zq20, zq21, zq22, zq23, zq24, zq25, zq26, zq30, zq31, zq32, zq33, zq34, zq35, zq36, zq37, zq38, zq39, zq40, zq41, zq42, zq43, zq44, zq45, zq47, zq48, zq57, zq59, zq60, zq61, zq62, zq80, zq91, zq93, zq97, zq99, zq100, zq107, zq110, zq120, zq122, zq128, zq149, zq160, zq208, zq240, zq251, zq255, zq256, zq500, zq936, zq999, zq1600, zq1800, zq2048, zq3200, zq4160, zq9999, zq12345, zq1000000, zq1048576, zq100000000, bnd, jnt, zg_ok, gz_0, gz_1, gz_n0, gz_n1, zs_eq, zs_ne, zs_same, zs_other, zA_eq, zA_ne, Option.bind_some, Option.bind_none, nI_add, pk_mul, nI_clamp, nI_leI, nI_ltI, nI_eq, pk_sub, nI_mI, nI_eq_mI, mI_eq_nI, nI_lt_m, ldI_ok, inb_ok, if_pos, if_neg, dv_ok, rem_ok, div_ok, if_true, if_false, e]
      · simp (disch := omega) only [↓zm1, ↓zm2, ↓zm3, ↓zm4, ↓zm5, ↓zm6, ↓zm7, ↓zm8, ↓zm9, ↓zm10, ↓zm11, ↓zm12, ↓zm13, ↓zm14, ↓zm15, ↓zm16, ↓zm17, ↓zm18, ↓zm19, ↓zm20, ↓zm1000000000, zq0, zq1, zq2, zq3, zq4, zq5, zq6, zq7, zq8, zq9, zq10, zq11, zq12, zq13, zq14, zq15, zq16, zq17, zq18, zq19, zq20, zq21, zq22, zq23, zq24, zq25, zq26, zq30, zq31, zq32, zq33, zq34, zq35, zq36, zq37, zq38, zq39, zq40, zq41, zq42, zq43, zq44, zq45, zq47, zq48, zq57, zq59, zq60, zq61, zq62, zq80, zq91, zq93, zq97, zq99, zq100, zq107, zq110, zq120, zq122, zq128, zq149, zq160, zq208, zq240, zq251, zq255, zq256, zq500, zq936, zq999, zq1600, zq1800, zq2048, zq3200, zq4160, zq9999, zq12345, zq1000000, zq1048576, zq100000000, bnd, jnt, zg_ok, gz_0, gz_1, gz_n0, gz_n1, zs_eq, zs_ne, zs_same, zs_other, zA_eq, zA_ne, Option.bind_some, Option.bind_none, nI_add, pk_mul, nI_clamp, nI_leI, nI_ltI, nI_eq, pk_sub, nI_mI, nI_eq_mI, mI_eq_nI, nI_lt_m, ldI_ok, inb_ok, if_pos, if_neg, dv_ok, rem_ok, div_ok, if_true, if_false, e]
    · simp (disch := omega) only [↓zm1, ↓zm2, ↓zm3, ↓zm4, ↓zm5, ↓zm6, ↓zm7, ↓zm8, ↓zm9, ↓zm10, ↓zm11, ↓zm12, ↓zm13, ↓zm14, ↓zm15, ↓zm16, ↓zm17, ↓zm18, ↓zm19, ↓zm20, ↓zm1000000000, zq0, zq1, zq2, zq3, zq4, zq5, zq6, zq7, zq8, zq9, zq10, zq11, zq12, zq13, zq14, zq15, zq16, zq17, zq18, zq19, zq20, zq21, zq22, zq23, zq24, zq25, zq26, zq30, zq31, zq32, zq33, zq34, zq35, zq36, zq37, zq38, zq39, zq40, zq41, zq42, zq43, zq44, zq45, zq47, zq48, zq57, zq59, zq60, zq61, zq62, zq80, zq91, zq93, zq97, zq99, zq100, zq107, zq110, zq120, zq122, zq128, zq149, zq160, zq208, zq240, zq251, zq255, zq256, zq500, zq936, zq999, zq1600, zq1800, zq2048, zq3200, zq4160, zq9999, zq12345, zq1000000, zq1048576, zq100000000, bnd, jnt, zg_ok, gz_0, gz_1, gz_n0, gz_n1, zs_eq, zs_ne, zs_same, zs_other, zA_eq, zA_ne, Option.bind_some, Option.bind_none, nI_add, pk_mul, nI_clamp, nI_leI, nI_ltI, nI_eq, pk_sub, nI_mI, nI_eq_mI, mI_eq_nI, nI_lt_m, ldI_ok, inb_ok, if_pos, if_neg, dv_ok, rem_ok, div_ok, if_true, if_false, e]
  · simp (disch := omega) only [↓zm1, ↓zm2, ↓zm3, ↓zm4, ↓zm5, ↓zm6, ↓zm7, ↓zm8, ↓zm9, ↓zm10, ↓zm11, ↓zm12, ↓zm13, ↓zm14, ↓zm15, ↓zm16, ↓zm17, ↓zm18, ↓zm19, ↓zm20, ↓zm1000000000, zq0, zq1, zq2, zq3, zq4, zq5, zq6, zq7, zq8, zq9, zq10, zq11, zq12, zq13, zq14, zq15, zq16, zq17, zq18, zq19, zq20, zq21, zq22, zq23, zq24, zq25, zq26, zq30, zq31, zq32, zq33, zq34, zq35, zq36, zq37, zq38, zq39, zq40, zq41, zq42, zq43, zq44, zq45, zq47, zq48, zq57, zq59, zq60, zq61, zq62, zq80, zq91, zq93, zq97, zq99, zq100, zq107, zq110, zq120, zq122, zq128, zq149, zq160, zq208, zq240, zq251, zq255, zq256, zq500, zq936, zq999, zq1600, zq1800, zq2048, zq3200, zq4160, zq9999, zq12345, zq1000000, zq1048576, zq100000000, bnd, jnt, zg_ok, gz_0, gz_1, gz_n0, gz_n1, zs_eq, zs_ne, zs_same, zs_other, zA_eq, zA_ne, Option.bind_some, Option.bind_none, nI_add, pk_mul, nI_clamp, nI_leI, nI_ltI, nI_eq, pk_sub, nI_mI, nI_eq_mI, mI_eq_nI, nI_lt_m, ldI_ok, inb_ok, if_pos, if_neg, dv_ok, rem_ok, div_ok, if_true, if_false, e]
theorem ahead_Cn {x : Int32} (hx : x.toInt < 0 ∨ 101 ≤ x.toInt) : f_X11_nightsCanBe I x = some 0 := by
  unfold f_X11_nightsCanBe
  rcases hx with hx | hx
  · simp (disch := omega) only [Int32.le_iff_toInt_le, Int32.lt_iff_toInt_lt, ← Int32.toInt_inj, zt0, zt1, zt2, zt3, zt4, zt5, zt6, zt7, zt8, zt9, zt10, zt11, zt12, zt13, zt14, zt15, zt16, zt17, zt18, zt19, zt20, zt21, zt22, zt23, zt24, zt25, zt26, zt30, zt31, zt32, zt33, zt34, zt35, zt36, zt37, zt38, zt39, zt40, zt41, zt42, zt43, zt44, zt45, zt47, zt48, zt57, zt59, zt60, zt61, zt62, zt80, zt91, zt93, zt97, zt99, zt100, zt107, zt110, zt120, zt122, zt128, zt149, zt160, zt208, zt240, zt251, zt255, zt256, zt500, zt936, zt999, zt1600, zt1800, zt2048, zt3200, zt4160, zt9999, zt12345, zt1000000, zt1048576, zt100000000, zu1, zu2, zu3, zu4, zu5, zu6, zu7, zu8, zu9, zu10, zu11, zu12, zu13, zu14, zu15, zu16, zu17, zu18, zu19, zu20, zu1000000000, if_pos, if_neg, gz_0, gz_1, Option.bind_some, if_true, if_false]
  · simp (disch := omega) only [Int32.le_iff_toInt_le, Int32.lt_iff_toInt_lt, ← Int32.toInt_inj, zt0, zt1, zt2, zt3, zt4, zt5, zt6, zt7, zt8, zt9, zt10, zt11, zt12, zt13, zt14, zt15, zt16, zt17, zt18, zt19, zt20, zt21, zt22, zt23, zt24, zt25, zt26, zt30, zt31, zt32, zt33, zt34, zt35, zt36, zt37, zt38, zt39, zt40, zt41, zt42, zt43, zt44, zt45, zt47, zt48, zt57, zt59, zt60, zt61, zt62, zt80, zt91, zt93, zt97, zt99, zt100, zt107, zt110, zt120, zt122, zt128, zt149, zt160, zt208, zt240, zt251, zt255, zt256, zt500, zt936, zt999, zt1600, zt1800, zt2048, zt3200, zt4160, zt9999, zt12345, zt1000000, zt1048576, zt100000000, zu1, zu2, zu3, zu4, zu5, zu6, zu7, zu8, zu9, zu10, zu11, zu12, zu13, zu14, zu15, zu16, zu17, zu18, zu19, zu20, zu1000000000, if_pos, if_neg, gz_0, gz_1, Option.bind_some, if_true, if_false]
theorem ahead_Mn {x y : Int32} (hy : 0 ≤ y.toInt) (hx : x.toInt < 0 ∨ 101 ≤ x.toInt) : f_X12_isAhead J x y = some 0 := by
  unfold f_X12_isAhead f_X12_is
  rcases hx with hx | hx
  · have : x < y := by rw [Int32.lt_iff_toInt_lt]; omega
    simp (disch := omega) only [if_pos this, gz_0, Option.bind_some, if_true]
  · by_cases c : x < y
    · simp (disch := omega) only [if_pos c, gz_0, Option.bind_some, if_true]
    · rw [if_neg c]
      simp (disch := omega) only [gz_0, Option.bind_some, Int32.le_iff_toInt_le, Int32.lt_iff_toInt_lt, ← Int32.toInt_inj, zt0, zt1, zt2, zt3, zt4, zt5, zt6, zt7, zt8, zt9, zt10, zt11, zt12, zt13, zt14, zt15, zt16, zt17, zt18, zt19, zt20, zt21, zt22, zt23, zt24, zt25, zt26, zt30, zt31, zt32, zt33, zt34, zt35, zt36, zt37, zt38, zt39, zt40, zt41, zt42, zt43, zt44, zt45, zt47, zt48, zt57, zt59, zt60, zt61, zt62, zt80, zt91, zt93, zt97, zt99, zt100, zt107, zt110, zt120, zt122, zt128, zt149, zt160, zt208, zt240, zt251, zt255, zt256, zt500, zt936, zt999, zt1600, zt1800, zt2048, zt3200, zt4160, zt9999, zt12345, zt1000000, zt1048576, zt100000000, zu1, zu2, zu3, zu4, zu5, zu6, zu7, zu8, zu9, zu10, zu11, zu12, zu13, zu14, zu15, zu16, zu17, zu18, zu19, zu20, zu1000000000, if_pos, if_neg, gz_0, gz_1, Option.bind_some, if_true, if_false]
end
/-- nights ahead, one after the other -/
theorem later_loop {fu t b nh no nl m : Nat} {R : HR} (hf : 1600 < fu) : ∀ (k n i : Nat) (I J : HI) (M : HL), LC I R J 58 1 t b nh no nl → I 58 1 = nI (m + i) → m + i + k ≤ 9999 → i + k < 2 ^ 30 → k < n → ∃ I' J' M', f_X11_later_L39 fu n I R (nI (i + k)) (nI i) = some I' ∧ f_X12_later_L32 fu n J M (nI (i + k)) (nI i) = some (J', M') ∧ LC I' R J' 58 1 t b nh no nl ∧ SX t I I' ∧ SM J J' ∧ SL M M' := by
  intro k
  induction k with
  | zero =>
    intro n i I J M hLC he hk hi hn
    obtain ⟨n, rfl⟩ : ∃ q, n = q + 1 := ⟨n - 1, by omega⟩
    refine ⟨I, J, M, ?_, ?_, hLC, SX.refl, SM.refl, SL.refl⟩
    · simp (disch := omega) only [f_X11_later_L39, ↓zm1, ↓zm2, ↓zm3, ↓zm4, ↓zm5, ↓zm6, ↓zm7, ↓zm8, ↓zm9, ↓zm10, ↓zm11, ↓zm12, ↓zm13, ↓zm14, ↓zm15, ↓zm16, ↓zm17, ↓zm18, ↓zm19, ↓zm20, ↓zm1000000000, zq0, zq1, zq2, zq3, zq4, zq5, zq6, zq7, zq8, zq9, zq10, zq11, zq12, zq13, zq14, zq15, zq16, zq17, zq18, zq19, zq20, zq21, zq22, zq23, zq24, zq25, zq26, zq30, zq31, zq32, zq33, zq34, zq35, zq36, zq37, zq38, zq39, zq40, zq41, zq42, zq43, zq44, zq45, zq47, zq48, zq57, zq59, zq60, zq61, zq62, zq80, zq91, zq93, zq97, zq99, zq100, zq107, zq110, zq120, zq122, zq128, zq149, zq160, zq208, zq240, zq251, zq255, zq256, zq500, zq936, zq999, zq1600, zq1800, zq2048, zq3200, zq4160, zq9999, zq12345, zq1000000, zq1048576, zq100000000, bnd, jnt, zg_ok, gz_0, gz_1, gz_n0, gz_n1, zs_eq, zs_ne, zs_same, zs_other, zA_eq, zA_ne, Option.bind_some, Option.bind_none, nI_add, pk_mul, nI_clamp, nI_leI, nI_ltI, nI_eq, pk_sub, nI_mI, nI_eq_mI, mI_eq_nI, nI_lt_m, ldI_ok, inb_ok, if_pos, if_neg, dv_ok, rem_ok, div_ok, if_true, if_false]
    · simp (disch := omega) only [f_X12_later_L32, ↓zm1, ↓zm2, ↓zm3, ↓zm4, ↓zm5, ↓zm6, ↓zm7, ↓zm8, ↓zm9, ↓zm10, ↓zm11, ↓zm12, ↓zm13, ↓zm14, ↓zm15, ↓zm16, ↓zm17, ↓zm18, ↓zm19, ↓zm20, ↓zm1000000000, zq0, zq1, zq2, zq3, zq4, zq5, zq6, zq7, zq8, zq9, zq10, zq11, zq12, zq13, zq14, zq15, zq16, zq17, zq18, zq19, zq20, zq21, zq22, zq23, zq24, zq25, zq26, zq30, zq31, zq32, zq33, zq34, zq35, zq36, zq37, zq38, zq39, zq40, zq41, zq42, zq43, zq44, zq45, zq47, zq48, zq57, zq59, zq60, zq61, zq62, zq80, zq91, zq93, zq97, zq99, zq100, zq107, zq110, zq120, zq122, zq128, zq149, zq160, zq208, zq240, zq251, zq255, zq256, zq500, zq936, zq999, zq1600, zq1800, zq2048, zq3200, zq4160, zq9999, zq12345, zq1000000, zq1048576, zq100000000, bnd, jnt, zg_ok, gz_0, gz_1, gz_n0, gz_n1, zs_eq, zs_ne, zs_same, zs_other, zA_eq, zA_ne, Option.bind_some, Option.bind_none, nI_add, pk_mul, nI_clamp, nI_leI, nI_ltI, nI_eq, pk_sub, nI_mI, nI_eq_mI, mI_eq_nI, nI_lt_m, ldI_ok, inb_ok, if_pos, if_neg, dv_ok, rem_ok, div_ok, if_true, if_false]
  | succ k ih =>
    intro n i I J M hLC he hk hi hn
    obtain ⟨n, rfl⟩ : ∃ q, n = q + 1 := ⟨n - 1, by omega⟩
    obtain ⟨W, I1, J1, M1, a1, a2, a3, a4, a5, a6, a7, a8⟩ := pass_LC (M := M) hLC hf (d := 0) (n := m + i) (by decide) (by omega) he
    have a1' : f_X9_passNight fu I R 58 (nI 0) = _ := a1
    have a2' : f_X12_passes fu J M (nI 1) (nI 0) = _ := a2
    obtain ⟨I2, J2, M2, b1, b2, b3, b4, b5, b6⟩ := ih n (i + 1) I1 J1 M1 a7 (by rw [a6]; congr 1) (by omega) (by omega) (by omega)
    have ht := hLC.1.2.2.1
    refine ⟨I2, J2, M2, ?_, ?_, b3, SX.trans (fun x hx => a3 x (by omega)) b4, SM.trans (a4.SM (by decide)) b5, SL.trans a5.SL b6⟩
    · simp (disch := omega) only [f_X11_later_L39, ↓zm1, ↓zm2, ↓zm3, ↓zm4, ↓zm5, ↓zm6, ↓zm7, ↓zm8, ↓zm9, ↓zm10, ↓zm11, ↓zm12, ↓zm13, ↓zm14, ↓zm15, ↓zm16, ↓zm17, ↓zm18, ↓zm19, ↓zm20, ↓zm1000000000, zq0, zq1, zq2, zq3, zq4, zq5, zq6, zq7, zq8, zq9, zq10, zq11, zq12, zq13, zq14, zq15, zq16, zq17, zq18, zq19, zq20, zq21, zq22, zq23, zq24, zq25, zq26, zq30, zq31, zq32, zq33, zq34, zq35, zq36, zq37, zq38, zq39, zq40, zq41, zq42, zq43, zq44, zq45, zq47, zq48, zq57, zq59, zq60, zq61, zq62, zq80, zq91, zq93, zq97, zq99, zq100, zq107, zq110, zq120, zq122, zq128, zq149, zq160, zq208, zq240, zq251, zq255, zq256, zq500, zq936, zq999, zq1600, zq1800, zq2048, zq3200, zq4160, zq9999, zq12345, zq1000000, zq1048576, zq100000000, bnd, jnt, zg_ok, gz_0, gz_1, gz_n0, gz_n1, zs_eq, zs_ne, zs_same, zs_other, zA_eq, zA_ne, Option.bind_some, Option.bind_none, nI_add, pk_mul, nI_clamp, nI_leI, nI_ltI, nI_eq, pk_sub, nI_mI, nI_eq_mI, mI_eq_nI, nI_lt_m, ldI_ok, inb_ok, if_pos, if_neg, dv_ok, rem_ok, div_ok, if_true, if_false, a1']
      rw [show i + (k + 1) = i + 1 + k by omega]
      exact b1
    · simp (disch := omega) only [f_X12_later_L32, ↓zm1, ↓zm2, ↓zm3, ↓zm4, ↓zm5, ↓zm6, ↓zm7, ↓zm8, ↓zm9, ↓zm10, ↓zm11, ↓zm12, ↓zm13, ↓zm14, ↓zm15, ↓zm16, ↓zm17, ↓zm18, ↓zm19, ↓zm20, ↓zm1000000000, zq0, zq1, zq2, zq3, zq4, zq5, zq6, zq7, zq8, zq9, zq10, zq11, zq12, zq13, zq14, zq15, zq16, zq17, zq18, zq19, zq20, zq21, zq22, zq23, zq24, zq25, zq26, zq30, zq31, zq32, zq33, zq34, zq35, zq36, zq37, zq38, zq39, zq40, zq41, zq42, zq43, zq44, zq45, zq47, zq48, zq57, zq59, zq60, zq61, zq62, zq80, zq91, zq93, zq97, zq99, zq100, zq107, zq110, zq120, zq122, zq128, zq149, zq160, zq208, zq240, zq251, zq255, zq256, zq500, zq936, zq999, zq1600, zq1800, zq2048, zq3200, zq4160, zq9999, zq12345, zq1000000, zq1048576, zq100000000, bnd, jnt, zg_ok, gz_0, gz_1, gz_n0, gz_n1, zs_eq, zs_ne, zs_same, zs_other, zA_eq, zA_ne, Option.bind_some, Option.bind_none, nI_add, pk_mul, nI_clamp, nI_leI, nI_ltI, nI_eq, pk_sub, nI_mI, nI_eq_mI, mI_eq_nI, nI_lt_m, ldI_ok, inb_ok, if_pos, if_neg, dv_ok, rem_ok, div_ok, if_true, if_false, a2']
      rw [show i + (k + 1) = i + 1 + k by omega]
      exact b2
theorem allLakes_M {J : HI} {b nh no nl : Nat} {D : HI} (h : ML J b nh no nl D) : f_X12_allLakes J = some (nI (2 ^ nl - 1)) := by
  obtain ⟨⟨h0, h1⟩, h2, h3, h4, h5, h6, h7, h8, h9, h10⟩ := h
  have h3 : 2 ^ nl ≤ 2 ^ 8 := Nat.pow_le_pow_right (by decide) h7
  have h4' : 0 < 2 ^ nl := Nat.pow_pos (by decide)
  unfold f_X12_allLakes
  simp (disch := omega) only [zq1, zq31, ldI_ok, h0, h4, sh_ok, pk_sub]
theorem allBits {nl l : Nat} (hn : nl ≤ 8) (hl : l < nl) : (255 : Nat).testBit l = (2 ^ nl - 1).testBit l := by
  rw [Nat.testBit_two_pow_sub_one, decide_eq_true hl]
  have : ∀ l, l < 8 → (255 : Nat).testBit l = true := by decide
  exact this l (by omega)
theorem eq_later : Eq_later Rel := by
  intro n I R J M a0 a1 hn hR
  obtain ⟨t, b, nh, no, nl, h⟩ := hR
  obtain ⟨hC, hL, hM, hE, hS, hB, hB', h1⟩ := h.get
  have h9 := hC.2.2.2.2.2.2.2.2.2
  obtain ⟨m, hm, em⟩ := hS.1
  have em1 : I 49 1 = nI m := em
  have em2 : J 127 0 = nI m := by rw [← em]; exact hE.1.symm
  have n3 : ¬ (1 : Int32) = 0 := by decide
  unfold f_X11_later f_X12_later
  rcases x_cases a0 101 (by decide) with c | c | ⟨k, hk, rfl⟩
  · refine ⟨-1, I, R, J, M, ?_, ?_, h.up.rel⟩
    · rw [ahead_Cn (Or.inl c)]
      simp only [Option.bind_some, if_true]
    · rw [ahead_Mn (by decide) (Or.inl c)]
      simp only [Option.bind_some, if_true]
  · refine ⟨-1, I, R, J, M, ?_, ?_, h.up.rel⟩
    · rw [ahead_Cn (Or.inr c)]
      simp only [Option.bind_some, if_true]
    · rw [ahead_Mn (by decide) (Or.inr c)]
      simp only [Option.bind_some, if_true]
  · have p1 := ahead_C (I := I) (k := k) (by omega) hm em1
    have p2 : f_X12_isAhead J (nI k) 0 = _ := ahead_M (J := J) (k := k) (l := 0) (by omega) hm (by decide) em2
    rw [p1, p2]
    by_cases c : m + k ≤ 9999
    · have c1 : k ≤ 100 ∧ m + k ≤ 9999 := ⟨by omega, c⟩
      have c2 : 0 ≤ k ∧ k ≤ 100 ∧ m + k ≤ 9999 := ⟨by omega, by omega, c⟩
      simp only [if_pos c1, if_pos c2, Option.bind_some, if_neg n3, jnt]
      obtain ⟨I1, J1, q1, q2, q3, q4, q5, q6, q7, q8⟩ := ahead_R (fu := FU) h FU_big.1
      have e58 : I1 58 1 = nI (m + 0) := by
        have : I 49 1 = I1 58 1 := q7.1
        rw [← this]; exact em1
      obtain ⟨I2, J2, M2, r1, r2, r3, r4, r5, r6⟩ := later_loop (fu := FU) FU_big.1 k FU 0 I1 J1 M q3 e58 (by omega) (by omega) (by have := FU_big.1; omega)
      rw [Nat.zero_add] at r1 r2
      have r1' : f_X11_later_L39 FU FU I1 (sR R 58 0 (R 49 0)) (nI k) 0 = some I2 := r1
      have r2' : f_X12_later_L32 FU FU J1 M (nI k) 0 = some (J2, M2) := r2
      rw [isLake_C hC, isLake_M hM]
      simp only [q1, q2, r1', r2', Option.bind_some]
      by_cases e : a1 = -1
      · obtain ⟨I3, J3, M3, s1, s2, s3, s4, s5⟩ := worths_L (M := M2) r3 FU_big.1 (B := 255) (B' := 2 ^ nl - 1) (by decide) (by have : 2 ^ nl ≤ 2 ^ 8 := Nat.pow_le_pow_right (by decide) h9; omega) (fun l hl => allBits h9 hl)
        have s1' : f_X9_worthOfBits FU I2 (sR R 58 0 (R 49 0)) 58 255 = _ := s1
        have s2' : f_X12_worthOf FU J2 M2 1 (nI (2 ^ nl - 1)) = _ := s2
        have ht := r3.1.2.2.1
        refine ⟨nI (smN (fun l => if (255 : Nat).testBit l = true then woN (vw I2 t) (sc I2 58) nl l else 0) nl), I3, sR R 58 0 (R 49 0), J3, M3, ?_, ?_, (Rel_same h (by omega) (SX.trans (SX.trans q4 r4) (s3.SX (by decide) ht)) q6 (SM.trans (SM.trans q5 r5) s4.SM) (SL.trans r6 s5.SL)).rel⟩
        · simp only [if_pos e]
          unfold f_X9_worthOfAll
          rw [s1']
          rfl
        · simp only [if_pos e]
          rw [allLakes_M r3.2.2.1]
          simp only [Option.bind_some, s2']
      · simp only [if_neg e]
        rcases own_cases (x := a1) (no := nl) (by omega) with d | ⟨i, hi, rfl, d⟩
        · refine ⟨-1, I, R, J, M, ?_, ?_, h.up.rel⟩ <;> simp only [if_neg d, if_true]
        · have w := (r3.2.2.2.1.2.1 i (by omega)).1
          have f1 : f_X12_fill J2 1 (nI i) = _ := fill_M (J := J2) (v := 1) (l := i) (by decide) (by omega)
          refine ⟨I2 59 i, I2, sR R 58 0 (R 49 0), J2, M2, ?_, ?_, (Rel_same h (by omega) (SX.trans q4 r4) q6 (SM.trans q5 r5) r6).rel⟩
          · simp (disch := omega) only [if_pos d, if_neg n3, ldI_ok]
          · simp only [if_pos d, if_neg n3, f1, Option.bind_some, ← w]
            rfl
    · have c1 : ¬ (k ≤ 100 ∧ m + k ≤ 9999) := fun q => c q.2
      have c2 : ¬ (0 ≤ k ∧ k ≤ 100 ∧ m + k ≤ 9999) := fun q => c q.2.2
      refine ⟨-1, I, R, J, M, ?_, ?_, h.up.rel⟩ <;> simp only [if_neg c1, if_neg c2, Option.bind_some, if_true]
