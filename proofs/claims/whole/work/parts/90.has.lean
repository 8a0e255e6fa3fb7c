/-! has, owner -/
theorem allDebts_C {I : HI} {R : HR} {s t nh no nl fu : Nat} (h : CL I R s t nh no nl) (hf : 8 < fu) : f_X9_allDebts fu I R s = some (sm (fun o => sm (fun p => I (s + 4) (o * 6 + p)) no) no) := by
  have h' := h
  obtain ⟨h0, h1, h2, h3, h4, h5, h6, h7, h8, h9⟩ := h'
  have hl : f_X9_allDebts_L4 fu fu I R s 0 0 = some (sm (fun o => sm (fun p => I (s + 4) (o * 6 + p)) no) no) := by
    refine loopCf (fun n a i => f_X9_allDebts_L4 fu n I R s a i) (fun i => sm (fun o => sm (fun p => I (s + 4) (o * 6 + p)) no) i) _ no fu ?_ ?_ (by omega)
    · intro n i hi
      have ho := owedBy_C (fu := fu) h hf (show i < 6 by omega)
      simp (disch := omega) only [f_X9_allDebts_L4, ↓zm1, ↓zm2, ↓zm3, ↓zm4, ↓zm5, ↓zm6, ↓zm7, ↓zm8, ↓zm9, ↓zm10, ↓zm11, ↓zm12, ↓zm13, ↓zm14, ↓zm15, ↓zm16, ↓zm17, ↓zm18, ↓zm19, ↓zm20, ↓zm1000000000, zq0, zq1, zq2, zq3, zq4, zq5, zq6, zq7, zq8, zq9, zq10, zq11, zq12, zq13, zq14, zq15, zq16, zq17, zq18, zq19, zq20, zq21, zq22, zq23, zq24, zq25, zq26, zq30, zq31, zq32, zq33, zq34, zq35, zq36, zq37, zq38, zq39, zq40, zq41, zq42, zq43, zq44, zq45, zq47, zq48, zq57, zq59, zq60, zq61, zq62, zq80, zq91, zq93, zq97, zq99, zq100, zq107, zq110, zq120, zq122, zq128, zq149, zq160, zq208, zq240, zq251, zq255, zq256, zq500, zq936, zq999, zq1600, zq1800, zq2048, zq3200, zq4160, zq9999, zq12345, zq1000000, zq1048576, zq100000000, bnd, jnt, zg_ok, gz_0, gz_1, gz_n0, gz_n1, zs_eq, zs_ne, zs_same, zs_other, zA_eq, zA_ne, Option.bind_some, Option.bind_none, nI_add, pk_mul, nI_clamp, nI_leI, nI_ltI, nI_eq, pk_sub, nI_mI, nI_eq_mI, mI_eq_nI, nI_lt_m, ldI_ok, inb_ok, if_pos, if_neg, dv_ok, rem_ok, div_ok, if_true, if_false, zg_ok h0, h1, h5, ho]
      rfl
    · intro n
      simp (disch := omega) only [f_X9_allDebts_L4, ↓zm1, ↓zm2, ↓zm3, ↓zm4, ↓zm5, ↓zm6, ↓zm7, ↓zm8, ↓zm9, ↓zm10, ↓zm11, ↓zm12, ↓zm13, ↓zm14, ↓zm15, ↓zm16, ↓zm17, ↓zm18, ↓zm19, ↓zm20, ↓zm1000000000, zq0, zq1, zq2, zq3, zq4, zq5, zq6, zq7, zq8, zq9, zq10, zq11, zq12, zq13, zq14, zq15, zq16, zq17, zq18, zq19, zq20, zq21, zq22, zq23, zq24, zq25, zq26, zq30, zq31, zq32, zq33, zq34, zq35, zq36, zq37, zq38, zq39, zq40, zq41, zq42, zq43, zq44, zq45, zq47, zq48, zq57, zq59, zq60, zq61, zq62, zq80, zq91, zq93, zq97, zq99, zq100, zq107, zq110, zq120, zq122, zq128, zq149, zq160, zq208, zq240, zq251, zq255, zq256, zq500, zq936, zq999, zq1600, zq1800, zq2048, zq3200, zq4160, zq9999, zq12345, zq1000000, zq1048576, zq100000000, bnd, jnt, zg_ok, gz_0, gz_1, gz_n0, gz_n1, zs_eq, zs_ne, zs_same, zs_other, zA_eq, zA_ne, Option.bind_some, Option.bind_none, nI_add, pk_mul, nI_clamp, nI_leI, nI_ltI, nI_eq, pk_sub, nI_mI, nI_eq_mI, mI_eq_nI, nI_lt_m, ldI_ok, inb_ok, if_pos, if_neg, dv_ok, rem_ok, div_ok, if_true, if_false, zg_ok h0, h1, h5]
  unfold f_X9_allDebts
  rw [hl]
  rfl
section
variable {J : HI} {M : HL} {b nh no nl fu v : Nat} {D : HI}
theorem hasStand_M (h : ML J b nh no nl D) (hf : 8 < fu) : f_X12_has_L99 fu J 0 0 = some (nI (cnt (fun l => decide (¬ lv J 0 1 l ≤ nI 0)) nl)) := by
  obtain ⟨⟨h0, h1⟩, h2, h3, h4, h5, h6, h7, h8, h9, h10⟩ := h
  refine loopCf (fun n a i => f_X12_has_L99 n J a i) (fun i => nI (cnt (fun l => decide (¬ lv J 0 1 l ≤ nI 0)) i)) _ nl fu ?_ ?_ (by omega)
  · intro n i hi
    have hq : f_X12_fill J (nI 0) (nI i) = _ := fill_M (J := J) (v := 0) (l := i) (by decide) (by omega)
    by_cases c : lv J 0 1 i ≤ nI 0
    · rw [cnt_f (by rw [decide_eq_true_iff]; exact fun q => q c)]
      simp (disch := omega) only [f_X12_has_L99, ↓zm1, ↓zm2, ↓zm3, ↓zm4, ↓zm5, ↓zm6, ↓zm7, ↓zm8, ↓zm9, ↓zm10, ↓zm11, ↓zm12, ↓zm13, ↓zm14, ↓zm15, ↓zm16, ↓zm17, ↓zm18, ↓zm19, ↓zm20, ↓zm1000000000, zq0, zq1, zq2, zq3, zq4, zq5, zq6, zq7, zq8, zq9, zq10, zq11, zq12, zq13, zq14, zq15, zq16, zq17, zq18, zq19, zq20, zq21, zq22, zq23, zq24, zq25, zq26, zq30, zq31, zq32, zq33, zq34, zq35, zq36, zq37, zq38, zq39, zq40, zq41, zq42, zq43, zq44, zq45, zq47, zq48, zq57, zq59, zq60, zq61, zq62, zq80, zq91, zq93, zq97, zq99, zq100, zq107, zq110, zq120, zq122, zq128, zq149, zq160, zq208, zq240, zq251, zq255, zq256, zq500, zq936, zq999, zq1600, zq1800, zq2048, zq3200, zq4160, zq9999, zq12345, zq1000000, zq1048576, zq100000000, bnd, jnt, zg_ok, gz_0, gz_1, gz_n0, gz_n1, zs_eq, zs_ne, zs_same, zs_other, zA_eq, zA_ne, Option.bind_some, Option.bind_none, nI_add, pk_mul, nI_clamp, nI_leI, nI_ltI, nI_eq, pk_sub, nI_mI, nI_eq_mI, mI_eq_nI, nI_lt_m, ldI_ok, inb_ok, if_pos, if_neg, dv_ok, rem_ok, div_ok, if_true, if_false, h0, h4, hq, if_pos c, Nat.add_zero]
    · rw [cnt_t (decide_eq_true c)]
      simp (disch := omega) only [f_X12_has_L99, ↓zm1, ↓zm2, ↓zm3, ↓zm4, ↓zm5, ↓zm6, ↓zm7, ↓zm8, ↓zm9, ↓zm10, ↓zm11, ↓zm12, ↓zm13, ↓zm14, ↓zm15, ↓zm16, ↓zm17, ↓zm18, ↓zm19, ↓zm20, ↓zm1000000000, zq0, zq1, zq2, zq3, zq4, zq5, zq6, zq7, zq8, zq9, zq10, zq11, zq12, zq13, zq14, zq15, zq16, zq17, zq18, zq19, zq20, zq21, zq22, zq23, zq24, zq25, zq26, zq30, zq31, zq32, zq33, zq34, zq35, zq36, zq37, zq38, zq39, zq40, zq41, zq42, zq43, zq44, zq45, zq47, zq48, zq57, zq59, zq60, zq61, zq62, zq80, zq91, zq93, zq97, zq99, zq100, zq107, zq110, zq120, zq122, zq128, zq149, zq160, zq208, zq240, zq251, zq255, zq256, zq500, zq936, zq999, zq1600, zq1800, zq2048, zq3200, zq4160, zq9999, zq12345, zq1000000, zq1048576, zq100000000, bnd, jnt, zg_ok, gz_0, gz_1, gz_n0, gz_n1, zs_eq, zs_ne, zs_same, zs_other, zA_eq, zA_ne, Option.bind_some, Option.bind_none, nI_add, pk_mul, nI_clamp, nI_leI, nI_ltI, nI_eq, pk_sub, nI_mI, nI_eq_mI, mI_eq_nI, nI_lt_m, ldI_ok, inb_ok, if_pos, if_neg, dv_ok, rem_ok, div_ok, if_true, if_false, h0, h4, hq, if_neg c]
  · intro n
    simp (disch := omega) only [f_X12_has_L99, ↓zm1, ↓zm2, ↓zm3, ↓zm4, ↓zm5, ↓zm6, ↓zm7, ↓zm8, ↓zm9, ↓zm10, ↓zm11, ↓zm12, ↓zm13, ↓zm14, ↓zm15, ↓zm16, ↓zm17, ↓zm18, ↓zm19, ↓zm20, ↓zm1000000000, zq0, zq1, zq2, zq3, zq4, zq5, zq6, zq7, zq8, zq9, zq10, zq11, zq12, zq13, zq14, zq15, zq16, zq17, zq18, zq19, zq20, zq21, zq22, zq23, zq24, zq25, zq26, zq30, zq31, zq32, zq33, zq34, zq35, zq36, zq37, zq38, zq39, zq40, zq41, zq42, zq43, zq44, zq45, zq47, zq48, zq57, zq59, zq60, zq61, zq62, zq80, zq91, zq93, zq97, zq99, zq100, zq107, zq110, zq120, zq122, zq128, zq149, zq160, zq208, zq240, zq251, zq255, zq256, zq500, zq936, zq999, zq1600, zq1800, zq2048, zq3200, zq4160, zq9999, zq12345, zq1000000, zq1048576, zq100000000, bnd, jnt, zg_ok, gz_0, gz_1, gz_n0, gz_n1, zs_eq, zs_ne, zs_same, zs_other, zA_eq, zA_ne, Option.bind_some, Option.bind_none, nI_add, pk_mul, nI_clamp, nI_leI, nI_ltI, nI_eq, pk_sub, nI_mI, nI_eq_mI, mI_eq_nI, nI_lt_m, ldI_ok, inb_ok, if_pos, if_neg, dv_ok, rem_ok, div_ok, if_true, if_false, h0, h4]
theorem hasAll_M (h : ML J b nh no nl D) (hf : 8 < fu) : f_X12_has_L139 fu J 0 0 = some (sm (lv J 0 1) nl) := by
  obtain ⟨⟨h0, h1⟩, h2, h3, h4, h5, h6, h7, h8, h9, h10⟩ := h
  refine loopCf (fun n a i => f_X12_has_L139 n J a i) (fun i => sm (lv J 0 1) i) _ nl fu ?_ ?_ (by omega)
  · intro n i hi
    have hq : f_X12_fill J (nI 0) (nI i) = _ := fill_M (J := J) (v := 0) (l := i) (by decide) (by omega)
    simp (disch := omega) only [f_X12_has_L139, ↓zm1, ↓zm2, ↓zm3, ↓zm4, ↓zm5, ↓zm6, ↓zm7, ↓zm8, ↓zm9, ↓zm10, ↓zm11, ↓zm12, ↓zm13, ↓zm14, ↓zm15, ↓zm16, ↓zm17, ↓zm18, ↓zm19, ↓zm20, ↓zm1000000000, zq0, zq1, zq2, zq3, zq4, zq5, zq6, zq7, zq8, zq9, zq10, zq11, zq12, zq13, zq14, zq15, zq16, zq17, zq18, zq19, zq20, zq21, zq22, zq23, zq24, zq25, zq26, zq30, zq31, zq32, zq33, zq34, zq35, zq36, zq37, zq38, zq39, zq40, zq41, zq42, zq43, zq44, zq45, zq47, zq48, zq57, zq59, zq60, zq61, zq62, zq80, zq91, zq93, zq97, zq99, zq100, zq107, zq110, zq120, zq122, zq128, zq149, zq160, zq208, zq240, zq251, zq255, zq256, zq500, zq936, zq999, zq1600, zq1800, zq2048, zq3200, zq4160, zq9999, zq12345, zq1000000, zq1048576, zq100000000, bnd, jnt, zg_ok, gz_0, gz_1, gz_n0, gz_n1, zs_eq, zs_ne, zs_same, zs_other, zA_eq, zA_ne, Option.bind_some, Option.bind_none, nI_add, pk_mul, nI_clamp, nI_leI, nI_ltI, nI_eq, pk_sub, nI_mI, nI_eq_mI, mI_eq_nI, nI_lt_m, ldI_ok, inb_ok, if_pos, if_neg, dv_ok, rem_ok, div_ok, if_true, if_false, h0, h4, hq]
    rfl
  · intro n
    simp (disch := omega) only [f_X12_has_L139, ↓zm1, ↓zm2, ↓zm3, ↓zm4, ↓zm5, ↓zm6, ↓zm7, ↓zm8, ↓zm9, ↓zm10, ↓zm11, ↓zm12, ↓zm13, ↓zm14, ↓zm15, ↓zm16, ↓zm17, ↓zm18, ↓zm19, ↓zm20, ↓zm1000000000, zq0, zq1, zq2, zq3, zq4, zq5, zq6, zq7, zq8, zq9, zq10, zq11, zq12, zq13, zq14, zq15, zq16, zq17, zq18, zq19, zq20, zq21, zq22, zq23, zq24, zq25, zq26, zq30, zq31, zq32, zq33, zq34, zq35, zq36, zq37, zq38, zq39, zq40, zq41, zq42, zq43, zq44, zq45, zq47, zq48, zq57, zq59, zq60, zq61, zq62, zq80, zq91, zq93, zq97, zq99, zq100, zq107, zq110, zq120, zq122, zq128, zq149, zq160, zq208, zq240, zq251, zq255, zq256, zq500, zq936, zq999, zq1600, zq1800, zq2048, zq3200, zq4160, zq9999, zq12345, zq1000000, zq1048576, zq100000000, bnd, jnt, zg_ok, gz_0, gz_1, gz_n0, gz_n1, zs_eq, zs_ne, zs_same, zs_other, zA_eq, zA_ne, Option.bind_some, Option.bind_none, nI_add, pk_mul, nI_clamp, nI_leI, nI_ltI, nI_eq, pk_sub, nI_mI, nI_eq_mI, mI_eq_nI, nI_lt_m, ldI_ok, inb_ok, if_pos, if_neg, dv_ok, rem_ok, div_ok, if_true, if_false, h0, h4]
theorem hasDebt_M (h : ML J b nh no nl D) (hf : 8 < fu) : f_X12_has_L181 fu fu J 0 0 = some (sm (fun o => sm (fun p => J 131 (6 * o + p)) no) no) := by
  have h' := h
  obtain ⟨⟨h0, h1⟩, h2, h3, h4, h5, h6, h7, h8, h9, h10⟩ := h'
  refine loopCf (fun n a i => f_X12_has_L181 fu n J a i) (fun i => sm (fun o => sm (fun p => J 131 (6 * o + p)) no) i) _ no fu ?_ ?_ (by omega)
  · intro n i hi
    have ho : f_X12_owed fu J (nI i) (nI 1) = _ := (owed_M (fu := fu) h hf (show i < 6 by omega)).1
    simp (disch := omega) only [f_X12_has_L181, ↓zm1, ↓zm2, ↓zm3, ↓zm4, ↓zm5, ↓zm6, ↓zm7, ↓zm8, ↓zm9, ↓zm10, ↓zm11, ↓zm12, ↓zm13, ↓zm14, ↓zm15, ↓zm16, ↓zm17, ↓zm18, ↓zm19, ↓zm20, ↓zm1000000000, zq0, zq1, zq2, zq3, zq4, zq5, zq6, zq7, zq8, zq9, zq10, zq11, zq12, zq13, zq14, zq15, zq16, zq17, zq18, zq19, zq20, zq21, zq22, zq23, zq24, zq25, zq26, zq30, zq31, zq32, zq33, zq34, zq35, zq36, zq37, zq38, zq39, zq40, zq41, zq42, zq43, zq44, zq45, zq47, zq48, zq57, zq59, zq60, zq61, zq62, zq80, zq91, zq93, zq97, zq99, zq100, zq107, zq110, zq120, zq122, zq128, zq149, zq160, zq208, zq240, zq251, zq255, zq256, zq500, zq936, zq999, zq1600, zq1800, zq2048, zq3200, zq4160, zq9999, zq12345, zq1000000, zq1048576, zq100000000, bnd, jnt, zg_ok, gz_0, gz_1, gz_n0, gz_n1, zs_eq, zs_ne, zs_same, zs_other, zA_eq, zA_ne, Option.bind_some, Option.bind_none, nI_add, pk_mul, nI_clamp, nI_leI, nI_ltI, nI_eq, pk_sub, nI_mI, nI_eq_mI, mI_eq_nI, nI_lt_m, ldI_ok, inb_ok, if_pos, if_neg, dv_ok, rem_ok, div_ok, if_true, if_false, h0, h3, ho]
    rfl
  · intro n
    simp (disch := omega) only [f_X12_has_L181, ↓zm1, ↓zm2, ↓zm3, ↓zm4, ↓zm5, ↓zm6, ↓zm7, ↓zm8, ↓zm9, ↓zm10, ↓zm11, ↓zm12, ↓zm13, ↓zm14, ↓zm15, ↓zm16, ↓zm17, ↓zm18, ↓zm19, ↓zm20, ↓zm1000000000, zq0, zq1, zq2, zq3, zq4, zq5, zq6, zq7, zq8, zq9, zq10, zq11, zq12, zq13, zq14, zq15, zq16, zq17, zq18, zq19, zq20, zq21, zq22, zq23, zq24, zq25, zq26, zq30, zq31, zq32, zq33, zq34, zq35, zq36, zq37, zq38, zq39, zq40, zq41, zq42, zq43, zq44, zq45, zq47, zq48, zq57, zq59, zq60, zq61, zq62, zq80, zq91, zq93, zq97, zq99, zq100, zq107, zq110, zq120, zq122, zq128, zq149, zq160, zq208, zq240, zq251, zq255, zq256, zq500, zq936, zq999, zq1600, zq1800, zq2048, zq3200, zq4160, zq9999, zq12345, zq1000000, zq1048576, zq100000000, bnd, jnt, zg_ok, gz_0, gz_1, gz_n0, gz_n1, zs_eq, zs_ne, zs_same, zs_other, zA_eq, zA_ne, Option.bind_some, Option.bind_none, nI_add, pk_mul, nI_clamp, nI_leI, nI_ltI, nI_eq, pk_sub, nI_mI, nI_eq_mI, mI_eq_nI, nI_lt_m, ldI_ok, inb_ok, if_pos, if_neg, dv_ok, rem_ok, div_ok, if_true, if_false, h0, h3]
end
theorem eq_has : Eq_has Rel := by
  intro n I R J M a0 hn hR
  obtain ⟨t, b, nh, no, nl, h⟩ := hR
  have hLC := h.LC
  obtain ⟨hC, hL, hM, hE, hS, hB, hB', h1⟩ := h.get
  have hC' := hC
  obtain ⟨c0, c1, c2, c3, c4, c5, c6, c7, c8, c9⟩ := hC'
  obtain ⟨⟨m0, m1⟩, m2, m3, m4, m5, m6, m7, m8, m9, m10⟩ := id hM
  obtain ⟨nx, dp, f, tt, hh⟩ := h.2.2.2.2.2.2.2.2
  obtain ⟨p1, p2, p3, p4, p5, p6, p7, p8, p9, p10, p11, p12⟩ := hh
  obtain ⟨L, l1, l2, l3⟩ := h.2.2.2.1
  unfold f_X11_has f_X12_has
  rw [h1]
  by_cases e0 : a0 = 0
  · refine ⟨nI nh, I, J, M, ?_, ?_, h.up.rel⟩
    · simp only [if_pos e0, zg_ok c0, c4]
    · simp (disch := omega) only [if_pos e0, m0, ldI_ok, m2]
  simp only [if_neg e0]
  by_cases e1 : a0 = 1
  · refine ⟨nI no, I, J, M, ?_, ?_, h.up.rel⟩
    · simp only [if_pos e1, zg_ok c0, c5]
    · simp (disch := omega) only [if_pos e1, m0, ldI_ok, m3]
  simp only [if_neg e1]
  by_cases e2 : a0 = 2
  · refine ⟨nI nl, I, J, M, ?_, ?_, h.up.rel⟩
    · simp only [if_pos e2, zg_ok c0, c6]
    · simp (disch := omega) only [if_pos e2, m0, ldI_ok, m4]
  simp only [if_neg e2]
  by_cases e3 : a0 = 3
  · refine ⟨I 49 1, I, J, M, ?_, ?_, h.up.rel⟩
    · simp only [if_pos e3]
    · have : I 49 1 = J 127 0 := hE.1
      simp (disch := omega) only [if_pos e3, zq0, ldI_ok, this]
  simp only [if_neg e3]
  by_cases e4 : a0 = 4
  · have q1 := standing_C (fu := FU) hC FU_big.2
    have q2 := hasStand_M (fu := FU) hM FU_big.2
    have e : cnt (fun l => decide (¬ lv J 0 1 l ≤ nI 0)) nl = cnt (fun l => decide (¬ I (49 + 1) l ≤ nI 0)) nl := cnt_congr (fun l hl => by rw [← (hE.2.1 l (by omega)).1]; rfl)
    rw [e] at q2
    refine ⟨nI (cnt (fun l => decide (¬ I (49 + 1) l ≤ nI 0)) nl), I, J, M, ?_, ?_, h.up.rel⟩
    · simp only [if_pos e4, q1, Option.bind_some]
    · simp only [if_pos e4, q2, Option.bind_some]
  simp only [if_neg e4]
  by_cases e5 : a0 = 5
  · have q1 := allBarrels_C (fu := FU) hC FU_big.2
    have q2 := hasAll_M (fu := FU) hM FU_big.2
    have e : sm (lv J 0 1) nl = sm (I (49 + 1)) nl := sm_congr (fun l hl => (hE.2.1 l (by omega)).1.symm)
    rw [e] at q2
    refine ⟨sm (I (49 + 1)) nl, I, J, M, ?_, ?_, h.up.rel⟩
    · simp only [if_pos e5, q1, Option.bind_some]
    · simp only [if_pos e5, q2, Option.bind_some]
  simp only [if_neg e5]
  by_cases e6 : a0 = 6
  · obtain ⟨I3, J3, M3, s1, s2, s3, s4, s5⟩ := worths_L (M := M) hLC FU_big.1 (B := 255) (B' := 2 ^ nl - 1) (by decide) (by have : 2 ^ nl ≤ 2 ^ 8 := Nat.pow_le_pow_right (by decide) c9; omega) (fun l hl => allBits c9 hl)
    have s1' : f_X9_worthOfBits FU I R 49 255 = _ := s1
    have s2' : f_X12_worthOf FU J M 0 (nI (2 ^ nl - 1)) = _ := s2
    refine ⟨nI (smN (fun l => if (255 : Nat).testBit l = true then woN (vw I t) (sc I 49) nl l else 0) nl), I3, J3, M3, ?_, ?_, (Rel_same h (by omega) (s3.SX (by decide) c2) SR.refl s4.SM s5.SL).rel⟩
    · simp only [if_pos e6]
      unfold f_X9_worthOfAll
      rw [s1']
      rfl
    · simp only [if_pos e6]
      rw [allLakes_M hM]
      simp only [Option.bind_some, s2']
  simp only [if_neg e6]
  by_cases e7 : a0 = 7
  · have q1 := allDebts_C (fu := FU) hC FU_big.2
    have q2 := hasDebt_M (fu := FU) hM FU_big.2
    have e : sm (fun o => sm (fun p => J 131 (6 * o + p)) no) no = sm (fun o => sm (fun p => I (49 + 4) (o * 6 + p)) no) no := sm_congr (fun o ho => sm_congr (fun p hp => by rw [hLC.2.2.2.2.2.2 _ (by omega)]; congr 1; omega))
    rw [e] at q2
    refine ⟨sm (fun o => sm (fun p => I (49 + 4) (o * 6 + p)) no) no, I, J, M, ?_, ?_, h.up.rel⟩
    · simp only [if_pos e7, q1, Option.bind_some]
    · simp only [if_pos e7, q2, Option.bind_some]
  simp only [if_neg e7]
  by_cases e8 : a0 = 8
  · refine ⟨nI (min 40 (tt dp)), I, J, M, ?_, ?_, h.up.rel⟩
    · simp only [if_pos e8]
      unfold f_X5_count f_J9_min_7cf53
      by_cases c : tt dp < 40
      · rw [show min 40 (tt dp) = tt dp by omega]
        simp (disch := omega) only [↓zm1, ↓zm2, ↓zm3, ↓zm4, ↓zm5, ↓zm6, ↓zm7, ↓zm8, ↓zm9, ↓zm10, ↓zm11, ↓zm12, ↓zm13, ↓zm14, ↓zm15, ↓zm16, ↓zm17, ↓zm18, ↓zm19, ↓zm20, ↓zm1000000000, zq0, zq1, zq2, zq3, zq4, zq5, zq6, zq7, zq8, zq9, zq10, zq11, zq12, zq13, zq14, zq15, zq16, zq17, zq18, zq19, zq20, zq21, zq22, zq23, zq24, zq25, zq26, zq30, zq31, zq32, zq33, zq34, zq35, zq36, zq37, zq38, zq39, zq40, zq41, zq42, zq43, zq44, zq45, zq47, zq48, zq57, zq59, zq60, zq61, zq62, zq80, zq91, zq93, zq97, zq99, zq100, zq107, zq110, zq120, zq122, zq128, zq149, zq160, zq208, zq240, zq251, zq255, zq256, zq500, zq936, zq999, zq1600, zq1800, zq2048, zq3200, zq4160, zq9999, zq12345, zq1000000, zq1048576, zq100000000, bnd, jnt, zg_ok, gz_0, gz_1, gz_n0, gz_n1, zs_eq, zs_ne, zs_same, zs_other, zA_eq, zA_ne, Option.bind_some, Option.bind_none, nI_add, pk_mul, nI_clamp, nI_leI, nI_ltI, nI_eq, pk_sub, nI_mI, nI_eq_mI, mI_eq_nI, nI_lt_m, ldI_ok, inb_ok, if_pos, if_neg, dv_ok, rem_ok, div_ok, if_true, if_false, p8]
      · rw [show min 40 (tt dp) = 40 by omega]
        simp (disch := omega) only [↓zm1, ↓zm2, ↓zm3, ↓zm4, ↓zm5, ↓zm6, ↓zm7, ↓zm8, ↓zm9, ↓zm10, ↓zm11, ↓zm12, ↓zm13, ↓zm14, ↓zm15, ↓zm16, ↓zm17, ↓zm18, ↓zm19, ↓zm20, ↓zm1000000000, zq0, zq1, zq2, zq3, zq4, zq5, zq6, zq7, zq8, zq9, zq10, zq11, zq12, zq13, zq14, zq15, zq16, zq17, zq18, zq19, zq20, zq21, zq22, zq23, zq24, zq25, zq26, zq30, zq31, zq32, zq33, zq34, zq35, zq36, zq37, zq38, zq39, zq40, zq41, zq42, zq43, zq44, zq45, zq47, zq48, zq57, zq59, zq60, zq61, zq62, zq80, zq91, zq93, zq97, zq99, zq100, zq107, zq110, zq120, zq122, zq128, zq149, zq160, zq208, zq240, zq251, zq255, zq256, zq500, zq936, zq999, zq1600, zq1800, zq2048, zq3200, zq4160, zq9999, zq12345, zq1000000, zq1048576, zq100000000, bnd, jnt, zg_ok, gz_0, gz_1, gz_n0, gz_n1, zs_eq, zs_ne, zs_same, zs_other, zA_eq, zA_ne, Option.bind_some, Option.bind_none, nI_add, pk_mul, nI_clamp, nI_leI, nI_ltI, nI_eq, pk_sub, nI_mI, nI_eq_mI, mI_eq_nI, nI_lt_m, ldI_ok, inb_ok, if_pos, if_neg, dv_ok, rem_ok, div_ok, if_true, if_false, p8]
    · simp (disch := omega) only [if_pos e8, zq0, ldI_ok, p11.1]
  simp only [if_neg e8]
  by_cases e9 : a0 = 9
  · refine ⟨nI dp, I, J, M, ?_, ?_, h.up.rel⟩
    · simp only [if_pos e9, p5]
    · simp only [if_pos e9, p7]
  simp only [if_neg e9]
  by_cases e10 : a0 = 10
  · refine ⟨nI L, I, J, M, ?_, ?_, h.up.rel⟩
    · simp only [if_pos e10, l2]
    · simp only [if_pos e10, l3, lN_i]
  · exact ⟨-1, I, J, M, by simp only [if_neg e10], by simp only [if_neg e10], h.up.rel⟩
theorem eq_owner : Eq_owner Rel := by
  intro n I R J M a0 a1 hn hR
  obtain ⟨t, b, nh, no, nl, h⟩ := hR
  have hLC := h.LC
  obtain ⟨hC, hL, hM, hE, hS, hB, hB', h1⟩ := h.get
  have h8 := hC.2.2.2.2.2.2.2.2.1
  have ht := hC.2.2.1
  have n3 : ¬ (1 : Int32) = 0 := by decide
  unfold f_X11_owner f_X12_owner
  rw [isOwner_C hC, isOwner_M hM]
  rcases own_cases (x := a0) (no := no) (by omega) with c | ⟨i, hi, rfl, c⟩
  · refine ⟨-1, I, J, M, ?_, ?_, h.up.rel⟩ <;> simp only [if_neg c, Option.bind_some, if_true]
  simp only [if_pos c, Option.bind_some, if_neg n3]
  obtain ⟨B, b1, b2, b3, b4⟩ := lakesOf_L hLC FU_big.2 (nI i)
  have b4' : f_X12_lakesOf FU J 0 (nI i) = _ := b4
  obtain ⟨o1, o2, o3, o4⟩ := owed_L hLC FU_big.2 hi
  by_cases e0 : a1 = 0
  · refine ⟨nI B, I, J, M, ?_, ?_, h.up.rel⟩
    · simp only [if_pos e0, b3, Option.bind_some]
    · simp only [if_pos e0, b4', Option.bind_some]
  simp only [if_neg e0]
  by_cases e1 : a1 = 1
  · obtain ⟨I3, J3, M3, s1, s2, s3, s4, s5⟩ := worths_L (M := M) hLC FU_big.1 (B := B) (B' := B) (by omega) (by omega) (fun l hl => rfl)
    have s2' : f_X12_worthOf FU J M 0 (nI B) = _ := s2
    refine ⟨nI (smN (fun l => if B.testBit l = true then woN (vw I t) (sc I 49) nl l else 0) nl), I3, J3, M3, ?_, ?_, (Rel_same h (by omega) (s3.SX (by decide) ht) SR.refl s4.SM s5.SL).rel⟩
    · simp only [if_pos e1]
      unfold f_X9_worthOfOwner
      simp only [b3, Option.bind_some, s1]
    · simp only [if_pos e1, b4', Option.bind_some, s2']
  simp only [if_neg e1]
  by_cases e2 : a1 = 2
  · refine ⟨sm (fun p => I (49 + 4) (i * 6 + p)) no, I, J, M, ?_, ?_, h.up.rel⟩
    · simp only [if_pos e2, o3, Option.bind_some]
    · simp only [if_pos e2, o1, Option.bind_some]
  simp only [if_neg e2]
  by_cases e3 : a1 = 3
  · refine ⟨sm (fun p => I (49 + 4) (p * 6 + i)) no, I, J, M, ?_, ?_, h.up.rel⟩
    · simp only [if_pos e3, o4, Option.bind_some]
    · simp only [if_pos e3, o2, Option.bind_some]
  simp only [if_neg e3]
  by_cases e4 : a1 = 4
  · obtain ⟨r, I3, J3, M3, hr, s1, s2, s3, s4, s5, s6⟩ := isBroke_L (M := M) hLC FU_big.1 hi
    have s2' : f_X12_isBroke FU J M 0 (nI i) = _ := s2
    refine ⟨r, I3, J3, M3, ?_, ?_, (Rel_same h (by omega) (s3.SX (by decide) ht) SR.refl s4.SM s5.SL).rel⟩
    · simp only [if_pos e4, s1, Option.bind_some]
      rcases hr with q | q <;> subst q <;> rfl
    · simp only [if_pos e4, s2', Option.bind_some]
      rcases hr with q | q <;> subst q <;> rfl
  · exact ⟨-1, I, J, M, by simp only [if_neg e4], by simp only [if_neg e4], h.up.rel⟩
