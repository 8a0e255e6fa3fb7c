def LO (J J' : HI) : Prop := ∀ x, x ≠ 135 → x ≠ 136 → J' x = J x
theorem LO.refl {J : HI} : LO J J := fun _ _ _ => rfl
theorem AO.LO {J J' : HI} (h : AO J J') : LO J J' := fun x hx _ => h x hx
theorem LO.trans {J J' J'' : HI} (h : LO J J') (h' : LO J' J'') : LO J J'' := fun x hx hy => (h' x hx hy).trans (h x hx hy)
theorem LO.lvE {J J' : HI} (h : LO J J') (v : Nat) : lv J' v = lv J v := by
  funext a k
  unfold lv
  rw [h 127 (by decide) (by decide), h 128 (by decide) (by decide), h 129 (by decide) (by decide), h 130 (by decide) (by decide), h 131 (by decide) (by decide)]
theorem LO.ML {J J' : HI} {b nh no nl : Nat} {D : HI} (h : LO J J') (hM : ML J b nh no nl D) : ML J' b nh no nl D := ML_congr (by rw [h 100 (by decide) (by decide)]) (fun x h1 h2 => h x (by omega) (by omega)) hM
section
variable {J : HI} {M : HL} {b nh no nl fu v : Nat} {D : HI}
theorem worth_K (h : ML J b nh no nl D) (hL : LR D) (hW : BW (lv J v)) (hf : 1600 < fu) (hv : v < 26) {l : Nat} (hl : l < nl) {K : HI} (hK : LO J K) : ∃ J' M', f_X12_worth fu K M (nI v) (nI l) = some (nI (woN D (lv J v) nl l), J', M') ∧ AO K J' ∧ OtL M M' := by
  have h' := worth_M (fu := fu) (M := M) (hK.ML h) hL (by rw [hK.lvE]; exact hW) hf hv hl
  rw [hK.lvE] at h'
  exact h'
theorem leaking_K (h : ML J b nh no nl D) (hL : LR D) (hW : BW (lv J v)) (hf : 1600 < fu) (hv : v < 26) {l d : Nat} (hd : d ≤ 1) (hl : l < nl) {K : HI} (hK : LO J K) : ∃ J' M', f_X12_leaking fu K M (nI v) (nI l) (nI d) = some (nI (lkN D (lv J v) nl l d), J', M') ∧ AO K J' ∧ OtL M M' := by
  have h' := leaking_M (fu := fu) (M := M) (hK.ML h) hL (by rw [hK.lvE]; exact hW) hf hv hd hl
  rw [hK.lvE] at h'
  exact h'
theorem worthOf_M (h : ML J b nh no nl D) (hL : LR D) (hW : BW (lv J v)) (hf : 1600 < fu) (hv : v < 26) {B : Nat} (hB : B < 2 ^ 31) : ∃ J' M', f_X12_worthOf fu J M (nI v) (nI B) = some (nI (smN (fun l => if B.testBit l = true then woN D (lv J v) nl l else 0) nl), J', M') ∧ AO J J' ∧ OtL M M' := by
  have h' := h
  obtain ⟨⟨h0, h1⟩, h2, h3, h4, h5, h6, h7, h8, h9, h10⟩ := h'
  have key : ∃ r : Int32 × HI × HL, f_X12_worthOf_L5 fu fu J M (nI v) (nI B) 0 0 = some r ∧ (r.1 = nI (smN (fun l => if B.testBit l = true then woN D (lv J v) nl l else 0) nl) ∧ AO J r.2.1 ∧ OtL M r.2.2) := by
    refine loopP (fun n (a : Int32 × HI × HL) i => f_X12_worthOf_L5 fu n a.2.1 a.2.2 (nI v) (nI B) a.1 i) (fun i a => a.1 = nI (smN (fun l => if B.testBit l = true then woN D (lv J v) nl l else 0) i) ∧ AO J a.2.1 ∧ OtL M a.2.2)
      (fun a => a.1 = nI (smN (fun l => if B.testBit l = true then woN D (lv J v) nl l else 0) nl) ∧ AO J a.2.1 ∧ OtL M a.2.2) nl fu (0, J, M) ⟨rfl, AO.refl, fun _ _ => rfl⟩ ?_ ?_ (by omega)
    · intro n i a hi ha
      obtain ⟨x, K, N⟩ := a
      obtain ⟨ha1, ha2, ha3⟩ := ha
      have ha1 : x = nI (smN (fun l => if B.testBit l = true then woN D (lv J v) nl l else 0) i) := ha1
      have ha2 : AO J K := ha2
      have ha3 : OtL M N := ha3
      have e1 : K 100 13 = nI b := by rw [ha2 100 (by decide)]; exact h0
      have e6 : K 106 b = nI nl := by rw [ha2 106 (by decide)]; exact h4
      have es : smN (fun l => if B.testBit l = true then woN D (lv J v) nl l else 0) (i + 1) = smN (fun l => if B.testBit l = true then woN D (lv J v) nl l else 0) i + (if B.testBit i = true then woN D (lv J v) nl i else 0) := rfl
      have hh := has2_ok (x := B) (i := i) hB (by omega)
      by_cases c : B.testBit i = true
      · obtain ⟨K', N', k1, k2, k3⟩ := worth_K (fu := fu) (M := N) h hL hW hf hv hi ha2.LO
        rw [if_pos c] at hh
        refine ⟨(x + nI (woN D (lv J v) nl i), K', N'), ?_, ?_, ha2.trans k2, ha3.trans k3⟩
        · simp (disch := omega) only [f_X12_worthOf_L5, hh, ↓zm1, ↓zm2, ↓zm3, ↓zm4, ↓zm5, ↓zm6, ↓zm7, ↓zm8, ↓zm9, ↓zm10, ↓zm11, ↓zm12, ↓zm13, ↓zm14, ↓zm15, ↓zm16, ↓zm17, ↓zm18, ↓zm19, ↓zm20, ↓zm1000000000, zq0, zq1, zq2, zq3, zq4, zq5, zq6, zq7, zq8, zq9, zq10, zq11, zq12, zq13, zq14, zq15, zq16, zq17, zq18, zq19, zq20, zq21, zq22, zq23, zq24, zq25, zq26, zq30, zq31, zq32, zq33, zq34, zq35, zq36, zq37, zq38, zq39, zq40, zq41, zq42, zq43, zq44, zq45, zq47, zq48, zq57, zq59, zq60, zq61, zq62, zq80, zq91, zq93, zq97, zq99, zq100, zq107, zq110, zq120, zq122, zq128, zq149, zq160, zq208, zq240, zq251, zq255, zq256, zq500, zq936, zq999, zq1600, zq1800, zq2048, zq3200, zq4160, zq9999, zq12345, zq1000000, zq1048576, zq100000000, bnd, jnt, zg_ok, gz_0, gz_1, gz_n0, gz_n1, zs_eq, zs_ne, zs_same, zs_other, zA_eq, zA_ne, Option.bind_some, Option.bind_none, nI_add, pk_mul, nI_clamp, nI_leI, nI_ltI, nI_eq, pk_sub, nI_mI, nI_eq_mI, mI_eq_nI, nI_lt_m, ldI_ok, inb_ok, if_pos, if_neg, dv_ok, rem_ok, div_ok, if_true, if_false, e1, e6, k1]
        · rw [es, if_pos c, ha1, nI_add]
      · rw [if_neg c] at hh
        refine ⟨(x, K, N), ?_, ?_, ha2, ha3⟩
        · simp (disch := omega) only [f_X12_worthOf_L5, hh, ↓zm1, ↓zm2, ↓zm3, ↓zm4, ↓zm5, ↓zm6, ↓zm7, ↓zm8, ↓zm9, ↓zm10, ↓zm11, ↓zm12, ↓zm13, ↓zm14, ↓zm15, ↓zm16, ↓zm17, ↓zm18, ↓zm19, ↓zm20, ↓zm1000000000, zq0, zq1, zq2, zq3, zq4, zq5, zq6, zq7, zq8, zq9, zq10, zq11, zq12, zq13, zq14, zq15, zq16, zq17, zq18, zq19, zq20, zq21, zq22, zq23, zq24, zq25, zq26, zq30, zq31, zq32, zq33, zq34, zq35, zq36, zq37, zq38, zq39, zq40, zq41, zq42, zq43, zq44, zq45, zq47, zq48, zq57, zq59, zq60, zq61, zq62, zq80, zq91, zq93, zq97, zq99, zq100, zq107, zq110, zq120, zq122, zq128, zq149, zq160, zq208, zq240, zq251, zq255, zq256, zq500, zq936, zq999, zq1600, zq1800, zq2048, zq3200, zq4160, zq9999, zq12345, zq1000000, zq1048576, zq100000000, bnd, jnt, zg_ok, gz_0, gz_1, gz_n0, gz_n1, zs_eq, zs_ne, zs_same, zs_other, zA_eq, zA_ne, Option.bind_some, Option.bind_none, nI_add, pk_mul, nI_clamp, nI_leI, nI_ltI, nI_eq, pk_sub, nI_mI, nI_eq_mI, mI_eq_nI, nI_lt_m, ldI_ok, inb_ok, if_pos, if_neg, dv_ok, rem_ok, div_ok, if_true, if_false, e1, e6]
          rw [← zq0, Int32.add_zero]
        · rw [es, if_neg c, ha1]
          rfl
    · intro n a ha
      obtain ⟨x, K, N⟩ := a
      obtain ⟨ha1, ha2, ha3⟩ := ha
      have ha2 : AO J K := ha2
      have e1 : K 100 13 = nI b := by rw [ha2 100 (by decide)]; exact h0
      have e6 : K 106 b = nI nl := by rw [ha2 106 (by decide)]; exact h4
      refine ⟨(x, K, N), ?_, ha1, ha2, ha3⟩
      simp (disch := omega) only [f_X12_worthOf_L5, ↓zm1, ↓zm2, ↓zm3, ↓zm4, ↓zm5, ↓zm6, ↓zm7, ↓zm8, ↓zm9, ↓zm10, ↓zm11, ↓zm12, ↓zm13, ↓zm14, ↓zm15, ↓zm16, ↓zm17, ↓zm18, ↓zm19, ↓zm20, ↓zm1000000000, zq0, zq1, zq2, zq3, zq4, zq5, zq6, zq7, zq8, zq9, zq10, zq11, zq12, zq13, zq14, zq15, zq16, zq17, zq18, zq19, zq20, zq21, zq22, zq23, zq24, zq25, zq26, zq30, zq31, zq32, zq33, zq34, zq35, zq36, zq37, zq38, zq39, zq40, zq41, zq42, zq43, zq44, zq45, zq47, zq48, zq57, zq59, zq60, zq61, zq62, zq80, zq91, zq93, zq97, zq99, zq100, zq107, zq110, zq120, zq122, zq128, zq149, zq160, zq208, zq240, zq251, zq255, zq256, zq500, zq936, zq999, zq1600, zq1800, zq2048, zq3200, zq4160, zq9999, zq12345, zq1000000, zq1048576, zq100000000, bnd, jnt, zg_ok, gz_0, gz_1, gz_n0, gz_n1, zs_eq, zs_ne, zs_same, zs_other, zA_eq, zA_ne, Option.bind_some, Option.bind_none, nI_add, pk_mul, nI_clamp, nI_leI, nI_ltI, nI_eq, pk_sub, nI_mI, nI_eq_mI, mI_eq_nI, nI_lt_m, ldI_ok, inb_ok, if_pos, if_neg, dv_ok, rem_ok, div_ok, if_true, if_false, e1, e6]
  obtain ⟨r, e1, e2, e3, e4⟩ := key
  refine ⟨r.2.1, r.2.2, ?_, e3, e4⟩
  unfold f_X12_worthOf
  simp only [e1, Option.bind_some, e2]
theorem sets_M {K : HI} {j x : Nat} (hv : v < 26) (hj : j < 8) (hx : x < 2 ^ 31) : f_X12_sets K (nI v) (nI j) (nI x) = some (if x = 0 then sI (sI (sI K 128 (8 * v + j) (nI 0)) 129 (8 * v + j) (mI 1)) 130 (8 * v + j) (mI 1) else sI K 128 (8 * v + j) (nI x)) := by
  unfold f_X12_sets
  by_cases c : x = 0
  · subst c
    rw [if_pos rfl]
    simp (disch := omega) only [↓zm1, ↓zm2, ↓zm3, ↓zm4, ↓zm5, ↓zm6, ↓zm7, ↓zm8, ↓zm9, ↓zm10, ↓zm11, ↓zm12, ↓zm13, ↓zm14, ↓zm15, ↓zm16, ↓zm17, ↓zm18, ↓zm19, ↓zm20, ↓zm1000000000, zq0, zq1, zq2, zq3, zq4, zq5, zq6, zq7, zq8, zq9, zq10, zq11, zq12, zq13, zq14, zq15, zq16, zq17, zq18, zq19, zq20, zq21, zq22, zq23, zq24, zq25, zq26, zq30, zq31, zq32, zq33, zq34, zq35, zq36, zq37, zq38, zq39, zq40, zq41, zq42, zq43, zq44, zq45, zq47, zq48, zq57, zq59, zq60, zq61, zq62, zq80, zq91, zq93, zq97, zq99, zq100, zq107, zq110, zq120, zq122, zq128, zq149, zq160, zq208, zq240, zq251, zq255, zq256, zq500, zq936, zq999, zq1600, zq1800, zq2048, zq3200, zq4160, zq9999, zq12345, zq1000000, zq1048576, zq100000000, bnd, jnt, zg_ok, gz_0, gz_1, gz_n0, gz_n1, zs_eq, zs_ne, zs_same, zs_other, zA_eq, zA_ne, Option.bind_some, Option.bind_none, nI_add, pk_mul, nI_clamp, nI_leI, nI_ltI, nI_eq, pk_sub, nI_mI, nI_eq_mI, mI_eq_nI, nI_lt_m, ldI_ok, inb_ok, if_pos, if_neg, dv_ok, rem_ok, div_ok, if_true, if_false]
  · rw [if_neg c]
    simp (disch := omega) only [↓zm1, ↓zm2, ↓zm3, ↓zm4, ↓zm5, ↓zm6, ↓zm7, ↓zm8, ↓zm9, ↓zm10, ↓zm11, ↓zm12, ↓zm13, ↓zm14, ↓zm15, ↓zm16, ↓zm17, ↓zm18, ↓zm19, ↓zm20, ↓zm1000000000, zq0, zq1, zq2, zq3, zq4, zq5, zq6, zq7, zq8, zq9, zq10, zq11, zq12, zq13, zq14, zq15, zq16, zq17, zq18, zq19, zq20, zq21, zq22, zq23, zq24, zq25, zq26, zq30, zq31, zq32, zq33, zq34, zq35, zq36, zq37, zq38, zq39, zq40, zq41, zq42, zq43, zq44, zq45, zq47, zq48, zq57, zq59, zq60, zq61, zq62, zq80, zq91, zq93, zq97, zq99, zq100, zq107, zq110, zq120, zq122, zq128, zq149, zq160, zq208, zq240, zq251, zq255, zq256, zq500, zq936, zq999, zq1600, zq1800, zq2048, zq3200, zq4160, zq9999, zq12345, zq1000000, zq1048576, zq100000000, bnd, jnt, zg_ok, gz_0, gz_1, gz_n0, gz_n1, zs_eq, zs_ne, zs_same, zs_other, zA_eq, zA_ne, Option.bind_some, Option.bind_none, nI_add, pk_mul, nI_clamp, nI_leI, nI_ltI, nI_eq, pk_sub, nI_mI, nI_eq_mI, mI_eq_nI, nI_lt_m, ldI_ok, inb_ok, if_pos, if_neg, dv_ok, rem_ok, div_ok, if_true, if_false]
/-- what a night of a layer leaves as it was -/
def PO (v : Nat) (J J' : HI) : Prop := (∀ x, x < 127 ∨ x = 131 ∨ x = 132 ∨ x = 133 ∨ 137 ≤ x → J' x = J x) ∧ (∀ k, k < 8 * v ∨ 8 * v + 8 ≤ k → J' 128 k = J 128 k ∧ J' 129 k = J 129 k ∧ J' 130 k = J 130 k) ∧ (∀ w, w ≠ v → J' 127 w = J 127 w)
theorem passes_M (h : ML J b nh no nl D) (hL : LR D) (hW : BW (lv J v)) (hf : 1600 < fu) (hv : v < 26) {d : Nat} (hd : d ≤ 1) :
    ∃ J' M', f_X12_passes fu J M (nI v) (nI d) = some (nI (smN (fun l => lkN D (lv J v) nl l d) nl), J', M') ∧ PO v J J' ∧ (∀ a k, 1 ≤ a → a ≤ 3 → k < 8 → lv J' v a k = ntS (lv J v) (fun l => lkN D (lv J v) nl l d) nl a k) ∧ J' 127 v = J 127 v + 1 ∧ OtL M M' := by
  have h' := h
  obtain ⟨⟨h0, h1⟩, h2, h3, h4, h5, h6, h7, h8, h9, h10⟩ := h'
  have key1 : ∃ r : HI × HL, f_X12_passes_L5 fu fu J M (nI v) (nI d) 0 = some r ∧ (LO J r.1 ∧ (∀ j, j < nl → r.1 136 j = nI (lkN D (lv J v) nl j d)) ∧ OtL M r.2) := by
    refine loopP (fun n (a : HI × HL) i => f_X12_passes_L5 fu n a.1 a.2 (nI v) (nI d) i) (fun i a => LO J a.1 ∧ (∀ j, j < i → a.1 136 j = nI (lkN D (lv J v) nl j d)) ∧ OtL M a.2)
      (fun a => LO J a.1 ∧ (∀ j, j < nl → a.1 136 j = nI (lkN D (lv J v) nl j d)) ∧ OtL M a.2) nl fu (J, M) ⟨LO.refl, fun j hj => absurd hj (by omega), fun _ _ => rfl⟩ ?_ ?_ (by omega)
    · intro n i a hi ha
      obtain ⟨K, N⟩ := a
      obtain ⟨ha1, ha2, ha3⟩ := ha
      have ha1 : LO J K := ha1
      have ha3 : OtL M N := ha3
      have ha2 : ∀ j, j < i → K 136 j = nI (lkN D (lv J v) nl j d) := ha2
      have e1 : K 100 13 = nI b := by rw [ha1 100 (by decide) (by decide)]; exact h0
      have e6 : K 106 b = nI nl := by rw [ha1 106 (by decide) (by decide)]; exact h4
      obtain ⟨K', N', k1, k2, k3⟩ := leaking_K (fu := fu) (M := N) h hL hW hf hv hd hi ha1
      refine ⟨(sI K' 136 i (nI (lkN D (lv J v) nl i d)), N'), ?_, ?_, ?_, ha3.trans k3⟩
      · simp (disch := omega) only [f_X12_passes_L5, ↓zm1, ↓zm2, ↓zm3, ↓zm4, ↓zm5, ↓zm6, ↓zm7, ↓zm8, ↓zm9, ↓zm10, ↓zm11, ↓zm12, ↓zm13, ↓zm14, ↓zm15, ↓zm16, ↓zm17, ↓zm18, ↓zm19, ↓zm20, ↓zm1000000000, zq0, zq1, zq2, zq3, zq4, zq5, zq6, zq7, zq8, zq9, zq10, zq11, zq12, zq13, zq14, zq15, zq16, zq17, zq18, zq19, zq20, zq21, zq22, zq23, zq24, zq25, zq26, zq30, zq31, zq32, zq33, zq34, zq35, zq36, zq37, zq38, zq39, zq40, zq41, zq42, zq43, zq44, zq45, zq47, zq48, zq57, zq59, zq60, zq61, zq62, zq80, zq91, zq93, zq97, zq99, zq100, zq107, zq110, zq120, zq122, zq128, zq149, zq160, zq208, zq240, zq251, zq255, zq256, zq500, zq936, zq999, zq1600, zq1800, zq2048, zq3200, zq4160, zq9999, zq12345, zq1000000, zq1048576, zq100000000, bnd, jnt, zg_ok, gz_0, gz_1, gz_n0, gz_n1, zs_eq, zs_ne, zs_same, zs_other, zA_eq, zA_ne, Option.bind_some, Option.bind_none, nI_add, pk_mul, nI_clamp, nI_leI, nI_ltI, nI_eq, pk_sub, nI_mI, nI_eq_mI, mI_eq_nI, nI_lt_m, ldI_ok, inb_ok, if_pos, if_neg, dv_ok, rem_ok, div_ok, if_true, if_false, e1, e6, k1]
      · intro x hx hy
        show sI K' 136 i _ x = J x
        rw [zs_ne hy, k2 x hx, ha1 x hx hy]
      · intro j hj
        show sI K' 136 i _ 136 j = _
        rw [zs_eq]
        by_cases c : j = i
        · subst c; rw [zs_same]
        · rw [zs_other c, k2 136 (by decide)]
          exact ha2 j (by omega)
    · intro n a ha
      obtain ⟨K, N⟩ := a
      obtain ⟨ha1, ha2, ha3⟩ := ha
      have ha1 : LO J K := ha1
      have e1 : K 100 13 = nI b := by rw [ha1 100 (by decide) (by decide)]; exact h0
      have e6 : K 106 b = nI nl := by rw [ha1 106 (by decide) (by decide)]; exact h4
      refine ⟨(K, N), ?_, ha1, ha2, ha3⟩
      simp (disch := omega) only [f_X12_passes_L5, ↓zm1, ↓zm2, ↓zm3, ↓zm4, ↓zm5, ↓zm6, ↓zm7, ↓zm8, ↓zm9, ↓zm10, ↓zm11, ↓zm12, ↓zm13, ↓zm14, ↓zm15, ↓zm16, ↓zm17, ↓zm18, ↓zm19, ↓zm20, ↓zm1000000000, zq0, zq1, zq2, zq3, zq4, zq5, zq6, zq7, zq8, zq9, zq10, zq11, zq12, zq13, zq14, zq15, zq16, zq17, zq18, zq19, zq20, zq21, zq22, zq23, zq24, zq25, zq26, zq30, zq31, zq32, zq33, zq34, zq35, zq36, zq37, zq38, zq39, zq40, zq41, zq42, zq43, zq44, zq45, zq47, zq48, zq57, zq59, zq60, zq61, zq62, zq80, zq91, zq93, zq97, zq99, zq100, zq107, zq110, zq120, zq122, zq128, zq149, zq160, zq208, zq240, zq251, zq255, zq256, zq500, zq936, zq999, zq1600, zq1800, zq2048, zq3200, zq4160, zq9999, zq12345, zq1000000, zq1048576, zq100000000, bnd, jnt, zg_ok, gz_0, gz_1, gz_n0, gz_n1, zs_eq, zs_ne, zs_same, zs_other, zA_eq, zA_ne, Option.bind_some, Option.bind_none, nI_add, pk_mul, nI_clamp, nI_leI, nI_ltI, nI_eq, pk_sub, nI_mI, nI_eq_mI, mI_eq_nI, nI_lt_m, ldI_ok, inb_ok, if_pos, if_neg, dv_ok, rem_ok, div_ok, if_true, if_false, e1, e6]
  obtain ⟨⟨K, N⟩, e1, e2, e3, e4⟩ := key1
  have e2 : LO J K := e2
  have e3 : ∀ j, j < nl → K 136 j = nI (lkN D (lv J v) nl j d) := e3
  have hb : ∀ j, j < 8 → (lv J v 1 j) = nI (lv J v 1 j).toNatClampNeg ∧ (lv J v 1 j).toNatClampNeg ≤ 999 := by
    intro j hj
    obtain ⟨x, hx, ex⟩ := hW.1 j hj
    rw [ex, nI_clamp (by omega)]
    exact ⟨rfl, hx⟩
  have key2 : ∃ r : Int32 × HI, f_X12_passes_L43 fu K (nI v) 0 0 = some r ∧ (r.1 = nI (smN (fun l => lkN D (lv J v) nl l d) nl) ∧ (∀ x, x ≠ 128 → x ≠ 129 → x ≠ 130 → r.2 x = K x) ∧ (∀ k, k < 8 * v ∨ 8 * v + 8 ≤ k → r.2 128 k = K 128 k ∧ r.2 129 k = K 129 k ∧ r.2 130 k = K 130 k) ∧ (∀ a k, 1 ≤ a → a ≤ 3 → k < 8 → lv r.2 v a k = ntS (lv J v) (fun l => lkN D (lv J v) nl l d) nl a k)) := by
    refine loopP (fun n (a : Int32 × HI) i => f_X12_passes_L43 n a.2 (nI v) a.1 i) (fun i r => r.1 = nI (smN (fun l => lkN D (lv J v) nl l d) i) ∧ (∀ x, x ≠ 128 → x ≠ 129 → x ≠ 130 → r.2 x = K x) ∧ (∀ k, k < 8 * v ∨ 8 * v + 8 ≤ k → r.2 128 k = K 128 k ∧ r.2 129 k = K 129 k ∧ r.2 130 k = K 130 k) ∧ (∀ a k, 1 ≤ a → a ≤ 3 → k < 8 → lv r.2 v a k = ntS (lv J v) (fun l => lkN D (lv J v) nl l d) i a k))
      (fun r => r.1 = nI (smN (fun l => lkN D (lv J v) nl l d) nl) ∧ (∀ x, x ≠ 128 → x ≠ 129 → x ≠ 130 → r.2 x = K x) ∧ (∀ k, k < 8 * v ∨ 8 * v + 8 ≤ k → r.2 128 k = K 128 k ∧ r.2 129 k = K 129 k ∧ r.2 130 k = K 130 k) ∧ (∀ a k, 1 ≤ a → a ≤ 3 → k < 8 → lv r.2 v a k = ntS (lv J v) (fun l => lkN D (lv J v) nl l d) nl a k)) nl fu (0, K) ⟨rfl, fun _ _ _ _ => rfl, fun _ _ => ⟨rfl, rfl, rfl⟩, ?_⟩ ?_ ?_ (by omega)
    · intro a k ha1 ha2 hk
      show lv K v a k = _
      rw [e2.lvE]
      have hz : a = 1 ∨ a = 2 ∨ a = 3 := by omega
      rcases hz with q | q | q <;> subst q <;> simp [ntS]
    · intro n i a hi ha
      obtain ⟨x, V⟩ := a
      obtain ⟨a1, a2, a3, a4⟩ := ha
      have a1 : x = nI (smN (fun l => lkN D (lv J v) nl l d) i) := a1
      have a2 : ∀ x, x ≠ 128 → x ≠ 129 → x ≠ 130 → V x = K x := a2
      have a3 : ∀ k, k < 8 * v ∨ 8 * v + 8 ≤ k → V 128 k = K 128 k ∧ V 129 k = K 129 k ∧ V 130 k = K 130 k := a3
      have a4 : ∀ a k, 1 ≤ a → a ≤ 3 → k < 8 → lv V v a k = ntS (lv J v) (fun l => lkN D (lv J v) nl l d) i a k := a4
      have q0 : V 100 13 = nI b := by rw [a2 100 (by decide) (by decide) (by decide), e2 100 (by decide) (by decide)]; exact h0
      have q6 : V 106 b = nI nl := by rw [a2 106 (by decide) (by decide) (by decide), e2 106 (by decide) (by decide)]; exact h4
      have q5 : V 136 i = nI (lkN D (lv J v) nl i d) := by rw [a2 136 (by decide) (by decide) (by decide)]; exact e3 i hi
      have hle := lkN_le (D := D) (S := lv J v) (nl := nl) (l := i) (d := d)
      obtain ⟨p1, p2⟩ := hb i (by omega)
      have q7 : f_X12_fill V (nI v) (nI i) = some (nI (lv J v 1 i).toNatClampNeg) := by
        rw [fill_M hv (by omega), a4 1 i (by omega) (by omega) (by omega)]
        show some (if 1 = 1 then (if i < i then _ else lv J v 1 i) else _) = _
        rw [if_pos rfl, if_neg (by omega)]
        exact congrArg some p1
      have hset := sets_M (K := V) (v := v) (j := i) (x := (lv J v 1 i).toNatClampNeg - lkN D (lv J v) nl i d) hv (by omega) (by omega)
      obtain ⟨V', hV', hset⟩ : ∃ V' : HI, V' = (if (lv J v 1 i).toNatClampNeg - lkN D (lv J v) nl i d = 0 then sI (sI (sI V 128 (8 * v + i) (nI 0)) 129 (8 * v + i) (mI 1)) 130 (8 * v + i) (mI 1) else sI V 128 (8 * v + i) (nI ((lv J v 1 i).toNatClampNeg - lkN D (lv J v) nl i d))) ∧ f_X12_sets V (nI v) (nI i) (nI ((lv J v 1 i).toNatClampNeg - lkN D (lv J v) nl i d)) = some V' := ⟨_, rfl, hset⟩
      have q8 : V' 136 i = nI (lkN D (lv J v) nl i d) := by
        rw [hV']
        split
        · rw [zs_ne (by decide), zs_ne (by decide), zs_ne (by decide)]; exact q5
        · rw [zs_ne (by decide)]; exact q5
      refine ⟨(x + nI (lkN D (lv J v) nl i d), V'), ?_, ?_, ?_, ?_, ?_⟩
      · simp (disch := omega) only [f_X12_passes_L43, ↓zm1, ↓zm2, ↓zm3, ↓zm4, ↓zm5, ↓zm6, ↓zm7, ↓zm8, ↓zm9, ↓zm10, ↓zm11, ↓zm12, ↓zm13, ↓zm14, ↓zm15, ↓zm16, ↓zm17, ↓zm18, ↓zm19, ↓zm20, ↓zm1000000000, zq0, zq1, zq2, zq3, zq4, zq5, zq6, zq7, zq8, zq9, zq10, zq11, zq12, zq13, zq14, zq15, zq16, zq17, zq18, zq19, zq20, zq21, zq22, zq23, zq24, zq25, zq26, zq30, zq31, zq32, zq33, zq34, zq35, zq36, zq37, zq38, zq39, zq40, zq41, zq42, zq43, zq44, zq45, zq47, zq48, zq57, zq59, zq60, zq61, zq62, zq80, zq91, zq93, zq97, zq99, zq100, zq107, zq110, zq120, zq122, zq128, zq149, zq160, zq208, zq240, zq251, zq255, zq256, zq500, zq936, zq999, zq1600, zq1800, zq2048, zq3200, zq4160, zq9999, zq12345, zq1000000, zq1048576, zq100000000, bnd, jnt, zg_ok, gz_0, gz_1, gz_n0, gz_n1, zs_eq, zs_ne, zs_same, zs_other, zA_eq, zA_ne, Option.bind_some, Option.bind_none, nI_add, pk_mul, nI_clamp, nI_leI, nI_ltI, nI_eq, pk_sub, nI_mI, nI_eq_mI, mI_eq_nI, nI_lt_m, ldI_ok, inb_ok, if_pos, if_neg, dv_ok, rem_ok, div_ok, if_true, if_false, q0, q6, q5, q7, hset, q8]
      · show x + _ = nI (smN _ i + _)
        rw [a1, nI_add]
      · intro y y1 y2 y3
        show V' y = K y
        rw [hV']
        split
        · rw [zs_ne y3, zs_ne y2, zs_ne y1]
          exact a2 y y1 y2 y3
        · rw [zs_ne y1]
          exact a2 y y1 y2 y3
      · intro k hk
        show V' 128 k = _ ∧ V' 129 k = _ ∧ V' 130 k = _
        obtain ⟨o1, o2, o3⟩ := a3 k hk
        rw [hV']
        split
        · simp (disch := omega) only [bnd, jnt, zg_ok, gz_0, gz_1, gz_n0, gz_n1, zs_eq, zs_ne, zs_same, zs_other, zA_eq, zA_ne, Option.bind_some, Option.bind_none]
          exact ⟨o1, o2, o3⟩
        · simp (disch := omega) only [bnd, jnt, zg_ok, gz_0, gz_1, gz_n0, gz_n1, zs_eq, zs_ne, zs_same, zs_other, zA_eq, zA_ne, Option.bind_some, Option.bind_none]
          exact ⟨o1, o2, o3⟩
      · intro a k ha1 ha2 hk
        show lv V' v a k = _
        have ho := a4 a k ha1 ha2 hk
        have hz : a = 1 ∨ a = 2 ∨ a = 3 := by omega
        rw [hV']
        by_cases ck : k = i
        · subst ck
          have hk1 : k < k + 1 := by omega
          split
          · rename_i c0
            have c1 : (J 128 (8 * v + k)).toNatClampNeg - lkN D (lv J v) nl k d = 0 := c0
            rcases hz with q | q | q <;> subst q <;> simp [lv, ntS, c0] <;> simp (disch := omega) only [bnd, jnt, zg_ok, gz_0, gz_1, gz_n0, gz_n1, zs_eq, zs_ne, zs_same, zs_other, zA_eq, zA_ne, Option.bind_some, Option.bind_none, c1] <;> simp
          · rename_i c0
            have c1 : ¬ (J 128 (8 * v + k)).toNatClampNeg - lkN D (lv J v) nl k d = 0 := c0
            rcases hz with q | q | q <;> subst q <;> simp [lv, ntS, c0] <;> simp (disch := omega) only [bnd, jnt, zg_ok, gz_0, gz_1, gz_n0, gz_n1, zs_eq, zs_ne, zs_same, zs_other, zA_eq, zA_ne, Option.bind_some, Option.bind_none]
            · have ho' : V 129 (8 * v + k) = _ := ho
              rw [ho']; simp [ntS, lv, c1]
            · have ho' : V 130 (8 * v + k) = _ := ho
              rw [ho']; simp [ntS, lv, c1]
        · have hki : (k < i + 1) ↔ (k < i) := by omega
          have en : ntS (lv J v) (fun l => lkN D (lv J v) nl l d) (i + 1) a k = ntS (lv J v) (fun l => lkN D (lv J v) nl l d) i a k := by simp only [ntS, hki]
          rw [en, ← ho]
          split
          · rcases hz with q | q | q <;> subst q <;> simp only [lv] <;> simp (disch := omega) only [bnd, jnt, zg_ok, gz_0, gz_1, gz_n0, gz_n1, zs_eq, zs_ne, zs_same, zs_other, zA_eq, zA_ne, Option.bind_some, Option.bind_none] <;> rfl
          · rcases hz with q | q | q <;> subst q <;> simp only [lv] <;> simp (disch := omega) only [bnd, jnt, zg_ok, gz_0, gz_1, gz_n0, gz_n1, zs_eq, zs_ne, zs_same, zs_other, zA_eq, zA_ne, Option.bind_some, Option.bind_none] <;> rfl
    · intro n a ha
      obtain ⟨x, V⟩ := a
      obtain ⟨a1, a2, a3, a4⟩ := ha
      have a2 : ∀ x, x ≠ 128 → x ≠ 129 → x ≠ 130 → V x = K x := a2
      have q0 : V 100 13 = nI b := by rw [a2 100 (by decide) (by decide) (by decide), e2 100 (by decide) (by decide)]; exact h0
      have q6 : V 106 b = nI nl := by rw [a2 106 (by decide) (by decide) (by decide), e2 106 (by decide) (by decide)]; exact h4
      refine ⟨(x, V), ?_, a1, a2, a3, a4⟩
      simp (disch := omega) only [f_X12_passes_L43, ↓zm1, ↓zm2, ↓zm3, ↓zm4, ↓zm5, ↓zm6, ↓zm7, ↓zm8, ↓zm9, ↓zm10, ↓zm11, ↓zm12, ↓zm13, ↓zm14, ↓zm15, ↓zm16, ↓zm17, ↓zm18, ↓zm19, ↓zm20, ↓zm1000000000, zq0, zq1, zq2, zq3, zq4, zq5, zq6, zq7, zq8, zq9, zq10, zq11, zq12, zq13, zq14, zq15, zq16, zq17, zq18, zq19, zq20, zq21, zq22, zq23, zq24, zq25, zq26, zq30, zq31, zq32, zq33, zq34, zq35, zq36, zq37, zq38, zq39, zq40, zq41, zq42, zq43, zq44, zq45, zq47, zq48, zq57, zq59, zq60, zq61, zq62, zq80, zq91, zq93, zq97, zq99, zq100, zq107, zq110, zq120, zq122, zq128, zq149, zq160, zq208, zq240, zq251, zq255, zq256, zq500, zq936, zq999, zq1600, zq1800, zq2048, zq3200, zq4160, zq9999, zq12345, zq1000000, zq1048576, zq100000000, bnd, jnt, zg_ok, gz_0, gz_1, gz_n0, gz_n1, zs_eq, zs_ne, zs_same, zs_other, zA_eq, zA_ne, Option.bind_some, Option.bind_none, nI_add, pk_mul, nI_clamp, nI_leI, nI_ltI, nI_eq, pk_sub, nI_mI, nI_eq_mI, mI_eq_nI, nI_lt_m, ldI_ok, inb_ok, if_pos, if_neg, dv_ok, rem_ok, div_ok, if_true, if_false, q0, q6]
  obtain ⟨⟨x, V⟩, f1, f2, f3, f4, f5⟩ := key2
  have f2 : x = _ := f2
  have f3 : ∀ x, x ≠ 128 → x ≠ 129 → x ≠ 130 → V x = K x := f3
  have f4 : ∀ k, k < 8 * v ∨ 8 * v + 8 ≤ k → V 128 k = K 128 k ∧ V 129 k = K 129 k ∧ V 130 k = K 130 k := f4
  have q7 : V 127 v = J 127 v := by rw [f3 127 (by decide) (by decide) (by decide), e2 127 (by decide) (by decide)]
  refine ⟨sI V 127 v (J 127 v + 1), N, ?_, ⟨?_, ?_, ?_⟩, ?_, ?_, e4⟩
  · unfold f_X12_passes
    simp only [e1, Option.bind_some, f1]
    simp (disch := omega) only [ldI_ok, inb_ok, bnd, nI_clamp, q7, f2]
  · intro y hy
    rw [zs_ne (by omega), f3 y (by omega) (by omega) (by omega), e2 y (by omega) (by omega)]
  · intro k hk
    obtain ⟨o1, o2, o3⟩ := f4 k hk
    rw [zs_ne (by decide), zs_ne (by decide), zs_ne (by decide), o1, o2, o3, e2 128 (by decide) (by decide), e2 129 (by decide) (by decide), e2 130 (by decide) (by decide)]
    exact ⟨rfl, rfl, rfl⟩
  · intro w hw
    rw [zs_eq, zs_other hw, f3 127 (by decide) (by decide) (by decide), e2 127 (by decide) (by decide)]
  · intro a k ha1 ha2 hk
    rw [← f5 a k ha1 ha2 hk]
    have hz : a = 1 ∨ a = 2 ∨ a = 3 := by omega
    rcases hz with q | q | q <;> subst q <;> simp only [lv] <;> simp (disch := omega) only [bnd, jnt, zg_ok, gz_0, gz_1, gz_n0, gz_n1, zs_eq, zs_ne, zs_same, zs_other, zA_eq, zA_ne, Option.bind_some, Option.bind_none] <;> rfl
  · rw [zs_eq, zs_same]
end
