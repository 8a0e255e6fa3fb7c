/-! copies of scenes and layers -/
theorem cpy_0 {f : Nat → Int32} {s d : Nat} : va_cpy f f s d 0 = f := by
  funext k
  unfold va_cpy
  rw [if_neg (by omega)]
theorem cpy_step {f : Nat → Int32} {s d i : Nat} : upd (va_cpy f f s d i) (d + i) (f (s + i)) = va_cpy f f s d (i + 1) := by
  funext k
  unfold upd va_cpy
  by_cases c : k = d + i
  · subst c
    rw [if_pos rfl, if_pos (by omega), show d + i - d = i by omega]
  · rw [if_neg c]
    by_cases c2 : d ≤ k ∧ k < d + i
    · rw [if_pos c2, if_pos (by omega)]
    · rw [if_neg c2, if_neg (by omega)]
theorem cpy_out {f : Nat → Int32} {s d i k : Nat} (h : k < d ∨ d + i ≤ k) : va_cpy f f s d i k = f k := by
  unfold va_cpy
  rw [if_neg (by omega)]
theorem cpy_in {f : Nat → Int32} {s d i k : Nat} (h : k < i) : va_cpy f f s d i (d + k) = f (s + k) := by
  unfold va_cpy
  rw [if_pos (by omega), show d + k - d = k by omega]
/-- a layer is copied into another one -/
def CO (to fr m : Nat) (J J' : HI) : Prop := (∀ x, x < 127 ∨ 134 ≤ x → J' x = J x) ∧ J' 127 = upd (J 127) to (J 127 fr) ∧ J' 128 = va_cpy (J 128) (J 128) (8 * fr) (8 * to) 8 ∧ J' 129 = va_cpy (J 129) (J 129) (8 * fr) (8 * to) 8 ∧ J' 130 = va_cpy (J 130) (J 130) (8 * fr) (8 * to) 8 ∧ J' 131 = va_cpy (J 131) (J 131) (36 * fr) (36 * to) 36 ∧ J' 132 = upd (J 132) to (J 132 fr) ∧ J' 133 = va_cpy (J 133) (J 133) (160 * fr) (160 * to) (4 * m)
theorem copies_M {J : HI} {fu to fr m : Nat} (hf : 1600 < fu) (ht : to < 26) (hfr : fr < 26) (hne : to ≠ fr) (hm : J 132 fr = nI m) (hm2 : m ≤ 40) : ∃ J', f_X12_copies fu J (nI to) (nI fr) = some J' ∧ CO to fr m J J' := by
  have key1 : ∀ K0 : HI, ∃ K, f_X12_copies_L14 fu K0 (nI to) (nI fr) 0 = some K ∧ ((∀ x, x ≠ 128 → x ≠ 129 → x ≠ 130 → K x = K0 x) ∧ K 128 = va_cpy (K0 128) (K0 128) (8 * fr) (8 * to) 8 ∧ K 129 = va_cpy (K0 129) (K0 129) (8 * fr) (8 * to) 8 ∧ K 130 = va_cpy (K0 130) (K0 130) (8 * fr) (8 * to) 8) := by
    intro K0
    refine loopP (fun n K i => f_X12_copies_L14 n K (nI to) (nI fr) i) (fun i K => (∀ x, x ≠ 128 → x ≠ 129 → x ≠ 130 → K x = K0 x) ∧ K 128 = va_cpy (K0 128) (K0 128) (8 * fr) (8 * to) i ∧ K 129 = va_cpy (K0 129) (K0 129) (8 * fr) (8 * to) i ∧ K 130 = va_cpy (K0 130) (K0 130) (8 * fr) (8 * to) i) (fun K => (∀ x, x ≠ 128 → x ≠ 129 → x ≠ 130 → K x = K0 x) ∧ K 128 = va_cpy (K0 128) (K0 128) (8 * fr) (8 * to) 8 ∧ K 129 = va_cpy (K0 129) (K0 129) (8 * fr) (8 * to) 8 ∧ K 130 = va_cpy (K0 130) (K0 130) (8 * fr) (8 * to) 8) 8 fu K0 ⟨fun _ _ _ _ => rfl, cpy_0.symm, cpy_0.symm, cpy_0.symm⟩ ?_ ?_ (by omega)
    · intro n i K hi ha
      obtain ⟨a1, a2, a3, a4⟩ := ha
      refine ⟨sI (sI (sI K 128 (8 * to + i) (K0 128 (8 * fr + i))) 129 (8 * to + i) (K0 129 (8 * fr + i))) 130 (8 * to + i) (K0 130 (8 * fr + i)), ?_, ?_, ?_, ?_, ?_⟩
      · have e1 : K 128 (8 * fr + i) = K0 128 (8 * fr + i) := by rw [a2, cpy_out (by omega)]
        have e2 : K 129 (8 * fr + i) = K0 129 (8 * fr + i) := by rw [a3, cpy_out (by omega)]
        have e3 : K 130 (8 * fr + i) = K0 130 (8 * fr + i) := by rw [a4, cpy_out (by omega)]
        simp (disch := omega) only [f_X12_copies_L14, ↓zm1, ↓zm2, ↓zm3, ↓zm4, ↓zm5, ↓zm6, ↓zm7, ↓zm8, ↓zm9, ↓zm10, ↓zm11, ↓zm12, ↓zm13, ↓zm14, ↓zm15, ↓zm16, ↓zm17, ↓zm18, ↓zm19, ↓zm20, ↓zm1000000000, zq0, zq1, zq2, zq3, zq4, zq5, zq6, zq7, zq8, zq9, zq10, zq11, zq12, zq13, zq14, zq15, zq16, zq17, zq18, zq19, zq20, zq21, zq22, zq23, zq24, zq25, zq26, zq30, zq31, zq32, zq33, zq34, zq35, zq36, zq37, zq38, zq39, zq40, zq41, zq42, zq43, zq44, zq45, zq47, zq48, zq57, zq59, zq60, zq61, zq62, zq80, zq91, zq93, zq97, zq99, zq100, zq107, zq110, zq120, zq122, zq128, zq149, zq160, zq208, zq240, zq251, zq255, zq256, zq500, zq936, zq999, zq1600, zq1800, zq2048, zq3200, zq4160, zq9999, zq12345, zq1000000, zq1048576, zq100000000, bnd, jnt, zg_ok, gz_0, gz_1, gz_n0, gz_n1, zs_eq, zs_ne, zs_same, zs_other, zA_eq, zA_ne, Option.bind_some, Option.bind_none, nI_add, pk_mul, nI_clamp, nI_leI, nI_ltI, nI_eq, pk_sub, nI_mI, nI_eq_mI, mI_eq_nI, nI_lt_m, ldI_ok, inb_ok, if_pos, if_neg, dv_ok, rem_ok, div_ok, if_true, if_false, e1, e2, e3]
      · intro x h1 h2 h3
        rw [zs_ne h3, zs_ne h2, zs_ne h1]
        exact a1 x h1 h2 h3
      · simp (disch := omega) only [zs_ne, zs_eq, a2, cpy_step]
      · simp (disch := omega) only [zs_ne, zs_eq, a3, cpy_step]
      · simp (disch := omega) only [zs_ne, zs_eq, a4, cpy_step]
    · intro n K ha
      refine ⟨K, ?_, ha⟩
      simp (disch := omega) only [f_X12_copies_L14, ↓zm1, ↓zm2, ↓zm3, ↓zm4, ↓zm5, ↓zm6, ↓zm7, ↓zm8, ↓zm9, ↓zm10, ↓zm11, ↓zm12, ↓zm13, ↓zm14, ↓zm15, ↓zm16, ↓zm17, ↓zm18, ↓zm19, ↓zm20, ↓zm1000000000, zq0, zq1, zq2, zq3, zq4, zq5, zq6, zq7, zq8, zq9, zq10, zq11, zq12, zq13, zq14, zq15, zq16, zq17, zq18, zq19, zq20, zq21, zq22, zq23, zq24, zq25, zq26, zq30, zq31, zq32, zq33, zq34, zq35, zq36, zq37, zq38, zq39, zq40, zq41, zq42, zq43, zq44, zq45, zq47, zq48, zq57, zq59, zq60, zq61, zq62, zq80, zq91, zq93, zq97, zq99, zq100, zq107, zq110, zq120, zq122, zq128, zq149, zq160, zq208, zq240, zq251, zq255, zq256, zq500, zq936, zq999, zq1600, zq1800, zq2048, zq3200, zq4160, zq9999, zq12345, zq1000000, zq1048576, zq100000000, bnd, jnt, zg_ok, gz_0, gz_1, gz_n0, gz_n1, zs_eq, zs_ne, zs_same, zs_other, zA_eq, zA_ne, Option.bind_some, Option.bind_none, nI_add, pk_mul, nI_clamp, nI_leI, nI_ltI, nI_eq, pk_sub, nI_mI, nI_eq_mI, mI_eq_nI, nI_lt_m, ldI_ok, inb_ok, if_pos, if_neg, dv_ok, rem_ok, div_ok, if_true, if_false]
  have key2 : ∀ K0 : HI, ∃ K, f_X12_copies_L94 fu K0 (nI to) (nI fr) 0 = some K ∧ ((∀ x, x ≠ 131 → K x = K0 x) ∧ K 131 = va_cpy (K0 131) (K0 131) (36 * fr) (36 * to) 36) := by
    intro K0
    refine loopP (fun n K i => f_X12_copies_L94 n K (nI to) (nI fr) i) (fun i K => (∀ x, x ≠ 131 → K x = K0 x) ∧ K 131 = va_cpy (K0 131) (K0 131) (36 * fr) (36 * to) i) (fun K => (∀ x, x ≠ 131 → K x = K0 x) ∧ K 131 = va_cpy (K0 131) (K0 131) (36 * fr) (36 * to) 36) 36 fu K0 ⟨fun _ _ => rfl, cpy_0.symm⟩ ?_ ?_ (by omega)
    · intro n i K hi ha
      obtain ⟨a1, a2⟩ := ha
      refine ⟨sI K 131 (36 * to + i) (K0 131 (36 * fr + i)), ?_, ?_, ?_⟩
      · have e1 : K 131 (36 * fr + i) = K0 131 (36 * fr + i) := by rw [a2, cpy_out (by omega)]
        simp (disch := omega) only [f_X12_copies_L94, ↓zm1, ↓zm2, ↓zm3, ↓zm4, ↓zm5, ↓zm6, ↓zm7, ↓zm8, ↓zm9, ↓zm10, ↓zm11, ↓zm12, ↓zm13, ↓zm14, ↓zm15, ↓zm16, ↓zm17, ↓zm18, ↓zm19, ↓zm20, ↓zm1000000000, zq0, zq1, zq2, zq3, zq4, zq5, zq6, zq7, zq8, zq9, zq10, zq11, zq12, zq13, zq14, zq15, zq16, zq17, zq18, zq19, zq20, zq21, zq22, zq23, zq24, zq25, zq26, zq30, zq31, zq32, zq33, zq34, zq35, zq36, zq37, zq38, zq39, zq40, zq41, zq42, zq43, zq44, zq45, zq47, zq48, zq57, zq59, zq60, zq61, zq62, zq80, zq91, zq93, zq97, zq99, zq100, zq107, zq110, zq120, zq122, zq128, zq149, zq160, zq208, zq240, zq251, zq255, zq256, zq500, zq936, zq999, zq1600, zq1800, zq2048, zq3200, zq4160, zq9999, zq12345, zq1000000, zq1048576, zq100000000, bnd, jnt, zg_ok, gz_0, gz_1, gz_n0, gz_n1, zs_eq, zs_ne, zs_same, zs_other, zA_eq, zA_ne, Option.bind_some, Option.bind_none, nI_add, pk_mul, nI_clamp, nI_leI, nI_ltI, nI_eq, pk_sub, nI_mI, nI_eq_mI, mI_eq_nI, nI_lt_m, ldI_ok, inb_ok, if_pos, if_neg, dv_ok, rem_ok, div_ok, if_true, if_false, e1]
      · intro x h1
        rw [zs_ne h1]
        exact a1 x h1
      · simp (disch := omega) only [zs_ne, zs_eq, a2, cpy_step]
    · intro n K ha
      refine ⟨K, ?_, ha⟩
      simp (disch := omega) only [f_X12_copies_L94, ↓zm1, ↓zm2, ↓zm3, ↓zm4, ↓zm5, ↓zm6, ↓zm7, ↓zm8, ↓zm9, ↓zm10, ↓zm11, ↓zm12, ↓zm13, ↓zm14, ↓zm15, ↓zm16, ↓zm17, ↓zm18, ↓zm19, ↓zm20, ↓zm1000000000, zq0, zq1, zq2, zq3, zq4, zq5, zq6, zq7, zq8, zq9, zq10, zq11, zq12, zq13, zq14, zq15, zq16, zq17, zq18, zq19, zq20, zq21, zq22, zq23, zq24, zq25, zq26, zq30, zq31, zq32, zq33, zq34, zq35, zq36, zq37, zq38, zq39, zq40, zq41, zq42, zq43, zq44, zq45, zq47, zq48, zq57, zq59, zq60, zq61, zq62, zq80, zq91, zq93, zq97, zq99, zq100, zq107, zq110, zq120, zq122, zq128, zq149, zq160, zq208, zq240, zq251, zq255, zq256, zq500, zq936, zq999, zq1600, zq1800, zq2048, zq3200, zq4160, zq9999, zq12345, zq1000000, zq1048576, zq100000000, bnd, jnt, zg_ok, gz_0, gz_1, gz_n0, gz_n1, zs_eq, zs_ne, zs_same, zs_other, zA_eq, zA_ne, Option.bind_some, Option.bind_none, nI_add, pk_mul, nI_clamp, nI_leI, nI_ltI, nI_eq, pk_sub, nI_mI, nI_eq_mI, mI_eq_nI, nI_lt_m, ldI_ok, inb_ok, if_pos, if_neg, dv_ok, rem_ok, div_ok, if_true, if_false]
  have key3 : ∀ K0 : HI, K0 132 fr = nI m → ∃ K, f_X12_copies_L142 fu K0 (nI to) (nI fr) 0 = some K ∧ ((∀ x, x ≠ 133 → K x = K0 x) ∧ K 133 = va_cpy (K0 133) (K0 133) (160 * fr) (160 * to) (4 * m)) := by
    intro K0 hK
    refine loopP (fun n K i => f_X12_copies_L142 n K (nI to) (nI fr) i) (fun i K => (∀ x, x ≠ 133 → K x = K0 x) ∧ K 133 = va_cpy (K0 133) (K0 133) (160 * fr) (160 * to) i) (fun K => (∀ x, x ≠ 133 → K x = K0 x) ∧ K 133 = va_cpy (K0 133) (K0 133) (160 * fr) (160 * to) (4 * m)) (4 * m) fu K0 ⟨fun _ _ => rfl, cpy_0.symm⟩ ?_ ?_ (by omega)
    · intro n i K hi ha
      obtain ⟨a1, a2⟩ := ha
      have e0 : K 132 fr = nI m := by rw [a1 132 (by decide)]; exact hK
      refine ⟨sI K 133 (160 * to + i) (K0 133 (160 * fr + i)), ?_, ?_, ?_⟩
      · have e1 : K 133 (160 * fr + i) = K0 133 (160 * fr + i) := by rw [a2, cpy_out (by omega)]
        simp (disch := omega) only [f_X12_copies_L142, ↓zm1, ↓zm2, ↓zm3, ↓zm4, ↓zm5, ↓zm6, ↓zm7, ↓zm8, ↓zm9, ↓zm10, ↓zm11, ↓zm12, ↓zm13, ↓zm14, ↓zm15, ↓zm16, ↓zm17, ↓zm18, ↓zm19, ↓zm20, ↓zm1000000000, zq0, zq1, zq2, zq3, zq4, zq5, zq6, zq7, zq8, zq9, zq10, zq11, zq12, zq13, zq14, zq15, zq16, zq17, zq18, zq19, zq20, zq21, zq22, zq23, zq24, zq25, zq26, zq30, zq31, zq32, zq33, zq34, zq35, zq36, zq37, zq38, zq39, zq40, zq41, zq42, zq43, zq44, zq45, zq47, zq48, zq57, zq59, zq60, zq61, zq62, zq80, zq91, zq93, zq97, zq99, zq100, zq107, zq110, zq120, zq122, zq128, zq149, zq160, zq208, zq240, zq251, zq255, zq256, zq500, zq936, zq999, zq1600, zq1800, zq2048, zq3200, zq4160, zq9999, zq12345, zq1000000, zq1048576, zq100000000, bnd, jnt, zg_ok, gz_0, gz_1, gz_n0, gz_n1, zs_eq, zs_ne, zs_same, zs_other, zA_eq, zA_ne, Option.bind_some, Option.bind_none, nI_add, pk_mul, nI_clamp, nI_leI, nI_ltI, nI_eq, pk_sub, nI_mI, nI_eq_mI, mI_eq_nI, nI_lt_m, ldI_ok, inb_ok, if_pos, if_neg, dv_ok, rem_ok, div_ok, if_true, if_false, e0, e1]
      · intro x h1
        rw [zs_ne h1]
        exact a1 x h1
      · simp (disch := omega) only [zs_ne, zs_eq, a2, cpy_step]
    · intro n K ha
      have e0 : K 132 fr = nI m := by rw [ha.1 132 (by decide)]; exact hK
      refine ⟨K, ?_, ha⟩
      simp (disch := omega) only [f_X12_copies_L142, ↓zm1, ↓zm2, ↓zm3, ↓zm4, ↓zm5, ↓zm6, ↓zm7, ↓zm8, ↓zm9, ↓zm10, ↓zm11, ↓zm12, ↓zm13, ↓zm14, ↓zm15, ↓zm16, ↓zm17, ↓zm18, ↓zm19, ↓zm20, ↓zm1000000000, zq0, zq1, zq2, zq3, zq4, zq5, zq6, zq7, zq8, zq9, zq10, zq11, zq12, zq13, zq14, zq15, zq16, zq17, zq18, zq19, zq20, zq21, zq22, zq23, zq24, zq25, zq26, zq30, zq31, zq32, zq33, zq34, zq35, zq36, zq37, zq38, zq39, zq40, zq41, zq42, zq43, zq44, zq45, zq47, zq48, zq57, zq59, zq60, zq61, zq62, zq80, zq91, zq93, zq97, zq99, zq100, zq107, zq110, zq120, zq122, zq128, zq149, zq160, zq208, zq240, zq251, zq255, zq256, zq500, zq936, zq999, zq1600, zq1800, zq2048, zq3200, zq4160, zq9999, zq12345, zq1000000, zq1048576, zq100000000, bnd, jnt, zg_ok, gz_0, gz_1, gz_n0, gz_n1, zs_eq, zs_ne, zs_same, zs_other, zA_eq, zA_ne, Option.bind_some, Option.bind_none, nI_add, pk_mul, nI_clamp, nI_leI, nI_ltI, nI_eq, pk_sub, nI_mI, nI_eq_mI, mI_eq_nI, nI_lt_m, ldI_ok, inb_ok, if_pos, if_neg, dv_ok, rem_ok, div_ok, if_true, if_false, e0]
  obtain ⟨K1, a1, a2, a3, a4, a5⟩ := key1 (sI J 127 to (J 127 fr))
  obtain ⟨K2, b1, b2, b3⟩ := key2 K1
  have e2 : K2 132 = J 132 := by rw [b2 132 (by decide), a2 132 (by decide) (by decide) (by decide), zs_ne (by decide)]
  have e3 : sI K2 132 to (nI m) 132 fr = nI m := by rw [zs_eq, zs_other (Ne.symm hne), e2]; exact hm
  obtain ⟨K3, c1, c2, c3⟩ := key3 (sI K2 132 to (nI m)) e3
  refine ⟨K3, ?_, ?_, ?_, ?_, ?_, ?_, ?_, ?_, ?_⟩
  · unfold f_X12_copies
    have e2' : K2 132 fr = nI m := by rw [e2]; exact hm
    simp (disch := omega) only [ldI_ok, inb_ok, bnd, nI_clamp, a1, b1, Option.bind_some, e2', c1]
  · intro x hx
    rw [c2 x (by omega), zs_ne (by omega), b2 x (by omega), a2 x (by omega) (by omega) (by omega), zs_ne (by omega)]
  · rw [c2 127 (by decide), zs_ne (by decide), b2 127 (by decide), a2 127 (by decide) (by decide) (by decide), zs_eq]
  · rw [c2 128 (by decide), zs_ne (by decide), b2 128 (by decide), a3, zs_ne (by decide)]
  · rw [c2 129 (by decide), zs_ne (by decide), b2 129 (by decide), a4, zs_ne (by decide)]
  · rw [c2 130 (by decide), zs_ne (by decide), b2 130 (by decide), a5, zs_ne (by decide)]
  · rw [c2 131 (by decide), zs_ne (by decide), b3, a2 131 (by decide) (by decide) (by decide), zs_ne (by decide)]
  · rw [c2 132 (by decide), zs_eq, e2, hm]
  · rw [c3, zs_ne (by decide), b2 133 (by decide), a2 133 (by decide) (by decide) (by decide), zs_ne (by decide)]
theorem CO.lvE {J J' : HI} {to fr m : Nat} (h : CO to fr m J J') : SE (lv J fr) (lv J' to) := by
  obtain ⟨h0, h1, h2, h3, h4, h5, h6, h7⟩ := h
  refine ⟨?_, fun k hk => ⟨?_, ?_, ?_⟩, fun k hk => ?_⟩
  · show J 127 fr = J' 127 to
    rw [h1, zs_same]
  · show J 128 (8 * fr + k) = J' 128 (8 * to + k)
    rw [h2, cpy_in hk]
  · show J 129 (8 * fr + k) = J' 129 (8 * to + k)
    rw [h3, cpy_in hk]
  · show J 130 (8 * fr + k) = J' 130 (8 * to + k)
    rw [h4, cpy_in hk]
  · show J 131 (36 * fr + k) = J' 131 (36 * to + k)
    rw [h5, cpy_in hk]
theorem CO.SM {J J' : HI} {to fr m : Nat} (h : CO to fr m J J') (h1 : 1 ≤ to ∧ to ≤ 5) (hm : m ≤ 40) : SM J J' := by
  obtain ⟨g0, g1, g2, g3, g4, g5, g6, g7⟩ := h
  refine ⟨fun k hk => by rw [g0 100 (by decide)], fun x hx => g0 x (by omega), fun v hv => ⟨?_, ?_⟩, fun k hk => ⟨?_, ?_, ?_⟩, fun k hk => ?_, fun k hk => ?_⟩
  · rw [g1, zs_other (by omega)]
  · rw [g6, zs_other (by omega)]
  · rw [g2, cpy_out (by omega)]
  · rw [g3, cpy_out (by omega)]
  · rw [g4, cpy_out (by omega)]
  · rw [g5, cpy_out (by omega)]
  · rw [g7, cpy_out (by omega)]
theorem PO.SM {J J' : HI} {v : Nat} (h : PO v J J') (h1 : 1 ≤ v ∧ v ≤ 5) : SM J J' := by
  obtain ⟨g0, g1, g2⟩ := h
  refine ⟨fun k hk => by rw [g0 100 (by decide)], fun x hx => g0 x (by omega), fun w hw => ⟨g2 w (by omega), by rw [g0 132 (by decide)]⟩, fun k hk => g1 k (by omega), fun k hk => by rw [g0 131 (by decide)], fun k hk => by rw [g0 133 (by decide)]⟩
theorem SE.trans {S S' S'' : HI} (h : SE S S') (h' : SE S' S'') : SE S S'' := ⟨h.1.trans h'.1, fun k hk => ⟨(h.2.1 k hk).1.trans (h'.2.1 k hk).1, (h.2.1 k hk).2.1.trans (h'.2.1 k hk).2.1, (h.2.1 k hk).2.2.trans (h'.2.1 k hk).2.2⟩, fun k hk => (h.2.2 k hk).trans (h'.2.2 k hk)⟩
theorem SEp.lr {n : Nat} {S S' T T' : HI} (h : SE S S') (h' : SEp n S' T) (h'' : SE T T') : SEp n S T' := ⟨(h.1.trans h'.1).trans h''.1, fun k hk => ⟨((h.2.1 k (by omega)).1.trans (h'.2.1 k hk).1).trans (h''.2.1 k (by omega)).1, ((h.2.1 k (by omega)).2.1.trans (h'.2.1 k hk).2.1).trans (h''.2.1 k (by omega)).2.1, ((h.2.1 k (by omega)).2.2.trans (h'.2.1 k hk).2.2).trans (h''.2.1 k (by omega)).2.2⟩, fun k hk => ((h.2.2 k hk).trans (h'.2.2.1 k hk)).trans (h''.2.2 k hk), fun k hk => ((h.2.1 k hk).1.trans (h'.2.2.2 k hk)).trans (h''.2.1 k hk).1⟩
theorem SE.symm {S S' : HI} (h : SE S S') : SE S' S := ⟨h.1.symm, fun k hk => ⟨(h.2.1 k hk).1.symm, (h.2.1 k hk).2.1.symm, (h.2.1 k hk).2.2.symm⟩, fun k hk => (h.2.2 k hk).symm⟩
theorem copyFrom_C {I : HI} {R : HR} {s s' : Nat} (ho : okLd (R s 0) = true) (hs : s = 49 ∧ s' = 58 ∨ s = 58 ∧ s' = 49) : ∃ I', f_X9_copyFrom I R s' s = some (I', sR R s' 0 (R s 0)) ∧ SE (sc I s) (sc I' s') ∧ ∀ x, x < s' ∨ s' + 5 ≤ x → I' x = I x := by
  refine ⟨_, by unfold f_X9_copyFrom; simp only [zg_ok ho, bnd]; rfl, ?_, ?_⟩
  · have t0 : (0 : Int32).toNatClampNeg = 0 := by decide
    have t8 : (8 : Int32).toNatClampNeg = 8 := by decide
    have t36 : (36 : Int32).toNatClampNeg = 36 := by decide
    simp only [t0, t8, t36]
    refine ⟨?_, fun k hk => ⟨?_, ?_, ?_⟩, fun k hk => ?_⟩
    · simp (disch := omega) only [sc, Nat.reduceLT, if_true, Nat.add_zero, zA_ne, zs_eq, zs_same]
    · simp (disch := omega) only [sc, Nat.reduceLT, if_true, zA_ne, zA_eq, zs_ne, pk_cpy_in, Nat.sub_zero, Nat.zero_add]
    · simp (disch := omega) only [sc, Nat.reduceLT, if_true, zA_ne, zA_eq, zs_ne, pk_cpy_in, Nat.sub_zero, Nat.zero_add]
    · simp (disch := omega) only [sc, Nat.reduceLT, if_true, zA_ne, zA_eq, zs_ne, pk_cpy_in, Nat.sub_zero, Nat.zero_add]
    · simp (disch := omega) only [sc, Nat.reduceLT, if_true, zA_ne, zA_eq, zs_ne, pk_cpy_in, Nat.sub_zero, Nat.zero_add]
  · intro x hx
    simp (disch := omega) only [zA_ne, zs_ne]
