/-! worths of many lakes, nights, of the class -/
def NO (s : Nat) (I I' : HI) : Prop := ∀ x, x < s + 5 ∨ s + 9 ≤ x → I' x = I x
theorem NO.refl {s : Nat} {I : HI} : NO s I I := fun _ _ => rfl
theorem MO.NO {s : Nat} {I I' : HI} (h : MO s I I') : NO s I I' := fun x hx => h x (by omega)
theorem NO.trans {s : Nat} {I I' I'' : HI} (h : NO s I I') (h' : NO s I' I'') : NO s I I'' := fun x hx => (h' x hx).trans (h x hx)
theorem NO.sc {s : Nat} {I I' : HI} (h : NO s I I') : sc I' s = sc I s := sc_congr (fun a ha => h _ (by omega))
theorem NO.vw {s t : Nat} {I I' : HI} (h : NO s I I') (ht : t = 67 ∨ t = 80) (hs : s = 49 ∨ s = 58) : vw I' t = vw I t := vw_congr (fun a ha => h _ (by omega))
theorem NO.CL {I I' : HI} {R : HR} {s t nh no nl : Nat} (h : NO s I I') (hC : CL I R s t nh no nl) : CL I' R s t nh no nl := by
  obtain ⟨h0, h1, h2, h3, h4, h5, h6, h7, h8, h9⟩ := hC
  have e : I' t = I t := h t (by omega)
  exact ⟨h0, h1, h2, h3, by rw [e]; exact h4, by rw [e]; exact h5, by rw [e]; exact h6, h7, h8, h9⟩
def ntS (S : HI) (lk : Nat → Nat) (i : Nat) : HI := fun a k =>
  if a = 1 then (if k < i then nI ((S 1 k).toNatClampNeg - lk k) else S 1 k)
  else if a = 2 ∨ a = 3 then (if k < i ∧ (S 1 k).toNatClampNeg - lk k = 0 then mI 1 else S a k)
  else S a k
theorem lkN_le {D S : HI} {nl l : Nat} {d : Int} : lkN D S nl l d ≤ (S 1 l).toNatClampNeg := by
  unfold lkN
  split
  · omega
  · split
    · exact clN_le
    · omega
section
variable {I : HI} {R : HR} {s t nh no nl fu : Nat}
theorem worthOf_K (hC : CL I R s t nh no nl) (hL : LR (vw I t)) (hW : BW (sc I s)) (hf : 1600 < fu) {l : Nat} (hl : l < nl) {K : HI} (hK : NO s I K) : ∃ I', f_X9_worthOf fu K R s (nI l) = some (nI (woN (vw I t) (sc I s) nl l), I') ∧ MO s K I' := by
  have h2 := hC.2.2.1
  have h3 := hC.2.2.2.1
  have ev := hK.vw h2 h3
  have es := hK.sc
  have h := worthOf_C (fu := fu) (hK.CL hC) (by rw [ev]; exact hL) (by rw [es]; exact hW) hf hl
  rw [ev, es] at h
  exact h
theorem leakOf_K (hC : CL I R s t nh no nl) (hL : LR (vw I t)) (hW : BW (sc I s)) (hf : 1600 < fu) {l d : Nat} (hd : d ≤ 1) (hl : l < nl) {K : HI} (hK : NO s I K) : ∃ I', f_X9_leakOf fu K R s (nI l) (nI d) = some (nI (lkN (vw I t) (sc I s) nl l d), I') ∧ MO s K I' := by
  have h2 := hC.2.2.1
  have h3 := hC.2.2.2.1
  have ev := hK.vw h2 h3
  have es := hK.sc
  have h := leakOf_C (fu := fu) (hK.CL hC) (by rw [ev]; exact hL) (by rw [es]; exact hW) hf hd hl
  rw [ev, es] at h
  exact h
theorem worthOfBits_C (hC : CL I R s t nh no nl) (hL : LR (vw I t)) (hW : BW (sc I s)) (hf : 1600 < fu) {B : Nat} (hB : B < 2 ^ 31) : ∃ I', f_X9_worthOfBits fu I R s (nI B) = some (nI (smN (fun l => if B.testBit l = true then woN (vw I t) (sc I s) nl l else 0) nl), I') ∧ MO s I I' := by
  have hC' := hC
  obtain ⟨h0, h1, h2, h3, h4, h5, h6, h7, h8, h9⟩ := hC'
  have key : ∃ r : Int32 × HI, f_X9_worthOfBits_L4 fu fu I R s (nI B) 0 0 = some r ∧ r.1 = nI (smN (fun l => if B.testBit l = true then woN (vw I t) (sc I s) nl l else 0) nl) ∧ MO s I r.2 := by
    refine loopP (fun n (a : Int32 × HI) i => f_X9_worthOfBits_L4 fu n a.2 R s (nI B) a.1 i) (fun i a => a.1 = nI (smN (fun l => if B.testBit l = true then woN (vw I t) (sc I s) nl l else 0) i) ∧ MO s I a.2)
      (fun r => r.1 = nI (smN (fun l => if B.testBit l = true then woN (vw I t) (sc I s) nl l else 0) nl) ∧ MO s I r.2) nl fu (0, I) ⟨rfl, MO.refl⟩ ?_ ?_ (by omega)
    · intro n i a hi ha
      obtain ⟨x, K⟩ := a
      obtain ⟨ha1, ha2⟩ := ha
      have ha2 : MO s I K := ha2
      have e6 : K t 3 = nI nl := by rw [ha2 t (by omega)]; exact h6
      simp only at ha1 ha2
      have es : smN (fun l => if B.testBit l = true then woN (vw I t) (sc I s) nl l else 0) (i + 1) = smN (fun l => if B.testBit l = true then woN (vw I t) (sc I s) nl l else 0) i + (if B.testBit i = true then woN (vw I t) (sc I s) nl i else 0) := rfl
      by_cases c : B.testBit i = true
      · obtain ⟨K', k1, k2⟩ := worthOf_K (fu := fu) hC hL hW hf hi ha2.NO
        refine ⟨(x + nI (woN (vw I t) (sc I s) nl i), K'), ?_, ?_, ha2.trans k2⟩
        · have cb : ¬ nI (B &&& 2 ^ i) = nI 0 := fun q => (and_bit hB (by omega)).mp q c
          simp (disch := omega) only [f_X9_worthOfBits_L4, ↓zm1, ↓zm2, ↓zm3, ↓zm4, ↓zm5, ↓zm6, ↓zm7, ↓zm8, ↓zm9, ↓zm10, ↓zm11, ↓zm12, ↓zm13, ↓zm14, ↓zm15, ↓zm16, ↓zm17, ↓zm18, ↓zm19, ↓zm20, ↓zm1000000000, zq0, zq1, zq2, zq3, zq4, zq5, zq6, zq7, zq8, zq9, zq10, zq11, zq12, zq13, zq14, zq15, zq16, zq17, zq18, zq19, zq20, zq21, zq22, zq23, zq24, zq25, zq26, zq30, zq31, zq32, zq33, zq34, zq35, zq36, zq37, zq38, zq39, zq40, zq41, zq42, zq43, zq44, zq45, zq47, zq48, zq57, zq59, zq60, zq61, zq62, zq80, zq91, zq93, zq97, zq99, zq100, zq107, zq110, zq120, zq122, zq128, zq149, zq160, zq208, zq240, zq251, zq255, zq256, zq500, zq936, zq999, zq1600, zq1800, zq2048, zq3200, zq4160, zq9999, zq12345, zq1000000, zq1048576, zq100000000, bnd, jnt, zg_ok, gz_0, gz_1, gz_n0, gz_n1, zs_eq, zs_ne, zs_same, zs_other, zA_eq, zA_ne, Option.bind_some, Option.bind_none, nI_add, pk_mul, nI_clamp, nI_leI, nI_ltI, nI_eq, pk_sub, nI_mI, nI_eq_mI, mI_eq_nI, nI_lt_m, ldI_ok, inb_ok, if_pos, if_neg, dv_ok, rem_ok, div_ok, if_true, if_false, zg_ok h0, h1, e6, sh_ok, andb_ok, if_neg cb, k1]
        · rw [es, if_pos c, ha1, nI_add]
      · refine ⟨(x, K), ?_, ?_, ha2⟩
        · have cb : nI (B &&& 2 ^ i) = nI 0 := (and_bit hB (by omega)).mpr c
          simp (disch := omega) only [f_X9_worthOfBits_L4, ↓zm1, ↓zm2, ↓zm3, ↓zm4, ↓zm5, ↓zm6, ↓zm7, ↓zm8, ↓zm9, ↓zm10, ↓zm11, ↓zm12, ↓zm13, ↓zm14, ↓zm15, ↓zm16, ↓zm17, ↓zm18, ↓zm19, ↓zm20, ↓zm1000000000, zq0, zq1, zq2, zq3, zq4, zq5, zq6, zq7, zq8, zq9, zq10, zq11, zq12, zq13, zq14, zq15, zq16, zq17, zq18, zq19, zq20, zq21, zq22, zq23, zq24, zq25, zq26, zq30, zq31, zq32, zq33, zq34, zq35, zq36, zq37, zq38, zq39, zq40, zq41, zq42, zq43, zq44, zq45, zq47, zq48, zq57, zq59, zq60, zq61, zq62, zq80, zq91, zq93, zq97, zq99, zq100, zq107, zq110, zq120, zq122, zq128, zq149, zq160, zq208, zq240, zq251, zq255, zq256, zq500, zq936, zq999, zq1600, zq1800, zq2048, zq3200, zq4160, zq9999, zq12345, zq1000000, zq1048576, zq100000000, bnd, jnt, zg_ok, gz_0, gz_1, gz_n0, gz_n1, zs_eq, zs_ne, zs_same, zs_other, zA_eq, zA_ne, Option.bind_some, Option.bind_none, nI_add, pk_mul, nI_clamp, nI_leI, nI_ltI, nI_eq, pk_sub, nI_mI, nI_eq_mI, mI_eq_nI, nI_lt_m, ldI_ok, inb_ok, if_pos, if_neg, dv_ok, rem_ok, div_ok, if_true, if_false, zg_ok h0, h1, e6, sh_ok, andb_ok, if_pos cb]
        · rw [es, if_neg c, ha1]
          rfl
    · intro n a ha
      obtain ⟨x, K⟩ := a
      obtain ⟨ha1, ha2⟩ := ha
      have ha2 : MO s I K := ha2
      have e6 : K t 3 = nI nl := by rw [ha2 t (by omega)]; exact h6
      refine ⟨(x, K), ?_, ha1, ha2⟩
      simp (disch := omega) only [f_X9_worthOfBits_L4, ↓zm1, ↓zm2, ↓zm3, ↓zm4, ↓zm5, ↓zm6, ↓zm7, ↓zm8, ↓zm9, ↓zm10, ↓zm11, ↓zm12, ↓zm13, ↓zm14, ↓zm15, ↓zm16, ↓zm17, ↓zm18, ↓zm19, ↓zm20, ↓zm1000000000, zq0, zq1, zq2, zq3, zq4, zq5, zq6, zq7, zq8, zq9, zq10, zq11, zq12, zq13, zq14, zq15, zq16, zq17, zq18, zq19, zq20, zq21, zq22, zq23, zq24, zq25, zq26, zq30, zq31, zq32, zq33, zq34, zq35, zq36, zq37, zq38, zq39, zq40, zq41, zq42, zq43, zq44, zq45, zq47, zq48, zq57, zq59, zq60, zq61, zq62, zq80, zq91, zq93, zq97, zq99, zq100, zq107, zq110, zq120, zq122, zq128, zq149, zq160, zq208, zq240, zq251, zq255, zq256, zq500, zq936, zq999, zq1600, zq1800, zq2048, zq3200, zq4160, zq9999, zq12345, zq1000000, zq1048576, zq100000000, bnd, jnt, zg_ok, gz_0, gz_1, gz_n0, gz_n1, zs_eq, zs_ne, zs_same, zs_other, zA_eq, zA_ne, Option.bind_some, Option.bind_none, nI_add, pk_mul, nI_clamp, nI_leI, nI_ltI, nI_eq, pk_sub, nI_mI, nI_eq_mI, mI_eq_nI, nI_lt_m, ldI_ok, inb_ok, if_pos, if_neg, dv_ok, rem_ok, div_ok, if_true, if_false, zg_ok h0, h1, e6]
  obtain ⟨r, e1', e2⟩ := key
  refine ⟨r.2, ?_, e2.2⟩
  unfold f_X9_worthOfBits
  simp only [e1', Option.bind_some, e2.1]
theorem setBarrels_C {K : HI} {j x : Nat} (hj : j < 8) (hx : x < 2 ^ 31) : f_X9_setBarrels K s (nI j) (nI x) = some (if x = 0 then sI (sI (sI K (s + 1) j (nI 0)) (s + 2) j (mI 1)) (s + 3) j (mI 1) else sI K (s + 1) j (nI x)) := by
  unfold f_X9_setBarrels
  by_cases c : x = 0
  · subst c
    rw [if_pos rfl]
    simp (disch := omega) only [↓zm1, ↓zm2, ↓zm3, ↓zm4, ↓zm5, ↓zm6, ↓zm7, ↓zm8, ↓zm9, ↓zm10, ↓zm11, ↓zm12, ↓zm13, ↓zm14, ↓zm15, ↓zm16, ↓zm17, ↓zm18, ↓zm19, ↓zm20, ↓zm1000000000, zq0, zq1, zq2, zq3, zq4, zq5, zq6, zq7, zq8, zq9, zq10, zq11, zq12, zq13, zq14, zq15, zq16, zq17, zq18, zq19, zq20, zq21, zq22, zq23, zq24, zq25, zq26, zq30, zq31, zq32, zq33, zq34, zq35, zq36, zq37, zq38, zq39, zq40, zq41, zq42, zq43, zq44, zq45, zq47, zq48, zq57, zq59, zq60, zq61, zq62, zq80, zq91, zq93, zq97, zq99, zq100, zq107, zq110, zq120, zq122, zq128, zq149, zq160, zq208, zq240, zq251, zq255, zq256, zq500, zq936, zq999, zq1600, zq1800, zq2048, zq3200, zq4160, zq9999, zq12345, zq1000000, zq1048576, zq100000000, bnd, jnt, zg_ok, gz_0, gz_1, gz_n0, gz_n1, zs_eq, zs_ne, zs_same, zs_other, zA_eq, zA_ne, Option.bind_some, Option.bind_none, nI_add, pk_mul, nI_clamp, nI_leI, nI_ltI, nI_eq, pk_sub, nI_mI, nI_eq_mI, mI_eq_nI, nI_lt_m, ldI_ok, inb_ok, if_pos, if_neg, dv_ok, rem_ok, div_ok, if_true, if_false]
  · rw [if_neg c]
    simp (disch := omega) only [↓zm1, ↓zm2, ↓zm3, ↓zm4, ↓zm5, ↓zm6, ↓zm7, ↓zm8, ↓zm9, ↓zm10, ↓zm11, ↓zm12, ↓zm13, ↓zm14, ↓zm15, ↓zm16, ↓zm17, ↓zm18, ↓zm19, ↓zm20, ↓zm1000000000, zq0, zq1, zq2, zq3, zq4, zq5, zq6, zq7, zq8, zq9, zq10, zq11, zq12, zq13, zq14, zq15, zq16, zq17, zq18, zq19, zq20, zq21, zq22, zq23, zq24, zq25, zq26, zq30, zq31, zq32, zq33, zq34, zq35, zq36, zq37, zq38, zq39, zq40, zq41, zq42, zq43, zq44, zq45, zq47, zq48, zq57, zq59, zq60, zq61, zq62, zq80, zq91, zq93, zq97, zq99, zq100, zq107, zq110, zq120, zq122, zq128, zq149, zq160, zq208, zq240, zq251, zq255, zq256, zq500, zq936, zq999, zq1600, zq1800, zq2048, zq3200, zq4160, zq9999, zq12345, zq1000000, zq1048576, zq100000000, bnd, jnt, zg_ok, gz_0, gz_1, gz_n0, gz_n1, zs_eq, zs_ne, zs_same, zs_other, zA_eq, zA_ne, Option.bind_some, Option.bind_none, nI_add, pk_mul, nI_clamp, nI_leI, nI_ltI, nI_eq, pk_sub, nI_mI, nI_eq_mI, mI_eq_nI, nI_lt_m, ldI_ok, inb_ok, if_pos, if_neg, dv_ok, rem_ok, div_ok, if_true, if_false]
theorem passNight_C (hC : CL I R s t nh no nl) (hL : LR (vw I t)) (hW : BW (sc I s)) (hf : 1600 < fu) {d : Nat} (hd : d ≤ 1) :
    ∃ I', f_X9_passNight fu I R s (nI d) = some (nI (smN (fun l => lkN (vw I t) (sc I s) nl l d) nl), I') ∧ (∀ x, x < s ∨ s + 9 ≤ x → I' x = I x) ∧ (∀ a k, 1 ≤ a → a ≤ 4 → I' (s + a) k = ntS (sc I s) (fun l => lkN (vw I t) (sc I s) nl l d) nl a k) ∧ (∀ n, n ≤ 9999 → I s 1 = nI n → I' s 1 = nI (min 9999 (n + 1))) := by
  have hC' := hC
  obtain ⟨h0, h1, h2, h3, h4, h5, h6, h7, h8, h9⟩ := hC'
  have key1 : ∃ K : HI, f_X9_passNight_L2 fu fu I R s (nI d) 0 = some K ∧ NO s I K ∧ ∀ j, j < nl → K (s + 5) j = nI (lkN (vw I t) (sc I s) nl j d) := by
    refine loopP (fun n (a : HI) i => f_X9_passNight_L2 fu n a R s (nI d) i) (fun i a => NO s I a ∧ ∀ j, j < i → a (s + 5) j = nI (lkN (vw I t) (sc I s) nl j d))
      (fun a => NO s I a ∧ ∀ j, j < nl → a (s + 5) j = nI (lkN (vw I t) (sc I s) nl j d)) nl fu I ⟨NO.refl, fun j hj => absurd hj (by omega)⟩ ?_ ?_ (by omega)
    · intro n i K hi ha
      obtain ⟨ha1, ha2⟩ := ha
      have e6 : K t 3 = nI nl := by rw [ha1 t (by omega)]; exact h6
      obtain ⟨K', k1, k2⟩ := leakOf_K (fu := fu) hC hL hW hf hd hi ha1
      refine ⟨sI K' (s + 5) i (nI (lkN (vw I t) (sc I s) nl i d)), ?_, ?_, ?_⟩
      · simp (disch := omega) only [f_X9_passNight_L2, ↓zm1, ↓zm2, ↓zm3, ↓zm4, ↓zm5, ↓zm6, ↓zm7, ↓zm8, ↓zm9, ↓zm10, ↓zm11, ↓zm12, ↓zm13, ↓zm14, ↓zm15, ↓zm16, ↓zm17, ↓zm18, ↓zm19, ↓zm20, ↓zm1000000000, zq0, zq1, zq2, zq3, zq4, zq5, zq6, zq7, zq8, zq9, zq10, zq11, zq12, zq13, zq14, zq15, zq16, zq17, zq18, zq19, zq20, zq21, zq22, zq23, zq24, zq25, zq26, zq30, zq31, zq32, zq33, zq34, zq35, zq36, zq37, zq38, zq39, zq40, zq41, zq42, zq43, zq44, zq45, zq47, zq48, zq57, zq59, zq60, zq61, zq62, zq80, zq91, zq93, zq97, zq99, zq100, zq107, zq110, zq120, zq122, zq128, zq149, zq160, zq208, zq240, zq251, zq255, zq256, zq500, zq936, zq999, zq1600, zq1800, zq2048, zq3200, zq4160, zq9999, zq12345, zq1000000, zq1048576, zq100000000, bnd, jnt, zg_ok, gz_0, gz_1, gz_n0, gz_n1, zs_eq, zs_ne, zs_same, zs_other, zA_eq, zA_ne, Option.bind_some, Option.bind_none, nI_add, pk_mul, nI_clamp, nI_leI, nI_ltI, nI_eq, pk_sub, nI_mI, nI_eq_mI, mI_eq_nI, nI_lt_m, ldI_ok, inb_ok, if_pos, if_neg, dv_ok, rem_ok, div_ok, if_true, if_false, zg_ok h0, h1, e6, k1]
      · intro x hx
        rw [zs_ne (by omega), k2 x (by omega), ha1 x hx]
      · intro j hj
        rw [zs_eq]
        by_cases c : j = i
        · subst c; rw [zs_same]
        · rw [zs_other c, k2 (s + 5) (by omega)]
          exact ha2 j (by omega)
    · intro n K ha
      have e6 : K t 3 = nI nl := by rw [ha.1 t (by omega)]; exact h6
      refine ⟨K, ?_, ha⟩
      simp (disch := omega) only [f_X9_passNight_L2, ↓zm1, ↓zm2, ↓zm3, ↓zm4, ↓zm5, ↓zm6, ↓zm7, ↓zm8, ↓zm9, ↓zm10, ↓zm11, ↓zm12, ↓zm13, ↓zm14, ↓zm15, ↓zm16, ↓zm17, ↓zm18, ↓zm19, ↓zm20, ↓zm1000000000, zq0, zq1, zq2, zq3, zq4, zq5, zq6, zq7, zq8, zq9, zq10, zq11, zq12, zq13, zq14, zq15, zq16, zq17, zq18, zq19, zq20, zq21, zq22, zq23, zq24, zq25, zq26, zq30, zq31, zq32, zq33, zq34, zq35, zq36, zq37, zq38, zq39, zq40, zq41, zq42, zq43, zq44, zq45, zq47, zq48, zq57, zq59, zq60, zq61, zq62, zq80, zq91, zq93, zq97, zq99, zq100, zq107, zq110, zq120, zq122, zq128, zq149, zq160, zq208, zq240, zq251, zq255, zq256, zq500, zq936, zq999, zq1600, zq1800, zq2048, zq3200, zq4160, zq9999, zq12345, zq1000000, zq1048576, zq100000000, bnd, jnt, zg_ok, gz_0, gz_1, gz_n0, gz_n1, zs_eq, zs_ne, zs_same, zs_other, zA_eq, zA_ne, Option.bind_some, Option.bind_none, nI_add, pk_mul, nI_clamp, nI_leI, nI_ltI, nI_eq, pk_sub, nI_mI, nI_eq_mI, mI_eq_nI, nI_lt_m, ldI_ok, inb_ok, if_pos, if_neg, dv_ok, rem_ok, div_ok, if_true, if_false, zg_ok h0, h1, e6]
  obtain ⟨K, e1', e2, e3⟩ := key1
  have hb : ∀ j, j < 8 → (sc I s 1 j) = nI (sc I s 1 j).toNatClampNeg ∧ (sc I s 1 j).toNatClampNeg ≤ 999 := by
    intro j hj
    obtain ⟨x, hx, ex⟩ := hW.1 j hj
    rw [ex, nI_clamp (by omega)]
    exact ⟨rfl, hx⟩
  have key2 : ∃ r : Int32 × HI, f_X9_passNight_L35 fu K R s 0 0 = some r ∧ r.1 = nI (smN (fun l => lkN (vw I t) (sc I s) nl l d) nl) ∧ (∀ x, x < s + 1 ∨ s + 5 ≤ x → r.2 x = K x) ∧ (∀ b k, 1 ≤ b → b ≤ 4 → r.2 (s + b) k = ntS (sc I s) (fun l => lkN (vw I t) (sc I s) nl l d) nl b k) ∧ True := by
    refine loopP (fun n (a : Int32 × HI) i => f_X9_passNight_L35 n a.2 R s a.1 i) (fun i a => a.1 = nI (smN (fun l => lkN (vw I t) (sc I s) nl l d) i) ∧ (∀ x, x < s + 1 ∨ s + 5 ≤ x → a.2 x = K x) ∧ (∀ b k, 1 ≤ b → b ≤ 4 → a.2 (s + b) k = ntS (sc I s) (fun l => lkN (vw I t) (sc I s) nl l d) i b k))
      (fun a => a.1 = nI (smN (fun l => lkN (vw I t) (sc I s) nl l d) nl) ∧ (∀ x, x < s + 1 ∨ s + 5 ≤ x → a.2 x = K x) ∧ (∀ b k, 1 ≤ b → b ≤ 4 → a.2 (s + b) k = ntS (sc I s) (fun l => lkN (vw I t) (sc I s) nl l d) nl b k) ∧ True) nl fu (0, K) ⟨rfl, fun _ _ => rfl, ?_⟩ ?_ ?_ (by omega)
    · intro b k hb1 hb2
      have : K (s + b) = I (s + b) := e2 _ (by omega)
      have e : sc I s b k = I (s + b) k := by unfold sc; rw [if_pos (by omega)]
      unfold ntS
      show K (s + b) k = _
      rw [this]
      have hz : b = 1 ∨ b = 2 ∨ b = 3 ∨ b = 4 := by omega
      rcases hz with q | q | q | q <;> subst q <;> simp [sc]
    · intro n i a hi ha
      obtain ⟨x, V⟩ := a
      obtain ⟨a1, a2, a3⟩ := ha
      simp only at a1 a2 a3
      have e6 : V t 3 = nI nl := by rw [a2 t (by omega), e2 t (by omega)]; exact h6
      have e5 : V (s + 5) i = nI (lkN (vw I t) (sc I s) nl i d) := by rw [a2 (s + 5) (by omega)]; exact e3 i hi
      have hle := lkN_le (D := vw I t) (S := sc I s) (nl := nl) (l := i) (d := d)
      obtain ⟨q1, q2⟩ := hb i (by omega)
      have e7 : V (s + 1) i = nI (sc I s 1 i).toNatClampNeg := by
        rw [a3 1 i (by omega) (by omega)]
        show (if 1 = 1 then (if i < i then _ else sc I s 1 i) else _) = _
        rw [if_pos rfl, if_neg (by omega)]
        exact q1
      have hset := setBarrels_C (s := s) (K := V) (j := i) (x := (sc I s 1 i).toNatClampNeg - lkN (vw I t) (sc I s) nl i d) (by omega) (by omega)
      obtain ⟨V', hV', hset⟩ : ∃ V' : HI, V' = (if (sc I s 1 i).toNatClampNeg - lkN (vw I t) (sc I s) nl i d = 0 then sI (sI (sI V (s + 1) i (nI 0)) (s + 2) i (mI 1)) (s + 3) i (mI 1) else sI V (s + 1) i (nI ((sc I s 1 i).toNatClampNeg - lkN (vw I t) (sc I s) nl i d))) ∧ f_X9_setBarrels V s (nI i) (nI ((sc I s 1 i).toNatClampNeg - lkN (vw I t) (sc I s) nl i d)) = some V' := ⟨_, rfl, hset⟩
      refine ⟨(x + nI (lkN (vw I t) (sc I s) nl i d), V'), ?_, ?_, ?_, ?_⟩
      · simp (disch := omega) only [f_X9_passNight_L35, ↓zm1, ↓zm2, ↓zm3, ↓zm4, ↓zm5, ↓zm6, ↓zm7, ↓zm8, ↓zm9, ↓zm10, ↓zm11, ↓zm12, ↓zm13, ↓zm14, ↓zm15, ↓zm16, ↓zm17, ↓zm18, ↓zm19, ↓zm20, ↓zm1000000000, zq0, zq1, zq2, zq3, zq4, zq5, zq6, zq7, zq8, zq9, zq10, zq11, zq12, zq13, zq14, zq15, zq16, zq17, zq18, zq19, zq20, zq21, zq22, zq23, zq24, zq25, zq26, zq30, zq31, zq32, zq33, zq34, zq35, zq36, zq37, zq38, zq39, zq40, zq41, zq42, zq43, zq44, zq45, zq47, zq48, zq57, zq59, zq60, zq61, zq62, zq80, zq91, zq93, zq97, zq99, zq100, zq107, zq110, zq120, zq122, zq128, zq149, zq160, zq208, zq240, zq251, zq255, zq256, zq500, zq936, zq999, zq1600, zq1800, zq2048, zq3200, zq4160, zq9999, zq12345, zq1000000, zq1048576, zq100000000, bnd, jnt, zg_ok, gz_0, gz_1, gz_n0, gz_n1, zs_eq, zs_ne, zs_same, zs_other, zA_eq, zA_ne, Option.bind_some, Option.bind_none, nI_add, pk_mul, nI_clamp, nI_leI, nI_ltI, nI_eq, pk_sub, nI_mI, nI_eq_mI, mI_eq_nI, nI_lt_m, ldI_ok, inb_ok, if_pos, if_neg, dv_ok, rem_ok, div_ok, if_true, if_false, zg_ok h0, h1, e6, e5, e7, hset]
      · show x + _ = nI (smN _ i + _)
        rw [a1, nI_add]
      · intro y hy
        show V' y = K y
        rw [hV']
        split
        · rw [zs_ne (by omega), zs_ne (by omega), zs_ne (by omega)]
          exact a2 y hy
        · rw [zs_ne (by omega)]
          exact a2 y hy
      · intro b k hb1 hb2
        show V' (s + b) k = _
        rw [hV']
        have ho := a3 b k hb1 hb2
        have hz : b = 1 ∨ b = 2 ∨ b = 3 ∨ b = 4 := by omega
        by_cases ck : k = i
        · subst ck
          have hk1 : k < k + 1 := by omega
          split
          · rename_i c0
            rcases hz with q | q | q | q <;> subst q <;> simp (disch := omega) only [bnd, jnt, zg_ok, gz_0, gz_1, gz_n0, gz_n1, zs_eq, zs_ne, zs_same, zs_other, zA_eq, zA_ne, Option.bind_some, Option.bind_none] <;> simp [ntS, c0]
            rw [ho]
            simp [ntS]
          · rename_i c0
            rcases hz with q | q | q | q <;> subst q <;> simp (disch := omega) only [bnd, jnt, zg_ok, gz_0, gz_1, gz_n0, gz_n1, zs_eq, zs_ne, zs_same, zs_other, zA_eq, zA_ne, Option.bind_some, Option.bind_none] <;> simp [ntS, c0]
            · rw [ho]; simp [ntS]
            · rw [ho]; simp [ntS]
            · rw [ho]; simp [ntS]
        · have hki : (k < i + 1) ↔ (k < i) := by omega
          split
          · rcases hz with q | q | q | q <;> subst q <;> simp (disch := omega) only [bnd, jnt, zg_ok, gz_0, gz_1, gz_n0, gz_n1, zs_eq, zs_ne, zs_same, zs_other, zA_eq, zA_ne, Option.bind_some, Option.bind_none] <;> rw [ho] <;> simp [ntS, hki]
          · rcases hz with q | q | q | q <;> subst q <;> simp (disch := omega) only [bnd, jnt, zg_ok, gz_0, gz_1, gz_n0, gz_n1, zs_eq, zs_ne, zs_same, zs_other, zA_eq, zA_ne, Option.bind_some, Option.bind_none] <;> rw [ho] <;> simp [ntS, hki]
    · intro n a ha
      obtain ⟨x, V⟩ := a
      obtain ⟨a1, a2, a3⟩ := ha
      have a2 : ∀ x, x < s + 1 ∨ s + 5 ≤ x → V x = K x := a2
      have e6 : V t 3 = nI nl := by rw [a2 t (by omega), e2 t (by omega)]; exact h6
      refine ⟨(x, V), ?_, a1, a2, a3, trivial⟩
      simp (disch := omega) only [f_X9_passNight_L35, ↓zm1, ↓zm2, ↓zm3, ↓zm4, ↓zm5, ↓zm6, ↓zm7, ↓zm8, ↓zm9, ↓zm10, ↓zm11, ↓zm12, ↓zm13, ↓zm14, ↓zm15, ↓zm16, ↓zm17, ↓zm18, ↓zm19, ↓zm20, ↓zm1000000000, zq0, zq1, zq2, zq3, zq4, zq5, zq6, zq7, zq8, zq9, zq10, zq11, zq12, zq13, zq14, zq15, zq16, zq17, zq18, zq19, zq20, zq21, zq22, zq23, zq24, zq25, zq26, zq30, zq31, zq32, zq33, zq34, zq35, zq36, zq37, zq38, zq39, zq40, zq41, zq42, zq43, zq44, zq45, zq47, zq48, zq57, zq59, zq60, zq61, zq62, zq80, zq91, zq93, zq97, zq99, zq100, zq107, zq110, zq120, zq122, zq128, zq149, zq160, zq208, zq240, zq251, zq255, zq256, zq500, zq936, zq999, zq1600, zq1800, zq2048, zq3200, zq4160, zq9999, zq12345, zq1000000, zq1048576, zq100000000, bnd, jnt, zg_ok, gz_0, gz_1, gz_n0, gz_n1, zs_eq, zs_ne, zs_same, zs_other, zA_eq, zA_ne, Option.bind_some, Option.bind_none, nI_add, pk_mul, nI_clamp, nI_leI, nI_ltI, nI_eq, pk_sub, nI_mI, nI_eq_mI, mI_eq_nI, nI_lt_m, ldI_ok, inb_ok, if_pos, if_neg, dv_ok, rem_ok, div_ok, if_true, if_false, zg_ok h0, h1, e6]
  obtain ⟨r, f1', f2, f3, f4, f5⟩ := key2
  obtain ⟨nn, hnn, en⟩ := hW.2
  have en' : I s 1 = nI nn := en
  have er : r.2 s 1 = nI nn := by rw [f3 s (by omega), e2 s (by omega)]; exact en'
  have em : f_J9_min_7cf53 9999 (r.2 s 1 + 1) = some (nI (min 9999 (nn + 1))) := by
    unfold f_J9_min_7cf53
    rw [er]
    by_cases c : nn + 1 < 9999
    · rw [show min 9999 (nn + 1) = nn + 1 by omega]
      simp (disch := omega) only [↓zm1, ↓zm2, ↓zm3, ↓zm4, ↓zm5, ↓zm6, ↓zm7, ↓zm8, ↓zm9, ↓zm10, ↓zm11, ↓zm12, ↓zm13, ↓zm14, ↓zm15, ↓zm16, ↓zm17, ↓zm18, ↓zm19, ↓zm20, ↓zm1000000000, zq0, zq1, zq2, zq3, zq4, zq5, zq6, zq7, zq8, zq9, zq10, zq11, zq12, zq13, zq14, zq15, zq16, zq17, zq18, zq19, zq20, zq21, zq22, zq23, zq24, zq25, zq26, zq30, zq31, zq32, zq33, zq34, zq35, zq36, zq37, zq38, zq39, zq40, zq41, zq42, zq43, zq44, zq45, zq47, zq48, zq57, zq59, zq60, zq61, zq62, zq80, zq91, zq93, zq97, zq99, zq100, zq107, zq110, zq120, zq122, zq128, zq149, zq160, zq208, zq240, zq251, zq255, zq256, zq500, zq936, zq999, zq1600, zq1800, zq2048, zq3200, zq4160, zq9999, zq12345, zq1000000, zq1048576, zq100000000, bnd, jnt, zg_ok, gz_0, gz_1, gz_n0, gz_n1, zs_eq, zs_ne, zs_same, zs_other, zA_eq, zA_ne, Option.bind_some, Option.bind_none, nI_add, pk_mul, nI_clamp, nI_leI, nI_ltI, nI_eq, pk_sub, nI_mI, nI_eq_mI, mI_eq_nI, nI_lt_m, ldI_ok, inb_ok, if_pos, if_neg, dv_ok, rem_ok, div_ok, if_true, if_false]
    · rw [show min 9999 (nn + 1) = 9999 by omega]
      simp (disch := omega) only [↓zm1, ↓zm2, ↓zm3, ↓zm4, ↓zm5, ↓zm6, ↓zm7, ↓zm8, ↓zm9, ↓zm10, ↓zm11, ↓zm12, ↓zm13, ↓zm14, ↓zm15, ↓zm16, ↓zm17, ↓zm18, ↓zm19, ↓zm20, ↓zm1000000000, zq0, zq1, zq2, zq3, zq4, zq5, zq6, zq7, zq8, zq9, zq10, zq11, zq12, zq13, zq14, zq15, zq16, zq17, zq18, zq19, zq20, zq21, zq22, zq23, zq24, zq25, zq26, zq30, zq31, zq32, zq33, zq34, zq35, zq36, zq37, zq38, zq39, zq40, zq41, zq42, zq43, zq44, zq45, zq47, zq48, zq57, zq59, zq60, zq61, zq62, zq80, zq91, zq93, zq97, zq99, zq100, zq107, zq110, zq120, zq122, zq128, zq149, zq160, zq208, zq240, zq251, zq255, zq256, zq500, zq936, zq999, zq1600, zq1800, zq2048, zq3200, zq4160, zq9999, zq12345, zq1000000, zq1048576, zq100000000, bnd, jnt, zg_ok, gz_0, gz_1, gz_n0, gz_n1, zs_eq, zs_ne, zs_same, zs_other, zA_eq, zA_ne, Option.bind_some, Option.bind_none, nI_add, pk_mul, nI_clamp, nI_leI, nI_ltI, nI_eq, pk_sub, nI_mI, nI_eq_mI, mI_eq_nI, nI_lt_m, ldI_ok, inb_ok, if_pos, if_neg, dv_ok, rem_ok, div_ok, if_true, if_false]
  refine ⟨sI r.2 s 1 (nI (min 9999 (nn + 1))), ?_, ?_, ?_, ?_⟩
  · unfold f_X9_passNight
    simp only [e1', f1', Option.bind_some, em, bnd, f2]
  · intro x hx
    rw [zs_ne (by omega), f3 x (by omega), e2 x (by omega)]
  · intro a k ha1 ha2
    rw [zs_ne (by omega)]
    exact f4 a k ha1 ha2
  · intro n hn e
    rw [zs_eq, zs_same]
    rw [en'] at e
    have := (nI_eq (by omega) (by omega)).mp e
    rw [this]
end
