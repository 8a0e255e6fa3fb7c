/-- a sum over members is one over lakes -/
theorem nth_sum {p : Nat → Bool} {g : Nat → Nat} {nl : Nat} : ∀ i, i ≤ nl → smN (fun k => g (nth p k nl)) (cnt p i) = smN (fun l => if p l = true then g l else 0) i := by
  intro i
  induction i with
  | zero => intro _; rfl
  | succ i ih =>
    intro hi
    have es : smN (fun l => if p l = true then g l else 0) (i + 1) = smN (fun l => if p l = true then g l else 0) i + (if p i = true then g i else 0) := rfl
    rw [es, ← ih (by omega)]
    by_cases c : p i = true
    · rw [cnt_t c, if_pos c]
      show smN (fun k => g (nth p k nl)) (cnt p i) + g (nth p (cnt p i) nl) = _
      rw [nth_1 (by omega) c]
    · rw [cnt_f c, if_neg c, Nat.add_zero]
theorem space_M {J : HI} {b nh no nl fu his H h sp0 : Nat} {D : HI} (hM : ML J b nh no nl D) (hB : BW (lv J 0)) (hf : 8 < fu) (hh : his < 256) (hH : 0 < H ∧ H < 256) : f_X12_pack_L164 fu J (nI his) (nI H) (nI h) (nI sp0) 0 = some (nI (sp0 + smN (fun l => if his.testBit l = true ∧ lv J 0 2 l = nI h then (lv J 0 1 l).toNatClampNeg else 0) nl)) := by
  obtain ⟨⟨m0, m1⟩, m2, m3, m4, m5, m6, m7, m8, m9, m10⟩ := id hM
  have cH : ¬ nI H ≤ 0 := nI_nle (by omega) (by omega)
  refine loopCf (fun n a i => f_X12_pack_L164 n J (nI his) (nI H) (nI h) a i) (fun i => nI (sp0 + smN (fun l => if his.testBit l = true ∧ lv J 0 2 l = nI h then (lv J 0 1 l).toNatClampNeg else 0) i)) _ nl fu ?_ ?_ (by omega)
  · intro n i hi
    have hb := has2_ok (x := his) (i := i) (by omega) (by omega)
    have hq : f_X12_fill J 0 (nI i) = _ := fill_M (J := J) (v := 0) (l := i) (by decide) (by omega)
    have hq2 : f_X12_liesIn J 0 (nI i) = _ := liesIn_M (J := J) (v := 0) (l := i) (by decide) (by omega)
    obtain ⟨y, y1, y2⟩ := hB.1 i (by omega)
    rw [y2] at hq
    have n3 : ¬ (1 : Int32) = 0 := by decide
    have c1 : ¬ nI nl ≤ nI i := nI_ge hi (by omega)
    have A1 : nI i + 1 = nI (i + 1) := nI_1 i
    obtain ⟨x, hx⟩ : ∃ x, x = sp0 + smN (fun l => if his.testBit l = true ∧ lv J 0 2 l = nI h then (lv J 0 1 l).toNatClampNeg else 0) i := ⟨_, rfl⟩
    have es : sp0 + smN (fun l => if his.testBit l = true ∧ lv J 0 2 l = nI h then (lv J 0 1 l).toNatClampNeg else 0) (i + 1) = x + (if his.testBit i = true ∧ lv J 0 2 i = nI h then y else 0) := by
      have ey : (lv J 0 1 i).toNatClampNeg = y := by rw [y2, nI_clamp (by omega)]
      rw [hx, ← ey, Nat.add_assoc]
      rfl
    show f_X12_pack_L164 (n + 1) J (nI his) (nI H) (nI h) (nI (sp0 + smN _ i)) (nI i) = f_X12_pack_L164 n J (nI his) (nI H) (nI h) (nI (sp0 + smN _ (i + 1))) (nI (i + 1))
    rw [es, ← hx]
    have z0 : nI x + 0 = nI x := Int32.add_zero _
    by_cases c : his.testBit i = true
    · rw [if_pos c] at hb
      by_cases c2 : lv J 0 2 i = nI h
      · rw [if_pos ⟨c, c2⟩]
        simp (disch := omega) only [f_X12_pack_L164, m0, ldI_ok, m4, if_neg c1, if_neg cH, hb, Option.bind_some, jnt, if_neg n3, hq2, if_pos c2, hq, bnd, nI_add, A1]
      · rw [if_neg (fun w => c2 w.2)]
        simp (disch := omega) only [f_X12_pack_L164, m0, ldI_ok, m4, if_neg c1, if_neg cH, hb, Option.bind_some, jnt, if_neg n3, hq2, if_neg c2, bnd, z0, A1, Nat.add_zero]
    · rw [if_neg c] at hb
      rw [if_neg (fun w => c w.1)]
      simp (disch := omega) only [f_X12_pack_L164, m0, ldI_ok, m4, if_neg c1, if_neg cH, hb, Option.bind_some, jnt, if_true, bnd, z0, A1, Nat.add_zero]
  · intro n
    have c1 : nI nl ≤ nI nl := Int32.le_refl _
    simp (disch := omega) only [f_X12_pack_L164, m0, ldI_ok, m4, if_pos c1]
