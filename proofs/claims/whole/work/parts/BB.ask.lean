/-! a name that must be told already: the reference -/
section
variable {fu at' : Nat} {J : HI} {M : HL} {p1 p2 : Int32}
theorem askG {v : Int32} {J3 : HI} {M3 : HL} (h8 : J 100 8 = 0) (l2 : f_X12_lex J = some J) (w2 : J 100 3 = 1) (w4 : f_X12_isOwn (M 100 7) = some 0) (hn : f_X12_named fu J M p1 (M 100 7) = some v) (hv : ¬ v = -1) (hm : f_X12_has2 p2 v = some 0) (ha : f_X12_ahead fu J M = some (J3, M3)) (h38 : J3 100 8 = 0) : f_X12_askedBut fu J M p1 p2 = some (v, J3, M3) := by
  have z8 : (0 : Int32) ≤ 0 := by decide
  unfold f_X12_askedBut
  simp only [l2, Option.bind_some, h8, if_pos z8, jnt, w2, if_true, w4, hn, if_neg hv, hm, ha, h38]
theorem askN {v : Int32} (h8 : J 100 8 = 0) (l2 : f_X12_lex J = some J) (w2 : J 100 3 = 1) (w4 : f_X12_isOwn (M 100 7) = some 0) (hn : f_X12_named fu J M p1 (M 100 7) = some v) (hv : v = -1 ∨ (¬ v = -1 ∧ f_X12_has2 p2 v = some 1)) (j4 : J 100 4 = nI at') : ∃ J', f_X12_askedBut fu J M p1 p2 = some (0, J', M) ∧ BadM J J' 3 at' := by
  have z8 : (0 : Int32) ≤ 0 := by decide
  have n3 : ¬ (1 : Int32) = 0 := by decide
  obtain ⟨J2, m1, m2⟩ := blameS (f := 3) (pl := at') h8
  have m1' : f_X12_blame J 3 (nI at') = some J2 := m1
  have z2 : ¬ J2 100 8 = 0 := by rw [m2.2.1]; decide
  have z3 : ¬ J2 100 8 ≤ 0 := by rw [m2.2.1]; decide
  refine ⟨J2, ?_, m2⟩
  unfold f_X12_askedBut
  rcases hv with hv | ⟨hv, hm⟩
  · simp only [l2, Option.bind_some, h8, if_pos z8, jnt, w2, if_true, w4, hn, if_pos hv, j4, m1', if_neg z2, if_neg z3]
  · simp only [l2, Option.bind_some, h8, if_pos z8, jnt, w2, if_true, w4, hn, if_neg hv, hm, if_neg n3, j4, m1', if_neg z2, if_neg z3]
theorem askF (h8 : J 100 8 = 0) (l2 : f_X12_lex J = some J) (hn : J 100 3 ≠ 1 ∨ f_X12_isOwn (M 100 7) = some 1) (j4 : J 100 4 = nI at') : ∃ J', f_X12_askedBut fu J M p1 p2 = some (0, J', M) ∧ BadM J J' 1 at' := by
  have z8 : (0 : Int32) ≤ 0 := by decide
  have n3 : ¬ (1 : Int32) = 0 := by decide
  obtain ⟨J2, m1, m2⟩ := blameS (f := 1) (pl := at') h8
  have m1' : f_X12_blame J 1 (nI at') = some J2 := m1
  have z2 : ¬ J2 100 8 = 0 := by rw [m2.2.1]; decide
  have z3 : ¬ J2 100 8 ≤ 0 := by rw [m2.2.1]; decide
  refine ⟨J2, ?_, m2⟩
  unfold f_X12_askedBut
  by_cases c : J 100 3 = 1
  · have w4 : f_X12_isOwn (M 100 7) = some 1 := by
      rcases hn with q | q
      · exact absurd c q
      · exact q
    simp only [l2, Option.bind_some, h8, if_pos z8, jnt, c, if_true, w4, if_neg n3, j4, m1', if_neg z2, if_neg z3]
  · simp only [l2, Option.bind_some, h8, if_pos z8, jnt, if_neg c, j4, m1', if_neg z2, if_neg z3]
theorem askL {J' : HI} {pl : Nat} (l4 : f_X12_lex J = some J') (l5 : BadM J J' 1 pl) : f_X12_askedBut fu J M p1 p2 = some (0, J', M) := by
  have z3 : ¬ J' 100 8 ≤ 0 := by rw [l5.2.1]; decide
  unfold f_X12_askedBut
  simp only [l4, Option.bind_some, if_neg z3]
theorem askX {f : Nat} (hf : 1 ≤ f ∧ f ≤ 6) (h8 : J 100 8 = nI f) : f_X12_askedBut fu J M p1 p2 = some (0, J, M) := by
  have z3 : ¬ J 100 8 ≤ 0 := by rw [h8]; exact nI_nle (by omega) (by omega)
  have hl := lexF (J := J) hf h8
  unfold f_X12_askedBut
  simp only [hl, Option.bind_some, if_neg z3]
/-- the start of a statement whose word is behind -/
theorem cntG {J3 : HI} {M3 : HL} (h8 : J 100 8 = 0) (ha : f_X12_ahead fu J M = some (J3, M3)) (h38 : J3 100 8 = 0) : f_X12_counts fu J M 0 = some (1, J3, M3) := by
  unfold f_X12_counts
  simp only [jnt, h8, if_true, ha, Option.bind_some, h38, gz_1]
theorem cntN (h8 : J 100 8 = 0) (j4 : J 100 4 = nI at') : ∃ J', f_X12_counts fu J M 1 = some (0, J', M) ∧ BadM J J' 6 at' := by
  have n3 : ¬ (1 : Int32) = 0 := by decide
  obtain ⟨J2, m1, m2⟩ := blameS (f := 6) (pl := at') h8
  have m1' : f_X12_blame J 6 (nI at') = some J2 := m1
  have z2 : ¬ J2 100 8 = 0 := by rw [m2.2.1]; decide
  refine ⟨J2, ?_, m2⟩
  unfold f_X12_counts
  simp only [jnt, h8, if_true, if_neg n3, j4, m1', Option.bind_some, if_neg z2, gz_0]
end
