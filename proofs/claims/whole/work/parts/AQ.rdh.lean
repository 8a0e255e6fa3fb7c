/-! the rules' reader: the reference goes on, words and ends -/
def wdJ (J : HI) (M : HL) (w : Nat) : Prop := ∀ d, d < 25 → f_X12_isWord J M (lN (ownL d)) = some (if w = d then 1 else 0)
theorem wl19 {J : HI} {M : HL} {w : Nat} (h : wdJ J M w) : f_X12_isWord J M 6385252 = some (if w = 19 then 1 else 0) := by
  have e : (6385252 : Int64) = lN (ownL 19) := by
    rw [show ownL 19 = 6385252 from by decide +kernel]
    rfl
  rw [e]
  exact h 19 (by decide)
theorem wl18 {J : HI} {M : HL} {w : Nat} (h : wdJ J M w) : f_X12_isWord J M 28530 = some (if w = 18 then 1 else 0) := by
  have e : (28530 : Int64) = lN (ownL 18) := by
    rw [show ownL 18 = 28530 from by decide +kernel]
    rfl
  rw [e]
  exact h 18 (by decide)
theorem wl20 {J : HI} {M : HL} {w : Nat} (h : wdJ J M w) : f_X12_isWord J M 7237492 = some (if w = 20 then 1 else 0) := by
  have e : (7237492 : Int64) = lN (ownL 20) := by
    rw [show ownL 20 = 7237492 from by decide +kernel]
    rfl
  rw [e]
  exact h 20 (by decide)
theorem wl21 {J : HI} {M : HL} {w : Nat} (h : wdJ J M w) : f_X12_isWord J M 6384748 = some (if w = 21 then 1 else 0) := by
  have e : (6384748 : Int64) = lN (ownL 21) := by
    rw [show ownL 21 = 6384748 from by decide +kernel]
    rfl
  rw [e]
  exact h 21 (by decide)
theorem wl22 {J : HI} {M : HL} {w : Nat} (h : wdJ J M w) : f_X12_isWord J M 7170414 = some (if w = 22 then 1 else 0) := by
  have e : (7170414 : Int64) = lN (ownL 22) := by
    rw [show ownL 22 = 7170414 from by decide +kernel]
    rfl
  rw [e]
  exact h 22 (by decide)
theorem wl23 {J : HI} {M : HL} {w : Nat} (h : wdJ J M w) : f_X12_isWord J M 7168376 = some (if w = 23 then 1 else 0) := by
  have e : (7168376 : Int64) = lN (ownL 23) := by
    rw [show ownL 23 = 7168376 from by decide +kernel]
    rfl
  rw [e]
  exact h 23 (by decide)
theorem wl17 {J : HI} {M : HL} {w : Nat} (h : wdJ J M w) : f_X12_isWord J M 26982 = some (if w = 17 then 1 else 0) := by
  have e : (26982 : Int64) = lN (ownL 17) := by
    rw [show ownL 17 = 26982 from by decide +kernel]
    rfl
  rw [e]
  exact h 17 (by decide)
theorem wl5 {J : HI} {M : HL} {w : Nat} (h : wdJ J M w) : f_X12_isWord J M 6840691 = some (if w = 5 then 1 else 0) := by
  have e : (6840691 : Int64) = lN (ownL 5) := by
    rw [show ownL 5 = 6840691 from by decide +kernel]
    rfl
  rw [e]
  exact h 5 (by decide)
theorem wl13 {J : HI} {M : HL} {w : Nat} (h : wdJ J M w) : f_X12_isWord J M 474214787188 = some (if w = 13 then 1 else 0) := by
  have e : (474214787188 : Int64) = lN (ownL 13) := by
    rw [show ownL 13 = 474214787188 from by decide +kernel]
    rfl
  rw [e]
  exact h 13 (by decide)
theorem wl14 {J : HI} {M : HL} {w : Nat} (h : wdJ J M w) : f_X12_isWord J M 108187867505765 = some (if w = 14 then 1 else 0) := by
  have e : (108187867505765 : Int64) = lN (ownL 14) := by
    rw [show ownL 14 = 108187867505765 from by decide +kernel]
    rfl
  rw [e]
  exact h 14 (by decide)
theorem wl24 {J : HI} {M : HL} {w : Nat} (h : wdJ J M w) : f_X12_isWord J M 28273320707713140 = some (if w = 24 then 1 else 0) := by
  have e : (28273320707713140 : Int64) = lN (ownL 24) := by
    rw [show ownL 24 = 28273320707713140 from by decide +kernel]
    rfl
  rw [e]
  exact h 24 (by decide)
theorem wl15 {J : HI} {M : HL} {w : Nat} (h : wdJ J M w) : f_X12_isWord J M 495874044019 = some (if w = 15 then 1 else 0) := by
  have e : (495874044019 : Int64) = lN (ownL 15) := by
    rw [show ownL 15 = 495874044019 from by decide +kernel]
    rfl
  rw [e]
  exact h 15 (by decide)
theorem wl16 {J : HI} {M : HL} {w : Nat} (h : wdJ J M w) : f_X12_isWord J M 1718773093 = some (if w = 16 then 1 else 0) := by
  have e : (1718773093 : Int64) = lN (ownL 16) := by
    rw [show ownL 16 = 1718773093 from by decide +kernel]
    rfl
  rw [e]
  exact h 16 (by decide)
section
variable {fu dp fk ph : Nat} {J J1 J2 J3 : HI} {M M3 : HL}
def noA (c : Nat) : Prop := c ≠ 43 ∧ c ≠ 45 ∧ c ≠ 42 ∧ c ≠ 47 ∧ c ≠ 37
theorem noA_at {c : Nat} (hs : sgJ J c) (h : noA c) : f_X12_isSign J 43 = some 0 ∧ f_X12_isSign J 45 = some 0 ∧ f_X12_isSign J 42 = some 0 ∧ f_X12_isSign J 47 = some 0 ∧ f_X12_isSign J 37 = some 0 := by
  obtain ⟨⟨a1, a2, a3, a4, a5⟩, -⟩ := sgJ_at hs
  rw [if_neg h.1] at a1
  rw [if_neg h.2.1] at a2
  rw [if_neg h.2.2.1] at a3
  rw [if_neg h.2.2.2.1] at a4
  rw [if_neg h.2.2.2.2] at a5
  exact ⟨a1, a2, a3, a4, a5⟩
/-- past the signs of sums -/
theorem go0_M {c : Nat} {X : Unit → Option (Int32 × HI × HL)} {Y : Option (Int32 × HI × HL)} (hs : sgJ J c) (hA : ph < 2 → noA c) (hph : ph ≤ 2) (Z : Unit → Option (Int32 × HI × HL)) (hX : X () = Y) : (if 2 ≤ nI ph then X () else (f_X12_isSign J 43).bind fun x7 => if x7 = 0 then (f_X12_isSign J 45).bind fun x9 => if x9 = 0 then (f_X12_isSign J 42).bind fun x10 => if x10 = 0 then (f_X12_isSign J 47).bind fun x11 => if x11 = 0 then (f_X12_isSign J 37).bind fun x12 => if x12 = 0 then X () else Z () else Z () else Z () else Z () else Z ()) = Y := by
  by_cases c2 : ph < 2
  · have z : ¬ (2 : Int32) ≤ nI ph := nI_ge (b := 2) c2 (by decide)
    obtain ⟨a1, a2, a3, a4, a5⟩ := noA_at hs (hA c2)
    rw [if_neg z, a1, Option.bind_some, if_pos rfl, a2, Option.bind_some, if_pos rfl, a3, Option.bind_some, if_pos rfl, a4, Option.bind_some, if_pos rfl, a5, Option.bind_some, if_pos rfl]
    exact hX
  · have z : (2 : Int32) ≤ nI ph := nI_le (a := 2) (by omega) (by omega)
    rw [if_pos z]
    exact hX
theorem goB_M {c w : Nat} (h8 : J 100 8 = 0) (hlex : f_X12_lex J = some J) (h40 : J 100 40 = nI (dp + 1)) (hdp : dp < 12) (h120 : J 120 dp = nI fk) (hfk : fk < 10) (hts : tsF fk) (h121 : J 121 dp = nI ph) (hph : 1 ≤ ph ∧ ph ≤ 2) (hs : sgJ J c) (hA : ph < 2 → noA c) (hw : wdJ J M w) (hww : w = 19 ∨ w = 18) (hj : f_X12_joins fu J (nI (if w = 19 then 2 else 1)) = some J1) (hh : f_X12_holdsBack J1 (nI (if w = 19 then 41 else 42)) = some J2) (ha : f_X12_ahead fu (sI (sI J2 121 dp 0) 122 dp 1) M = some (J3, M3)) : f_X12_goesOn fu J M = some (1, sI J3 100 44 0, M3) := by
  have n3 : ¬ (1 : Int32) = 0 := by decide
  have z8 : (0 : Int32) ≤ 0 := by decide
  have ed : nI (dp + 1) - 1 = nI dp := by rw [sub1, dec1]
  have l120 : ∀ k : Int32 → Option (Int32 × HI × HL), ldI (J 120) 20 (nI dp) k = k (nI fk) := fun k => by rw [ldI_ok (by omega), h120]
  have l121 : ∀ k : Int32 → Option (Int32 × HI × HL), ldI (J 121) 20 (nI dp) k = k (nI ph) := fun k => by rw [ldI_ok (by omega), h121]
  have p0 : ¬ nI ph = 0 := nI_ne0 (by omega) (by omega)
  have hx4 : f_X12_isTest (nI fk) = some 1 := by
    rcases isTest_M hfk with ⟨_, w⟩ | ⟨w, _⟩
    · exact w
    · exact absurd hts w
  have ib : ∀ k : Option (Int32 × HI × HL), inb 20 (nI dp) k = k := fun k => by rw [inb_ok (by omega)]
  have td : (nI dp).toNatClampNeg = dp := nI_clamp (by omega)
  have w19 := wl19 hw
  have w18 := wl18 hw
  unfold f_X12_goesOn
  rcases hww with rfl | rfl
  · have hj' : f_X12_joins fu J 2 = some J1 := hj
    have hh' : f_X12_holdsBack J1 41 = some J2 := hh
    rw [if_pos rfl] at w19
    simp only [hlex, Option.bind_some, h8, if_pos z8, bnd, h40, ed, l120, hx4, l121, jnt]
    refine go0_M hs hA hph.2 (fun _ => _) (X := fun _ => _) ?_
    simp only [if_neg n3, if_neg p0, w19, Option.bind_some, h8, if_pos z8, hj', hh', ib, td, nz01.2, ha, gz_0, gz_1]
  · have hj' : f_X12_joins fu J 1 = some J1 := hj
    have hh' : f_X12_holdsBack J1 42 = some J2 := hh
    rw [if_neg (by decide)] at w19
    rw [if_pos rfl] at w18
    simp only [hlex, Option.bind_some, h8, if_pos z8, bnd, h40, ed, l120, hx4, l121, jnt]
    refine go0_M hs hA hph.2 (fun _ => _) (X := fun _ => _) ?_
    simp only [if_neg n3, if_neg p0, w19, w18, if_true, Option.bind_some, h8, if_pos z8, hj', hh', ib, td, nz01.2, ha, gz_0, gz_1]
/-- a test that compares nothing -/
theorem goN_M {c w at' : Nat} (h8 : J 100 8 = 0) (hlex : f_X12_lex J = some J) (h4 : J 100 4 = nI at') (h40 : J 100 40 = nI (dp + 1)) (hdp : dp < 12) (h120 : J 120 dp = nI fk) (hfk : fk < 10) (hts : tsF fk) (h121 : J 121 dp = nI 0) (hs : sgJ J c) (hA : noA c) (hB : c ≠ 60 ∧ c ≠ 62 ∧ c ≠ 61) (hw : wdJ J M w) (hs' : ∀ J', BadM J J' 1 at' → sgJ J' c) : ∃ J', f_X12_goesOn fu J M = some (0, J', M) ∧ BadM J J' 1 at' := by
  have n3 : ¬ (1 : Int32) = 0 := by decide
  have z8 : (0 : Int32) ≤ 0 := by decide
  have ed : nI (dp + 1) - 1 = nI dp := by rw [sub1, dec1]
  have l120 : ∀ k : Int32 → Option (Int32 × HI × HL), ldI (J 120) 20 (nI dp) k = k (nI fk) := fun k => by rw [ldI_ok (by omega), h120]
  have l121 : ∀ k : Int32 → Option (Int32 × HI × HL), ldI (J 121) 20 (nI dp) k = k 0 := fun k => by rw [ldI_ok (by omega), h121]; rfl
  have c2 : ¬ (2 : Int32) ≤ 0 := by decide
  have hx4 : f_X12_isTest (nI fk) = some 1 := by
    rcases isTest_M hfk with ⟨_, w⟩ | ⟨w, _⟩
    · exact w
    · exact absurd hts w
  obtain ⟨J', m1, m2⟩ := blameS (J := J) (f := 1) (pl := at') h8
  have m1' : f_X12_blame J 1 (nI at') = some J' := m1
  have hb := blameF (J := J') (f := 1) (x := 1) (y := J' 100 4) (by decide) m2.2.1
  have zb : ¬ J' 100 8 ≤ 0 := by rw [m2.2.1]; decide
  have zc : ¬ J' 100 8 = 0 := by rw [m2.2.1]; decide
  obtain ⟨a1, a2, a3, a4, a5⟩ := noA_at hs hA
  obtain ⟨-, ⟨q1, q2, q3⟩, -⟩ := sgJ_at hs
  rw [if_neg hB.1] at q1
  rw [if_neg hB.2.1] at q2
  rw [if_neg hB.2.2] at q3
  obtain ⟨-, -, r44, r41, r93, -⟩ := sgJ_at (hs' J' m2)
  have w19 := wl19 hw
  have w18 := wl18 hw
  refine ⟨J', ?_, m2⟩
  unfold f_X12_goesOn
  by_cases c19 : w = 19
  · rw [if_pos c19] at w19
    simp only [hlex, Option.bind_some, h8, if_pos z8, bnd, h40, ed, l120, hx4, l121, jnt, if_neg c2, a1, a2, a3, a4, a5, if_true, q1, q2, q3, if_neg n3, w19, h4, m1', if_neg zb, gz_0]
  · rw [if_neg c19] at w19
    by_cases c18 : w = 18
    · rw [if_pos c18] at w18
      simp only [hlex, Option.bind_some, h8, if_pos z8, bnd, h40, ed, l120, hx4, l121, jnt, if_neg c2, a1, a2, a3, a4, a5, if_true, q1, q2, q3, if_neg n3, w19, w18, h4, m1', if_neg zb, gz_0]
    · rw [if_neg c18] at w18
      rcases hts with rfl | rfl | rfl
      · have f2 : ¬ (2 : Int32) ≤ nI 1 := by decide
        simp only [hlex, Option.bind_some, h8, if_pos z8, bnd, h40, ed, l120, hx4, l121, jnt, if_neg c2, a1, a2, a3, a4, a5, if_true, q1, q2, q3, if_neg n3, w19, w18, h4, m1', if_neg f2, if_neg zc, gz_0]
      · have f2 : (2 : Int32) ≤ nI 5 := by decide
        have f3 : ¬ nI 5 = 3 := by decide
        have f6 : ¬ nI 5 = 6 := by decide
        have f5 : nI 5 = 5 := rfl
        by_cases c9 : c = 93
        · rw [if_pos c9] at r93
          simp only [hlex, Option.bind_some, h8, if_pos z8, bnd, h40, ed, l120, hx4, l121, jnt, if_neg c2, a1, a2, a3, a4, a5, if_true, q1, q2, q3, if_neg n3, w19, w18, h4, m1', if_pos f2, if_neg f3, if_neg f6, if_pos f5, r93, if_neg zb, gz_0]
        · rw [if_neg c9] at r93
          simp only [hlex, Option.bind_some, h8, if_pos z8, bnd, h40, ed, l120, hx4, l121, jnt, if_neg c2, a1, a2, a3, a4, a5, if_true, q1, q2, q3, if_neg n3, w19, w18, h4, m1', if_pos f2, if_neg f3, if_neg f6, if_pos f5, r93, hb, if_neg zb, gz_0]
      · have f2 : (2 : Int32) ≤ nI 6 := by decide
        have f3 : ¬ nI 6 = 3 := by decide
        have f6 : nI 6 = 6 := rfl
        by_cases c9 : c = 44
        · rw [if_pos c9] at r44
          simp only [hlex, Option.bind_some, h8, if_pos z8, bnd, h40, ed, l120, hx4, l121, jnt, if_neg c2, a1, a2, a3, a4, a5, if_true, q1, q2, q3, if_neg n3, w19, w18, h4, m1', if_pos f2, if_neg f3, if_pos f6, r44, if_neg zb, gz_0]
        · rw [if_neg c9] at r44
          simp only [hlex, Option.bind_some, h8, if_pos z8, bnd, h40, ed, l120, hx4, l121, jnt, if_neg c2, a1, a2, a3, a4, a5, if_true, q1, q2, q3, if_neg n3, w19, w18, h4, m1', if_pos f2, if_neg f3, if_pos f6, r44, hb, if_neg zb, gz_0]
end
