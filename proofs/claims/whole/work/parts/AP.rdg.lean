/-! the rules' reader: the reference goes on -/
def tsF (fk : Nat) : Prop := fk = 1 ∨ fk = 5 ∨ fk = 6
theorem isTest_M {fk : Nat} (h : fk < 10) : (tsF fk ∧ f_X12_isTest (nI fk) = some 1) ∨ (¬ tsF fk ∧ f_X12_isTest (nI fk) = some 0) := by
  have key : ∀ f, f < 10 → f_X12_isTest (nI f) = some (if f = 1 ∨ f = 5 ∨ f = 6 then 1 else 0) := by decide
  rw [key fk h]
  by_cases c : fk = 1 ∨ fk = 5 ∨ fk = 6
  · left; rw [if_pos c]; exact ⟨c, rfl⟩
  · right; rw [if_neg c]; exact ⟨c, rfl⟩
theorem holds_M {J : HI} {om : Nat} {v : Int32} (h : J 100 43 = nI om) (ho : om < 500) : f_X12_holdsBack J v = some (sI (sI J 125 om v) 100 43 (nI (om + 1))) := by
  unfold f_X12_holdsBack
  rw [h, inb_ok (by omega), nI_clamp (by omega)]
  simp only [bnd]
  rw [zs_ne (by decide), h, nI_1]
theorem pushes_M {J : HI} {dp om : Nat} {v : Int32} (h : J 100 40 = nI dp) (hd : dp < 20) (ho : J 100 43 = nI om) : f_X12_pushes J v = some (sI (sI (sI (sI (sI J 120 dp v) 121 dp 0) 122 dp 1) 124 dp (nI om)) 100 40 (nI (dp + 1))) := by
  have e1 : (sI J 120 dp v) 100 40 = nI dp := by rw [zs_ne (by decide)]; exact h
  have e2 : (sI (sI J 120 dp v) 121 dp 0) 100 40 = nI dp := by rw [zs_ne (by decide)]; exact e1
  have e3 : (sI (sI (sI J 120 dp v) 121 dp 0) 122 dp 1) 100 40 = nI dp := by rw [zs_ne (by decide)]; exact e2
  have e4 : (sI (sI (sI J 120 dp v) 121 dp 0) 122 dp 1) 100 43 = nI om := by rw [zs_ne (by decide), zs_ne (by decide), zs_ne (by decide)]; exact ho
  have e5 : (sI (sI (sI (sI J 120 dp v) 121 dp 0) 122 dp 1) 124 dp (nI om)) 100 40 = nI dp := by rw [zs_ne (by decide)]; exact e3
  unfold f_X12_pushes
  rw [h, inb_ok (by omega), nI_clamp (by omega)]
  simp only [bnd]
  rw [e1, inb_ok (by omega), nI_clamp (by omega), nz01.2, e2, inb_ok (by omega), nI_clamp (by omega), e3, inb_ok (by omega), nI_clamp (by omega), e4, e5, nI_1]
section
variable {fu dp fk ph : Nat} {J J1 J2 J3 : HI} {M M3 : HL}
/-- what stands here is this sign, or no sign that is asked for -/
def sgJ (J : HI) (c : Nat) : Prop := ∀ d, d < 256 → f_X12_isSign J (nI d) = some (if c = d then 1 else 0)
theorem sgJ_at {c : Nat} (h : sgJ J c) : (f_X12_isSign J 43 = some (if c = 43 then 1 else 0) ∧ f_X12_isSign J 45 = some (if c = 45 then 1 else 0) ∧ f_X12_isSign J 42 = some (if c = 42 then 1 else 0) ∧ f_X12_isSign J 47 = some (if c = 47 then 1 else 0) ∧ f_X12_isSign J 37 = some (if c = 37 then 1 else 0)) ∧ (f_X12_isSign J 60 = some (if c = 60 then 1 else 0) ∧ f_X12_isSign J 62 = some (if c = 62 then 1 else 0) ∧ f_X12_isSign J 61 = some (if c = 61 then 1 else 0)) ∧ f_X12_isSign J 44 = some (if c = 44 then 1 else 0) ∧ f_X12_isSign J 41 = some (if c = 41 then 1 else 0) ∧ f_X12_isSign J 93 = some (if c = 93 then 1 else 0) ∧ f_X12_isSign J 40 = some (if c = 40 then 1 else 0) ∧ f_X12_isSign J 91 = some (if c = 91 then 1 else 0) := ⟨⟨h 43 (by decide), h 45 (by decide), h 42 (by decide), h 47 (by decide), h 37 (by decide)⟩, ⟨h 60 (by decide), h 62 (by decide), h 61 (by decide)⟩, h 44 (by decide), h 41 (by decide), h 93 (by decide), h 40 (by decide), h 91 (by decide)⟩
def arC (c least code : Nat) : Prop := (c = 43 ∧ least = 5 ∧ code = 31) ∨ (c = 45 ∧ least = 5 ∧ code = 32) ∨ (c = 42 ∧ least = 6 ∧ code = 33) ∨ (c = 47 ∧ least = 6 ∧ code = 34) ∨ (c = 37 ∧ least = 6 ∧ code = 35)
theorem goA_M {c least code : Nat} (h8 : J 100 8 = 0) (hlex : f_X12_lex J = some J) (h40 : J 100 40 = nI (dp + 1)) (hdp : dp < 12) (h120 : J 120 dp = nI fk) (hfk : fk < 10) (h121 : J 121 dp = nI ph) (hph : ph < 2) (hs : sgJ J c) (hj : f_X12_joins fu J (nI least) = some J1) (hs1 : sgJ J1 c) (hh : f_X12_holdsBack J1 (nI code) = some J2) (ha : f_X12_ahead fu J2 M = some (J3, M3)) (hc : arC c least code) : f_X12_goesOn fu J M = some (1, sI J3 100 44 0, M3) := by
  have n3 : ¬ (1 : Int32) = 0 := by decide
  have z8 : (0 : Int32) ≤ 0 := by decide
  have ed : nI (dp + 1) - 1 = nI dp := by rw [sub1, dec1]
  have l120 : ∀ k : Int32 → Option (Int32 × HI × HL), ldI (J 120) 20 (nI dp) k = k (nI fk) := fun k => by rw [ldI_ok (by omega), h120]
  have l121 : ∀ k : Int32 → Option (Int32 × HI × HL), ldI (J 121) 20 (nI dp) k = k (nI ph) := fun k => by rw [ldI_ok (by omega), h121]
  have c2 : ¬ (2 : Int32) ≤ nI ph := nI_ge (b := 2) hph (by decide)
  obtain ⟨x4, hx4⟩ : ∃ x4, f_X12_isTest (nI fk) = some x4 := by
    rcases isTest_M hfk with ⟨_, w⟩ | ⟨_, w⟩
    · exact ⟨_, w⟩
    · exact ⟨_, w⟩
  obtain ⟨⟨a1, a2, a3, a4, a5⟩, -⟩ := sgJ_at hs
  obtain ⟨⟨b1, b2, b3, b4, b5⟩, -⟩ := sgJ_at hs1
  unfold f_X12_goesOn
  rcases hc with ⟨rfl, rfl, rfl⟩ | ⟨rfl, rfl, rfl⟩ | ⟨rfl, rfl, rfl⟩ | ⟨rfl, rfl, rfl⟩ | ⟨rfl, rfl, rfl⟩
  · have hj' : f_X12_joins fu J 5 = some J1 := hj
    have hh' : f_X12_holdsBack J1 31 = some J2 := hh
    rw [if_pos rfl] at a1 b1
    simp only [hlex, Option.bind_some, h8, if_pos z8, bnd, h40, ed, l120, hx4, l121, jnt, if_neg c2, a1, if_neg n3, hj', b1, hh', ha, gz_0, gz_1]
  · have hj' : f_X12_joins fu J 5 = some J1 := hj
    have hh' : f_X12_holdsBack J1 32 = some J2 := hh
    rw [if_neg (by decide)] at a1 b1
    rw [if_pos rfl] at a2 b2
    simp only [hlex, Option.bind_some, h8, if_pos z8, bnd, h40, ed, l120, hx4, l121, jnt, if_neg c2, a1, if_true, a2, if_neg n3, hj', b1, b2, hh', ha, gz_0, gz_1]
  · have hj' : f_X12_joins fu J 6 = some J1 := hj
    have hh' : f_X12_holdsBack J1 33 = some J2 := hh
    rw [if_neg (by decide)] at a1 b1 a2 b2
    rw [if_pos rfl] at a3 b3
    simp only [hlex, Option.bind_some, h8, if_pos z8, bnd, h40, ed, l120, hx4, l121, jnt, if_neg c2, a1, if_true, a2, a3, if_neg n3, hj', b1, b2, b3, hh', ha, gz_0, gz_1]
  · have hj' : f_X12_joins fu J 6 = some J1 := hj
    have hh' : f_X12_holdsBack J1 34 = some J2 := hh
    rw [if_neg (by decide)] at a1 b1 a2 b2 a3 b3
    rw [if_pos rfl] at a4 b4
    simp only [hlex, Option.bind_some, h8, if_pos z8, bnd, h40, ed, l120, hx4, l121, jnt, if_neg c2, a1, if_true, a2, a3, a4, if_neg n3, hj', b1, b2, b3, b4, hh', ha, gz_0, gz_1]
  · have hj' : f_X12_joins fu J 6 = some J1 := hj
    have hh' : f_X12_holdsBack J1 35 = some J2 := hh
    rw [if_neg (by decide)] at a1 b1 a2 b2 a3 b3 a4 b4
    rw [if_pos rfl] at a5 b5
    simp only [hlex, Option.bind_some, h8, if_pos z8, bnd, h40, ed, l120, hx4, l121, jnt, if_neg c2, a1, if_true, a2, a3, a4, a5, if_neg n3, hj', b1, b2, b3, b4, hh', ha, gz_0, gz_1]
def cmC (c code : Nat) : Prop := (c = 60 ∧ code = 38) ∨ (c = 62 ∧ code = 39) ∨ (c = 61 ∧ code = 40)
theorem goC_M {c code : Nat} (h8 : J 100 8 = 0) (hlex : f_X12_lex J = some J) (h40 : J 100 40 = nI (dp + 1)) (hdp : dp < 12) (h120 : J 120 dp = nI fk) (hfk : fk < 10) (hts : tsF fk) (h121 : J 121 dp = nI 0) (hs : sgJ J c) (hj : f_X12_joins fu J 5 = some J1) (hs1 : sgJ J1 c) (hh : f_X12_holdsBack J1 (nI code) = some J2) (ha : f_X12_ahead fu (sI J2 121 dp 1) M = some (J3, M3)) (hc : cmC c code) : f_X12_goesOn fu J M = some (1, sI J3 100 44 0, M3) := by
  have n3 : ¬ (1 : Int32) = 0 := by decide
  have z8 : (0 : Int32) ≤ 0 := by decide
  have ed : nI (dp + 1) - 1 = nI dp := by rw [sub1, dec1]
  have l120 : ∀ k : Int32 → Option (Int32 × HI × HL), ldI (J 120) 20 (nI dp) k = k (nI fk) := fun k => by rw [ldI_ok (by omega), h120]
  have l121 : ∀ k : Int32 → Option (Int32 × HI × HL), ldI (J 121) 20 (nI dp) k = k 0 := fun k => by rw [ldI_ok (by omega), h121]; rfl
  have c2 : ¬ (2 : Int32) ≤ 0 := by decide
  have hx4 : f_X12_isTest (nI fk) = some 1 := by
    rcases isTest_M hfk with ⟨_, w⟩ | ⟨w, _⟩
    · exact w
    · exact absurd hts w
  have ib : ∀ k : Option (Int32 × HI × HL), inb 20 (nI dp) k = k := fun k => by rw [inb_ok (by omega)]
  have td : (nI dp).toNatClampNeg = dp := nI_clamp (by omega)
  obtain ⟨⟨a1, a2, a3, a4, a5⟩, ⟨q1, q2, q3⟩, -⟩ := sgJ_at hs
  obtain ⟨-, ⟨b1, b2, b3⟩, -⟩ := sgJ_at hs1
  unfold f_X12_goesOn
  rcases hc with ⟨rfl, rfl⟩ | ⟨rfl, rfl⟩ | ⟨rfl, rfl⟩
  · have hh' : f_X12_holdsBack J1 38 = some J2 := hh
    rw [if_neg (by decide)] at a1 a2 a3 a4 a5
    rw [if_pos rfl] at q1 b1
    simp only [hlex, Option.bind_some, h8, if_pos z8, bnd, h40, ed, l120, hx4, l121, jnt, if_neg c2, a1, a2, a3, a4, a5, if_true, q1, if_neg n3, hj, b1, hh', ib, td, ha, gz_0, gz_1]
  · have hh' : f_X12_holdsBack J1 39 = some J2 := hh
    rw [if_neg (by decide)] at a1 a2 a3 a4 a5 q1 b1
    rw [if_pos rfl] at q2 b2
    simp only [hlex, Option.bind_some, h8, if_pos z8, bnd, h40, ed, l120, hx4, l121, jnt, if_neg c2, a1, a2, a3, a4, a5, if_true, q1, q2, if_neg n3, hj, b1, b2, hh', ib, td, ha, gz_0, gz_1]
  · have hh' : f_X12_holdsBack J1 40 = some J2 := hh
    rw [if_neg (by decide)] at a1 a2 a3 a4 a5 q1 b1 q2 b2
    rw [if_pos rfl] at q3
    simp only [hlex, Option.bind_some, h8, if_pos z8, bnd, h40, ed, l120, hx4, l121, jnt, if_neg c2, a1, a2, a3, a4, a5, if_true, q1, q2, q3, if_neg n3, hj, b1, b2, hh', ib, td, ha, gz_0, gz_1]
end
