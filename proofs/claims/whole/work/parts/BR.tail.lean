/-! behind a statement: the sign, one more, the next token -/
section
variable {tp : Nat → Nat} {sz : Nat}
theorem skip_F {J : HI} (hz : sz ≤ 1600) (ht : ∀ k, k < 1600 → tp k < 256 ∧ J 101 k = nI (tp k)) (h1 : J 100 2 = nI sz) : ∀ (q i n : Nat), i + q = sz → q < n → f_X12_finishes_L17 n J (nI i) = some (nI (rn (fun k => byB (tp k)) sz i)) := by
  intro q
  induction q with
  | zero =>
    intro i n e1 e2
    obtain ⟨n, rfl⟩ : ∃ z, n = z + 1 := ⟨n - 1, by omega⟩
    have c1 : nI sz ≤ nI i := nI_le (by omega) (by omega)
    rw [rn_end (fun w => by omega)]
    simp only [f_X12_finishes_L17, h1, if_pos c1]
  | succ q ih =>
    intro i n e1 e2
    obtain ⟨n, rfl⟩ : ∃ z, n = z + 1 := ⟨n - 1, by omega⟩
    have c1 : ¬ nI sz ≤ nI i := nI_ge (by omega) (by omega)
    obtain ⟨t1, t2⟩ := ht i (by omega)
    have ld : ∀ k : Int32 → Option Int32, ldI (J 101) 1800 (nI i) k = k (nI (tp i)) := fun k => by rw [ldI_ok (by omega), t2]
    have A1 : nI i + 1 = nI (i + 1) := nI_1 i
    by_cases c : byB (tp i) = true
    · rw [rn_go (P := fun k => byB (tp k)) (show i < sz by omega) c, ← ih (i + 1) n (by omega) (by omega)]
      rcases byB_iff.mp c with w | w
      · have z : nI (tp i) = 32 := by rw [w]; rfl
        simp only [f_X12_finishes_L17, h1, if_neg c1, ld, jnt, if_pos z, A1]
      · have z : ¬ nI (tp i) = 32 := by rw [w]; decide
        have z2 : nI (tp i) = 10 := by rw [w]; rfl
        simp only [f_X12_finishes_L17, h1, if_neg c1, ld, jnt, if_neg z, if_pos z2, A1]
    · have z : ¬ nI (tp i) = 32 := fun w => c (byB_iff.mpr (Or.inl ((nI_eq (b := 32) (by omega) (by decide)).mp w)))
      have z2 : ¬ nI (tp i) = 10 := fun w => c (byB_iff.mpr (Or.inr ((nI_eq (b := 10) (by omega) (by decide)).mp w)))
      rw [rn_end (P := fun k => byB (tp k)) (fun w => c w.2)]
      simp only [f_X12_finishes_L17, h1, if_neg c1, ld, jnt, if_neg z, if_neg z2]
end
def tailC (fu : Nat) (y : Int32) (K : HI) (R : HR) : Option (Int32 × HI × HR) :=
  if y = 0 then gz 0 (some (0, K, R))
  else (f_X10_needSign K 59).bind fun x26 =>
    if x26.1 = 0 then gz 0 (some (0, x26.2, R))
    else gr (okLd (R 6 2)) <| bnd (sI x26.2 (R 6 2) 0 ((x26.2 (R 6 2) 0) + 1)) fun I28 =>
      (f_X10_advance fu I28).bind fun x29 => gz x29.1 (some (x29.1, x29.2, R))
/-- what a whole statement gives -/
def OutW (tp : Nat → Nat) (sz t b n : Nat) (I J : HI) (M : HL) (y : Int32) (K J' : HI) (M' : HL) : Prop := (FrC t I K ∧ FrM b J J' ∧ FrL b M M') ∧ ((y = 1 ∧ (K t 0 = nI (n + 1) ∧ J' 100 9 = J 100 9) ∧ ∃ k' at2 e' nh no nl cj, StR tp sz K J' M' k' at2 e' ∧ cj ≤ at2 ∧ TOLD K J' M' t b nh no nl cj ∧ (n + 1 = 80 → k' = 0)) ∨ (y = 1 ∧ n + 1 = 80 ∧ K t 0 = nI 80 ∧ ∃ kk pl, (1 ≤ kk ∧ kk ≤ 5) ∧ K 7 3 = nI kk ∧ K 7 4 = nI pl ∧ pl ≤ 1700 ∧ J' 100 8 = nI 6 ∧ J' 100 9 = nI pl) ∨ (y = 0 ∧ ∃ f pl, K 7 7 = nI f ∧ K 7 8 = nI pl ∧ J' 100 8 = nI f ∧ J' 100 9 = nI pl ∧ okF f pl))
section
variable {tp : Nat → Nat} {sz fu t b nh no nl cj k at' e n : Nat} {I J : HI} {M : HL} {R : HR}
theorem adv_k (h : StR tp sz I J M k at' e) (hf : 2000 < fu) : ∃ K, f_X10_advance fu I = some (1, K) ∧ K 7 4 = nI (rn (fun k => byB (tp k)) sz e) ∧ ((sz ≤ rn (fun k => byB (tp k)) sz e ∧ K 7 3 = nI 0) ∨ (rn (fun k => byB (tp k)) sz e < sz ∧ ∃ kk, (1 ≤ kk ∧ kk ≤ 5) ∧ K 7 3 = nI kk)) := by
  have h5 := h.k5
  obtain ⟨a, ⟨⟨b1, b2, b3, b4⟩, ⟨b5, b6, b7⟩, b8, b9⟩, c, d⟩ := h
  obtain ⟨K, q1, q2, q3, q4⟩ := advance_C (tp := tp) (sz := sz) (fu := fu) (I := I) (k0 := k) (e := e) d hf (fun k hk => ⟨(a k hk).1, (a k hk).2.1⟩) b1.1 b2.1 b4 h5 b6 rfl
  refine ⟨K, q1, q3, ?_⟩
  rcases q4 with ⟨w1, w2, _⟩ | ⟨w1, _, _, w2, _⟩ | ⟨w1, _, _, w2⟩ | ⟨w1, _, _, w2⟩
  · exact Or.inl ⟨w1, w2⟩
  · exact Or.inr ⟨w1, 4, by decide, w2⟩
  · refine Or.inr ⟨w1, ?_⟩
    rcases w2 with ⟨_, w3, _⟩ | ⟨_, w3⟩
    · exact ⟨5, by decide, w3⟩
    · rcases w3 with ⟨w, _, w4, _⟩ | ⟨_, w4⟩
      · exact ⟨2, by decide, w4⟩
      · rcases w4 with ⟨_, w5, _⟩ | ⟨_, w5, _⟩
        · exact ⟨5, by decide, w5⟩
        · exact ⟨1, by decide, w5⟩
  · refine Or.inr ⟨w1, ?_⟩
    rcases w2 with ⟨_, w3, _⟩ | ⟨_, w3⟩
    · exact ⟨5, by decide, w3⟩
    · rcases w3 with ⟨_, w5, _⟩ | ⟨_, w5, _⟩
      · exact ⟨5, by decide, w5⟩
      · exact ⟨3, by decide, w5⟩
theorem fin_F {f : Nat} {x : Int32} (hf : 1 ≤ f ∧ f ≤ 6) (h8 : J 100 8 = nI f) : f_X12_finishes fu J M x = some (J, M) := by
  have z : ¬ nI f ≤ 0 := nI_ge (b := f) (a := 0) (by omega) (by omega)
  unfold f_X12_finishes
  simp only [lexF hf h8, Option.bind_some, h8, if_neg z]
theorem mustS_0 {J' : HI} (l2 : f_X12_lex J = some J) (hs : f_X12_isSign J 59 = some 0) (hb : f_X12_blame J 1 (J 100 4) = some J') (z : ¬ J' 100 8 = 0) : f_X12_must fu J M 59 = some (J', M) := by
  unfold f_X12_must
  simp only [l2, Option.bind_some, hs, jnt, if_true, hb, if_neg z]
theorem mustS_1 {J' : HI} {M' : HL} (l2 : f_X12_lex J = some J) (hs : f_X12_isSign J 59 = some 1) (h8 : J 100 8 = 0) (ha : f_X12_ahead fu J M = some (J', M')) : f_X12_must fu J M 59 = some (J', M') := by
  have n3 : ¬ (1 : Int32) = 0 := by decide
  unfold f_X12_must
  simp only [l2, Option.bind_some, hs, jnt, if_neg n3, h8, if_true, ha]
theorem mustS_x (l2 : f_X12_lex J = some J) (hs : f_X12_isSign J 59 = some 1) (z : ¬ J 100 8 = 0) : f_X12_must fu J M 59 = some (J, M) := by
  have n3 : ¬ (1 : Int32) = 0 := by decide
  unfold f_X12_must
  simp only [l2, Option.bind_some, hs, jnt, if_neg n3, if_neg z]
theorem tail_0 {K K' : HI} {y : Int32} (hy : ¬ y = 0) (hs : f_X10_isSign K 59 = some 0) (hb : f_X10_failForm K = some (0, K')) : tailC fu y K R = some (0, K', R) := by
  unfold tailC f_X10_needSign
  simp only [if_neg hy, hs, Option.bind_some, jnt, if_true, hb, gz_0]
theorem tail_1 {K K' : HI} {y : Int32} (hy : ¬ y = 0) (hs : f_X10_isSign K 59 = some 1) (hR : R 6 2 = t) (ho : okLd t = true) (h0 : K t 0 = nI n) (ha : f_X10_advance fu (sI K t 0 (nI (n + 1))) = some (1, K')) : tailC fu y K R = some (1, K', R) := by
  have n3 : ¬ (1 : Int32) = 0 := by decide
  have A1 : nI n + 1 = nI (n + 1) := nI_1 n
  unfold tailC f_X10_needSign
  simp only [if_neg hy, hs, Option.bind_some, jnt, if_neg n3, gz_1, hR, zg_ok ho, h0, A1, bnd, ha]
end
