/-! the room that is left when a lake is told -/
section
variable {fu t b nh nl : Nat} {I J : HI}
def LKr (I J : HI) (t b nh nl : Nat) : Prop := (I t 1 = nI nh ∧ J 102 b = nI nh ∧ nh ≤ 8) ∧ (I t 3 = nI nl ∧ J 106 b = nI nl ∧ nl ≤ 8) ∧ (J 100 33 = nI b ∧ b < 2) ∧ (∀ i, i < nh → I (t + 4) i = J 103 (8 * b + i)) ∧ ∀ j, j < nl → I (t + 6) j = J 107 (8 * b + j) ∧ I (t + 7) j = J 108 (8 * b + j)
theorem room_L (h : LKr I J t b nh nl) {g : Int32} : ∀ m j, j + m = nl → ∀ (u : Int32) (n n' : Nat), m < n → m < n' → ∃ v, f_X2_roomAtFirst_L9 n I t g u (nI j) = some v ∧ f_X12_without_L36 n' J g u (nI j) = some v := by
  obtain ⟨_, ⟨h1, h2, h3⟩, ⟨h4, h5⟩, _, h7⟩ := h
  have l106 : ∀ k : Int32 → Option Int32, ldI (J 106) 2 (nI b) k = k (nI nl) := fun k => by rw [ldI_ok (by omega), h2]
  intro m
  induction m with
  | zero =>
    intro j hj u n n' hn hn'
    obtain ⟨n, rfl⟩ : ∃ z, n = z + 1 := ⟨n - 1, by omega⟩
    obtain ⟨n', rfl⟩ : ∃ z, n' = z + 1 := ⟨n' - 1, by omega⟩
    have z : nI nl ≤ nI j := by rw [show j = nl by omega]; exact Int32.le_refl _
    exact ⟨u, by simp only [f_X2_roomAtFirst_L9, h1, if_pos z], by simp only [f_X12_without_L36, h4, l106, if_pos z]⟩
  | succ m ih =>
    intro j hj u n n' hn hn'
    obtain ⟨n, rfl⟩ : ∃ z, n = z + 1 := ⟨n - 1, by omega⟩
    obtain ⟨n', rfl⟩ : ∃ z, n' = z + 1 := ⟨n' - 1, by omega⟩
    have z : ¬ nI nl ≤ nI j := nI_ge (by omega) (by omega)
    obtain ⟨e1, e2⟩ := h7 j (by omega)
    have a1 : 8 * nI b + nI j = nI (8 * b + j) := by rw [zq8, pk_mul, nI_add]
    have c6 : ∀ k : Int32 → Option Int32, ldI (I (t + 6)) 8 (nI j) k = k (J 107 (8 * b + j)) := fun k => by rw [ldI_ok (by omega), e1]
    have c7 : ∀ k : Int32 → Option Int32, ldI (I (t + 7)) 8 (nI j) k = k (J 108 (8 * b + j)) := fun k => by rw [ldI_ok (by omega), e2]
    have r7 : ∀ k : Int32 → Option Int32, ldI (J 107) 16 (nI (8 * b + j)) k = k (J 107 (8 * b + j)) := fun k => by rw [ldI_ok (by omega)]
    have r8 : ∀ k : Int32 → Option Int32, ldI (J 108) 16 (nI (8 * b + j)) k = k (J 108 (8 * b + j)) := fun k => by rw [ldI_ok (by omega)]
    have A1 : nI j + 1 = nI (j + 1) := nI_1 j
    by_cases c : J 108 (8 * b + j) = g
    · obtain ⟨v, v1, v2⟩ := ih (j + 1) (by omega) (u - J 107 (8 * b + j)) n n' (by omega) (by omega)
      exact ⟨v, by simp only [f_X2_roomAtFirst_L9, h1, if_neg z, c7, jnt, if_pos c, c6, bnd, A1]; exact v1, by simp only [f_X12_without_L36, h4, l106, if_neg z, a1, r8, jnt, if_pos c, r7, bnd, A1]; exact v2⟩
    · obtain ⟨v, v1, v2⟩ := ih (j + 1) (by omega) u n n' (by omega) (by omega)
      have z0 : u - 0 = u := by simp
      exact ⟨v, by simp only [f_X2_roomAtFirst_L9, h1, if_neg z, c7, jnt, if_neg c, A1]; exact v1, by simp only [f_X12_without_L36, h4, l106, if_neg z, a1, r8, jnt, if_neg c, bnd, A1, z0]; exact v2⟩
/-- the hollows that are too small, as the reference keeps them -/
theorem wo_R (h : LKr I J t b nh nl) (hf : 100 < fu) (sz : Int32) : ∃ B, B < 2 ^ 8 ∧ f_X12_without fu J sz = some (nI B) ∧ ∀ i, i < nh → ∃ v, f_X2_roomAtFirst fu I t (nI i) = some v ∧ B.testBit i = decide (¬ sz ≤ v) := by
  obtain ⟨⟨g1, g2, g3⟩, _, ⟨h4, h5⟩, h6, _⟩ := id h
  have l102 : ∀ k : Int32 → Option Int32, ldI (J 102) 2 (nI b) k = k (nI nh) := fun k => by rw [ldI_ok (by omega), g2]
  have rooms : ∀ i, i < nh → ∃ v, f_X2_roomAtFirst fu I t (nI i) = some v ∧ f_X12_without_L36 fu J (nI i) (J 103 (8 * b + i)) 0 = some v := fun i hi => by
    obtain ⟨v, v1, v2⟩ := room_L h (g := nI i) nl 0 (by omega) (J 103 (8 * b + i)) fu fu (by have := h.2.1.2.2; omega) (by have := h.2.1.2.2; omega)
    have v1' : f_X2_roomAtFirst_L9 fu I t (nI i) (J 103 (8 * b + i)) 0 = some v := v1
    refine ⟨v, ?_, v2⟩
    unfold f_X2_roomAtFirst
    rw [ldI_ok (by omega), h6 i hi, v1', Option.bind_some]
  have loop : ∀ m i, i + m = nh → ∀ (B n : Nat), m < n → B < 2 ^ i → (∀ q, q < i → ∃ v, f_X2_roomAtFirst fu I t (nI q) = some v ∧ B.testBit q = decide (¬ sz ≤ v)) → ∃ B', B' < 2 ^ nh ∧ f_X12_without_L4 fu n J sz (nI B) (nI i) = some (nI B') ∧ ∀ q, q < nh → ∃ v, f_X2_roomAtFirst fu I t (nI q) = some v ∧ B'.testBit q = decide (¬ sz ≤ v) := by
    intro m
    induction m with
    | zero =>
      intro i hi B n hn hB hq
      obtain ⟨n, rfl⟩ : ∃ z, n = z + 1 := ⟨n - 1, by omega⟩
      have e : i = nh := by omega
      subst e
      have z : nI i ≤ nI i := Int32.le_refl _
      exact ⟨B, hB, by simp only [f_X12_without_L4, h4, l102, if_pos z], hq⟩
    | succ m ih =>
      intro i hi B n hn hB hq
      obtain ⟨n, rfl⟩ : ∃ z, n = z + 1 := ⟨n - 1, by omega⟩
      have z : ¬ nI nh ≤ nI i := nI_ge (by omega) (by omega)
      obtain ⟨v, v1, v2⟩ := rooms i (by omega)
      have a1 : 8 * nI b + nI i = nI (8 * b + i) := by rw [zq8, pk_mul, nI_add]
      have r3 : ∀ k : Int32 → Option Int32, ldI (J 103) 16 (nI (8 * b + i)) k = k (J 103 (8 * b + i)) := fun k => by rw [ldI_ok (by omega)]
      have A1 : nI i + 1 = nI (i + 1) := nI_1 i
      have two : 2 ^ (i + 1) = 2 ^ i + 2 ^ i := by rw [Nat.pow_succ]; omega
      have shl : (1 : Int32) <<< (nI i &&& 31) = nI (2 ^ i) := by
        have key : ∀ i, i < 8 → (1 : Int32) <<< (nI i &&& 31) = nI (2 ^ i) := by decide
        exact key i (by omega)
      have or0 : nI B ||| 0 = nI B := by
        have := or_ok B 0
        rw [Nat.or_zero] at this
        exact this
      by_cases c : sz ≤ v
      · obtain ⟨B', b1, b2, b3⟩ := ih (i + 1) (by omega) B n (by omega) (by omega) (fun q hq' => by
          by_cases e : q = i
          · rw [e]
            exact ⟨v, v1, by rw [Nat.testBit_lt_two_pow hB]; simp [c]⟩
          · exact hq q (by omega))
        refine ⟨B', b1, ?_, b3⟩
        simp only [f_X12_without_L4, h4, l102, if_neg z, a1, r3, v2, Option.bind_some, jnt, if_pos c, bnd, or0, A1]
        exact b2
      · obtain ⟨B', b1, b2, b3⟩ := ih (i + 1) (by omega) (B ||| 2 ^ i) n (by omega) (by rw [or_bit hB]; omega) (fun q hq' => by
          by_cases e : q = i
          · rw [e]
            refine ⟨v, v1, ?_⟩
            rw [Nat.testBit_or, Nat.testBit_two_pow_self]
            simp [c]
          · obtain ⟨w, w1, w2⟩ := hq q (by omega)
            refine ⟨w, w1, ?_⟩
            rw [Nat.testBit_or, w2, Nat.testBit_two_pow_of_ne (by omega), Bool.or_false])
        refine ⟨B', b1, ?_, b3⟩
        simp only [f_X12_without_L4, h4, l102, if_neg z, a1, r3, v2, Option.bind_some, jnt, if_neg c, bnd, shl, or_ok, A1]
        exact b2
  obtain ⟨B, b1, b2, b3⟩ := loop nh 0 (by omega) 0 fu (by omega) (by decide) (fun q hq => absurd hq (Nat.not_lt_zero _))
  refine ⟨B, Nat.lt_of_lt_of_le b1 (Nat.pow_le_pow_right (by decide) g3), ?_, b3⟩
  have b2' : f_X12_without_L4 fu fu J sz 0 0 = some (nI B) := b2
  unfold f_X12_without
  rw [b2', Option.bind_some]
end
