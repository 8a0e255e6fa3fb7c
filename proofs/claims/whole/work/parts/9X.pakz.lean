theorem low_bits : ∀ H, H < 256 → ∀ l, l < 8 → H.testBit l = true → (∀ j, j < l → H.testBit j = false) → ∀ k, k < 8 → (H &&& (H - 1)).testBit k = (H.testBit k && decide (k ≠ l)) := by decide +kernel
/-- a row of the reference's table says what its sets can hold -/
theorem row_as {T : Nat → Int32} {F r : Nat → Nat} {his H l L : Nat} (hF0 : F 0 = 0) (hH : H < 256) (hL : L < 256) (hs : sb L his) (hl : 0 < H → l < 8 ∧ H.testBit l = true ∧ ∀ j, j < l → ¬ H.testBit j = true) (hT : 0 < H → ∀ x, x < 256 → sb x his → (¬ T (256 * (H &&& (H - 1)) + x) = 0 ↔ AS F r (H &&& (H - 1)) x)) : rowV T F his H (r l) L ↔ AS F r H L := by
  have e0 : ∀ k, ¬ (0 : Nat).testBit k = true := fun k hk => by rw [Nat.zero_testBit] at hk; cases hk
  rcases Nat.eq_zero_or_pos H with h0 | h0
  · subst h0
    constructor
    · rintro (w | ⟨w, _⟩)
      · subst w
        exact ⟨fun _ => 0, ⟨fun k hk => absurd hk (e0 k), fun h hh => absurd hh (e0 h)⟩⟩
      · exact absurd w (by decide)
    · rintro ⟨a, a1, _⟩
      left
      exact eq_of_bits (fun k => ⟨fun hk => absurd (a1 k hk) (e0 _), fun hk => absurd hk (e0 k)⟩)
  · obtain ⟨l1, l2, l3⟩ := hl h0
    have hb : ∀ k, (H &&& (H - 1)).testBit k = true ↔ H.testBit k = true ∧ k ≠ l := fun k => by
      by_cases ck : k < 8
      · rw [low_bits H hH l l1 l2 (fun j hj => by
          cases w : H.testBit j
          · rfl
          · exact absurd w (l3 j hj)) k ck, Bool.and_eq_true, decide_eq_true_iff]
      · constructor
        · intro w
          rw [Nat.testBit_and, Bool.and_eq_true] at w
          exact absurd (sb_lt (c := 8) hH w.1) ck
        · intro w
          exact absurd (sb_lt (c := 8) hH w.1) ck
    constructor
    · rintro (w | ⟨_, _, q, q1, q2, q3⟩)
      · subst w
        refine ⟨fun _ => 0, ⟨fun k hk => absurd hk (e0 k), fun h hh => ?_⟩⟩
        have : ptA (fun _ => 0) 0 h = 0 := eq_of_bits (fun k => ⟨fun hk => absurd ((ptA_bit (by decide)).mp hk).1 (e0 k), fun hk => absurd hk (e0 k)⟩)
        rw [this, hF0]
        exact Nat.zero_le _
      · have hx := sb_xor q1
        have ha := (hT h0 (L ^^^ q) (Nat.lt_of_le_of_lt (sb_le hx) hL) (sb_trans hx hs)).mp q3
        exact AS_add (b := l) hL (fun w => ((hb l).mp w).2 rfl) q1 q2 ha (fun k => by
          rw [hb]
          constructor
          · intro w
            by_cases c : k = l
            · exact Or.inr c
            · exact Or.inl ⟨w, c⟩
          · rintro (w | w)
            · exact w.1
            · rw [w]; exact l2)
    · intro ha
      obtain ⟨q, q1, q2, q3⟩ := AS_del hL ha l2 hb
      have hx := sb_xor q1
      exact Or.inr ⟨h0, hs, q, q1, q2, (hT h0 (L ^^^ q) (Nat.lt_of_le_of_lt (sb_le hx) hL) (sb_trans hx hs)).mpr q3⟩
