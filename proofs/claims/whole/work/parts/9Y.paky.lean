/-- over lakes, over members: the same -/
theorem pt_ex {m a a' : Nat → Nat} {c s h : Nat} (hi : inc m c) (hs : s < 256) (hx : exM m s c < 256) (ha : ∀ k, k < c → a (m k) = a' k) : exM m (ptA a' s h) c = ptA a (exM m s c) h := by
  refine eq_of_bits (fun l => ?_)
  rw [exM_bit c hi, ptA_bit hx, exM_bit c hi]
  constructor
  · rintro ⟨k, k1, k2, k3⟩
    obtain ⟨q1, q2⟩ := (ptA_bit hs).mp k3
    exact ⟨⟨k, k1, k2, q1⟩, by rw [← k2, ha k k1]; exact q2⟩
  · rintro ⟨⟨k, k1, k2, k3⟩, q⟩
    exact ⟨k, k1, k2, (ptA_bit hs).mpr ⟨k3, by rw [← ha k k1, k2]; exact q⟩⟩
theorem as_ex {m F r : Nat → Nat} {c H s : Nat} (hi : inc m c) (hm : ∀ k, k < c → m k < 8) (hc : c ≤ 8) (hs : s < 2 ^ c) : AS F r H (exM m s c) ↔ AS (fun s => F (exM m s c)) r H s := by
  have hp8 : 2 ^ c ≤ 2 ^ 8 := Nat.pow_le_pow_right (by decide) hc
  have hx : exM m s c < 256 := exM_lt c 8 hi hm
  constructor
  · rintro ⟨a, a1, a2⟩
    refine ⟨fun k => a (m k), ⟨fun k hk => ?_, fun h hh => ?_⟩⟩
    · exact a1 _ ((ex_bit hi (sb_lt hs hk)).mpr hk)
    · show F (exM m (ptA (fun k => a (m k)) s h) c) ≤ r h
      rw [pt_ex (a := a) hi (by omega) hx (fun _ _ => rfl)]
      exact a2 h hh
  · rintro ⟨a', a1, a2⟩
    have hinj : ∀ j k, j < c → k < c → m j = m k → j = k := fun j k hj hk e => by
      rcases Nat.lt_trichotomy j k with q | q | q
      · have := hi j k q hk; omega
      · exact q
      · have := hi k j q hj; omega
    obtain ⟨a, ha⟩ : ∃ a : Nat → Nat, ∀ k, k < c → a (m k) = a' k := by
      have key : ∀ l, ∃ y, ∀ k, k < c → m k = l → y = a' k := fun l => by
        by_cases w : ∃ k, k < c ∧ m k = l
        · obtain ⟨k, k1, k2⟩ := w
          exact ⟨a' k, fun j j1 j2 => by rw [hinj j k j1 k1 (j2.trans k2.symm)]⟩
        · exact ⟨0, fun k k1 k2 => absurd ⟨k, k1, k2⟩ w⟩
      exact ⟨fun l => Classical.choose (key l), fun k hk => Classical.choose_spec (key (m k)) k hk rfl⟩
    refine ⟨a, ⟨fun l hl => ?_, fun h hh => ?_⟩⟩
    · obtain ⟨k, k1, k2, k3⟩ := (exM_bit c hi).mp hl
      rw [← k2, ha k k1]
      exact a1 k k3
    · rw [← pt_ex (a := a) (a' := a') hi (by omega) hx ha]
      exact a2 h hh
