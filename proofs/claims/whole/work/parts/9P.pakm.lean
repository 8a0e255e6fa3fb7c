/-! pack: sets of lakes over hollows -/
/-- the members of a set that go to one place -/
def ptA (a : Nat → Nat) (s h : Nat) : Nat := btN (fun k => s.testBit k && decide (a k = h)) 8
theorem ptA_bit {a : Nat → Nat} {s h k : Nat} (hs : s < 256) : (ptA a s h).testBit k = true ↔ s.testBit k = true ∧ a k = h := by
  unfold ptA
  rw [btN_bit, Bool.and_eq_true, Bool.and_eq_true, decide_eq_true_iff, decide_eq_true_iff]
  constructor
  · rintro ⟨_, h1, h2⟩
    exact ⟨h1, h2⟩
  · rintro ⟨h1, h2⟩
    exact ⟨sb_lt (c := 8) hs h1, h1, h2⟩
theorem ptA_sb {a : Nat → Nat} {s h : Nat} (hs : s < 256) : sb (ptA a s h) s := fun k hk => ((ptA_bit hs).mp hk).1
theorem xor_bit {s p k : Nat} (h : sb p s) : (s ^^^ p).testBit k = true ↔ s.testBit k = true ∧ ¬ p.testBit k = true := by
  rw [Nat.testBit_xor]
  cases hp : p.testBit k
  · cases hs : s.testBit k <;> simp
  · rw [h k hp]
    simp
theorem eq_of_bits {x y : Nat} (h : ∀ k, x.testBit k = true ↔ y.testBit k = true) : x = y := by
  apply Nat.eq_of_testBit_eq
  intro k
  cases hx : x.testBit k
  · cases hy : y.testBit k
    · rfl
    · rw [(h k).mpr hy] at hx; cases hx
  · exact ((h k).mp hx).symm
/-- a set over a set of hollows, none too full -/
def AS (S : Nat → Nat) (r : Nat → Nat) (H s : Nat) : Prop := ∃ a : Nat → Nat, (∀ k, s.testBit k = true → H.testBit (a k) = true) ∧ ∀ h, H.testBit h = true → S (ptA a s h) ≤ r h
/-- none of them empty, hollow by hollow: the class's way -/
def PK (S : Nat → Nat) (r : Nat → Nat) : Nat → Nat → Nat → Prop
  | 0, H, s => H = 0 ∧ s = 0
  | h + 1, H, s => PK S r h H s ∨ ∃ H' p, H = H' + 2 ^ h ∧ 0 < p ∧ sb p s ∧ S p ≤ r h ∧ PK S r h H' (s ^^^ p)
theorem PK.lt {S r : Nat → Nat} : ∀ h H s, PK S r h H s → H < 2 ^ h := by
  intro h
  induction h with
  | zero =>
    intro H s hp
    rw [hp.1]
    decide
  | succ h ih =>
    intro H s hp
    rw [Nat.pow_succ]
    rcases hp with q | ⟨H', p, e, _, _, _, q⟩
    · have := ih H s q
      omega
    · have := ih H' _ q
      omega
theorem AS_add {S r : Nat → Nat} {H s p b : Nat} (hs : s < 256) (hb : ¬ H.testBit b = true) (hp : sb p s) (hr : S p ≤ r b) (h : AS S r H (s ^^^ p)) {H2 : Nat} (hH2 : ∀ k, H2.testBit k = true ↔ H.testBit k = true ∨ k = b) : AS S r H2 s := by
  obtain ⟨a, a1, a2⟩ := h
  have hx256 : s ^^^ p < 256 := Nat.lt_of_le_of_lt (sb_le (sb_xor hp)) hs
  refine ⟨fun k => if p.testBit k = true then b else a k, fun k hk => ?_, fun h hh => ?_⟩
  · show H2.testBit (if p.testBit k = true then b else a k) = true
    by_cases c : p.testBit k = true
    · rw [if_pos c]
      exact (hH2 b).mpr (Or.inr rfl)
    · rw [if_neg c]
      exact (hH2 _).mpr (Or.inl (a1 k ((xor_bit hp).mpr ⟨hk, c⟩)))
  · by_cases c : h = b
    · subst c
      have e : ptA (fun k => if p.testBit k = true then h else a k) s h = p := eq_of_bits (fun k => by
        rw [ptA_bit hs]
        constructor
        · rintro ⟨k1, k2⟩
          by_cases d : p.testBit k = true
          · exact d
          · rw [if_neg d] at k2
            exact absurd (a1 k ((xor_bit hp).mpr ⟨k1, d⟩)) (by rw [k2]; exact hb)
        · intro k1
          exact ⟨hp k k1, if_pos k1⟩)
      rw [e]
      exact hr
    · have e : ptA (fun k => if p.testBit k = true then b else a k) s h = ptA a (s ^^^ p) h := eq_of_bits (fun k => by
        rw [ptA_bit hs, ptA_bit hx256, xor_bit hp]
        constructor
        · rintro ⟨k1, k2⟩
          by_cases d : p.testBit k = true
          · rw [if_pos d] at k2
            exact absurd k2.symm c
          · rw [if_neg d] at k2
            exact ⟨⟨k1, d⟩, k2⟩
        · rintro ⟨⟨k1, d⟩, k2⟩
          exact ⟨k1, by rw [if_neg d]; exact k2⟩)
      rw [e]
      exact a2 h (((hH2 h).mp hh).resolve_right c)
theorem AS_del {S r : Nat → Nat} {H s b : Nat} (hs : s < 256) (h : AS S r H s) (hb : H.testBit b = true) {H2 : Nat} (hH2 : ∀ k, H2.testBit k = true ↔ H.testBit k = true ∧ k ≠ b) : ∃ p, sb p s ∧ S p ≤ r b ∧ AS S r H2 (s ^^^ p) := by
  obtain ⟨a, a1, a2⟩ := h
  have hp := ptA_sb (a := a) (h := b) hs
  have hx256 : s ^^^ ptA a s b < 256 := Nat.lt_of_le_of_lt (sb_le (sb_xor hp)) hs
  refine ⟨ptA a s b, hp, a2 b hb, a, fun k hk => ?_, fun h hh => ?_⟩
  · obtain ⟨k1, k2⟩ := (xor_bit hp).mp hk
    refine (hH2 _).mpr ⟨a1 k k1, fun q => k2 ((ptA_bit hs).mpr ⟨k1, q⟩)⟩
  · obtain ⟨h1, h2⟩ := (hH2 h).mp hh
    have e : ptA a (s ^^^ ptA a s b) h = ptA a s h := eq_of_bits (fun k => by
      rw [ptA_bit hx256, ptA_bit hs, xor_bit hp]
      constructor
      · rintro ⟨⟨k1, _⟩, k2⟩
        exact ⟨k1, k2⟩
      · rintro ⟨k1, k2⟩
        refine ⟨⟨k1, fun q => ?_⟩, k2⟩
        have := ((ptA_bit hs).mp q).2
        rw [k2] at this
        exact h2 this)
    rw [e]
    exact a2 h h1
theorem PK.as {S r : Nat → Nat} : ∀ h H s, s < 256 → PK S r h H s → AS S r H s := by
  intro h
  induction h with
  | zero =>
    intro H s _ hp
    obtain ⟨e1, e2⟩ := hp
    subst e1 e2
    have e0 : ∀ k, ¬ (0 : Nat).testBit k = true := fun k hk => by rw [Nat.zero_testBit] at hk; cases hk
    exact ⟨fun _ => 0, ⟨fun k hk => absurd hk (e0 k), fun h hh => absurd hh (e0 h)⟩⟩
  | succ h ih =>
    intro H s hs hp
    rcases hp with q | ⟨H', p, e, p0, p1, p2, q⟩
    · exact ih H s hs q
    · have hlt := PK.lt h H' _ q
      have hx256 : s ^^^ p < 256 := Nat.lt_of_le_of_lt (sb_le (sb_xor p1)) hs
      refine AS_add (b := h) hs (fun w => ?_) p1 p2 (ih H' _ hx256 q) (fun k => ?_)
      · have := Nat.ge_two_pow_of_testBit w
        omega
      · rw [e, add_bit hlt, Bool.or_eq_true, decide_eq_true_iff]
        constructor
        · rintro (w | w)
          · exact Or.inl w
          · exact Or.inr w.symm
        · rintro (w | w)
          · exact Or.inl w
          · exact Or.inr w.symm
theorem AS.pk {S r : Nat → Nat} : ∀ h H s, s < 256 → H < 2 ^ h → AS S r H s → ∃ H', sb H' H ∧ PK S r h H' s := by
  intro h
  induction h with
  | zero =>
    intro H s _ hH ha
    rw [Nat.pow_zero] at hH
    have e : H = 0 := by omega
    subst e
    refine ⟨0, sb_refl, rfl, ?_⟩
    obtain ⟨a, a1, _⟩ := ha
    refine eq_of_bits (fun k => ⟨fun hk => ?_, fun hk => by rw [Nat.zero_testBit] at hk; cases hk⟩)
    have := a1 k hk
    rw [Nat.zero_testBit] at this
    cases this
  | succ h ih =>
    intro H s hs hH ha
    by_cases c : H.testBit h = true
    · obtain ⟨H1, g1, g2⟩ := (bit_hi hH).1 c
      have hH1 : ∀ k, H1.testBit k = true ↔ H.testBit k = true ∧ k ≠ h := fun k => by
        rw [g2, add_bit g1, Bool.or_eq_true, decide_eq_true_iff]
        constructor
        · intro w
          refine ⟨Or.inl w, fun q => ?_⟩
          subst q
          have := Nat.ge_two_pow_of_testBit w
          omega
        · rintro ⟨w | w, q⟩
          · exact w
          · exact absurd w.symm q
      obtain ⟨p, p1, p2, p3⟩ := AS_del hs ha c hH1
      have hx256 : s ^^^ p < 256 := Nat.lt_of_le_of_lt (sb_le (sb_xor p1)) hs
      obtain ⟨H', k1, k2⟩ := ih H1 (s ^^^ p) hx256 g1 p3
      rcases Nat.eq_zero_or_pos p with e | e
      · subst e
        rw [Nat.xor_zero] at k2
        exact ⟨H', fun k hk => ((hH1 k).mp (k1 k hk)).1, Or.inl k2⟩
      · have hlt := PK.lt h H' _ k2
        refine ⟨H' + 2 ^ h, fun k hk => ?_, Or.inr ⟨H', p, rfl, e, p1, p2, k2⟩⟩
        rw [add_bit hlt, Bool.or_eq_true, decide_eq_true_iff] at hk
        rcases hk with w | w
        · exact ((hH1 k).mp (k1 k w)).1
        · rw [← w]; exact c
    · obtain ⟨H', k1, k2⟩ := ih H s hs ((bit_hi hH).2 c) ha
      exact ⟨H', k1, Or.inl k2⟩
/-- what a set of hollows costs -/
def cst (H : Nat) : Nat := 256 * pc H + H
theorem cst_add {H h : Nat} (hh : h < 8) (hH : H < 2 ^ h) : cst (H + 2 ^ h) = cst H + (256 + 2 ^ h) := by
  unfold cst
  rw [pc_add h hh H hH]
  omega
theorem pc_sb {x y : Nat} (h : sb x y) : pc x ≤ pc y := by
  unfold pc
  have : ∀ n, cnt (fun k => x.testBit k) n ≤ cnt (fun k => y.testBit k) n := by
    intro n
    induction n with
    | zero => exact Nat.le_refl _
    | succ n ih =>
      show cnt (fun k => x.testBit k) n + (if x.testBit n = true then 1 else 0) ≤ cnt (fun k => y.testBit k) n + (if y.testBit n = true then 1 else 0)
      by_cases c : x.testBit n = true
      · rw [if_pos c, if_pos (h n c)]; omega
      · rw [if_neg c]; omega
  exact this 8
theorem cst_sb {x y : Nat} (h : sb x y) : cst x ≤ cst y := by
  have h1 := pc_sb h
  have h2 := sb_le h
  unfold cst
  have : 256 * pc x ≤ 256 * pc y := Nat.mul_le_mul_left _ h1
  omega
