/-- what one more hollow makes of a set's cost -/
def NB (S : Nat → Nat) (rm cost : Nat) (b : Nat → Nat) (x u : Nat) : Prop := x ≤ b u ∧ (∀ q, 0 < q → sb q u → S q ≤ rm → x ≤ b (u ^^^ q) + cost) ∧ (x = b u ∨ ∃ q, 0 < q ∧ sb q u ∧ S q ≤ rm ∧ x = b (u ^^^ q) + cost)
theorem into_C {I : HI} {fu cost rm c : Nat} {b : Nat → Nat} {S : Nat → Nat} (hf : 1600 < fu) (hc : c ≤ 8) (hcost : cost ≤ 1000) (hrm : rm ≤ 9999) (hS : ∀ s, s < 2 ^ c → I 37 s = nI (S s) ∧ S s ≤ 9999) (hb : ∀ s, s < 256 → b s ≤ 1048576) :
    ∀ (u n : Nat) (K : HI) (nb : Nat → Nat), u < 2 ^ c → u < n → (∀ y, y ≠ 38 → K y = I y) → (∀ s, s < 256 → K 38 s = nI (if u < s then nb s else b s)) → (∀ s, s < 256 → nb s ≤ 1048576) → (∀ s, u < s → s < 2 ^ c → NB S rm cost b (nb s) s) →
    ∃ (K' : HI) (nb' : Nat → Nat), f_X0_packInto_L3 fu n K (nI cost) (nI rm) (nI u) = some K' ∧ (∀ y, y ≠ 38 → K' y = I y) ∧ (∀ s, s < 256 → K' 38 s = nI (nb' s)) ∧ (∀ s, s < 256 → nb' s ≤ 1048576) ∧ (∀ s, 0 < s → s < 2 ^ c → NB S rm cost b (nb' s) s) ∧ nb' 0 = b 0 := by
  have hp8 : 2 ^ c ≤ 2 ^ 8 := Nat.pow_le_pow_right (by decide) hc
  intro u
  induction u with
  | zero =>
    intro n K nb hu hn k1 k2 k3 k4
    obtain ⟨n, rfl⟩ : ∃ z, n = z + 1 := ⟨n - 1, by omega⟩
    have c1 : nI 0 ≤ 0 := by decide
    refine ⟨K, fun s => if 0 < s then nb s else b s, ?_, k1, k2, fun s hs => ?_, fun s s1 s2 => ?_, if_neg (Nat.lt_irrefl 0)⟩
    · simp only [f_X0_packInto_L3, if_pos c1]
    · show (if 0 < s then nb s else b s) ≤ 1048576
      split
      · exact k3 s hs
      · exact hb s hs
    · show NB S rm cost b (if 0 < s then nb s else b s) s
      rw [if_pos s1]
      exact k4 s s1 s2
  | succ u ih =>
    intro n K nb hu hn k1 k2 k3 k4
    obtain ⟨n, rfl⟩ : ∃ z, n = z + 1 := ⟨n - 1, by omega⟩
    have c1 : ¬ nI (u + 1) ≤ 0 := nI_nle (by omega) (by omega)
    have A1 : nI (u + 1) + (-1) = nI u := pk_m1 u
    obtain ⟨K', x', a1, a2, a3, a4, a5, a6, a7, a8⟩ := inside_C (I := I) (fu := fu) (cost := cost) (rm := rm) (u := u + 1) (b := fun s => if u + 1 < s then nb s else b s) (S := S) ⟨by omega, by omega⟩ hcost hrm (fun s hs hsb => hS s (by have := sb_le hsb; omega)) (fun s hs => by
      show (if u + 1 < s then nb s else b s) ≤ 1048576
      split
      · exact k3 s hs
      · exact hb s hs) (u + 1) fu K (b (u + 1)) sb_refl (by omega) k1 (fun s hs hsu => k2 s hs) (by rw [k2 (u + 1) (by omega), if_neg (by omega)]) (hb _ (by omega)) (fun q q1 q2 => absurd (sb_le q2) (by omega)) (Or.inl (if_neg (by omega)).symm) (Nat.le_of_eq (if_neg (by omega)).symm)
    have ex : ∀ q, 0 < q → sb q (u + 1) → (if u + 1 < (u + 1) ^^^ q then nb ((u + 1) ^^^ q) else b ((u + 1) ^^^ q)) = b ((u + 1) ^^^ q) := fun q q0 q1 => by
      have := xor_lt q1 q0
      rw [if_neg (by omega)]
    have eu : (if u + 1 < u + 1 then nb (u + 1) else b (u + 1)) = b (u + 1) := if_neg (by omega)
    have hNB : NB S rm cost b x' (u + 1) := by
      refine ⟨?_, fun q q0 q1 q2 => ?_, ?_⟩
      · have := a8
        rw [eu] at this
        exact this
      · have := a6 q q0 q1 q2
        rw [ex q q0 q1] at this
        exact this
      · rcases a7 with w | ⟨q, q0, q1, q2, q3⟩
        · rw [eu] at w
          exact Or.inl w
        · rw [ex q q0 q1] at q3
          exact Or.inr ⟨q, q0, q1, q2, q3⟩
    obtain ⟨K2, nb2, b1, b2⟩ := ih n K' (fun s => if s = u + 1 then x' else nb s) (by omega) (by omega) a2 (fun s hs => by
      by_cases cs : s = u + 1
      · subst cs
        rw [a4, if_pos (by omega), if_pos rfl]
      · rw [a3 s hs cs]
        congr 1
        by_cases cu : u < s
        · rw [if_pos (by omega), if_pos cu, if_neg cs]
        · rw [if_neg (by omega), if_neg cu]) (fun s hs => by
      show (if s = u + 1 then x' else nb s) ≤ 1048576
      split
      · exact a5
      · exact k3 s hs) (fun s s1 s2 => by
      show NB S rm cost b (if s = u + 1 then x' else nb s) s
      by_cases cs : s = u + 1
      · subst cs
        rw [if_pos rfl]
        exact hNB
      · rw [if_neg cs]
        exact k4 s (by omega) s2)
    refine ⟨K2, nb2, ?_, b2⟩
    rw [← b1]
    simp only [f_X0_packInto_L3, if_neg c1, a1, Option.bind_some, A1]
theorem LeC_step {S r : Nat → Nat} {h c : Nat} {b nb : Nat → Nat} (hh : h < 8) (hc : c ≤ 8) (hb : ∀ s, s < 256 → b s ≤ 1048576) (hL : ∀ s, s < 2 ^ c → LeC (fun H => PK S r h H s) (b s)) (hN : ∀ s, 0 < s → s < 2 ^ c → NB S (r h) (256 + 2 ^ h) b (nb s) s) (h0 : nb 0 = b 0) : ∀ s, s < 2 ^ c → LeC (fun H => PK S r (h + 1) H s) (nb s) := by
  have hp8 : 2 ^ c ≤ 2 ^ 8 := Nat.pow_le_pow_right (by decide) hc
  intro s hs
  by_cases e : s = 0
  · subst e
    obtain ⟨l1, l2⟩ := hL 0 hs
    rw [h0]
    refine ⟨fun H hH => ?_, ?_⟩
    · rcases hH with q | ⟨H', p, _, p0, p1, _, _⟩
      · exact l1 H q
      · have := sb_le p1
        omega
    · rcases l2 with w | ⟨H, w1, w2⟩
      · exact Or.inl w
      · exact Or.inr ⟨H, Or.inl w1, w2⟩
  · obtain ⟨n1, n2, n3⟩ := hN s (by omega) hs
    obtain ⟨l1, l2⟩ := hL s hs
    refine ⟨fun H hH => ?_, ?_⟩
    · rcases hH with q | ⟨H', p, e1, p0, p1, p2, p3⟩
      · have := l1 H q
        omega
      · have h1 := n2 p p0 p1 p2
        have hlt := xor_lt p1 p0
        have h2 := (hL (s ^^^ p) (by omega)).1 H' p3
        rw [e1, cst_add hh (PK.lt h H' _ p3)]
        omega
    · rcases n3 with w | ⟨q, q0, q1, q2, q3⟩
      · rw [w]
        rcases l2 with w' | ⟨H, w1, w2⟩
        · exact Or.inl w'
        · exact Or.inr ⟨H, Or.inl w1, w2⟩
      · have hlt := xor_lt q1 q0
        rcases (hL (s ^^^ q) (by omega)).2 with w' | ⟨H, w1, w2⟩
        · have := hb s (by omega)
          have hpw : 0 < 2 ^ h := pow_pos'
          exfalso
          omega
        · refine Or.inr ⟨H + 2 ^ h, Or.inr ⟨H, q, rfl, q0, q1, q2, w1⟩, ?_⟩
          rw [cst_add hh (PK.lt h H _ w1), q3, w2]
