/-! nights, carts and debts told, over all that is told so far -/
section
variable {I K J J' : HI} {M M' : HL} {t b nh no nl cj : Nat}
theorem NMr_g (h : NMr I J M t b nh no nl) (h0 : ∀ s, s = 1 ∨ s = 2 ∨ s = 3 → K t s = I t s) (h1 : ∀ i, i < nh → K (t + 1) i = I (t + 1) i) (h2 : ∀ i, i < no → K (t + 2) i = I (t + 2) i) (h3 : ∀ i, i < nl → K (t + 3) i = I (t + 3) i) : NMr K J M t b nh no nl := by
  obtain ⟨⟨a1, a2, a3⟩, ⟨b1, b2, b3⟩, ⟨c1, c2, c3⟩, d1, d2, d3, d4, d5⟩ := h
  exact ⟨⟨(h0 1 (by decide)).trans a1, a2, a3⟩, ⟨(h0 2 (by decide)).trans b1, b2, b3⟩, ⟨(h0 3 (by decide)).trans c1, c2, c3⟩, fun i hi => by rw [h1 i hi]; exact d1 i hi, fun i hi => by rw [h2 i hi]; exact d2 i hi, fun i hi => by rw [h3 i hi]; exact d3 i hi, d4, d5⟩
theorem LKr_g (h : LKr I J t b nh nl) (h0 : ∀ s, s = 1 ∨ s = 3 → K t s = I t s) (h1 : ∀ i, i < nh → K (t + 4) i = I (t + 4) i) (h2 : ∀ i, i < nl → K (t + 6) i = I (t + 6) i ∧ K (t + 7) i = I (t + 7) i) : LKr K J t b nh nl := by
  obtain ⟨⟨a1, a2, a3⟩, ⟨b1, b2, b3⟩, ⟨c1, c2⟩, d1, d2⟩ := h
  exact ⟨⟨(h0 1 (by decide)).trans a1, a2, a3⟩, ⟨(h0 3 (by decide)).trans b1, b2, b3⟩, ⟨c1, c2⟩, fun i hi => by rw [h1 i hi]; exact d1 i hi, fun i hi => by rw [(h2 i hi).1, (h2 i hi).2]; exact d2 i hi⟩
theorem TOLD_g (h : TOLD I J M t b nh no nl cj) (h0 : ∀ s, s = 1 ∨ s = 2 ∨ s = 3 ∨ s = 16 → K t s = I t s) (hI : ∀ x, t + 1 ≤ x → x ≤ t + 12 → x ≠ t + 9 → K x = I x) (hJ : ∀ x, 102 ≤ x → x ≤ 116 → x ≠ 110 → x ≠ 111 → x ≠ 112 → J' x = J x) (h32 : J' 100 32 = J 100 32) (h33 : J' 100 33 = J 100 33) (hM : ∀ x, x = 117 ∨ x = 118 ∨ x = 119 → M' x = M x) (hd : DBr K J' t b no) (hn : NCr K J' t b) : TOLD K J' M' t b nh no nl cj := by
  obtain ⟨a1, a2, a3, a4, a5, _, _, a8⟩ := h
  have e : ∀ a, 1 ≤ a → a ≤ 12 → a ≠ 9 → K (t + a) = I (t + a) := fun a a1 a2 a3 => hI (t + a) (by omega) (by omega) (by omega)
  have f : ∀ x, 102 ≤ x → x ≤ 109 ∨ 113 ≤ x → x ≤ 116 → J' x = J x := fun x x1 x2 x3 => hJ x x1 x3 (by omega) (by omega) (by omega)
  refine ⟨NMr_w (NMr_g a1 (fun s hs => h0 s (by omega)) (fun i _ => by rw [e 1 (by decide) (by decide) (by decide)]) (fun i _ => by rw [e 2 (by decide) (by decide) (by decide)]) (fun i _ => by rw [e 3 (by decide) (by decide) (by decide)])) ⟨by rw [f 102 (by decide) (by decide) (by decide)], by rw [f 105 (by decide) (by decide) (by decide)], by rw [f 106 (by decide) (by decide) (by decide)], h33⟩ (fun i _ => by rw [hM 117 (by decide)]) (fun i _ => by rw [hM 118 (by decide)]) (fun i _ => by rw [hM 119 (by decide)]), LKr_w (LKr_g a2 (fun s hs => h0 s (by omega)) (fun i _ => by rw [e 4 (by decide) (by decide) (by decide)]) (fun i _ => ⟨by rw [e 6 (by decide) (by decide) (by decide)], by rw [e 7 (by decide) (by decide) (by decide)]⟩)) ⟨by rw [f 102 (by decide) (by decide) (by decide)], by rw [f 106 (by decide) (by decide) (by decide)], h33⟩ (fun i _ => by rw [f 103 (by decide) (by decide) (by decide)]) (fun i _ => ⟨by rw [f 107 (by decide) (by decide) (by decide)], by rw [f 108 (by decide) (by decide) (by decide)]⟩), HPr_c a3 (fun i _ => by rw [e 4 (by decide) (by decide) (by decide)]) (fun i _ => by rw [e 5 (by decide) (by decide) (by decide)]) (fun i _ => by rw [f 104 (by decide) (by decide) (by decide)]), LWr_c a4 (fun i _ => by rw [e 6 (by decide) (by decide) (by decide)]) (fun i _ => by rw [e 7 (by decide) (by decide) (by decide)]) (fun i _ => by rw [e 8 (by decide) (by decide) (by decide)]) (fun i _ => by rw [f 109 (by decide) (by decide) (by decide)]), RMr_c a5 (fun i _ => by rw [e 4 (by decide) (by decide) (by decide)]) (fun i _ => ⟨by rw [e 6 (by decide) (by decide) (by decide)], by rw [e 7 (by decide) (by decide) (by decide)]⟩), hd, hn, RUr_c a8 h32 (h0 16 (by decide)) (fun x hx => e x (by omega) (by omega) (by omega)) (fun x x1 x2 => f x (by omega) (by omega) x2)⟩
end
section
variable {tp : Nat → Nat} {sz fu t b nh no nl cj k at' e : Nat} {I J : HI} {M : HL} {R : HR}
theorem drought_S (h : StR tp sz I J M k at' e) (hk : k ≠ 0) (hT : TOLD I J M t b nh no nl cj) (hc : cj ≤ at') (hR : R 6 2 = t) (ho : okLd t = true) (ht : t = 67 ∨ t = 80) (hf : 2000 < fu) : ∃ y K J' M', f_X7_readDrought fu I R = some (y, K) ∧ f_X12_telling fu J M 0 = some (J', M') ∧ OutS tp sz t b e I J M y K J' M' := by
  have hae := h.2.1.2.1
  rcases drought_R h hk hR ho ht hf hT.1.2.2.2.2.2.2.1 hT.1.2.2.2.2.2.2.2 with ⟨K, J', M', k', at2, e', v, a1, a2, a3, a4, a5, a6, a7, a8, a9, a10, a11, a12, a13, a14⟩ | ⟨K, J', M', f, pl, a1, a2, a3, a4, a5, a6⟩
  · have n111 : J' 112 = J 112 := a12 112 (by decide) (by decide)
    have n110 : J' 110 = J 110 := a12 110 (by decide) (by decide)
    have k9 : K (t + 9) = I (t + 9) := a10 (t + 9) (by omega) (by omega) (by omega)
    refine ⟨1, K, J', M', a1, a2, ⟨fun x x1 x2 _ x4 => a10 x x1 x2 (by omega), ⟨fun x i x1 x2 => ?_, fun s hs => a14 s (by omega)⟩, a7.fr⟩, Or.inl ⟨rfl, ⟨a11 0 (by decide), a14 9 (by decide)⟩, k', at2, e', nh, no, nl, cj, a5, a6, by omega, TOLD_g hT (fun s hs => a11 s (by omega)) (fun x x1 x2 _ => a10 x (by omega) (by omega) (by omega)) (fun x x1 x2 x3 x4 x5 => a12 x (by omega) x4) (a14 32 (by decide)) (a14 33 (by decide)) (fun x hx => a7.1 x (by omega)) (DBr_c hT.2.2.2.2.2.1 (fun i _ => by rw [k9]) (fun a c _ _ => by rw [n110])) ?_⟩⟩
    · by_cases q : x = 111
      · subst q
        exact a13 i (fun w => x2 (by unfold inBk; omega))
      · rw [a12 x x1 q]
    · obtain ⟨_, _, q3, q4⟩ := hT.2.2.2.2.2.2.1
      exact ⟨⟨v, a4, a8⟩, by rw [a8]; exact a9, by rw [a11 5 (by decide)]; exact q3, by rw [a11 5 (by decide), n111]; exact q4⟩
  · exact ⟨0, K, J', M', a1, a2, ⟨a4.fr, a5.fr, a3.fr⟩, Or.inr (Or.inr ⟨rfl, f, pl, a4.2.1, a4.2.2, a5.2.1, a5.2.2.1, a6⟩)⟩
theorem carts_S (h : StR tp sz I J M k at' e) (hk : k ≠ 0) (hT : TOLD I J M t b nh no nl cj) (hc : cj ≤ at') (hR : R 6 2 = t) (ho : okLd t = true) (ht : t = 67 ∨ t = 80) (hf : 2000 < fu) : ∃ y K J' M', f_X7_readCarts fu I R = some (y, K) ∧ f_X12_telling fu J M 1 = some (J', M') ∧ OutS tp sz t b e I J M y K J' M' := by
  have hae := h.2.1.2.1
  rcases carts_R h hk hR ho ht hf hT.1.2.2.2.2.2.2.1 hT.1.2.2.2.2.2.2.2 with ⟨K, J', M', k', at2, e', v, a1, a2, a3, a4, a5, a6, a7, a8, a9, a10, a11, a12, a13, a14⟩ | ⟨K, J', M', f, pl, a1, a2, a3, a4, a5, a6⟩
  · have n111 : J' 111 = J 111 := a12 111 (by decide) (by decide)
    have n110 : J' 110 = J 110 := a12 110 (by decide) (by decide)
    have k9 : K (t + 9) = I (t + 9) := a10 (t + 9) (by omega) (by omega) (by omega)
    refine ⟨1, K, J', M', a1, a2, ⟨fun x x1 x2 _ x4 => a10 x x1 x2 (by omega), ⟨fun x i x1 x2 => ?_, fun s hs => a14 s (by omega)⟩, a7.fr⟩, Or.inl ⟨rfl, ⟨a11 0 (by decide), a14 9 (by decide)⟩, k', at2, e', nh, no, nl, cj, a5, a6, by omega, TOLD_g hT (fun s hs => a11 s (by omega)) (fun x x1 x2 _ => a10 x (by omega) (by omega) (by omega)) (fun x x1 x2 x3 x4 x5 => a12 x (by omega) x5) (a14 32 (by decide)) (a14 33 (by decide)) (fun x hx => a7.1 x (by omega)) (DBr_c hT.2.2.2.2.2.1 (fun i _ => by rw [k9]) (fun a c _ _ => by rw [n110])) ?_⟩⟩
    · by_cases q : x = 112
      · subst q
        exact a13 i (fun w => x2 (by unfold inBk; omega))
      · rw [a12 x x1 q]
    · obtain ⟨q1, q2, _, _⟩ := hT.2.2.2.2.2.2.1
      exact ⟨by rw [a11 4 (by decide)]; exact q1, by rw [a11 4 (by decide), n111]; exact q2, ⟨v, a4, a8⟩, by rw [a8]; exact a9⟩
  · exact ⟨0, K, J', M', a1, a2, ⟨a4.fr, a5.fr, a3.fr⟩, Or.inr (Or.inr ⟨rfl, f, pl, a4.2.1, a4.2.2, a5.2.1, a5.2.2.1, a6⟩)⟩
theorem debt_S (h : StR tp sz I J M k at' e) (hk : k ≠ 0) (hT : TOLD I J M t b nh no nl cj) (hc : cj ≤ at') (hR : R 6 2 = t) (ho : okLd t = true) (ht : t = 67 ∨ t = 80) (hf : 2000 < fu) : ∃ y K J' M', f_X7_readDebt fu I R = some (y, K) ∧ f_X12_owing fu J M = some (J', M') ∧ OutS tp sz t b e I J M y K J' M' := by
  have hae := h.2.1.2.1
  have g6 := hT.1.2.1.2.2
  rcases debt_R h hk hT.1 hR ho ht hf with ⟨K, J', M', k', at2, e', a, c, v, a1, a2, a3, a4, a5, a6, a7, a8, a9, a10, a11, a12, a13, a14, a15, a16⟩ | ⟨K, J', M', f, pl, a1, a2, a3, a4, a5, a6⟩
  · have k0 : K t = I t := a12 t (by omega) (by omega) (by omega)
    refine ⟨1, K, J', M', a1, a2, ⟨fun x x1 x2 _ x4 => a12 x x1 x2 (by omega), ⟨fun x i x1 x2 => ?_, fun s hs => a16 s (by omega)⟩, a9.fr⟩, Or.inl ⟨rfl, ⟨by rw [k0], a16 9 (by decide)⟩, k', at2, e', nh, no, nl, cj, a7, a8, by omega, TOLD_g hT (fun s hs => by rw [k0]) (fun x x1 x2 x3 => a12 x (by omega) (by omega) x3) (fun x x1 x2 x3 x4 x5 => a14 x (by omega) x3) (a16 32 (by decide)) (a16 33 (by decide)) (fun x hx => a9.1 x (by omega)) (fun a' c' ha hc' => ?_) (NCr_c hT.2.2.2.2.2.2.1 (by rw [k0]) (by rw [k0]) (by rw [a14 111 (by decide) (by decide)]) (by rw [a14 112 (by decide) (by decide)]))⟩⟩
    · by_cases q : x = 110
      · subst q
        exact a15 i (fun w => x2 (by unfold inBk; omega))
      · rw [a14 x x1 q]
    · obtain ⟨q1, q2, q3⟩ := hT.2.2.2.2.2.1 a' c' ha hc'
      by_cases q : a' = a ∧ c' = c
      · obtain ⟨rfl, rfl⟩ := q
        exact ⟨⟨v, a6, a10⟩, fun _ => by rw [a10]; exact a11, fun w => absurd ⟨a3, a4⟩ w⟩
      · rw [a13 (6 * a' + c') (by omega), a15 (36 * b + 6 * a' + c') (by omega)]
        exact ⟨q1, q2, q3⟩
  · exact ⟨0, K, J', M', a1, a2, ⟨a4.fr, a5.fr, a3.fr⟩, Or.inr (Or.inr ⟨rfl, f, pl, a4.2.1, a4.2.2, a5.2.1, a5.2.2.1, a6⟩)⟩
end
