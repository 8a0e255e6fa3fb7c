/-! a text that is no lowland: what was told stays -/
section
variable {I I' J J' D : HI} {M M' : HL} {R R' : HR} {t b nh no nl n : Nat}
theorem ML_b (hM : ML J b nh no nl D) (hL : LR D) (hc : J' 100 13 = J 100 13) (h : ∀ x i, x ≠ 100 → x ≤ 116 → ¬ inBk (1 - b) x i → J' x i = J x i) : ML J' b nh no nl D := by
  obtain ⟨⟨a1, a2⟩, a3, a4, a5, a6, a7, a8, a9, ⟨a10, a11⟩, a12⟩ := hM
  have g : ∀ x i, x ≠ 100 → ((x = 102 ∨ x = 105 ∨ x = 106 ∨ x = 111 ∨ x = 112) ∧ i = b) ∨ ((x = 103 ∨ x = 104) ∧ 8 * b ≤ i ∧ i < 8 * b + 8) ∨ ((x = 113 ∨ x = 114) ∧ 3 * b ≤ i ∧ i < 3 * b + 3) ∨ ((x = 115 ∨ x = 116) ∧ 1600 * b ≤ i ∧ i < 1600 * b + 1600) → J' x i = J x i := fun x i hx hi => h x i hx (by omega) (by unfold inBk; omega)
  refine ⟨⟨hc.trans a1, a2⟩, by rw [g 102 b (by decide) (by omega)]; exact a3, by rw [g 105 b (by decide) (by omega)]; exact a4, by rw [g 106 b (by decide) (by omega)]; exact a5, a6, a7, a8, fun k hk => ?_, ⟨by rw [g 111 b (by decide) (by omega)]; exact a10, fun w => by rw [g 112 b (by decide) (by omega)]; exact a11 w⟩, fun r hr => ?_⟩
  · rw [g 103 (8 * b + k) (by decide) (by omega), g 104 (8 * b + k) (by decide) (by omega)]
    exact a9 k hk
  · obtain ⟨q1, q2⟩ := a12 r hr
    rw [g 113 (3 * b + r) (by decide) (by omega), g 114 (3 * b + r) (by decide) (by omega)]
    refine ⟨fun w => ?_, q2⟩
    obtain ⟨u1, u2, u3⟩ := q1 w
    refine ⟨u1, u2, fun j j1 j2 => ?_⟩
    obtain ⟨a, m, v1, _⟩ := hL r hr
    have e := ruA_eq v1
    have v2 := v1.2.2
    rw [e.1] at j1 j2
    rw [e.2] at j2
    rw [g 115 (1600 * b + j) (by decide) (by omega), g 116 (1600 * b + j) (by decide) (by omega)]
    exact u3 j (by rw [e.1]; exact j1) (by rw [e.1, e.2]; exact j2)
theorem RLd_b (h : RLd I R J M t b nh no nl) (h1 : ∀ x, t ≤ x → x ≤ t + 12 → I' x = I x) (h2 : R' 1 2 = R 1 2 ∧ R' 1 3 = R 1 3 ∧ R' 49 0 = R 49 0) (h3 : J' 100 13 = J 100 13) (h4 : ∀ x i, x ≠ 100 → x ≤ 116 → ¬ inBk (1 - b) x i → J' x i = J x i) (h5 : ∀ x i, x ≠ 100 → ¬ inBl (1 - b) x i → M' x i = M x i) : RLd I' R' J' M' t b nh no nl := by
  obtain ⟨d1, d2, d3, d4, d5, d6, d7⟩ := h
  have ev : vw I' t = vw I t := vw_congr (fun a ha => h1 _ (by omega) (by omega))
  have et : I' t = I t := h1 t (by omega) (by omega)
  have hb := d5.1.2
  obtain ⟨g0, g1, g2, g3, g4, g5, g6, g7, g8, g9⟩ := d3
  refine ⟨h2.1.trans d1, h2.2.1.trans d2, ⟨g0, h2.2.2.trans g1, g2, g3, by rw [et]; exact g4, by rw [et]; exact g5, by rw [et]; exact g6, g7, g8, g9⟩, by rw [ev]; exact d4, by rw [ev]; exact ML_b d5 d4 h3 h4, by rw [ev]; exact d6, ?_⟩
  rw [ev]
  exact ⟨fun k hk => by rw [h5 117 (8 * b + k) (by decide) (by unfold inBl; omega)]; exact d7.1 k hk, fun k hk => by rw [h5 118 (6 * b + k) (by decide) (by unfold inBl; omega)]; exact d7.2.1 k hk, fun k hk => by rw [h5 119 (8 * b + k) (by decide) (by unfold inBl; omega)]; exact d7.2.2 k hk⟩
theorem low_bad {K J2 : HI} {f pl : Nat} (h : RelB n I R J M t b nh no nl) (hK : FrC (147 - t) (sI I 1 1 0) K) (hr : ∀ x, x ≠ 6 → x ≠ 8 → R' x = R x) (hJ : ∀ x i, x ≠ 100 → ¬ inBk (1 - b) x i → J2 x i = J x i) (hs : ∀ s, s = 10 ∨ s = 11 ∨ s = 13 ∨ 45 ≤ s → J2 100 s = J 100 s) (h1 : J2 100 1 = nI 0) (hM : FrL (1 - b) M M') : RelB (n + 6) (sI (sI (sI K 1 5 (nI f)) 1 6 (nI pl)) 5 1 (K 5 1 + 1)) R' (sI (sI (sI J2 100 10 (nI f)) 100 11 (nI pl)) 126 1 (J2 126 1 + 1)) M' t b nh no nl := by
  obtain ⟨⟨T, t1, t2, t3, t4⟩, f1, r1, l1, s1, i1, d1, c1, hh⟩ := h
  have ht := d1.2.2.1.2.2.1
  have hb := d1.2.2.2.2.1.1.2
  have kx : ∀ x, x ≠ 6 → x ≠ 7 → x ≠ 8 → x ≠ 1 → ¬ (147 - t ≤ x ∧ x ≤ 147 - t + 12) → K x = I x := fun x a b c d e => by rw [hK x a b c e, zs_ne d]
  have k1 : ∀ s, s ≠ 1 → K 1 s = I 1 s := fun s hs => by rw [hK 1 (by decide) (by decide) (by decide) (by omega), zs_eq, zs_other hs]
  have k11 : K 1 1 = nI 0 := by rw [hK 1 (by decide) (by decide) (by decide) (by omega), zs_eq, zs_same]; rfl
  obtain ⟨I2, hI2⟩ : ∃ I2, I2 = sI (sI (sI K 1 5 (nI f)) 1 6 (nI pl)) 5 1 (K 5 1 + 1) := ⟨_, rfl⟩
  obtain ⟨J3, hJ3⟩ : ∃ J3, J3 = sI (sI (sI J2 100 10 (nI f)) 100 11 (nI pl)) 126 1 (J2 126 1 + 1) := ⟨_, rfl⟩
  rw [← hI2, ← hJ3]
  have ix : ∀ x, x ≠ 1 → x ≠ 5 → x ≠ 6 → x ≠ 7 → x ≠ 8 → ¬ (147 - t ≤ x ∧ x ≤ 147 - t + 12) → I2 x = I x := fun x a b c d e g => by rw [hI2, zs_ne b, zs_ne a, zs_ne a, kx x c d e a g]
  have is1 : ∀ s, s ≠ 1 → s ≠ 5 → s ≠ 6 → I2 1 s = I 1 s := fun s a b c => by rw [hI2, zs_ne (by decide), zs_eq, zs_other c, zs_eq, zs_other b, k1 s a]
  have i11 : I2 1 1 = nI 0 := by rw [hI2, zs_ne (by decide), zs_eq, zs_other (by decide), zs_eq, zs_other (by decide)]; exact k11
  have i15 : I2 1 5 = nI f := by rw [hI2, zs_ne (by decide), zs_eq, zs_other (by decide), zs_eq, zs_same]
  have i16 : I2 1 6 = nI pl := by rw [hI2, zs_ne (by decide), zs_eq, zs_same]
  have i5 : I2 5 = upd (I 5) 1 (I 5 1 + 1) := by rw [hI2, zs_eq, zs_ne (by decide), zs_ne (by decide), kx 5 (by decide) (by decide) (by decide) (by decide) (by omega)]
  have nb : ∀ x i, x < 102 ∨ 126 ≤ x → ¬ inBk (1 - b) x i := fun x i hx => by unfold inBk; omega
  have jx : ∀ x, x ≠ 100 → x ≠ 126 → x < 102 ∨ 126 ≤ x → J3 x = J x := fun x a c d => by
    rw [hJ3, zs_ne c, zs_ne a, zs_ne a]
    funext i
    exact hJ x i a (nb x i d)
  have js : ∀ s, s = 13 ∨ 45 ≤ s → J3 100 s = J 100 s := fun s hs' => by rw [hJ3, zs_ne (by decide), zs_eq, zs_other (by omega), zs_eq, zs_other (by omega), hs s (by omega)]
  have j1 : J3 100 1 = nI 0 := by rw [hJ3, zs_ne (by decide), zs_eq, zs_other (by decide), zs_eq, zs_other (by decide)]; exact h1
  have j10 : J3 100 10 = nI f := by rw [hJ3, zs_ne (by decide), zs_eq, zs_other (by decide), zs_eq, zs_same]
  have j11 : J3 100 11 = nI pl := by rw [hJ3, zs_ne (by decide), zs_eq, zs_same]
  have j126 : ∀ k, J3 126 k = if k = 1 then J 126 1 + 1 else J 126 k := fun k => by
    rw [hJ3, zs_eq]
    by_cases q : k = 1
    · rw [q, zs_same, if_pos rfl, hJ 126 1 (by decide) (nb 126 1 (by decide))]
    · rw [zs_other q, if_neg q, zs_ne (by decide), zs_ne (by decide), hJ 126 k (by decide) (nb 126 k (by decide))]
  have ev : vw I2 t = vw I t := vw_congr (fun a ha => ix _ (by omega) (by omega) (by omega) (by omega) (by omega) (by omega))
  refine ⟨⟨0, by decide, i11, j1, ?_⟩, ⟨by rw [i15, j10], by rw [i16, j11]⟩, fun k hk => ?_, RLt_c l1 (is1 17 (by decide) (by decide) (by decide)) (hM.2 55 (by decide)), RSt_c s1 (is1 16 (by decide) (by decide) (by decide)) (js 66 (by decide)) (ix 3 (by decide) (by decide) (by decide) (by decide) (by decide) (by omega)) (ix 4 (by decide) (by decide) (by decide) (by decide) (by decide) (by omega)) (jx 144 (by decide) (by decide) (by decide)) (jx 145 (by decide) (by decide) (by decide)), RIm_c i1 (by rw [ix 47 (by decide) (by decide) (by decide) (by decide) (by decide) (by omega)]) (js 70 (by decide)) (ix 48 (by decide) (by decide) (by decide) (by decide) (by decide) (by omega)) (jx 146 (by decide) (by decide) (by decide)), RLd_b d1 (fun x x1 x2 => ix x (by omega) (by omega) (by omega) (by omega) (by omega) (by omega)) ⟨by rw [hr 1 (by decide) (by decide)], by rw [hr 1 (by decide) (by decide)], by rw [hr 49 (by decide) (by decide)]⟩ (js 13 (by decide)) (fun x i x1 xb x2 => ?_) hM.1, ?_, ?_⟩
  · rw [ix 2 (by decide) (by decide) (by decide) (by decide) (by decide) (by omega), jx 101 (by decide) (by decide) (by decide)]
    exact t4
  · rw [i5, j126 k]
    by_cases q : k = 1
    · rw [q, zs_same, if_pos rfl, r1 1 (by decide)]
    · rw [zs_other q, if_neg q]
      exact r1 k hk
  · rw [hJ3, zs_ne (by omega), zs_ne x1, zs_ne x1, hJ x i x1 x2]
  · rw [ev]
    exact RSc_c c1 (fun x x1 x2 => ix x (by omega) (by omega) (by omega) (by omega) (by omega) (by omega)) (by rw [jx 127 (by decide) (by decide) (by decide)]) (fun k _ => by rw [jx 128 (by decide) (by decide) (by decide), jx 129 (by decide) (by decide) (by decide), jx 130 (by decide) (by decide) (by decide)]; exact ⟨rfl, rfl, rfl⟩) (fun k _ => by rw [jx 131 (by decide) (by decide) (by decide)])
  · rw [ev]
    exact RHs_c hh (by omega) (fun x x1 x2 => ix x (by omega) (by omega) (by omega) (by omega) (by omega) (by omega)) ⟨js 53 (by decide), js 54 (by decide)⟩ (fun v _ => by rw [jx 127 (by decide) (by decide) (by decide), jx 132 (by decide) (by decide) (by decide)]; exact ⟨rfl, rfl⟩) (fun k _ => by rw [jx 128 (by decide) (by decide) (by decide), jx 129 (by decide) (by decide) (by decide), jx 130 (by decide) (by decide) (by decide)]; exact ⟨rfl, rfl, rfl⟩) (fun k _ => by rw [jx 131 (by decide) (by decide) (by decide)]) (fun k _ => by rw [jx 133 (by decide) (by decide) (by decide)])
end
