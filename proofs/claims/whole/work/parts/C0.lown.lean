/-! a lowland told anew: both stand as before each call -/
section
variable {I J K J2 I' J' : HI} {M M' : HL} {R R'' : HR} {t b nh0 no0 nl0 nh no nl cj n N td b' : Nat}
theorem rel_ld (hT : TOLD K J2 M' td b' nh no nl cj) (hd : td = 67 ∨ td = 80) (r1 : R'' 1 2 = td) (r2 : R'' 1 3 = 147 - td) (r3 : R'' 49 0 = td) (kI : ∀ a, a < 13 → I' (td + a) = K (td + a)) (jx : ∀ x, 102 ≤ x → x ≤ 116 → J' x = J2 x) (j13 : J' 100 13 = nI b') : RLd I' R'' J' M' td b' nh no nl := by
  obtain ⟨⟨⟨p1, p2, p3⟩, ⟨q1, q2, q3⟩, ⟨s1, s2, s3⟩, n1, n2, n3, n4, n5⟩, ⟨_, _, _, l1, l2⟩, a3, a4, a5, a6, ⟨c1, c2, c3, c4⟩, ⟨u1, u2, u3⟩, u4, u5⟩ := hT
  have vD : ∀ a, a < 13 → vw I' td a = K (td + a) := fun a ha => by
    unfold vw
    rw [if_pos ha, kI a ha]
  have v0 : vw I' td 0 = K td := vD 0 (by decide)
  have kt : I' td = K td := kI 0 (by decide)
  have hod : okLd td = true := by rcases hd with w | w <;> rw [w] <;> rfl
  have hLR : LR (vw I' td) := fun r hr => by
    rcases u5 r hr with ⟨w1, w2, w3⟩ | ⟨a, m, w1, w2, w3, w4, w5, w6, w7⟩
    · exact ⟨0, 0, ⟨by rw [vD 11 (by decide)]; exact w1, by rw [vD 12 (by decide)]; exact w2, by decide⟩, fun w => absurd w (by decide)⟩
    · refine ⟨a, m, ⟨by rw [vD 11 (by decide)]; exact w3, by rw [vD 12 (by decide)]; exact w4, by omega⟩, fun _ fig f1 f2 => ?_⟩
      obtain ⟨v, v1, v2⟩ := w7.2 fig ⟨f1, f2⟩ [] (by decide)
      rw [show a + m - a = m by omega] at v1
      exact ⟨v, by rw [vD 10 (by decide)]; exact v1, fun h2 => v2 (by rw [if_pos h2])⟩
  refine ⟨r1, r2, ⟨hod, r3, hd, by decide, by rw [kt]; exact p1, by rw [kt]; exact q1, by rw [kt]; exact s1, p3, q3, s3⟩, hLR, ?_, ?_, ?_⟩
  · refine ⟨⟨j13, n5⟩, by rw [jx 102 (by decide) (by decide)]; exact p2, by rw [jx 105 (by decide) (by decide)]; exact q2, by rw [jx 106 (by decide) (by decide)]; exact s2, p3, q3, s3, fun h hh => ?_, ⟨by rw [jx 111 (by decide) (by decide), v0]; exact c2, fun _ => by rw [jx 112 (by decide) (by decide), v0]; exact c4⟩, fun r hr => ?_⟩
    · rw [jx 103 (by decide) (by decide), jx 104 (by decide) (by decide), vD 4 (by decide), vD 5 (by decide)]
      exact ⟨(l1 h hh).symm, (a3 h hh).1.symm⟩
    · rw [jx 113 (by decide) (by decide), jx 114 (by decide) (by decide), jx 115 (by decide) (by decide), jx 116 (by decide) (by decide), vD 10 (by decide), vD 11 (by decide), vD 12 (by decide)]
      rcases u5 r hr with ⟨w1, w2, w3⟩ | ⟨a, m, w1, w2, w3, w4, w5, w6, w7⟩
      · refine ⟨fun w => ?_, fun _ => w3⟩
        unfold rt at w
        rw [vD 11 (by decide), vD 12 (by decide), w1, w2] at w
        exact absurd w (by decide)
      · refine ⟨fun _ => ⟨by rw [w3]; exact w5, by rw [w4]; exact w6, fun j j1 j2 => ?_⟩, fun w => ?_⟩
        · have e := ruA_eq (D := vw I' td) (r := r) (a := a) (n := m) ⟨by rw [vD 11 (by decide)]; exact w3, by rw [vD 12 (by decide)]; exact w4, by omega⟩
          rw [e.1, e.2] at j2
          exact u4 j (by omega)
        · refine absurd ?_ w
          unfold rt
          rw [vD 11 (by decide), vD 12 (by decide), w3, w4]
          exact decide_eq_true ((nI_ltI (by omega) (by omega)).mpr (by omega))
  · refine ⟨by rw [v0]; exact c3, by rw [v0]; exact c1, fun h hh => ?_⟩
    rw [vD 4 (by decide), vD 5 (by decide)]
    exact (a3 h hh).2
  · exact ⟨fun k hk => by rw [vD 1 (by decide)]; exact n1 k hk, fun k hk => by rw [vD 2 (by decide)]; exact n2 k hk, fun k hk => by rw [vD 3 (by decide)]; exact n3 k hk⟩
theorem rel_sc (hT : TOLD K J2 M' td b' nh no nl cj) (kI : ∀ a, a < 13 → I' (td + a) = K (td + a)) (i1 : I' 49 1 = nI 0) (i2 : ∀ k, k < 8 → I' 50 k = (if nl ≤ k then nI 0 else K (td + 6) k) ∧ I' 51 k = (if nl ≤ k then mI 1 else K (td + 7) k) ∧ I' 52 k = (if nl ≤ k then mI 1 else K (td + 8) k)) (i3 : ∀ k, k < 36 → I' 53 k = K (td + 9) k) (j1 : J' 127 0 = nI 0) (j2 : ∀ k, k < 8 → J' 128 k = (if nl ≤ k then nI 0 else J2 107 (8 * b' + k)) ∧ J' 129 k = (if nl ≤ k then mI 1 else J2 108 (8 * b' + k)) ∧ J' 130 k = (if nl ≤ k then mI 1 else J2 109 (8 * b' + k))) (j3 : ∀ c d, c < 6 → d < 6 → J' 131 (6 * c + d) = (if c < no ∧ d < no then J2 110 (36 * b' + 6 * c + d) else nI 0)) : RSc I' J' (vw I' td) nh no nl := by
  obtain ⟨a1, ⟨_, _, _, l1, l2⟩, a3, a4, a5, a6, _, _⟩ := hT
  have vD : ∀ a, a < 13 → vw I' td a = K (td + a) := fun a ha => by
    unfold vw
    rw [if_pos ha, kI a ha]
  have sD : ∀ a, a < 5 → sc I' 49 a = I' (49 + a) := fun a ha => by
    unfold sc
    rw [if_pos ha]
  have h8 := a1.2.2.1.2.2
  have lk : ∀ k, k < 8 → I' 50 k = J' 128 k ∧ I' 51 k = J' 129 k ∧ I' 52 k = J' 130 k := fun k hk => by
    obtain ⟨x1, x2, x3⟩ := i2 k hk
    obtain ⟨y1, y2, y3⟩ := j2 k hk
    rw [x1, x2, x3, y1, y2, y3]
    by_cases q : nl ≤ k
    · simp only [if_pos q]
      exact ⟨trivial, trivial, trivial⟩
    · simp only [if_neg q]
      exact ⟨(l2 k (by omega)).1, (l2 k (by omega)).2, (a4 k (by omega)).1⟩
  refine ⟨⟨?_, fun k hk => ?_, fun k hk => ?_, fun k hk => ?_⟩, ⟨0, by decide, ?_⟩, fun l hl => ?_, fun k hk => ?_, fun h hh => ?_⟩
  · rw [sD 0 (by decide)]
    show I' 49 1 = J' 127 0
    rw [i1, j1]
  · rw [sD 1 (by decide), sD 2 (by decide), sD 3 (by decide)]
    show I' 50 k = J' 128 (8 * 0 + k) ∧ I' 51 k = J' 129 (8 * 0 + k) ∧ I' 52 k = J' 130 (8 * 0 + k)
    rw [show 8 * 0 + k = k by omega]
    exact lk k (by omega)
  · rw [sD 4 (by decide)]
    show I' 53 k = J' 131 (36 * 0 + k)
    obtain ⟨w1, w2, w3⟩ := a6 (k / 6) (k % 6) (by omega) (by omega)
    have e := j3 (k / 6) (k % 6) (by omega) (by omega)
    rw [show 6 * (k / 6) + k % 6 = k by omega] at w1 w2 w3 e
    rw [show 36 * 0 + k = k by omega, i3 k hk, e]
    by_cases q : k / 6 < no ∧ k % 6 < no
    · rw [if_pos q]
      exact (w2 q).symm
    · rw [if_neg q]
      exact w3 q
  · rw [sD 1 (by decide)]
    show I' 50 k = J' 128 (8 * 0 + k)
    rw [show 8 * 0 + k = k by omega]
    exact (lk k hk).1
  · rw [sD 0 (by decide)]
    exact i1
  · rw [sD 1 (by decide), sD 2 (by decide), sD 3 (by decide)]
    show ∃ x, x ≤ 999 ∧ I' 50 l = nI x ∧ (x = 0 → I' 51 l = mI 1 ∧ I' 52 l = mI 1) ∧ (0 < x → l < nl ∧ (∃ h, h < nh ∧ I' 51 l = nI h) ∧ ∃ o, o < no ∧ I' 52 l = nI o)
    obtain ⟨x1, x2, x3⟩ := i2 l hl
    by_cases q : nl ≤ l
    · rw [if_pos q] at x1 x2 x3
      exact ⟨0, by decide, x1, fun _ => ⟨x2, x3⟩, fun w => absurd w (by decide)⟩
    · rw [if_neg q] at x1 x2 x3
      obtain ⟨_, ⟨x, y1, y2⟩, ⟨g, y3, y4⟩, ⟨o, y5, y6⟩⟩ := a4 l (by omega)
      exact ⟨x, y1.2, x1.trans y2, fun w => absurd y1.1 (by omega), fun _ => ⟨by omega, ⟨g, y3, x2.trans y4⟩, ⟨o, y5, x3.trans y6⟩⟩⟩
  · rw [sD 4 (by decide)]
    show ∃ x, x ≤ 9999 ∧ I' 53 k = nI x
    obtain ⟨⟨x, w1, w2⟩, _, _⟩ := a6 (k / 6) (k % 6) (by omega) (by omega)
    rw [show 6 * (k / 6) + k % 6 = k by omega] at w2
    exact ⟨x, by omega, (i3 k hk).trans w2⟩
  · obtain ⟨x, w1, w2⟩ := a5 h hh
    refine ⟨x, w1, ?_⟩
    rw [rmI_F, ← w2]
    refine rmF_c nl (by rw [vD 4 (by decide)]) (fun i hi => ?_)
    rw [sD 1 (by decide), sD 2 (by decide)]
    obtain ⟨x1, x2, x3⟩ := i2 i (by omega)
    rw [if_neg (by omega)] at x1 x2
    exact ⟨x1, x2⟩
theorem rel_new (h : RelB n I R J M t b nh0 no0 nl0) (hd : td = 147 - t) (hb' : b' = 1 - b) (hT : TOLD K J2 M' td b' nh no nl cj) (hK : FrC td (sI I 1 1 0) K) (hJ : ∀ x i, x ≠ 100 → ¬ inBk b' x i → J2 x i = J x i) (hs : ∀ s, s = 10 ∨ s = 11 ∨ s = 13 ∨ 45 ≤ s → J2 100 s = J 100 s) (h1 : J2 100 1 = nI 0) (hM : FrL b' M M') (r1 : R'' 1 2 = td ∧ R'' 1 3 = t ∧ R'' 49 0 = td) (ix : ∀ x, x ≠ 1 → x ≠ 9 → x ≠ 32 → ¬ (49 ≤ x ∧ x ≤ 53) → I' x = K x) (is : ∀ s, s ≠ 5 → s ≠ 6 → s ≠ 16 → I' 1 s = K 1 s) (i5 : I' 1 5 = nI 0 ∧ I' 1 6 = -1 ∧ I' 1 16 = nI 0) (i9 : I' 9 3 = nI 0 ∧ I' 9 2 = K 9 2 ∧ I' 32 1 = nI 0) (i1 : I' 49 1 = nI 0) (i2 : ∀ k, k < 8 → I' 50 k = (if nl ≤ k then nI 0 else K (td + 6) k) ∧ I' 51 k = (if nl ≤ k then mI 1 else K (td + 7) k) ∧ I' 52 k = (if nl ≤ k then mI 1 else K (td + 8) k)) (i3 : ∀ k, k < 36 → I' 53 k = K (td + 9) k) (jx : ∀ x, x ≠ 100 → ¬ (127 ≤ x ∧ x ≤ 132) → J' x = J2 x) (js : ∀ s, s ≠ 10 → s ≠ 11 → s ≠ 13 → s ≠ 54 → s ≠ 66 → J' 100 s = J2 100 s) (j10 : J' 100 10 = nI 0 ∧ J' 100 11 = -1 ∧ J' 100 13 = nI b') (j54 : J' 100 54 = nI 0) (j66 : J' 100 66 = nI 0) (j1 : J' 127 0 = nI 0) (j132 : J' 132 0 = nI 0) (j2 : ∀ k, k < 8 → J' 128 k = (if nl ≤ k then nI 0 else J2 107 (8 * b' + k)) ∧ J' 129 k = (if nl ≤ k then mI 1 else J2 108 (8 * b' + k)) ∧ J' 130 k = (if nl ≤ k then mI 1 else J2 109 (8 * b' + k))) (j3 : ∀ c d, c < 6 → d < 6 → J' 131 (6 * c + d) = (if c < no ∧ d < no then J2 110 (36 * b' + 6 * c + d) else nI 0)) : RelB (n + 6) I' R'' J' M' td b' nh no nl := by
  obtain ⟨⟨T, t1, t2, t3, t4⟩, f1, rr, l1, s1, im, d1, c1, ⟨nx, dp, f, tt, hh⟩⟩ := h
  have ht := d1.2.2.1.2.2.1
  have hdd : td = 67 ∨ td = 80 := by omega
  have kx : ∀ x, x ≠ 6 → x ≠ 7 → x ≠ 8 → x ≠ 1 → ¬ (td ≤ x ∧ x ≤ td + 12) → K x = I x := fun x a b c d e => by rw [hK x a b c e, zs_ne d]
  have k1 : ∀ s, s ≠ 1 → K 1 s = I 1 s := fun s hs => by rw [hK 1 (by decide) (by decide) (by decide) (by omega), zs_eq, zs_other hs]
  have k11 : K 1 1 = nI 0 := by rw [hK 1 (by decide) (by decide) (by decide) (by omega), zs_eq, zs_same]; rfl
  have kI : ∀ a, a < 13 → I' (td + a) = K (td + a) := fun a ha => ix (td + a) (by omega) (by omega) (by omega) (by omega)
  have jj : ∀ x, x ≠ 100 → x < 102 ∨ x = 126 ∨ 133 ≤ x → J' x = J x := fun x a c => by
    rw [jx x a (by omega)]
    funext i
    exact hJ x i a (by unfold inBk; omega)
  have xx : ∀ x, x < 6 → x ≠ 1 → I' x = I x := fun x a c => by rw [ix x c (by omega) (by omega) (by omega), kx x (by omega) (by omega) (by omega) c (by omega)]
  refine ⟨⟨0, by decide, ?_, ?_, ?_⟩, ⟨by rw [i5.1, j10.1], by rw [i5.2.1, j10.2.1]⟩, ?_, RLt_c l1 ?_ (hM.2 55 (by decide)), ⟨0, by decide, i5.2.2, j66, fun k hk => absurd hk (Nat.not_lt_zero k)⟩, RIm_c im ?_ ?_ ?_ (jj 146 (by decide) (by decide)), rel_ld hT hdd r1.1 (by rw [r1.2.1]; omega) r1.2.2 kI (fun x x1 x2 => jx x (by omega) (by omega)) j10.2.2, rel_sc hT kI i1 i2 i3 j1 j2 j3, ⟨nx, 0, f, fun _ => 0, ?_⟩⟩
  · rw [is 1 (by decide) (by decide) (by decide)]; exact k11
  · rw [js 1 (by decide) (by decide) (by decide) (by decide) (by decide)]; exact h1
  · rw [xx 2 (by decide) (by decide), jj 101 (by decide) (by decide)]; exact t4
  · unfold RRf
    rw [xx 5 (by decide) (by decide), jj 126 (by decide) (by decide)]
    exact rr
  · rw [is 17 (by decide) (by decide) (by decide), k1 17 (by decide)]
  · rw [ix 47 (by decide) (by decide) (by decide) (by decide), kx 47 (by decide) (by decide) (by decide) (by decide) (by omega)]
  · rw [js 70 (by decide) (by decide) (by decide) (by decide) (by decide), hs 70 (by decide)]
  · rw [ix 48 (by decide) (by decide) (by decide) (by decide), kx 48 (by decide) (by decide) (by decide) (by decide) (by omega)]
  · obtain ⟨g1, g2, g3, g4, g5, g6, _⟩ := hh
    refine ⟨g1, by decide, g3, ?_, i9.1, ?_, j54, i9.2.2, Nat.zero_le _, fun j k _ _ => ⟨Nat.le_refl 0, Nat.zero_le _⟩, ⟨j132, fun k c hk => absurd hk (Nat.not_lt_zero k)⟩, fun k hk => absurd hk (Nat.not_lt_zero k)⟩
    · rw [i9.2.1, kx 9 (by decide) (by decide) (by decide) (by decide) (by omega)]; exact g4
    · rw [js 53 (by decide) (by decide) (by decide) (by decide) (by decide), hs 53 (by decide)]; exact g6
end
