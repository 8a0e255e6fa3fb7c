/-! a rule told: the walk -/
section
variable {tp : Nat → Nat} {sz fu t b nh no nl cj k at' e r0 : Nat} {I J : HI} {M : HL} {R : HR}
theorem rule_R {K1 Ja : HI} {M1 : HL} {k1 at1 e1 : Nat} (hf : 2000 < fu) (ht : t = 67 ∨ t = 80) (ho : okLd t = true) (hr : r0 < 3) (s : StR tp sz K1 Ja M1 k1 at1 e1) (h33 : Ja 100 33 = nI b) (hb : b < 2) (h32 : Ja 100 32 = nI cj) (hc : K1 t 16 = nI cj) (hcr : CRs K1 Ja t b cj) (hca : cj ≤ at1) (h34 : Ja 100 34 = nI (akN r0)) (h8 : K1 8 2 = nI r0) : ∃ y K J' M', ((r0 = 2 ∧ g_X8 fu 80 7 K1 (sR R 8 1 t) 0 0 = some (y, K)) ∨ (r0 ≠ 2 ∧ g_X8 fu 80 6 K1 (sR R 8 1 t) 0 0 = some (y, K))) ∧ ((r0 = 2 ∧ f_X12_reads fu Ja M1 1 = some (J', M')) ∨ (r0 ≠ 2 ∧ f_X12_reads fu Ja M1 0 = some (J', M'))) ∧ OnL M1 M' ∧ OutR tp sz t b r0 K1 Ja y K J' M' at1 cj (if r0 = 2 then 1 else 0) := by
  by_cases q : r0 = 2
  · obtain ⟨y, K, J', M', g1, g2, g3, g4⟩ := rdT (R := sR R 8 1 t) hf ht ho zR_eq (by omega) s h33 hb h32 hc hcr hca h34 h8
    exact ⟨y, K, J', M', Or.inl ⟨q, g1⟩, Or.inl ⟨q, g2⟩, g3, by rw [if_pos q]; exact g4⟩
  · obtain ⟨y, K, J', M', g1, g2, g3, g4⟩ := rdS (R := sR R 8 1 t) hf ht ho zR_eq (by omega) s h33 hb h32 hc hcr hca h34 h8
    exact ⟨y, K, J', M', Or.inr ⟨q, g1⟩, Or.inr ⟨q, g2⟩, g3, by rw [if_neg q]; exact g4⟩
set_option maxHeartbeats 4000000 in
theorem rule_S' (h : StR tp sz I J M k at' e) (hk : k ≠ 0) (hT : TOLD I J M t b nh no nl cj) (hc : cj ≤ at') (hr : r0 < 3) (h113 : J 113 (3 * b + r0) = mI 1) (ho : okLd t = true) (ht : t = 67 ∨ t = 80) (hf : 2000 < fu) : ∃ y K J' M', f_X8_readRule fu I R (nI r0) t = some (y, K, sR R 8 1 t) ∧ f_X12_reading fu J M (nI r0) = some (J', M') ∧ OutS tp sz t b e I J M y K J' M' := by
  have hb := hT.1.2.2.2.2.2.2.2
  have S0 : StR tp sz (sI I 8 2 (nI r0)) J M k at' e := StR_tk h (fun x hx => zs_ne (by omega))
  obtain ⟨K1, J1, M1, k1, at1, e1, a1, a2, a3, a4, a5, a6, a7⟩ := advS S0 hf hk
  have cn := cntG (fu := fu) h.2.2.1 a2 a3.2.2.1
  have hae1 := a3.2.1.2.1
  have hae := h.2.1.2.1
  have hsz := h.2.2.2
  have k8 : K1 8 2 = nI r0 := by rw [a5.1 8 (by decide), zs_eq, zs_same]
  have kt : ∀ x, x ≠ 7 → x ≠ 8 → K1 x = I x := fun x x1 x2 => by rw [a5.1 x x1, zs_ne x2]
  have T1 : TOLD K1 J1 M1 t b nh no nl cj := TOLD_c hT (fun x x1 x2 => kt x (by omega) (by omega)) (fun x x1 x2 => a6.1 x (by omega)) (a6.2 32 (by decide)) (a6.2 33 (by decide)) (fun x hx => a7.1 x (by omega))
  have b33 := hT.1.2.2.2.2.2.2.1
  have c33 := T1.1.2.2.2.2.2.2.1
  obtain ⟨⟨u1, u2, u3⟩, u4, _⟩ := T1.2.2.2.2.2.2.2
  have h16 : I t 16 = nI cj := hT.2.2.2.2.2.2.2.1.2.1
  have q3 : inBk b 113 (3 * b + r0) := by unfold inBk; omega
  have q4 : inBk b 114 (3 * b + r0) := by unfold inBk; omega
  obtain ⟨Ja, hJa⟩ : ∃ Ja, Ja = sI (sI J1 100 34 (nI (akN r0))) 113 (3 * b + r0) (nI cj) := ⟨_, rfl⟩
  have jax : ∀ x, x ≠ 100 → x ≠ 113 → Ja x = J1 x := fun x x1 x2 => by rw [hJa, zs_ne x2, zs_ne x1]
  have jas : ∀ s, s ≠ 34 → Ja 100 s = J1 100 s := fun s hs => by rw [hJa, zs_ne (by decide), zs_eq, zs_other hs]
  have ja3 : Ja 113 = upd (J1 113) (3 * b + r0) (nI cj) := by rw [hJa, zs_eq, zs_ne (by decide)]
  have fma : FrM b J Ja := by
    refine FrM.trans a6.fr ⟨fun x i x1 x2 => ?_, fun s hs => jas s (by omega)⟩
    by_cases q : x = 113
    · subst q
      rw [ja3, zs_other (fun w => x2 (by rw [w]; exact q3))]
    · rw [jax x x1 q]
  have S1 : StR tp sz K1 Ja M1 k1 at1 e1 := StR_m a3 (jax 101 (by decide) (by decide)) (fun s hs => jas s (by omega))
  obtain ⟨y, K, J2, M2, g1, g2, g3, g4⟩ := rule_R (R := R) hf ht ho hr S1 (by rw [jas 33 (by decide)]; exact c33) hb (by rw [jas 32 (by decide)]; exact u1) u2 (fun j hj => by rw [jax 115 (by decide) (by decide), jax 116 (by decide) (by decide)]; exact u4 j hj) (by omega) (by rw [hJa, zs_ne (by decide), zs_eq, zs_same]) k8
  rw [hJa] at g2
  have eqM := rule_M0 (fu := fu) b33 hb hr h113 cn u1 g2
  obtain ⟨cA, cB⟩ := rule_C0 (R := R) ht ho h16 a1 k8 hr g1
  have fc1 : FrC t I K1 := fun x x1 x2 x3 x4 => kt x x2 x3
  have flM : FrL b M M2 := (a7.trans g3).fr
  rcases g4 with ⟨y1, k', at2, e', cj', p1, p2, p3, p4, p5, p6, p7, p8, p9, p10, p11, p12⟩ | ⟨y1, pl, p1, p2, p3, p4, p5⟩ | ⟨y0, f, pl, p1, p2, p3⟩
  · have hp := VL_pos p12 (by decide)
    have hae2 := p1.2.1.2.1
    have kk8 : K 8 2 = nI r0 := by rw [p11.1 8 (by decide) (by omega) (by omega)]; exact k8
    have eqC := cB y1 kk8
    rw [p5] at eqC
    rw [p4] at eqM
    refine ⟨1, _, _, _, eqC, eqM, ⟨FrC_put (FrC_put (fc1.trans p11.fr) ⟨by omega, by omega⟩) ⟨by omega, by omega⟩, FrM_put (fma.trans p10.fr) q4 (by decide), flM⟩, Or.inl ⟨rfl, ⟨?_, ?_⟩, k', at2, e', nh, no, nl, cj', ?_, by omega, by omega, ?_⟩⟩
    · rw [zs_ne (by omega), zs_ne (by omega), p11.2.1 0 (by decide), kt t (by omega) (by omega)]
    · rw [zs_ne (by decide), p10.2.1 9 (by decide), jas 9 (by decide), a6.2 9 (by decide)]
    · exact StR_m (StR_tk p1 (fun x hx => by rw [zs_ne (by omega), zs_ne (by omega)])) (zs_ne (by decide)) (fun s _ => by rw [zs_ne (by decide)])
    · refine rul_told (K := K) hT hr hp (by omega) (fun s hs => ?_) ?_ (fun a w1 w2 => ?_) (fun j hj => ?_) ?_ ?_ (fun r hr' => ?_) (by rw [zs_eq, zs_same]) (fun r hr' => ?_) (fun x w1 w2 => ?_) ?_ (fun i hi => ?_) (by rw [zs_eq, zs_same]) (fun i hi => ?_) ?_ ?_ (fun j hj => ?_) (fun x hx => ?_) p12
      · rw [zs_ne (by omega), zs_ne (by omega), p11.2.1 s hs, kt t (by omega) (by omega)]
      · rw [zs_ne (by omega), zs_ne (by omega)]; exact p5
      · rw [zs_ne (by omega), zs_ne (by omega), p11.1 (t + a) (by omega) (by omega) (by omega), kt (t + a) (by omega) (by omega)]
      · rw [zs_ne (by omega), zs_ne (by omega), p11.2.2.2 j hj, kt (t + 10) (by omega) (by omega)]
      · rw [zs_ne (by omega), zs_ne (by omega)]
      · rw [zs_ne (by omega), zs_eq, zs_same]
      · rw [zs_ne (by omega), zs_eq, zs_other hr', p11.1 (t + 11) (by omega) (by omega) (by omega), kt (t + 11) (by omega) (by omega)]
      · rw [zs_eq, zs_other hr', zs_ne (by omega), p11.1 (t + 12) (by omega) (by omega) (by omega), kt (t + 12) (by omega) (by omega)]
      · rw [zs_ne (by omega), p10.1 x (by omega) (by omega), jax x (by omega) (by omega), a6.1 x (by omega)]
      · rw [zs_ne (by decide), p10.1 113 (by decide) (by decide), ja3, zs_same]
      · rw [zs_ne (by decide), p10.1 113 (by decide) (by decide), ja3, zs_other hi, a6.1 113 (by decide)]
      · rw [zs_eq, zs_other hi, p10.1 114 (by decide) (by decide), jax 114 (by decide) (by decide), a6.1 114 (by decide)]
      · rw [zs_ne (by decide)]; exact p4
      · rw [zs_ne (by decide), p3, b33]
      · rw [zs_ne (by omega), zs_ne (by omega), zs_ne (by decide), zs_ne (by decide)]; exact p6 j hj
      · rw [g3.1 x (by omega), a7.1 x (by omega)]
  · have kk8 : K 8 2 = nI r0 := by rw [p4.1 8 (by decide) (by omega) (by omega)]; exact k8
    refine ⟨1, _, _, _, cB y1 kk8, eqM, ⟨FrC_put (FrC_put (fc1.trans p4.fr) ⟨by omega, by omega⟩) ⟨by omega, by omega⟩, FrM_put (fma.trans p5.fr) q4 (by decide), flM⟩, Or.inr (Or.inl ⟨rfl, pl, ?_, ?_, p3, ?_, ?_⟩)⟩
    · rw [zs_ne (by omega), zs_ne (by omega)]; exact p1
    · rw [zs_ne (by omega), zs_ne (by omega)]; exact p2
    · rw [zs_ne (by decide)]; exact p5.2.2.2.1
    · rw [zs_ne (by decide)]; exact p5.2.2.2.2
  · refine ⟨0, _, _, _, cA y0, eqM, ⟨fc1.trans p1.fr, FrM_put (fma.trans p2.fr) q4 (by decide), flM⟩, Or.inr (Or.inr ⟨rfl, f, pl, p1.2.1, p1.2.2, ?_, ?_, p3⟩)⟩
    · rw [zs_ne (by decide)]; exact p2.2.2.2.1
    · rw [zs_ne (by decide)]; exact p2.2.2.2.2
end
