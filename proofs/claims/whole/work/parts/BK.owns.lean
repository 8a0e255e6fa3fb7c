/-! an owner told, over all that is told so far -/
section
variable {I K J J' : HI} {M M' : HL} {t b nh no nl cj : Nat}
theorem own_told {x : Int32} {y : Int64} (hT : TOLD I J M t b nh no nl cj) (hno : no < 6) (hx : NR x y) (k0 : ∀ s, s ≠ 2 → K t s = I t s) (k2 : K t 2 = nI (no + 1)) (kn : K (t + 2) no = x) (ko : ∀ i, i ≠ no → K (t + 2) i = I (t + 2) i) (kx : ∀ a, 1 ≤ a → a ≤ 12 → a ≠ 2 → K (t + a) = I (t + a)) (j5 : J' 105 b = nI (no + 1)) (jx : ∀ x, 102 ≤ x → x ≤ 116 → x ≠ 105 → x ≠ 110 → J' x = J x) (j32 : J' 100 32 = J 100 32) (j33 : J' 100 33 = J 100 33) (jd : ∀ d, d < 6 → J' 110 (6 * (6 * b + no) + d) = 0 ∧ J' 110 (6 * (6 * b + d) + no) = 0) (jo : ∀ a c, a < no → c < no → J' 110 (36 * b + 6 * a + c) = J 110 (36 * b + 6 * a + c)) (mn : M' 118 (6 * b + no) = y) (mo : ∀ i, i ≠ 6 * b + no → M' 118 i = M 118 i) (m7 : M' 117 = M 117) (m9 : M' 119 = M 119) : TOLD K J' M' t b nh (no + 1) nl cj := by
  obtain ⟨a1, a2, a3, a4, a5, a6, a7, a8⟩ := hT
  have e := kx
  have f : ∀ x, 102 ≤ x → x ≤ 116 → x ≠ 105 → x ≠ 110 → J' x = J x := jx
  refine ⟨?_, LKr_w (LKr_g a2 (fun s hs => k0 s (by omega)) (fun i _ => by rw [e 4 (by decide) (by decide) (by decide)]) (fun i _ => ⟨by rw [e 6 (by decide) (by decide) (by decide)], by rw [e 7 (by decide) (by decide) (by decide)]⟩)) ⟨by rw [f 102 (by decide) (by decide) (by decide) (by decide)], by rw [f 106 (by decide) (by decide) (by decide) (by decide)], j33⟩ (fun i _ => by rw [f 103 (by decide) (by decide) (by decide) (by decide)]) (fun i _ => ⟨by rw [f 107 (by decide) (by decide) (by decide) (by decide)], by rw [f 108 (by decide) (by decide) (by decide) (by decide)]⟩), HPr_c a3 (fun i _ => by rw [e 4 (by decide) (by decide) (by decide)]) (fun i _ => by rw [e 5 (by decide) (by decide) (by decide)]) (fun i _ => by rw [f 104 (by decide) (by decide) (by decide) (by decide)]), LWr_up (LWr_c a4 (fun i _ => by rw [e 6 (by decide) (by decide) (by decide)]) (fun i _ => by rw [e 7 (by decide) (by decide) (by decide)]) (fun i _ => by rw [e 8 (by decide) (by decide) (by decide)]) (fun i _ => by rw [f 109 (by decide) (by decide) (by decide) (by decide)])) (Nat.le_refl _) (by omega), RMr_c a5 (fun i _ => by rw [e 4 (by decide) (by decide) (by decide)]) (fun i _ => ⟨by rw [e 6 (by decide) (by decide) (by decide)], by rw [e 7 (by decide) (by decide) (by decide)]⟩), fun a c ha hc => ?_, NCr_c a7 (k0 4 (by decide)) (k0 5 (by decide)) (by rw [f 111 (by decide) (by decide) (by decide) (by decide)]) (by rw [f 112 (by decide) (by decide) (by decide) (by decide)]), RUr_c a8 j32 (k0 16 (by decide)) (fun x hx => e x (by omega) (by omega) (by omega)) (fun x x1 x2 => f x (by omega) x2 (by omega) (by omega))⟩
  · obtain ⟨⟨p1, p2, p3⟩, ⟨q1, q2, q3⟩, ⟨r1, r2, r3⟩, d1, d2, d3, d4, d5⟩ := a1
    refine ⟨⟨(k0 1 (by decide)).trans p1, by rw [f 102 (by decide) (by decide) (by decide) (by decide)]; exact p2, p3⟩, ⟨k2, j5, by omega⟩, ⟨(k0 3 (by decide)).trans r1, by rw [f 106 (by decide) (by decide) (by decide) (by decide)]; exact r2, r3⟩, fun i hi => by rw [e 1 (by decide) (by decide) (by decide), m7]; exact d1 i hi, fun i hi => ?_, fun i hi => by rw [e 3 (by decide) (by decide) (by decide), m9]; exact d3 i hi, j33.trans d4, d5⟩
    by_cases q : i = no
    · rw [q, kn, mn]
      exact hx
    · rw [ko i q, mo _ (by omega)]
      exact d2 i (by omega)
  · obtain ⟨q1, q2, q3⟩ := a6 a c ha hc
    rw [e 9 (by decide) (by decide) (by decide)]
    refine ⟨q1, fun w => ?_, fun w => q3 (fun v => w ⟨by omega, by omega⟩)⟩
    by_cases q : a < no ∧ c < no
    · rw [jo a c q.1 q.2]
      exact q2 q
    · rw [q3 q]
      by_cases qa : a = no
      · have := (jd c hc).1
        rw [show 36 * b + 6 * a + c = 6 * (6 * b + no) + c by omega]
        exact this
      · have := (jd a ha).2
        rw [show 36 * b + 6 * a + c = 6 * (6 * b + a) + no by omega]
        exact this
end
section
variable {tp : Nat → Nat} {sz fu t b nh no nl cj k at' e : Nat} {I J : HI} {M : HL} {R : HR}
theorem TOLD_s {I' J' : HI} {M' : HL} (h : TOLD I J M t b nh no nl cj) (ht : t = 67 ∨ t = 80) (hI : TkC I I') (hJ : AdM J J') (hM : OnL M M') : TOLD I' J' M' t b nh no nl cj := TOLD_c h (fun x x1 x2 => hI.1 x (by omega) (by omega)) (fun x x1 x2 => hJ.1 x (by omega)) (hJ.2 32 (by decide)) (hJ.2 33 (by decide)) (fun x hx => hM.1 x (by omega))
theorem owner_S (h : StR tp sz I J M k at' e) (hk : k ≠ 0) (hT : TOLD I J M t b nh no nl cj) (hc : cj ≤ at') (hno : no < 6) (hR : R 6 2 = t) (ho : okLd t = true) (ht : t = 67 ∨ t = 80) (hf : 2000 < fu) : ∃ y K J' M', f_X7_readOwner fu I R = some (y, K) ∧ f_X12_owning fu J M = some (J', M') ∧ OutS tp sz t b e I J M y K J' M' := by
  have n3 : ¬ (1 : Int32) = 0 := by decide
  have hb := hT.1.2.2.2.2.2.2.2
  obtain ⟨K1, J1, M1, k1, at1, e1, a1, a2, a3, a4, a5, a6, a7⟩ := advS h hf hk
  have cn := cntG (fu := fu) h.2.2.1 a2 a3.2.2.1
  have hae1 := a3.2.1.2.1
  have hae := h.2.1.2.1
  have T1 := TOLD_s hT ht a5.tk a6 a7
  have n6 : ¬ nI no = (6 : Int32) := fun w => by
    have := (nI_eq (a := no) (b := 6) (by omega) (by decide)).mp w
    omega
  have b33 := hT.1.2.2.2.2.2.2.1
  have c33 := T1.1.2.2.2.2.2.2.1
  have l5 : ∀ (k : Int32 → Option (HI × HL)), ldI (J 105) 2 (J 100 33) k = k (nI no) := fun k => by rw [b33, ldI_ok (by omega), hT.1.2.1.2.1]
  have l6 : ∀ (k : Int32 → Option (HI × HL)), ldI (J1 105) 2 (nI b) k = k (nI no) := fun k => by rw [ldI_ok (by omega), T1.1.2.1.2.1]
  have ix : 6 * nI b + nI no = nI (6 * b + no) := by rw [zq6, pk_mul, nI_add]
  have ib : ∀ q : Option (HI × HL), inb 12 (nI (6 * b + no)) q = q := fun q => by rw [inb_ok (by omega)]
  have tc : (nI (6 * b + no)).toNatClampNeg = 6 * b + no := nI_clamp (by omega)
  have A1 : nI no + 1 = nI (no + 1) := nI_1 no
  have fm : ∀ {J2 J3 : HI}, (∀ x, x ≠ 110 → J3 x = J2 x) → (∀ i, (∀ d, 0 ≤ d → d < 6 → i ≠ 6 * (6 * b + no) + d ∧ i ≠ 6 * (6 * b + d) + no) → J3 110 i = J2 110 i) → FrM b J2 J3 := fun {J2 J3} r2 r5 => by
    refine ⟨fun x i x1 x2 => ?_, fun s _ => by rw [r2 100 (by decide)]⟩
    by_cases q : x = 110
    · subst q
      refine r5 i (fun d _ d2 => ?_)
      unfold inBk at x2
      omega
    · rw [r2 x q]
  unfold f_X7_readOwner f_X12_owning
  rcases tnew_R a3 T1.1 hR ho ht hf with ⟨K2, J2, M2, k2, at2, e2, x, y, b1, b2, b3, b4, b5, b6, b7, b8, b9⟩ | ⟨K2, J2, y, f, pl, b1, b2, b3, b4, b5⟩
  · have T2 := TOLD_s T1 ht b7 b8 b9
    have d33 := T2.1.2.2.2.2.2.2.1
    obtain ⟨J3, r1, r2, r3, r4, r5⟩ := own57 hb hno 6 0 (by decide) J2 fu (by omega) T2.1.2.1.2.1 d33
    have r1' : f_X12_owning_L57 fu J2 (nI (6 * b + no)) 0 = some J3 := r1
    have kt : K2 t 2 = nI no := T2.1.2.1.1
    have ic : ∀ q : Option (Int32 × HI), inb 6 (nI no) q = q := fun q => by rw [inb_ok (by omega)]
    have td : (nI no).toNatClampNeg = no := nI_clamp (by omega)
    have te : (nI b).toNatClampNeg = b := nI_clamp (by omega)
    have kt2 : (sI K2 (t + 2) no x) t 2 = nI no := by rw [zs_ne (by omega)]; exact kt
    have e33 : J3 100 33 = nI b := by rw [r2 100 (by decide)]; exact d33
    have e8 : J3 100 8 = 0 := by rw [r2 100 (by decide)]; exact b5.2.2.1
    have l7 : ∀ (k : Int32 → Option (HI × HL)), ldI (J3 105) 2 (nI b) k = k (nI no) := fun k => by rw [ldI_ok (by omega), r2 105 (by decide), T2.1.2.1.2.1]
    have id : ∀ q : Option (HI × HL), inb 2 (nI b) q = q := fun q => by rw [inb_ok (by omega)]
    have tk := a5.tk.trans b7
    have am := a6.trans b8
    have ml := a7.trans b9
    refine ⟨1, sI (sI K2 (t + 2) no x) t 2 (nI (no + 1)), sI J3 105 b (nI (no + 1)), sL M2 118 (6 * b + no) y, ?_, ?_, ⟨FrC_put (FrC_put tk.fr ⟨by omega, by omega⟩) ⟨by omega, by omega⟩, FrM_put (am.fr.trans (fm r2 r5)) (by unfold inBk; omega) (by decide), FrL_put ml.fr (by unfold inBl; omega) (by decide)⟩, Or.inl ⟨rfl, ⟨?_, ?_⟩, k2, at2, e2, nh, no + 1, nl, cj, ?_, by omega, by omega, ?_⟩⟩
    · simp only [a1, Option.bind_some, b1, if_neg n3, hR, zg_ok ho, kt, ic, td, bnd, b3, kt2, A1, gz_1]
    · simp only [l5, if_neg n6, jnt, cn, Option.bind_some, if_neg n3, l6, c33, ix, bnd, b2, ib, tc, r1', e8, if_true, e33, l7, id, te, A1]
    · rw [zs_eq, zs_other (by decide), zs_ne (by omega), tk.1 t (by omega) (by omega)]
    · rw [zs_ne (by decide), r2 100 (by decide), am.2 9 (by decide)]
    · refine StR_L (StR_m (StR_tk b5 (fun x hx => by rw [zs_ne (by omega), zs_ne (by omega)])) ?_ (fun s _ => ?_)) (by rw [zL_ne (by decide)])
      · rw [zs_ne (by decide), r2 101 (by decide)]
      · rw [zs_ne (by decide), r2 100 (by decide)]
    · refine own_told T2 hno b4 (fun s hs => by rw [zs_eq, zs_other hs, zs_ne (by omega)]) (by rw [zs_eq, zs_same]) (by rw [zs_ne (by omega), zs_eq, zs_same]) (fun i hi => by rw [zs_ne (by omega), zs_eq, zs_other hi]) (fun a c1 c2 c3 => by rw [zs_ne (by omega), zs_ne (by omega)]) (by rw [zs_eq, zs_same]) (fun x x1 x2 x3 x4 => by rw [zs_ne x3, r2 x x4]) (by rw [zs_ne (by decide), r2 100 (by decide)]) (by rw [zs_ne (by decide), r2 100 (by decide)]) (fun d hd => by rw [zs_ne (by decide)]; exact r4 d (Nat.zero_le _) hd) (fun a c ha hc' => by rw [zs_ne (by decide)]; exact r5 _ (fun d _ d2 => by omega)) (by rw [zL_eq, vU_eq]) (fun i hi => by rw [zL_eq, vU_ne hi]) (zL_ne (by decide)) (zL_ne (by decide))
  · have d33 : J2 100 33 = nI b := by rw [b4.2.2.2 33 (by decide) (by decide)]; exact c33
    obtain ⟨J3, r1, r2, r3, r4, r5⟩ := own57 hb hno 6 0 (by decide) J2 fu (by omega) (by rw [b4.1 105 (by decide)]; exact T1.1.2.1.2.1) d33
    have r1' : f_X12_owning_L57 fu J2 (nI (6 * b + no)) 0 = some J3 := r1
    have e8 : J3 100 8 = nI f := by rw [r2 100 (by decide)]; exact b4.2.1
    have z3 : ¬ nI f = 0 := nI_ne0 (by have := b5.1; omega) (by have := b5.1; omega)
    refine ⟨0, K2, J3, sL M1 118 (6 * b + no) y, ?_, ?_, ⟨a5.tk.fr.trans b3.fr, (a6.fr.trans b4.fr).trans (fm r2 r5), FrL_put a7.fr (by unfold inBl; omega) (by decide)⟩, Or.inr (Or.inr ⟨rfl, f, pl, b3.2.1, b3.2.2, e8, by rw [r2 100 (by decide)]; exact b4.2.2.1, b5⟩)⟩
    · simp only [a1, Option.bind_some, b1, if_true, gz_0]
    · simp only [l5, if_neg n6, jnt, cn, Option.bind_some, if_neg n3, l6, c33, ix, bnd, b2, ib, tc, r1', e8, if_neg z3]
end
