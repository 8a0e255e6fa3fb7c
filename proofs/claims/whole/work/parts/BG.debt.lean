/-! a debt -/
section
variable {tp : Nat → Nat} {sz fu t b nh no nl k at' e : Nat} {I J : HI} {M : HL} {R : HR}
theorem NMr_m {J' : HI} {M' : HL} (h : NMr I J M t b nh no nl) (hJ : AdM J J') (hM : ∀ x, x = 117 ∨ x = 118 ∨ x = 119 → M' x = M x) : NMr I J' M' t b nh no nl := by
  obtain ⟨⟨a1, a2, a3⟩, ⟨b1, b2, b3⟩, ⟨c1, c2, c3⟩, d1, d2, d3, d4, d5⟩ := h
  exact ⟨⟨a1, by rw [hJ.1 102 (by decide)]; exact a2, a3⟩, ⟨b1, by rw [hJ.1 105 (by decide)]; exact b2, b3⟩, ⟨c1, by rw [hJ.1 106 (by decide)]; exact c2, c3⟩, fun i hi => by rw [hM 117 (by omega)]; exact d1 i hi, fun i hi => by rw [hM 118 (by omega)]; exact d2 i hi, fun i hi => by rw [hM 119 (by omega)]; exact d3 i hi, by rw [hJ.2 33 (by omega)]; exact d4, d5⟩
theorem NMr_s {I' J' : HI} {M' : HL} (h : NMr I J M t b nh no nl) (ht : t = 67 ∨ t = 80) (hI : TkC I I') (hJ : AdM J J') (hM : OnL M M') : NMr I' J' M' t b nh no nl := NMr_m (NMr_c h (fun x x1 x2 => hI.1 x (by omega) (by omega))) hJ (fun x hx => hM.1 x (by omega))
theorem AdM_tr {J' J'' : HI} (h : AdM J J') (h' : AdM J' J'') : AdM J J'' := ⟨fun x hx => (h'.1 x hx).trans (h.1 x hx), fun s hs => (h'.2 s hs).trans (h.2 s hs)⟩
theorem debt_R (h : StR tp sz I J M k at' e) (hk : k ≠ 0) (hN : NMr I J M t b nh no nl) (hR : R 6 2 = t) (ho : okLd t = true) (ht : t = 67 ∨ t = 80) (hf : 2000 < fu) : (∃ K J' M' k' at2 e' a c v, f_X7_readDebt fu I R = some (1, K) ∧ f_X12_owing fu J M = some (J', M') ∧ a < no ∧ c < no ∧ a ≠ c ∧ v ≤ 999 ∧ StR tp sz K J' M' k' at2 e' ∧ e ≤ at2 ∧ OnL M M' ∧ K (t + 9) (6 * a + c) = nI v ∧ J' 110 (36 * b + 6 * a + c) = nI v ∧ (∀ x, x ≠ 6 → x ≠ 7 → x ≠ t + 9 → K x = I x) ∧ (∀ s, s ≠ 6 * a + c → K (t + 9) s = I (t + 9) s) ∧ (∀ x, x ≠ 100 → x ≠ 110 → J' x = J x) ∧ (∀ i, i ≠ 36 * b + 6 * a + c → J' 110 i = J 110 i) ∧ ∀ s, s ≤ 2 ∨ (7 ≤ s ∧ s ≠ 12) → J' 100 s = J 100 s) ∨ (∃ K J' M' f pl, f_X7_readDebt fu I R = some (0, K) ∧ f_X12_owing fu J M = some (J', M') ∧ OnL M M' ∧ BadC I K f pl ∧ BaM J J' f pl ∧ okF f pl) := by
  have n3 : ¬ (1 : Int32) = 0 := by decide
  have g6 := hN.2.1.2.2
  obtain ⟨K1, J1, M1, k1, at1, e1, a1, a2, a3, a4, a5, a6, a7⟩ := advS h hf hk
  have cn := cntG (fu := fu) h.2.2.1 a2 a3.2.2.1
  have hae1 := a3.2.1.2.1
  have hae := h.2.1.2.1
  have hN1 := NMr_s hN ht a5.tk a6 a7
  unfold f_X7_readDebt f_X12_owing
  rcases tob_R a3 hN1 hR ho hf (own1_h g6) with ⟨K2, J2, M2, k2, at2, e2, a, b1, b2, b3, b4, b5, b6, b7, b8, b9, b10⟩ | ⟨K2, J2, f, pl, b1, b2, b3, b4, b5⟩
  · have hae2 := b6.2.1.2.1
    have hN2 := NMr_s hN1 ht b8 b9 b10
    rcases tob_R b6 hN2 hR ho hf (own2_h g6 b3) with ⟨K3, J3, M3, k3, at3, e3, c, c1, c2, c3, c4, c5, c6, c7, c8, c9, c10⟩ | ⟨K3, J3, f, pl, c1, c2, c3, c4, c5⟩
    · have hae3 := c6.2.1.2.1
      have hN3 := NMr_s hN2 ht c8 c9 c10
      rcases tn_R c6 hf 0 999 (by decide) (by decide) with ⟨K4, J4, M4, k4, at4, e4, v, d1, d2, d3, d4, d5, d6, d7, d8, d9⟩ | ⟨K4, J4, v, f, pl, d1, d2, d3, d4, d5⟩
      · have d1' : f_X7_takeNumber fu K3 0 999 = some (1, K4) := d1
        have d2' : f_X12_number fu J3 M3 0 999 = some (nI v, J4, M4) := d2
        have tk := ((a5.tk.trans b8).trans c8).trans d7
        have am := AdM_tr (AdM_tr (AdM_tr a6 b9) c9) d8
        have j33 : J4 100 33 = nI b := by rw [am.2 33 (by omega)]; exact hN.2.2.2.2.2.2.1
        have hb := hN.2.2.2.2.2.2.2
        have ix : nI a * 6 + nI c = nI (6 * a + c) := by rw [zq6, pk_mul, nI_add, Nat.mul_comm]
        have iy : 6 * (6 * nI b + nI a) + nI c = nI (36 * b + 6 * a + c) := by rw [zq6, pk_mul, nI_add, pk_mul, nI_add]; congr 1; omega
        have ib : ∀ q : Option (Int32 × HI), inb 36 (nI (6 * a + c)) q = q := fun q => by rw [inb_ok (by omega)]
        have ic : ∀ q : Option (HI × HL), inb 72 (nI (36 * b + 6 * a + c)) q = q := fun q => by rw [inb_ok (by omega)]
        have td : (nI (6 * a + c)).toNatClampNeg = 6 * a + c := nI_clamp (by omega)
        have te : (nI (36 * b + 6 * a + c)).toNatClampNeg = 36 * b + 6 * a + c := nI_clamp (by omega)
        left
        refine ⟨sI K4 (t + 9) (6 * a + c) (nI v), sI J4 110 (36 * b + 6 * a + c) (nI v), M4, k4, at4, e4, a, c, v, ?_, ?_, b3, c3, fun w => c4 (by rw [w]), d4.2, StR_m (StR_tk d5 (fun x hx => zs_ne (by omega))) (zs_ne (by decide)) (fun x _ => by rw [zs_ne (by decide)]), by omega, ((a7.trans b10).trans c10).trans d9, by rw [zs_eq, zs_same], by rw [zs_eq, zs_same], fun x x1 x2 x3 => by rw [zs_ne x3]; exact tk.1 x x1 x2, fun s hs => by rw [zs_eq, zs_other hs, tk.1 (t + 9) (by omega) (by omega)], fun x x1 x2 => by rw [zs_ne x2, am.1 x x1], fun i hi => by rw [zs_eq, zs_other hi, am.1 110 (by decide)], fun s hs => by rw [zs_ne (by decide), am.2 s hs]⟩
        · simp only [a1, Option.bind_some, b1, if_neg n3, bnd, b5, c1, c5, d1', hR, zg_ok ho, ix, ib, td, d3, gz_1]
        · simp only [cn, Option.bind_some, if_neg n3, b2, c2, d2', d5.2.2.1, if_true, j33, iy, ic, te, bnd]
      · have d1' : f_X7_takeNumber fu K3 0 999 = some (0, K4) := d1
        have d2' : f_X12_number fu J3 M3 0 999 = some (v, J4, M3) := d2
        have z3 : ¬ J4 100 8 = 0 := by rw [d4.2.1]; exact nI_ne0 (by have := d5.1; omega) (by have := d5.1; omega)
        right
        refine ⟨K4, J4, M3, f, pl, ?_, ?_, (a7.trans b10).trans c10, BadC.tk ((a5.tk.trans b8).trans c8) d3, BaM.of (AdM_tr (AdM_tr a6 b9) c9) d4, d5⟩
        · simp only [a1, Option.bind_some, b1, if_neg n3, bnd, b5, c1, d1', if_true, gz_0]
        · simp only [cn, Option.bind_some, if_neg n3, b2, c2, d2', if_neg z3]
    · have z3 : ¬ J3 100 8 = 0 := by rw [c4.2.1]; exact nI_ne0 (by have := c5.1; omega) (by have := c5.1; omega)
      have nf := number_F (fu := fu) (M := M2) (x := 0) (y := 999) c5.1 c4.2.1
      right
      refine ⟨K3, J3, M2, f, pl, ?_, ?_, a7.trans b10, BadC.tk (a5.tk.trans b8) c3, BaM.of (AdM_tr a6 b9) c4, c5⟩
      · simp only [a1, Option.bind_some, b1, if_neg n3, bnd, b5, c1, if_true, gz_0]
      · simp only [cn, Option.bind_some, if_neg n3, b2, c2, nf, if_neg z3]
  · have z3 : ¬ J2 100 8 = 0 := by rw [b4.2.1]; exact nI_ne0 (by have := b5.1; omega) (by have := b5.1; omega)
    have nf := number_F (fu := fu) (M := M1) (x := 0) (y := 999) b5.1 b4.2.1
    have ax := fun p2 => askX (fu := fu) (M := M1) (p1 := 1) (p2 := p2) b5.1 b4.2.1
    right
    refine ⟨K2, J2, M1, f, pl, ?_, ?_, a7, BadC.tk a5.tk b3, BaM.of a6 b4, b5⟩
    · simp only [a1, Option.bind_some, b1, if_true, gz_0]
    · simp only [cn, Option.bind_some, if_neg n3, b2, ax, nf, if_neg z3]
end
