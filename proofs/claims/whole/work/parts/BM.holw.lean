/-! a hollow told: the walk -/
section
variable {tp : Nat → Nat} {sz fu t b nh no nl cj k at' e : Nat} {I J : HI} {M : HL} {R : HR}
theorem hollow_S (h : StR tp sz I J M k at' e) (hk : k ≠ 0) (hT : TOLD I J M t b nh no nl cj) (hc : cj ≤ at') (hnh : nh < 8) (hR : R 6 2 = t) (ho : okLd t = true) (ht : t = 67 ∨ t = 80) (hf : 2000 < fu) : ∃ y K J' M', f_X7_readHollow fu I R = some (y, K) ∧ f_X12_hollowing fu J M = some (J', M') ∧ OutS tp sz t b e I J M y K J' M' := by
  have n3 : ¬ (1 : Int32) = 0 := by decide
  have hb := hT.1.2.2.2.2.2.2.2
  obtain ⟨K1, J1, M1, k1, at1, e1, a1, a2, a3, a4, a5, a6, a7⟩ := advS h hf hk
  have cn := cntG (fu := fu) h.2.2.1 a2 a3.2.2.1
  have hae1 := a3.2.1.2.1
  have hae := h.2.1.2.1
  have T1 := TOLD_s hT ht a5.tk a6 a7
  have b33 := hT.1.2.2.2.2.2.2.1
  have c33 := T1.1.2.2.2.2.2.2.1
  have q3 : inBk b 103 (8 * b + nh) := by unfold inBk; omega
  have q4 : inBk b 104 (8 * b + nh) := by unfold inBk; omega
  have q7 : inBl b 117 (8 * b + nh) := by unfold inBl; omega
  unfold f_X7_readHollow
  rcases tnew_R a3 T1.1 hR ho ht hf with ⟨K2, J2, M2, k2, at2, e2, x, y, b1, b2, b3, b4, b5, b6, b7, b8, b9⟩ | ⟨K2, J2, y, f, pl, b1, b2, b3, b4, b5⟩
  · have hae2 := b5.2.1.2.1
    have S2 : StR tp sz K2 J2 (sL M2 117 (8 * b + nh) y) k2 at2 e2 := StR_L b5 (by rw [zL_ne (by decide)])
    have fl2 : FrL b M (sL M2 117 (8 * b + nh) y) := FrL_put (a7.trans b9).fr q7 (by decide)
    have tk2 := a5.tk.trans b7
    have am2 := a6.trans b8
    rcases tw_R S2 hf 1 (by decide) with ⟨K3, J3, M3, k3, at3, e3, c1, c2, c3, c4, c5, c6, c7⟩ | ⟨K3, J3, f, pl, c1, c2, c3, c4, c5⟩
    · rw [oL1] at c2
      have c1' : f_X7_takeWord fu K2 1 = some (1, K3) := c1
      have hae3 := c3.2.1.2.1
      have tk3 := tk2.trans c5
      have am3 := am2.trans c6
      rcases tn_R c3 hf 1 999 (by decide) (by decide) with ⟨K4, J4, M4, k4, at4, e4, v, d1, d2, d3, d4, d5, d6, d7, d8, d9⟩ | ⟨K4, J4, v, f, pl, d1, d2, d3, d4, d5⟩
      · have d1' : f_X7_takeNumber fu K3 1 999 = some (1, K4) := d1
        have d2' : f_X12_number fu J3 M3 1 999 = some (nI v, J4, M4) := d2
        have hae4 := d5.2.1.2.1
        have tk4 := tk3.trans d7
        have am4 := am3.trans d8
        have S4 : StR tp sz K4 (sI J4 103 (8 * b + nh) (nI v)) M4 k4 at4 e4 := StR_m d5 (zs_ne (by decide)) (fun s _ => by rw [zs_ne (by decide)])
        have fm4 : FrM b J (sI J4 103 (8 * b + nh) (nI v)) := FrM_put am4.fr q3 (by decide)
        have fl4 : FrL b M M4 := (fl2.trans c7.fr).trans d9.fr
        rcases tw_R S4 hf 2 (by decide) with ⟨K5, J5, M5, k5, at5, e5, g1, g2, g3, g4, g5, g6, g7⟩ | ⟨K5, J5, f, pl, g1, g2, g3, g4, g5⟩
        · rw [oL2] at g2
          have g1' : f_X7_takeWord fu K4 2 = some (1, K5) := g1
          have hae5 := g3.2.1.2.1
          rcases tn_R g3 hf 0 99 (by decide) (by decide) with ⟨K6, J6, M6, k6, at6, e6, p, h1, h2, h3, h4, h5, h6, h7, h8, h9⟩ | ⟨K6, J6, p, f, pl, h1, h2, h3, h4, h5⟩
          · have h1' : f_X7_takeNumber fu K5 0 99 = some (1, K6) := h1
            have h2' : f_X12_number fu J5 M5 0 99 = some (nI p, J6, M6) := h2
            have tk6 := (tk4.trans g5).trans h7
            have ad6 := g6.trans h8
            have j6x : ∀ x, x ≠ 100 → x ≠ 103 → J6 x = J x := fun x x1 x2 => by rw [ad6.1 x x1, zs_ne x2, am4.1 x x1]
            have j6s : ∀ s, s ≤ 2 ∨ (7 ≤ s ∧ s ≠ 12) → J6 100 s = J 100 s := fun s hs => by rw [ad6.2 s hs, zs_ne (by decide), am4.2 s hs]
            have j63 : J6 103 = upd (J 103) (8 * b + nh) (nI v) := by rw [ad6.1 103 (by decide), zs_eq, am4.1 103 (by decide)]
            have on6 : OnL (sL M2 117 (8 * b + nh) y) M6 := ((c7.trans d9).trans g7).trans h9
            have m2x : ∀ x, x ≠ 100 → M2 x = M x := (a7.trans b9).1
            have eq := hol_eq (fu := fu) b33 hb hT.1.1.2.1 hnh cn c33 T1.1.1.2.1 b2 c2 d2' g2 h2' (by rw [j6s 33 (by decide)]; exact b33) (by rw [j6x 102 (by decide) (by decide)]; exact hT.1.1.2.1)
            rw [if_pos h5.2.2.1] at eq
            have kt : K6 t 1 = nI nh := by rw [tk6.1 t (by omega) (by omega)]; exact hT.1.1.1
            have ic : ∀ q : Option (Int32 × HI), inb 8 (nI nh) q = q := fun q => by rw [inb_ok (by omega)]
            have td : (nI nh).toNatClampNeg = nh := nI_clamp (by omega)
            have kt1 : (sI K6 (t + 1) nh x) t 1 = nI nh := by rw [zs_ne (by omega)]; exact kt
            have kt2 : (sI (sI K6 (t + 1) nh x) (t + 4) nh (nI v)) t 1 = nI nh := by rw [zs_ne (by omega)]; exact kt1
            have kt3 : (sI (sI (sI K6 (t + 1) nh x) (t + 4) nh (nI v)) (t + 5) nh (nI p)) t 1 = nI nh := by rw [zs_ne (by omega)]; exact kt2
            have kp : (sI (sI K6 (t + 1) nh x) (t + 4) nh (nI v)) 6 3 = nI p := by rw [zs_ne (by omega), zs_ne (by omega)]; exact h3
            have A1 : nI nh + 1 = nI (nh + 1) := nI_1 nh
            refine ⟨1, sI (sI (sI (sI K6 (t + 1) nh x) (t + 4) nh (nI v)) (t + 5) nh (nI p)) t 1 (nI (nh + 1)), _, _, ?_, eq, ⟨FrC_put (FrC_put (FrC_put (FrC_put tk6.fr ⟨by omega, by omega⟩) ⟨by omega, by omega⟩) ⟨by omega, by omega⟩) ⟨by omega, by omega⟩, FrM_put (FrM_put (fm4.trans ad6.fr) q4 (by decide)) (by unfold inBk; omega) (by decide), (fl4.trans g7.fr).trans h9.fr⟩, Or.inl ⟨rfl, ⟨?_, ?_⟩, k6, at6, e6, nh + 1, no, nl, cj, ?_, by omega, by omega, ?_⟩⟩
            · simp only [a1, Option.bind_some, b1, if_neg n3, bnd, b3, c1', d1', d3, g1', h1', hR, zg_ok ho, kt, ic, td, kt1, kt2, kt3, kp, A1, gz_1]
            · rw [zs_eq, zs_other (by decide), zs_ne (by omega), zs_ne (by omega), zs_ne (by omega), tk6.1 t (by omega) (by omega)]
            · rw [zs_ne (by decide), zs_ne (by decide), j6s 9 (by decide)]
            · exact StR_m (StR_m (StR_tk h5 (fun x hx => by rw [zs_ne (by omega), zs_ne (by omega), zs_ne (by omega), zs_ne (by omega)])) (zs_ne (by decide)) (fun s _ => by rw [zs_ne (by decide)])) (zs_ne (by decide)) (fun s _ => by rw [zs_ne (by decide)])
            · refine hol_told hT hnh b4 d4.2 h4.2 (fun s hs => ?_) (by rw [zs_eq, zs_same]) ?_ (fun i hi => ?_) ?_ (fun i hi => ?_) ?_ (fun i hi => ?_) (fun a w1 w2 w3 w4 => ?_) (by rw [zs_eq, zs_same]) ?_ (fun i hi => ?_) ?_ (fun i hi => ?_) (fun x w1 w2 => ?_) ?_ ?_ ?_ (fun i hi => ?_) ?_ ?_
              · rw [zs_eq, zs_other hs, zs_ne (by omega), zs_ne (by omega), zs_ne (by omega), tk6.1 t (by omega) (by omega)]
              · rw [zs_ne (by omega), zs_ne (by omega), zs_ne (by omega), zs_eq, zs_same]
              · rw [zs_ne (by omega), zs_ne (by omega), zs_ne (by omega), zs_eq, zs_other hi, tk6.1 (t + 1) (by omega) (by omega)]
              · rw [zs_ne (by omega), zs_ne (by omega), zs_eq, zs_same]
              · rw [zs_ne (by omega), zs_ne (by omega), zs_eq, zs_other hi, zs_ne (by omega), tk6.1 (t + 4) (by omega) (by omega)]
              · rw [zs_ne (by omega), zs_eq, zs_same]
              · rw [zs_ne (by omega), zs_eq, zs_other hi, zs_ne (by omega), zs_ne (by omega), tk6.1 (t + 5) (by omega) (by omega)]
              · rw [zs_ne (by omega), zs_ne (by omega), zs_ne (by omega), zs_ne (by omega), tk6.1 (t + a) (by omega) (by omega)]
              · rw [zs_ne (by decide), zs_ne (by decide), j63, zs_same]
              · rw [zs_ne (by decide), zs_ne (by decide), j63, zs_other hi]
              · rw [zs_ne (by decide), zs_eq, zs_same]
              · rw [zs_ne (by decide), zs_eq, zs_other hi, j6x 104 (by decide) (by decide)]
              · rw [zs_ne (by omega), zs_ne (by omega), j6x x (by omega) (by omega)]
              · rw [zs_ne (by decide), zs_ne (by decide), j6s 32 (by decide)]
              · rw [zs_ne (by decide), zs_ne (by decide), j6s 33 (by decide)]
              · rw [on6.1 117 (by decide), zL_eq, vU_eq]
              · rw [on6.1 117 (by decide), zL_eq, vU_ne hi, m2x 117 (by decide)]
              · rw [on6.1 118 (by decide), zL_ne (by decide), m2x 118 (by decide)]
              · rw [on6.1 119 (by decide), zL_ne (by decide), m2x 119 (by decide)]
          · have h1' : f_X7_takeNumber fu K5 0 99 = some (0, K6) := h1
            have h2' : f_X12_number fu J5 M5 0 99 = some (p, J6, M5) := h2
            have fm6 := (fm4.trans g6.fr).trans h4.fr
            have z3 : ¬ J6 100 8 = 0 := by rw [h4.2.1]; exact nI_ne0 (by have := h5.1; omega) (by have := h5.1; omega)
            have eq := hol_eq (fu := fu) b33 hb hT.1.1.2.1 hnh cn c33 T1.1.1.2.1 b2 c2 d2' g2 h2' (by rw [fm6.2 33 (by omega)]; exact b33) (by rw [h4.1 102 (by decide), g6.1 102 (by decide), zs_ne (by decide), am4.1 102 (by decide)]; exact hT.1.1.2.1)
            rw [if_neg z3] at eq
            refine ⟨0, K6, _, _, ?_, eq, ⟨(tk4.trans g5).fr.trans h3.fr, FrM_put fm6 q4 (by decide), fl4.trans g7.fr⟩, Or.inr (Or.inr ⟨rfl, f, pl, h3.2.1, h3.2.2, by rw [zs_ne (by decide)]; exact h4.2.1, by rw [zs_ne (by decide)]; exact h4.2.2.1, h5⟩)⟩
            simp only [a1, Option.bind_some, b1, if_neg n3, bnd, b3, c1', d1', d3, g1', h1', if_true, gz_0]
        · rw [oL2] at g2
          have g1' : f_X7_takeWord fu K4 2 = some (0, K5) := g1
          have fm6 := fm4.trans g4.fr
          have z3 : ¬ J5 100 8 = 0 := by rw [g4.2.1]; exact nI_ne0 (by have := g5.1; omega) (by have := g5.1; omega)
          have eq := hol_eq (fu := fu) b33 hb hT.1.1.2.1 hnh cn c33 T1.1.1.2.1 b2 c2 d2' g2 (number_F g5.1 g4.2.1) (by rw [fm6.2 33 (by omega)]; exact b33) (by rw [g4.1 102 (by decide), zs_ne (by decide), am4.1 102 (by decide)]; exact hT.1.1.2.1)
          rw [if_neg z3] at eq
          refine ⟨0, K5, _, _, ?_, eq, ⟨tk4.fr.trans g3.fr, FrM_put fm6 q4 (by decide), fl4⟩, Or.inr (Or.inr ⟨rfl, f, pl, g3.2.1, g3.2.2, by rw [zs_ne (by decide)]; exact g4.2.1, by rw [zs_ne (by decide)]; exact g4.2.2.1, g5⟩)⟩
          simp only [a1, Option.bind_some, b1, if_neg n3, bnd, b3, c1', d1', d3, g1', if_true, gz_0]
      · have d1' : f_X7_takeNumber fu K3 1 999 = some (0, K4) := d1
        have d2' : f_X12_number fu J3 M3 1 999 = some (v, J4, M3) := d2
        have fm6 : FrM b J (sI J4 103 (8 * b + nh) v) := FrM_put (am3.fr.trans d4.fr) q3 (by decide)
        have w8 : (sI J4 103 (8 * b + nh) v) 100 8 = nI f := by rw [zs_ne (by decide)]; exact d4.2.1
        have z3 : ¬ (sI J4 103 (8 * b + nh) v) 100 8 = 0 := by rw [w8]; exact nI_ne0 (by have := d5.1; omega) (by have := d5.1; omega)
        have eq := hol_eq (fu := fu) b33 hb hT.1.1.2.1 hnh cn c33 T1.1.1.2.1 b2 c2 d2' (mustW_F d5.1 w8) (number_F d5.1 w8) (by rw [fm6.2 33 (by omega)]; exact b33) (by rw [zs_ne (by decide), d4.1 102 (by decide), am3.1 102 (by decide)]; exact hT.1.1.2.1)
        rw [if_neg z3] at eq
        refine ⟨0, K4, _, _, ?_, eq, ⟨tk3.fr.trans d3.fr, FrM_put fm6 q4 (by decide), fl2.trans c7.fr⟩, Or.inr (Or.inr ⟨rfl, f, pl, d3.2.1, d3.2.2, by rw [zs_ne (by decide)]; exact w8, by rw [zs_ne (by decide), zs_ne (by decide)]; exact d4.2.2.1, d5⟩)⟩
        simp only [a1, Option.bind_some, b1, if_neg n3, bnd, b3, c1', d1', if_true, gz_0]
    · rw [oL1] at c2
      have c1' : f_X7_takeWord fu K2 1 = some (0, K3) := c1
      have fm6 : FrM b J (sI J3 103 (8 * b + nh) 0) := FrM_put (am2.fr.trans c4.fr) q3 (by decide)
      have w8 : (sI J3 103 (8 * b + nh) 0) 100 8 = nI f := by rw [zs_ne (by decide)]; exact c4.2.1
      have z3 : ¬ (sI J3 103 (8 * b + nh) 0) 100 8 = 0 := by rw [w8]; exact nI_ne0 (by have := c5.1; omega) (by have := c5.1; omega)
      have eq := hol_eq (fu := fu) b33 hb hT.1.1.2.1 hnh cn c33 T1.1.1.2.1 b2 c2 (number_F c5.1 c4.2.1) (mustW_F c5.1 w8) (number_F c5.1 w8) (by rw [fm6.2 33 (by omega)]; exact b33) (by rw [zs_ne (by decide), c4.1 102 (by decide), am2.1 102 (by decide)]; exact hT.1.1.2.1)
      rw [if_neg z3] at eq
      refine ⟨0, K3, _, _, ?_, eq, ⟨tk2.fr.trans c3.fr, FrM_put fm6 q4 (by decide), fl2⟩, Or.inr (Or.inr ⟨rfl, f, pl, c3.2.1, c3.2.2, by rw [zs_ne (by decide)]; exact w8, by rw [zs_ne (by decide), zs_ne (by decide)]; exact c4.2.2.1, c5⟩)⟩
      simp only [a1, Option.bind_some, b1, if_neg n3, bnd, b3, c1', if_true, gz_0]
  · have fm6 : FrM b J (sI J2 103 (8 * b + nh) 0) := FrM_put (a6.fr.trans b4.fr) q3 (by decide)
    have w8 : (sI J2 103 (8 * b + nh) 0) 100 8 = nI f := by rw [zs_ne (by decide)]; exact b4.2.1
    have z3 : ¬ (sI J2 103 (8 * b + nh) 0) 100 8 = 0 := by rw [w8]; exact nI_ne0 (by have := b5.1; omega) (by have := b5.1; omega)
    have eq := hol_eq (fu := fu) b33 hb hT.1.1.2.1 hnh cn c33 T1.1.1.2.1 b2 (mustW_F b5.1 b4.2.1) (number_F b5.1 b4.2.1) (mustW_F b5.1 w8) (number_F b5.1 w8) (by rw [fm6.2 33 (by omega)]; exact b33) (by rw [zs_ne (by decide), b4.1 102 (by decide), a6.1 102 (by decide)]; exact hT.1.1.2.1)
    rw [if_neg z3] at eq
    refine ⟨0, K2, _, _, ?_, eq, ⟨a5.tk.fr.trans b3.fr, FrM_put fm6 q4 (by decide), FrL_put a7.fr q7 (by decide)⟩, Or.inr (Or.inr ⟨rfl, f, pl, b3.2.1, b3.2.2, by rw [zs_ne (by decide)]; exact w8, by rw [zs_ne (by decide), zs_ne (by decide)]; exact b4.2.2.1, b5⟩)⟩
    simp only [a1, Option.bind_some, b1, if_true, gz_0]
end
