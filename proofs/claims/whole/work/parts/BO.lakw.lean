/-! a lake told: the walk -/
section
variable {tp : Nat → Nat} {sz fu t b nh no nl cj k at' e : Nat} {I J : HI} {M : HL} {R : HR}
theorem lak_fail {J1 J2 J3 J4 J5 : HI} {M1 M2 M3 M4 M5 : HL} {y : Int64} {v : Int32} {f : Nat} (h33 : J 100 33 = nI b) (hb : b < 2) (h106 : J 106 b = nI nl) (hnl : nl < 8) (cn : f_X12_counts fu J M 0 = some (1, J1, M1)) (g33 : J1 100 33 = nI b) (g106 : J1 106 b = nI nl) (s1 : f_X12_fresh fu J1 M1 = some (y, J2, M2)) (s2 : f_X12_must_ fu J2 (sL M2 119 (8 * b + nl) y) 6840691 = some (J3, M3)) (s3 : f_X12_number fu J3 M3 1 999 = some (v, J4, M4)) (s4 : f_X12_must_ fu (sI J4 107 (8 * b + nl) v) M4 26990 = some (J5, M5)) (s5 : J5 107 (8 * b + nl) = v) (hL : LKr I J5 t b nh nl) (hf : 100 < fu) (h8 : J5 100 8 = nI f) (hff : 1 ≤ f ∧ f ≤ 6) : f_X12_laking fu J M = some (sI (sI J5 108 (8 * b + nl) 0) 109 (8 * b + nl) 0, M5) := by
  obtain ⟨B, _, w1, _⟩ := wo_R hL hf v
  have w8 : (sI J5 108 (8 * b + nl) 0) 100 8 = nI f := by rw [zs_ne (by decide)]; exact h8
  have z3 : ¬ (sI J5 108 (8 * b + nl) 0) 100 8 = 0 := by rw [w8]; exact nI_ne0 (by omega) (by omega)
  have eq := lak_eq (fu := fu) h33 hb h106 hnl cn g33 g106 s1 s2 s3 s4 s5 w1 (askX hff h8) (mustW_F hff w8) (askX hff w8) (by rw [zs_ne (by decide)]; exact hL.2.2.1.1) (by rw [zs_ne (by decide)]; exact hL.2.1.2.1)
  rw [if_neg z3] at eq
  exact eq
theorem lak_told2 {x : Int32} {y : Int64} {v q o z : Nat} {K8 J8 : HI} {M8 : HL} (hT : TOLD I J M t b nh no nl cj) (ht : t = 67 ∨ t = 80) (hnl : nl < 8) (hx : NR x y) (hv : 1 ≤ v ∧ v ≤ 999) (hq : q < nh) (hoo : o < no) (hz : rmF (I (t + 4)) (I (t + 6)) (I (t + 7)) q nl = nI z) (hz2 : z ≤ 999 ∧ v ≤ z) (tk : ∀ x, x ≠ 6 → x ≠ 7 → K8 x = I x) (j8x : ∀ x, x ≠ 100 → x ≠ 107 → x ≠ 108 → J8 x = J x) (j8s : ∀ s, s ≤ 2 ∨ (7 ≤ s ∧ s ≠ 12) → J8 100 s = J 100 s) (j87 : J8 107 = upd (J 107) (8 * b + nl) (nI v)) (j88 : J8 108 = upd (J 108) (8 * b + nl) (nI q)) (on8 : ∀ x, x ≠ 100 → M8 x = (sL M 119 (8 * b + nl) y) x) : TOLD (sI (sI (sI (sI (sI K8 (t + 3) nl x) (t + 6) nl (nI v)) (t + 7) nl (nI q)) (t + 8) nl (nI o)) t 3 (nI (nl + 1))) (sI (sI J8 109 (8 * b + nl) (nI o)) 106 b (nI (nl + 1))) M8 t b nh no (nl + 1) cj := by
  refine lak_told hT hnl hx hv hq hoo hz hz2 (fun s hs => ?_) (by rw [zs_eq, zs_same]) ?_ (fun i hi => ?_) ?_ (fun i hi => ?_) ?_ (fun i hi => ?_) ?_ (fun i hi => ?_) (fun a w1 w2 w3 w4 => ?_) (by rw [zs_eq, zs_same]) ?_ (fun i hi => ?_) ?_ (fun i hi => ?_) ?_ (fun i hi => ?_) (fun x w1 w2 w3 => ?_) ?_ ?_ ?_ (fun i hi => ?_) ?_ ?_
  · rw [zs_eq, zs_other hs, zs_ne (by omega), zs_ne (by omega), zs_ne (by omega), zs_ne (by omega), tk t (by omega) (by omega)]
  · rw [zs_ne (by omega), zs_ne (by omega), zs_ne (by omega), zs_ne (by omega), zs_eq, zs_same]
  · rw [zs_ne (by omega), zs_ne (by omega), zs_ne (by omega), zs_ne (by omega), zs_eq, zs_other hi, tk (t + 3) (by omega) (by omega)]
  · rw [zs_ne (by omega), zs_ne (by omega), zs_ne (by omega), zs_eq, zs_same]
  · rw [zs_ne (by omega), zs_ne (by omega), zs_ne (by omega), zs_eq, zs_other hi, zs_ne (by omega), tk (t + 6) (by omega) (by omega)]
  · rw [zs_ne (by omega), zs_ne (by omega), zs_eq, zs_same]
  · rw [zs_ne (by omega), zs_ne (by omega), zs_eq, zs_other hi, zs_ne (by omega), zs_ne (by omega), tk (t + 7) (by omega) (by omega)]
  · rw [zs_ne (by omega), zs_eq, zs_same]
  · rw [zs_ne (by omega), zs_eq, zs_other hi, zs_ne (by omega), zs_ne (by omega), zs_ne (by omega), tk (t + 8) (by omega) (by omega)]
  · rw [zs_ne (by omega), zs_ne (by omega), zs_ne (by omega), zs_ne (by omega), zs_ne (by omega), tk (t + a) (by omega) (by omega)]
  · rw [zs_ne (by decide), zs_ne (by decide), j87, zs_same]
  · rw [zs_ne (by decide), zs_ne (by decide), j87, zs_other hi]
  · rw [zs_ne (by decide), zs_ne (by decide), j88, zs_same]
  · rw [zs_ne (by decide), zs_ne (by decide), j88, zs_other hi]
  · rw [zs_ne (by decide), zs_eq, zs_same]
  · rw [zs_ne (by decide), zs_eq, zs_other hi, j8x 109 (by decide) (by decide) (by decide)]
  · rw [zs_ne (by omega), zs_ne (by omega), j8x x (by omega) (by omega) (by omega)]
  · rw [zs_ne (by decide), zs_ne (by decide), j8s 32 (by decide)]
  · rw [zs_ne (by decide), zs_ne (by decide), j8s 33 (by decide)]
  · rw [on8 119 (by decide), zL_eq, vU_eq]
  · rw [on8 119 (by decide), zL_eq, vU_ne hi]
  · rw [on8 117 (by decide), zL_ne (by decide)]
  · rw [on8 118 (by decide), zL_ne (by decide)]
set_option maxHeartbeats 8000000 in
theorem lake_S (h : StR tp sz I J M k at' e) (hk : k ≠ 0) (hT : TOLD I J M t b nh no nl cj) (hc : cj ≤ at') (hnl : nl < 8) (hR : R 6 2 = t) (ho : okLd t = true) (ht : t = 67 ∨ t = 80) (hf : 2000 < fu) : ∃ y K J' M', f_X7_readLake fu I R = some (y, K) ∧ f_X12_laking fu J M = some (J', M') ∧ OutS tp sz t b e I J M y K J' M' := by
  have n3 : ¬ (1 : Int32) = 0 := by decide
  have hb := hT.1.2.2.2.2.2.2.2
  obtain ⟨K1, J1, M1, k1, at1, e1, a1, a2, a3, a4, a5, a6, a7⟩ := advS h hf hk
  have cn := cntG (fu := fu) h.2.2.1 a2 a3.2.2.1
  have hae1 := a3.2.1.2.1
  have hae := h.2.1.2.1
  have T1 := TOLD_s hT ht a5.tk a6 a7
  have b33 := hT.1.2.2.2.2.2.2.1
  have c33 := T1.1.2.2.2.2.2.2.1
  have g6 := hT.1.2.1.2.2
  have r106 := hT.1.2.2.1.2.1
  have q7 : inBk b 107 (8 * b + nl) := by unfold inBk; omega
  have q8 : inBk b 108 (8 * b + nl) := by unfold inBk; omega
  have q9 : inBk b 109 (8 * b + nl) := by unfold inBk; omega
  have ql : inBl b 119 (8 * b + nl) := by unfold inBl; omega
  have nmr : ∀ {K' J' : HI} {M' : HL}, TkC I K' → (∀ x, x ≠ 100 → x ≠ 107 → x ≠ 108 → J' x = J x) → J' 100 33 = J 100 33 → OnL (sL M 119 (8 * b + nl) (M' 119 (8 * b + nl))) M' → NMr K' J' M' t b nh no nl := fun {K' J' M'} u1 u2 u3 u4 => NMr_w (NMr_g hT.1 (fun s _ => by rw [u1.1 t (by omega) (by omega)]) (fun i _ => by rw [u1.1 (t + 1) (by omega) (by omega)]) (fun i _ => by rw [u1.1 (t + 2) (by omega) (by omega)]) (fun i _ => by rw [u1.1 (t + 3) (by omega) (by omega)])) ⟨by rw [u2 102 (by decide) (by decide) (by decide)], by rw [u2 105 (by decide) (by decide) (by decide)], by rw [u2 106 (by decide) (by decide) (by decide)], u3⟩ (fun i _ => by rw [u4.1 117 (by decide), zL_ne (by decide)]) (fun i _ => by rw [u4.1 118 (by decide), zL_ne (by decide)]) (fun i hi => by rw [u4.1 119 (by decide), zL_eq, vU_ne (by omega)])
  have lkr : ∀ {J' : HI}, (∀ x, x ≠ 100 → x ≠ 107 → J' x = J x) → J' 100 33 = J 100 33 → (∀ i, i ≠ 8 * b + nl → J' 107 i = J 107 i) → LKr I J' t b nh nl := fun {J'} u2 u3 u4 => LKr_w hT.2.1 ⟨by rw [u2 102 (by decide) (by decide)], by rw [u2 106 (by decide) (by decide)], u3⟩ (fun i _ => by rw [u2 103 (by decide) (by decide)]) (fun i hi => ⟨u4 _ (by omega), by rw [u2 108 (by decide) (by decide)]⟩)
  unfold f_X7_readLake
  rcases tnew_R a3 T1.1 hR ho ht hf with ⟨K2, J2, M2, k2, at2, e2, x, y, b1, b2, b3, b4, b5, b6, b7, b8, b9⟩ | ⟨K2, J2, y, f, pl, b1, b2, b3, b4, b5⟩
  · have hae2 := b5.2.1.2.1
    have S2 : StR tp sz K2 J2 (sL M2 119 (8 * b + nl) y) k2 at2 e2 := StR_L b5 (by rw [zL_ne (by decide)])
    have fl2 : FrL b M (sL M2 119 (8 * b + nl) y) := FrL_put (a7.trans b9).fr ql (by decide)
    have tk2 := a5.tk.trans b7
    have am2 := a6.trans b8
    have m2x : ∀ x, x ≠ 100 → M2 x = M x := (a7.trans b9).1
    have onl : ∀ {M' : HL}, OnL (sL M2 119 (8 * b + nl) y) M' → OnL (sL M 119 (8 * b + nl) (M' 119 (8 * b + nl))) M' := fun {M'} u => by
      have uy : M' 119 (8 * b + nl) = y := by rw [u.1 119 (by decide), zL_eq, vU_eq]
      refine ⟨fun x x1 => ?_, fun s hs => ?_⟩
      · rw [u.1 x x1, uy]
        by_cases q : x = 119
        · subst q
          rw [zL_eq, zL_eq, m2x 119 (by decide)]
        · rw [zL_ne q, zL_ne q, m2x x x1]
      · rw [u.2 s hs, zL_ne (by decide), zL_ne (by decide)]
        exact (a7.trans b9).2 s hs
    rcases tw_R S2 hf 5 (by decide) with ⟨K3, J3, M3, k3, at3, e3, c1, c2, c3, c4, c5, c6, c7⟩ | ⟨K3, J3, f, pl, c1, c2, c3, c4, c5⟩
    · rw [oL5] at c2
      have c1' : f_X7_takeWord fu K2 5 = some (1, K3) := c1
      have hae3 := c3.2.1.2.1
      have tk3 := tk2.trans c5
      have am3 := am2.trans c6
      rcases tn_R c3 hf 1 999 (by decide) (by decide) with ⟨K4, J4, M4, k4, at4, e4, v, d1, d2, d3, d4, d5, d6, d7, d8, d9⟩ | ⟨K4, J4, v, f, pl, d1, d2, d3, d4, d5⟩
      · have d1' : f_X7_takeNumber fu K3 1 999 = some (1, K4) := d1
        have d2' : f_X12_number fu J3 M3 1 999 = some (nI v, J4, M4) := d2
        have hae4 := d5.2.1.2.1
        have tk4 := tk3.trans d7
        have am4 := am3.trans d8
        have on4 := c7.trans d9
        have S4 : StR tp sz K4 (sI J4 107 (8 * b + nl) (nI v)) M4 k4 at4 e4 := StR_m d5 (zs_ne (by decide)) (fun s _ => by rw [zs_ne (by decide)])
        have fm4 : FrM b J (sI J4 107 (8 * b + nl) (nI v)) := FrM_put am4.fr q7 (by decide)
        have fl4 : FrL b M M4 := fl2.trans on4.fr
        rcases tw_R S4 hf 6 (by decide) with ⟨K5, J5, M5, k5, at5, e5, g1, g2, g3, g4, g5, g6', g7⟩ | ⟨K5, J5, f, pl, g1, g2, g3, g4, g5⟩
        · rw [oL6] at g2
          have g1' : f_X7_takeWord fu K4 6 = some (1, K5) := g1
          have hae5 := g3.2.1.2.1
          have tk5 := tk4.trans g5
          have on5 := on4.trans g7
          have j5x : ∀ x, x ≠ 100 → x ≠ 107 → J5 x = J x := fun x x1 x2 => by rw [g6'.1 x x1, zs_ne x2, am4.1 x x1]
          have j5s : ∀ s, s ≤ 2 ∨ (7 ≤ s ∧ s ≠ 12) → J5 100 s = J 100 s := fun s hs => by rw [g6'.2 s hs, zs_ne (by decide), am4.2 s hs]
          have j57 : J5 107 = upd (J 107) (8 * b + nl) (nI v) := by rw [g6'.1 107 (by decide), zs_eq, am4.1 107 (by decide)]
          have s5 : J5 107 (8 * b + nl) = nI v := by rw [j57, zs_same]
          have L5 : LKr I J5 t b nh nl := lkr j5x (j5s 33 (by decide)) (fun i hi => by rw [j57, zs_other hi])
          have L5' : LKr K5 J5 t b nh nl := LKr_g L5 (fun s _ => by rw [tk5.1 t (by omega) (by omega)]) (fun i _ => by rw [tk5.1 (t + 4) (by omega) (by omega)]) (fun i _ => ⟨by rw [tk5.1 (t + 6) (by omega) (by omega)], by rw [tk5.1 (t + 7) (by omega) (by omega)]⟩)
          have N5 : NMr K5 J5 M5 t b nh no nl := nmr tk5 (fun x x1 x2 _ => j5x x x1 x2) (j5s 33 (by decide)) (onl on5)
          obtain ⟨B, w1, w2⟩ := thr_R g3 N5 L5' hR ho ht hf (nI v)
          rcases w2 with ⟨K6, J6, M6, k6, at6, e6, q, h1, h2, h3, ⟨rv, h4, h4'⟩, h5, h6, h7, h8, h9, h10⟩ | ⟨K6, J6, f, pl, h1, h2, h3, h4, h5⟩
          · have hae6 := h6.2.1.2.1
            have tk6 := tk5.trans h8
            have on6 := on5.trans h10
            have S6 : StR tp sz K6 (sI J6 108 (8 * b + nl) (nI q)) M6 k6 at6 e6 := StR_m h6 (zs_ne (by decide)) (fun s _ => by rw [zs_ne (by decide)])
            have fm6 : FrM b J (sI J6 108 (8 * b + nl) (nI q)) := FrM_put ((fm4.trans g6'.fr).trans h9.fr) q8 (by decide)
            have fl6 : FrL b M M6 := (fl4.trans g7.fr).trans h10.fr
            rcases tw_R S6 hf 7 (by decide) with ⟨K7, J7, M7, k7, at7, e7, m1, m2, m3, m4, m5, m6, m7⟩ | ⟨K7, J7, f, pl, m1, m2, m3, m4, m5⟩
            · rw [oL7] at m2
              have m1' : f_X7_takeWord fu K6 7 = some (1, K7) := m1
              have hae7 := m3.2.1.2.1
              have tk7 := tk6.trans m5
              have on7 := on6.trans m7
              have j7x : ∀ x, x ≠ 100 → x ≠ 107 → x ≠ 108 → J7 x = J x := fun x x1 x2 x3 => by rw [m6.1 x x1, zs_ne x3, h9.1 x x1, j5x x x1 x2]
              have j7s : ∀ s, s ≤ 2 ∨ (7 ≤ s ∧ s ≠ 12) → J7 100 s = J 100 s := fun s hs => by rw [m6.2 s hs, zs_ne (by decide), h9.2 s hs, j5s s hs]
              have N7 : NMr K7 J7 M7 t b nh no nl := nmr tk7 j7x (j7s 33 (by decide)) (onl on7)
              rcases tob_R m3 N7 hR ho hf (own1_h g6) with ⟨K8, J8, M8, k8, at8, e8, o, p1, p2, p3, p4, p5, p6, p7, p8, p9, p10⟩ | ⟨K8, J8, f, pl, p1, p2, p3, p4, p5⟩
              · have tk8 := tk7.trans p8
                have on8 := on7.trans p10
                have j8x : ∀ x, x ≠ 100 → x ≠ 107 → x ≠ 108 → J8 x = J x := fun x x1 x2 x3 => by rw [p9.1 x x1, j7x x x1 x2 x3]
                have j8s : ∀ s, s ≤ 2 ∨ (7 ≤ s ∧ s ≠ 12) → J8 100 s = J 100 s := fun s hs => by rw [p9.2 s hs, j7s s hs]
                have on8m : ∀ x, x ≠ 100 → M8 x = (sL M 119 (8 * b + nl) y) x := fun x x1 => by rw [(onl on8).1 x x1, show M8 119 (8 * b + nl) = y by rw [on8.1 119 (by decide), zL_eq, vU_eq]]
                have j87 : J8 107 = upd (J 107) (8 * b + nl) (nI v) := by rw [p9.1 107 (by decide), m6.1 107 (by decide), zs_ne (by decide), h9.1 107 (by decide), j57]
                have j88 : J8 108 = upd (J 108) (8 * b + nl) (nI q) := by rw [p9.1 108 (by decide), m6.1 108 (by decide), zs_eq, h9.1 108 (by decide), j5x 108 (by decide) (by decide)]
                have eq := lak_eq (fu := fu) b33 hb r106 hnl cn c33 T1.1.2.2.1.2.1 b2 c2 d2' g2 s5 w1 h2 m2 p2 (by rw [j8s 33 (by decide)]; exact b33) (by rw [j8x 106 (by decide) (by decide) (by decide)]; exact r106)
                rw [if_pos p6.2.2.1] at eq
                have kt : K8 t 3 = nI nl := by rw [tk8.1 t (by omega) (by omega)]; exact hT.1.2.2.1.1
                have ic : ∀ q : Option (Int32 × HI), inb 8 (nI nl) q = q := fun q => by rw [inb_ok (by omega)]
                have td : (nI nl).toNatClampNeg = nl := nI_clamp (by omega)
                have kt1 : (sI K8 (t + 3) nl x) t 3 = nI nl := by rw [zs_ne (by omega)]; exact kt
                have kt2 : (sI (sI K8 (t + 3) nl x) (t + 6) nl (nI v)) t 3 = nI nl := by rw [zs_ne (by omega)]; exact kt1
                have kt3 : (sI (sI (sI K8 (t + 3) nl x) (t + 6) nl (nI v)) (t + 7) nl (nI q)) t 3 = nI nl := by rw [zs_ne (by omega)]; exact kt2
                have kt4 : (sI (sI (sI (sI K8 (t + 3) nl x) (t + 6) nl (nI v)) (t + 7) nl (nI q)) (t + 8) nl (nI o)) t 3 = nI nl := by rw [zs_ne (by omega)]; exact kt3
                have kp : (sI (sI (sI K8 (t + 3) nl x) (t + 6) nl (nI v)) (t + 7) nl (nI q)) 6 3 = nI o := by rw [zs_ne (by omega), zs_ne (by omega), zs_ne (by omega)]; exact p5
                have A1 : nI nl + 1 = nI (nl + 1) := nI_1 nl
                have k5e : ∀ a, 3 ≤ a → a ≤ 12 → (sI K5 6 3 (nI q)) (t + a) = I (t + a) := fun a _ _ => by rw [zs_ne (by omega), tk5.1 (t + a) (by omega) (by omega)]
                have k5t : (sI K5 6 3 (nI q)) t 3 = nI nl := by rw [zs_ne (by omega), tk5.1 t (by omega) (by omega)]; exact hT.1.2.2.1.1
                have hq8 : q < 8 := by have := hT.1.1.2.2; omega
                have rf := room_F (I := sI K5 6 3 (nI q)) (fu := fu) k5t (by omega) hq8 (by omega)
                rw [k5e 4 (by decide) (by decide), k5e 6 (by decide) (by decide), k5e 7 (by decide) (by decide)] at rf
                obtain ⟨z, z1, z2⟩ := hT.2.2.2.2.1 q h3
                have rz : rv = nI z := Option.some.inj (h4.symm.trans (rf.trans (by rw [z2])))
                have vz : v ≤ z := (nI_leI (a := v) (b := z) (by omega) (by omega)).mp (by rw [← rz]; exact h4')
                refine ⟨1, sI (sI (sI (sI (sI K8 (t + 3) nl x) (t + 6) nl (nI v)) (t + 7) nl (nI q)) (t + 8) nl (nI o)) t 3 (nI (nl + 1)), _, _, ?_, eq, ⟨FrC_put (FrC_put (FrC_put (FrC_put (FrC_put tk8.fr ⟨by omega, by omega⟩) ⟨by omega, by omega⟩) ⟨by omega, by omega⟩) ⟨by omega, by omega⟩) ⟨by omega, by omega⟩, FrM_put (FrM_put ((fm6.trans m6.fr).trans p9.fr) q9 (by decide)) (by unfold inBk; omega) (by decide), (fl6.trans m7.fr).trans p10.fr⟩, Or.inl ⟨rfl, ⟨?_, ?_⟩, k8, at8, e8, nh, no, nl + 1, cj, ?_, by omega, by omega, ?_⟩⟩
                · simp only [a1, Option.bind_some, b1, if_neg n3, bnd, b3, c1', d1', d3, g1', h1, h5, m1', p1, hR, zg_ok ho, kt, ic, td, kt1, kt2, kt3, kt4, kp, A1, gz_1]
                · rw [zs_eq, zs_other (by decide), zs_ne (by omega), zs_ne (by omega), zs_ne (by omega), zs_ne (by omega), tk8.1 t (by omega) (by omega)]
                · rw [zs_ne (by decide), zs_ne (by decide), j8s 9 (by decide)]
                · exact StR_m (StR_m (StR_tk p6 (fun x hx => by rw [zs_ne (by omega), zs_ne (by omega), zs_ne (by omega), zs_ne (by omega), zs_ne (by omega)])) (zs_ne (by decide)) (fun s _ => by rw [zs_ne (by decide)])) (zs_ne (by decide)) (fun s _ => by rw [zs_ne (by decide)])
                · exact lak_told2 hT ht hnl b4 d4 h3 p3 z2 ⟨z1, vz⟩ tk8.1 j8x j8s j87 j88 on8m
              · have fm8 := (fm6.trans m6.fr).trans p4.fr
                have z3 : ¬ J8 100 8 = 0 := by rw [p4.2.1]; exact nI_ne0 (by have := p5.1; omega) (by have := p5.1; omega)
                have eq := lak_eq (fu := fu) b33 hb r106 hnl cn c33 T1.1.2.2.1.2.1 b2 c2 d2' g2 s5 w1 h2 m2 p2 (by rw [fm8.2 33 (by omega)]; exact b33) (by rw [p4.1 106 (by decide), j7x 106 (by decide) (by decide) (by decide)]; exact r106)
                rw [if_neg z3] at eq
                refine ⟨0, K8, _, _, ?_, eq, ⟨tk7.fr.trans p3.fr, FrM_put fm8 q9 (by decide), fl6.trans m7.fr⟩, Or.inr (Or.inr ⟨rfl, f, pl, p3.2.1, p3.2.2, by rw [zs_ne (by decide)]; exact p4.2.1, by rw [zs_ne (by decide)]; exact p4.2.2.1, p5⟩)⟩
                simp only [a1, Option.bind_some, b1, if_neg n3, bnd, b3, c1', d1', d3, g1', h1, h5, m1', p1, if_true, gz_0]
            · rw [oL7] at m2
              have m1' : f_X7_takeWord fu K6 7 = some (0, K7) := m1
              have fm8 := fm6.trans m4.fr
              have z3 : ¬ J7 100 8 = 0 := by rw [m4.2.1]; exact nI_ne0 (by have := m5.1; omega) (by have := m5.1; omega)
              have eq := lak_eq (fu := fu) b33 hb r106 hnl cn c33 T1.1.2.2.1.2.1 b2 c2 d2' g2 s5 w1 h2 m2 (askX m5.1 m4.2.1) (by rw [fm8.2 33 (by omega)]; exact b33) (by rw [m4.1 106 (by decide), zs_ne (by decide), h9.1 106 (by decide), j5x 106 (by decide) (by decide)]; exact r106)
              rw [if_neg z3] at eq
              refine ⟨0, K7, _, _, ?_, eq, ⟨tk6.fr.trans m3.fr, FrM_put fm8 q9 (by decide), fl6⟩, Or.inr (Or.inr ⟨rfl, f, pl, m3.2.1, m3.2.2, by rw [zs_ne (by decide)]; exact m4.2.1, by rw [zs_ne (by decide)]; exact m4.2.2.1, m5⟩)⟩
              simp only [a1, Option.bind_some, b1, if_neg n3, bnd, b3, c1', d1', d3, g1', h1, h5, m1', if_true, gz_0]
          · have w8 : (sI J6 108 (8 * b + nl) 0) 100 8 = nI f := by rw [zs_ne (by decide)]; exact h4.2.1
            have fm8 : FrM b J (sI J6 108 (8 * b + nl) 0) := FrM_put ((fm4.trans g6'.fr).trans h4.fr) q8 (by decide)
            have z3 : ¬ (sI J6 108 (8 * b + nl) 0) 100 8 = 0 := by rw [w8]; exact nI_ne0 (by have := h5.1; omega) (by have := h5.1; omega)
            have eq := lak_eq (fu := fu) b33 hb r106 hnl cn c33 T1.1.2.2.1.2.1 b2 c2 d2' g2 s5 w1 h2 (mustW_F h5.1 w8) (askX h5.1 w8) (by rw [fm8.2 33 (by omega)]; exact b33) (by rw [zs_ne (by decide), h4.1 106 (by decide), j5x 106 (by decide) (by decide)]; exact r106)
            rw [if_neg z3] at eq
            refine ⟨0, K6, _, _, ?_, eq, ⟨tk5.fr.trans h3.fr, FrM_put fm8 q9 (by decide), fl4.trans g7.fr⟩, Or.inr (Or.inr ⟨rfl, f, pl, h3.2.1, h3.2.2, by rw [zs_ne (by decide)]; exact w8, by rw [zs_ne (by decide), zs_ne (by decide)]; exact h4.2.2.1, h5⟩)⟩
            simp only [a1, Option.bind_some, b1, if_neg n3, bnd, b3, c1', d1', d3, g1', h1, if_true, gz_0]
        · rw [oL6] at g2
          have g1' : f_X7_takeWord fu K4 6 = some (0, K5) := g1
          have fm5 := fm4.trans g4.fr
          have eq := lak_fail (I := I) (t := t) (nh := nh) (fu := fu) b33 hb r106 hnl cn c33 T1.1.2.2.1.2.1 b2 c2 d2' g2 (by rw [g4.1 107 (by decide), zs_eq, zs_same]) (lkr (fun x x1 x2 => by rw [g4.1 x x1, zs_ne x2, am4.1 x x1]) (fm5.2 33 (by omega)) (fun i hi => by rw [g4.1 107 (by decide), zs_eq, zs_other hi, am4.1 107 (by decide)])) (by omega) g4.2.1 g5.1
          refine ⟨0, K5, _, _, ?_, eq, ⟨tk4.fr.trans g3.fr, FrM_put (FrM_put fm5 q8 (by decide)) q9 (by decide), fl4⟩, Or.inr (Or.inr ⟨rfl, f, pl, g3.2.1, g3.2.2, by rw [zs_ne (by decide), zs_ne (by decide)]; exact g4.2.1, by rw [zs_ne (by decide), zs_ne (by decide)]; exact g4.2.2.1, g5⟩)⟩
          simp only [a1, Option.bind_some, b1, if_neg n3, bnd, b3, c1', d1', d3, g1', if_true, gz_0]
      · have d1' : f_X7_takeNumber fu K3 1 999 = some (0, K4) := d1
        have d2' : f_X12_number fu J3 M3 1 999 = some (v, J4, M3) := d2
        have w8 : (sI J4 107 (8 * b + nl) v) 100 8 = nI f := by rw [zs_ne (by decide)]; exact d4.2.1
        have fm5 : FrM b J (sI J4 107 (8 * b + nl) v) := FrM_put (am3.fr.trans d4.fr) q7 (by decide)
        have eq := lak_fail (I := I) (t := t) (nh := nh) (fu := fu) b33 hb r106 hnl cn c33 T1.1.2.2.1.2.1 b2 c2 d2' (mustW_F d5.1 w8) (by rw [zs_eq, zs_same]) (lkr (fun x x1 x2 => by rw [zs_ne x2, d4.1 x x1, am3.1 x x1]) (fm5.2 33 (by omega)) (fun i hi => by rw [zs_eq, zs_other hi, d4.1 107 (by decide), am3.1 107 (by decide)])) (by omega) w8 d5.1
        refine ⟨0, K4, _, _, ?_, eq, ⟨tk3.fr.trans d3.fr, FrM_put (FrM_put fm5 q8 (by decide)) q9 (by decide), fl2.trans c7.fr⟩, Or.inr (Or.inr ⟨rfl, f, pl, d3.2.1, d3.2.2, by rw [zs_ne (by decide), zs_ne (by decide)]; exact w8, by rw [zs_ne (by decide), zs_ne (by decide), zs_ne (by decide)]; exact d4.2.2.1, d5⟩)⟩
        simp only [a1, Option.bind_some, b1, if_neg n3, bnd, b3, c1', d1', if_true, gz_0]
    · rw [oL5] at c2
      have c1' : f_X7_takeWord fu K2 5 = some (0, K3) := c1
      have w8 : (sI J3 107 (8 * b + nl) 0) 100 8 = nI f := by rw [zs_ne (by decide)]; exact c4.2.1
      have fm5 : FrM b J (sI J3 107 (8 * b + nl) 0) := FrM_put (am2.fr.trans c4.fr) q7 (by decide)
      have eq := lak_fail (I := I) (t := t) (nh := nh) (fu := fu) b33 hb r106 hnl cn c33 T1.1.2.2.1.2.1 b2 c2 (number_F c5.1 c4.2.1) (mustW_F c5.1 w8) (by rw [zs_eq, zs_same]) (lkr (fun x x1 x2 => by rw [zs_ne x2, c4.1 x x1, am2.1 x x1]) (fm5.2 33 (by omega)) (fun i hi => by rw [zs_eq, zs_other hi, c4.1 107 (by decide), am2.1 107 (by decide)])) (by omega) w8 c5.1
      refine ⟨0, K3, _, _, ?_, eq, ⟨tk2.fr.trans c3.fr, FrM_put (FrM_put fm5 q8 (by decide)) q9 (by decide), fl2⟩, Or.inr (Or.inr ⟨rfl, f, pl, c3.2.1, c3.2.2, by rw [zs_ne (by decide), zs_ne (by decide)]; exact w8, by rw [zs_ne (by decide), zs_ne (by decide), zs_ne (by decide)]; exact c4.2.2.1, c5⟩)⟩
      simp only [a1, Option.bind_some, b1, if_neg n3, bnd, b3, c1', if_true, gz_0]
  · have w8 : (sI J2 107 (8 * b + nl) 0) 100 8 = nI f := by rw [zs_ne (by decide)]; exact b4.2.1
    have fm5 : FrM b J (sI J2 107 (8 * b + nl) 0) := FrM_put (a6.fr.trans b4.fr) q7 (by decide)
    have eq := lak_fail (I := I) (t := t) (nh := nh) (fu := fu) b33 hb r106 hnl cn c33 T1.1.2.2.1.2.1 b2 (mustW_F b5.1 b4.2.1) (number_F b5.1 b4.2.1) (mustW_F b5.1 w8) (by rw [zs_eq, zs_same]) (lkr (fun x x1 x2 => by rw [zs_ne x2, b4.1 x x1, a6.1 x x1]) (fm5.2 33 (by omega)) (fun i hi => by rw [zs_eq, zs_other hi, b4.1 107 (by decide), a6.1 107 (by decide)])) (by omega) w8 b5.1
    refine ⟨0, K2, _, _, ?_, eq, ⟨a5.tk.fr.trans b3.fr, FrM_put (FrM_put fm5 q8 (by decide)) q9 (by decide), FrL_put a7.fr ql (by decide)⟩, Or.inr (Or.inr ⟨rfl, f, pl, b3.2.1, b3.2.2, by rw [zs_ne (by decide), zs_ne (by decide)]; exact w8, by rw [zs_ne (by decide), zs_ne (by decide), zs_ne (by decide)]; exact b4.2.2.1, b5⟩)⟩
    simp only [a1, Option.bind_some, b1, if_true, gz_0]
end
