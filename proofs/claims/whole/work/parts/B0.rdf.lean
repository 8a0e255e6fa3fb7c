/-! the rules' reader: min and max -/
section
variable {tp : Nat → Nat} {sz fu t b r0 : Nat} {R : HR}
theorem PRx_123 {I J J' : HI} {M : HL} {k at' e cj om dp o opd fk ph bg bs : Nat} {lg : List Nat} (h : PRx tp sz t b r0 I J M k at' e cj om dp o opd fk ph bg bs lg) (hx : ∀ x, x ≠ 123 → J' x = J x) : PRx tp sz t b r0 I J' M k at' e cj om dp o opd fk ph bg bs lg := by
  obtain ⟨s, ⟨⟨p1, p2⟩, p3, p4, ⟨p5, p6⟩, p7, p8, p9, p10, p11, p12⟩, q1, q2, q3, q4, q5, q6, q7, q8, q9, q10, q11, q12, q13⟩ := h
  have e := hx 100 (by decide)
  exact ⟨StR_m s (hx 101 (by decide)) (fun x _ => by rw [e]), ⟨⟨by rw [e]; exact p1, p2⟩, by rw [e]; exact p3, by rw [e]; exact p4, ⟨by rw [e]; exact p5, p6⟩, by rw [e]; exact p7, by rw [e]; exact p8, by rw [hx 120 (by decide)]; exact p9, by rw [hx 121 (by decide)]; exact p10, by rw [hx 122 (by decide)]; exact p11, by rw [hx 124 (by decide)]; exact p12⟩, q1, OnS_congr lg om (fun i _ => by rw [hx 125 (by decide)]) q2, q3, q4, fun j hj => by rw [hx 115 (by decide), hx 116 (by decide)]; exact q5 j hj, q6, q7, q8, q9, by rw [e]; exact q10, q11, q12, q13⟩
theorem BdR_44 {J J' : HI} {b f pl : Nat} {v : Int32} (hb : BdR J J' b f pl) : BdR J (sI J' 100 44 v) b f pl := ⟨fun x a c => by rw [zs_ne c]; exact hb.1 x a c, fun s hs => by rw [zs_eq, zs_other (by omega)]; exact hb.2.1 s hs, fun k hk => by rw [zs_ne (by decide), zs_ne (by decide)]; exact hb.2.2.1 k hk, by rw [zs_eq, zs_other (by decide)]; exact hb.2.2.2.1, by rw [zs_eq, zs_other (by decide)]; exact hb.2.2.2.2⟩
theorem pairMin_R {r o nd ndp : Nat} (hf : 2000 < fu) (ht : t = 67 ∨ t = 80) (hok : okLd t = true) (hR : R 8 1 = t) (ho : o ≤ 7) (hnd : o < 7 → nd + 1 ≤ ndp ∧ 3 ≤ ndp) (hs : o < 7 → SumP tp sz fu t b r0 R r 6 (o + 1) 5 nd 3 tkSm) {I J : HI} {M : HL} {k at' e cj om dp fk ph bg bs n c w : Nat} (h : PRx tp sz t b r0 I J M k at' e cj om dp o 0 fk ph bg bs []) (hno : tsF fk ∧ bg = 1 → w ≠ 20 ∧ c ≠ 91 ∧ w ≠ 21) (hom : om ≤ 5 * dp + o + 5) (hdp : dp ≤ o) (hn : sz + 10 ≤ n + at') (hk : k = 2) (hc : c ≠ 40) (hw : w = 22) (t1 : sgJ J c) (t2 : wdJ J M w) : ∃ y K, f_X8_readPair (g_X8 fu r) fu I R (nI o) (opC 36) = some (y, K) ∧ ((y = 1 ∧ OutG tp sz fu t b r0 I J M K n at' cj om dp o fk bs 7 ndp 0 (fun p => p = ph) (fun _ _ => True)) ∨ (y = 0 ∧ OutB fu t b I J M K n)) := by
  have n3 : ¬ (1 : Int32) = 0 := by decide
  have hlex : f_X12_lex J = some J := by
    rcases lexS h.1 with ⟨_, z, _⟩ | ⟨z, _⟩
    · exact z
    · omega
  have hP := (setPB h).1
  have hbs : bs ≤ om := by
    have := h.2.2.2.2.2.2.2.1
    simpa using this
  have hcja : cj ≤ at' := by
    have := h.2.2.2.2.2.2.2.2.2.1
    simpa using this
  have hszs := h.1.2.2.2
  have hes := h.1.2.1.2.1
  have hom1 := h.2.2.2.2.2.2.2.2.1
  have hdp1 := h.2.1.2.2.2.1.2
  obtain ⟨n1, hn1⟩ : ∃ n1, n = n1 + 1 + 1 := ⟨n - 2, by omega⟩
  have pf0 : PFm J (sI J 122 dp 0) b dp om cj := setPB_fr (Or.inr rfl)
  obtain ⟨K1, J1, M1, k1, at1, e1, u1, u2, u3, u4, u5, u6, u7⟩ := adv_P (fu := fu) hP hf (by omega) ht
  have u5' := u5.le (dp' := dp + 1) (om' := om) (cj' := cj) (by omega) (by omega) (by omega)
  have pf1 : PFm J J1 b dp om cj := pf0.trans u5'.dn (Nat.le_refl _) (Nat.le_refl _)
  have A1 : nI o + 1 = nI (o + 1) := nI_1 o
  unfold f_X8_readPair
  rcases lexS u3.1 with ⟨l1, l2, l3, l4⟩ | ⟨l1, pl, J7, l2, l3, l4, l5⟩
  · rcases signB u3.1 40 (by decide) with ⟨s1, s2, s3, s4⟩ | ⟨s1, s2, s3⟩
    · have s1' : f_X10_isSign K1 40 = some 1 := s1
      have s2' : f_X12_isSign J1 40 = some 1 := s2
      have ng := need_1 s1'
      rcases open_C (I := K1) (o := o) u3.1.2.1.1.2.2.1.1 ho with ⟨o1, o2⟩ | ⟨o1, Kb, o2, o3⟩
      · obtain ⟨K2, J3, M3, k3', at3, e3, q1, q2, q3, q4, q5, q6, q7, q8, q9⟩ := enter_R (fu := fu) (fk' := 3) u3 hf (by omega) o1 hdp (by decide) ht
        have hop := oMin_M (fu := fu) (d := dp + 1) h.1.2.2.1 hlex h.2.1.2.2.2.1.1 h.2.1.2.2.2.1.2 h.2.1.2.2.2.2.2.2.1 h.2.2.2.2.2.2.2.2.2.2.2.2.2.1 h.2.1.2.2.2.2.2.2.2.2.1 h.2.2.2.2.2.2.2.2.2.2.2.2.2.2 t2 t1 hno hc hw u2 l2 s2' q2 q3 q4 (by omega)
        have step := opR (fu := fu) (n := n1 + 1) h.2.1.2.2.2.2.2.1 hop (Or.inl rfl) (by rw [zs_ne (by decide)]; exact q3)
        obtain ⟨X, hX⟩ : ∃ X, X = sI (sI J3 123 (dp + 1) 36) 100 44 0 := ⟨_, rfl⟩
        have eX : ∀ x, x ≠ 123 → X x = (sI J3 100 44 0) x := fun x hx => by
          rw [hX]
          by_cases c1 : x = 100
          · rw [c1, zs_eq, zs_eq, zs_ne (by decide)]
          · rw [zs_ne c1, zs_ne c1, zs_ne hx]
        have eX123 : X 123 (dp + 1) = nI 36 := by
          rw [hX, zs_ne (by decide), zs_eq, zs_same]
          rfl
        have eX123o : ∀ i, i < dp + 1 → X 123 i = (sI J3 100 44 0) 123 i := fun i hi => by rw [hX, zs_ne (by decide), zs_eq, zs_other (by omega), zs_ne (by decide)]
        rw [← hX] at step
        have hXP := PRx_123 q5 eX
        have fX : PFx (sI J 122 dp 0) X b (dp + 1) om cj := by
          refine (u5'.trans q7 (Nat.le_refl _) (Nat.le_refl _)).trans (om' := om) (cj' := cj) ⟨fun x a c => eX x (by omega), fun s _ => by rw [eX 100 (by decide)], fun i hi => ?_, fun i _ => by rw [eX 125 (by decide)], fun k _ => by rw [eX 115 (by decide), eX 116 (by decide)]; exact ⟨rfl, rfl⟩⟩ (Nat.le_refl _) (Nat.le_refl _)
          rw [eX 120 (by decide), eX 121 (by decide), eX 122 (by decide), eX 124 (by decide), eX123o i hi]
          exact ⟨rfl, rfl, rfl, rfl, rfl⟩
        have pfX : PFm J X b dp om cj := pf0.trans fX.dn (Nat.le_refl _) (Nat.le_refl _)
        have pcX : PFc I K2 t cj := u6.trans q8 (Nat.le_refl _)
        have onX : OnL M M3 := u7.trans q9
        obtain ⟨y, K5, g1, g2⟩ := ss_R (r := r) (o := o + 1) (nd := nd) (fk := 3) (sg := 44) (n := n1 + 1) hf ht (hs o1) (Or.inr (Or.inl ⟨rfl, rfl⟩)) hXP (by omega) (by omega) (by omega)
        rcases g2 with ⟨y0, J5, M5, f, pl, d1, d2, d3, d4, d5⟩ | ⟨y1, Kb, nb, J5, M5, f, pl, d1, d2, d3, d4, d5⟩ | ⟨y1, ng2, J5, J6, M5, at5, e5, cj6, n6, d1, d2, d10, d11, d12, d13, d14, d15, d16, d17, d18, d19⟩
        · subst y0
          refine ⟨0, K5, ?_, Or.inr ⟨rfl, J5, M5, f, pl, by rw [hn1, step, d1], BdC.tr pcX d2, BdR.tr pfX d3, d4, onX.trans d5⟩⟩
          simp only [u1, Option.bind_some, if_neg n3, ng, o2, q1, A1, g1, if_true, gz_0]
        · subst y1
          have nb' : f_X10_needSign K5 44 = some (0, Kb) := nb
          refine ⟨0, Kb, ?_, Or.inr ⟨rfl, J5, M5, f, pl, by rw [hn1, step, d1], BdC.tr pcX d2, BdR.tr pfX d3, d4, onX.trans d5⟩⟩
          simp only [u1, Option.bind_some, if_neg n3, ng, o2, q1, A1, g1, nb', if_true, gz_0]
        · subst y1
          have ng2' : f_X10_needSign K5 44 = some (1, K5) := ng2
          obtain ⟨K8, J8, M8, k8, at8, e8, r1, r2, r3, r4, r5, r6, r7, r8⟩ := fun_next (fu := fu) (n6 := n6) hf ht d2 d10 d11
          have fX8 : PFx (sI J 122 dp 0) J8 b (dp + 1) om cj6 ∨ True := Or.inr trivial
          have fX8' : PFx (sI J 122 dp 0) J8 b (dp + 1) om cj := (fX.trans d16.x (Nat.le_refl _) (Nat.le_refl _)).trans r5 (Nat.le_refl _) d15
          obtain ⟨y2, K9, v1, v2⟩ := two_R (r := r) (o := o) (nd := nd) (fu := fu) (J0 := J8) (fk := fk) (ph := ph) (bs := bs) (code := 36) (n := n6) hf ht hok hR (hs o1) r3 ⟨fun _ _ _ => rfl, fun _ _ => rfl, fun _ _ => ⟨rfl, rfl, rfl, rfl, rfl⟩, fun _ _ => rfl, fun _ _ => ⟨rfl, rfl⟩⟩ (by rw [r6, d16.2.2.2.1]; exact eX123) (by decide) (by rw [(fX8'.2.2.1 dp (by omega)).1, zs_ne (by decide)]; exact h.2.1.2.2.2.2.2.2.1) (by rw [(fX8'.2.2.1 dp (by omega)).2.1, zs_ne (by decide)]; exact h.2.1.2.2.2.2.2.2.2.1) (by rw [(fX8'.2.2.1 dp (by omega)).2.2.1, zs_eq, zs_same]; rfl) (by rw [(fX8'.2.2.1 dp (by omega)).2.2.2.2, zs_ne (by decide)]; exact h.2.1.2.2.2.2.2.2.2.2.2) hbs h.2.2.2.2.2.2.2.2.2.2.2.2.2.1 hom hdp (by omega)
          have pf8 : PFm J J8 b dp om cj := pf0.trans fX8'.dn (Nat.le_refl _) (Nat.le_refl _)
          have pc8 : PFc I K8 t cj := (pcX.trans d17 (Nat.le_refl _)).trans r7 d15
          have on8 : OnL M M8 := (onX.trans d18).trans r8
          refine ⟨y2, K9, ?_, ?_⟩
          · simp only [u1, Option.bind_some, if_neg n3, ng, o2, q1, A1, g1, ng2', r1, hR, zg_ok hok]
            exact v1
          · rcases v2 with ⟨z, J9, M9, f, pl, w1, w2, w3, w4, w5⟩ | ⟨z, J9, M9, k9, at9, e9, cj9, n9, w1, w2, w3, w4, w5, w6, w7, w8, w9, w10, w11⟩
            · right
              exact ⟨z, J9, M9, f, pl, by rw [hn1, step, d1, r2, w1], BdC.tr pc8 w2, BdR.tr pf8 w3, w4, on8.trans w5⟩
            · left
              obtain ⟨hn5, hn6⟩ := hnd o1
              refine ⟨z, J9, M9, k9, at9, e9, cj9 + 1, ph, [], n9, by rw [hn1, step, d1, r2, w1], by omega, by omega, w4, fun x hx => absurd hx List.not_mem_nil, by show cj9 + 1 + 0 + at' ≤ cj + at9; omega, by omega, pf8.trans w7 (Nat.le_refl _) d15, pc8.trans w8 d15, on8.trans w9, ?_, rfl, trivial⟩
              exact VL_bin2 (VL_congr d19 (fun j j1 j2 => by rw [w8.2.2.2 j (by omega), r7.2.2.2 j (by omega)])) w10 w11 (by decide) (by omega)
      · have k41 : J1 100 41 = nI 7 := by
          have := u3.2.1.2.2.2.2.1
          rw [o1] at this
          exact this
        obtain ⟨J', m1, m2⟩ := opens7_M (fu := fu) (J := J1) (M := M1) (v := 3) (at' := at1) u3.1.2.2.1 k41 u3.1.2.1.1.2.2.1.2
        have hop := oMin_M7 (fu := fu) (f := 5) h.1.2.2.1 hlex h.2.1.2.2.2.1.1 h.2.1.2.2.2.1.2 h.2.1.2.2.2.2.2.2.1 h.2.2.2.2.2.2.2.2.2.2.2.2.2.1 h.2.1.2.2.2.2.2.2.2.2.1 h.2.2.2.2.2.2.2.2.2.2.2.2.2.2 t2 t1 hno hc hw u2 l2 s2' m1 (by decide) m2.2.1
        have step := opF (fu := fu) (n := n1) (f := 5) h.2.1.2.2.2.2.2.1 hop (Or.inl rfl) (by decide) m2.2.1
        refine ⟨0, Kb, ?_, Or.inr ⟨rfl, sI J' 100 44 0, M1, 5, at1, by rw [hn1, step], BdC.of u6 ht o3, BdR_44 (BdR.of pf1 m2), ⟨by decide, l4⟩, u7⟩⟩
        simp only [u1, Option.bind_some, if_neg n3, ng, o2, if_true, gz_0]
    · have s1' : f_X10_isSign K1 40 = some 0 := s1
      have s2' : f_X12_isSign J1 40 = some 0 := s2
      obtain ⟨Kb, nb, nb2⟩ := need_0 s1' l3
      obtain ⟨J', hop, m2⟩ := oMin_MF (fu := fu) (at1 := at1) h.1.2.2.1 hlex h.2.1.2.2.2.1.1 h.2.1.2.2.2.1.2 h.2.1.2.2.2.2.2.2.1 h.2.2.2.2.2.2.2.2.2.2.2.2.2.1 h.2.1.2.2.2.2.2.2.2.2.1 h.2.2.2.2.2.2.2.2.2.2.2.2.2.2 t2 t1 hno hc hw u2 u3.1.2.2.1 u3.1.2.1.1.2.2.1.2 l2 s2'
      have step := opF (fu := fu) (n := n1) (f := 1) h.2.1.2.2.2.2.2.1 hop (Or.inl rfl) (by decide) m2.2.1
      refine ⟨0, Kb, ?_, Or.inr ⟨rfl, sI J' 100 44 0, M1, 1, at1, by rw [hn1, step], BdC.of u6 ht nb2, BdR_44 (BdR.of pf1 m2), ⟨by decide, l4⟩, u7⟩⟩
      simp only [u1, Option.bind_some, if_neg n3, nb, if_true, gz_0]
  · have s1' : f_X10_isSign K1 40 = some 0 := by
      rcases signB u3.1 40 (by decide) with ⟨_, _, z, _⟩ | ⟨z, _⟩
      · omega
      · exact z
    have s2' : f_X12_isSign J7 40 = some 0 := by
      have z : f_X12_isSign J1 (nI 40) = some 0 := by
        rcases signB u3.1 40 (by decide) with ⟨_, _, z, _⟩ | ⟨_, z, _⟩
        · omega
        · exact z
      have z' : f_X12_isSign J1 40 = some 0 := z
      rw [← z']
      unfold f_X12_isSign
      rw [l5.2.2.2 3 (by decide) (by decide), l5.2.2.2 6 (by decide) (by decide)]
    obtain ⟨Kb, nb, nb2⟩ := need_0 s1' l3
    have hop := oMin_ML (fu := fu) (pl := pl) h.1.2.2.1 hlex h.2.1.2.2.2.1.1 h.2.1.2.2.2.1.2 h.2.1.2.2.2.2.2.2.1 h.2.2.2.2.2.2.2.2.2.2.2.2.2.1 h.2.1.2.2.2.2.2.2.2.2.1 h.2.2.2.2.2.2.2.2.2.2.2.2.2.2 t2 t1 hno hc hw u2 l4 l5 s2'
    have step := opF (fu := fu) (n := n1) (f := 1) h.2.1.2.2.2.2.2.1 hop (Or.inl rfl) (by decide) l5.2.1
    refine ⟨0, Kb, ?_, Or.inr ⟨rfl, sI J7 100 44 0, M1, 1, pl, by rw [hn1, step], BdC.of u6 ht nb2, BdR_44 (BdR.of pf1 l5), ⟨by decide, l2⟩, u7⟩⟩
    simp only [u1, Option.bind_some, if_neg n3, nb, if_true, gz_0]
theorem pairMax_R {r o nd ndp : Nat} (hf : 2000 < fu) (ht : t = 67 ∨ t = 80) (hok : okLd t = true) (hR : R 8 1 = t) (ho : o ≤ 7) (hnd : o < 7 → nd + 1 ≤ ndp ∧ 3 ≤ ndp) (hs : o < 7 → SumP tp sz fu t b r0 R r 6 (o + 1) 5 nd 3 tkSm) {I J : HI} {M : HL} {k at' e cj om dp fk ph bg bs n c w : Nat} (h : PRx tp sz t b r0 I J M k at' e cj om dp o 0 fk ph bg bs []) (hno : tsF fk ∧ bg = 1 → w ≠ 20 ∧ c ≠ 91 ∧ w ≠ 21) (hom : om ≤ 5 * dp + o + 5) (hdp : dp ≤ o) (hn : sz + 10 ≤ n + at') (hk : k = 2) (hc : c ≠ 40) (hw : w = 23) (t1 : sgJ J c) (t2 : wdJ J M w) : ∃ y K, f_X8_readPair (g_X8 fu r) fu I R (nI o) (opC 37) = some (y, K) ∧ ((y = 1 ∧ OutG tp sz fu t b r0 I J M K n at' cj om dp o fk bs 7 ndp 0 (fun p => p = ph) (fun _ _ => True)) ∨ (y = 0 ∧ OutB fu t b I J M K n)) := by
  have n3 : ¬ (1 : Int32) = 0 := by decide
  have hlex : f_X12_lex J = some J := by
    rcases lexS h.1 with ⟨_, z, _⟩ | ⟨z, _⟩
    · exact z
    · omega
  have hP := (setPB h).1
  have hbs : bs ≤ om := by
    have := h.2.2.2.2.2.2.2.1
    simpa using this
  have hcja : cj ≤ at' := by
    have := h.2.2.2.2.2.2.2.2.2.1
    simpa using this
  have hszs := h.1.2.2.2
  have hes := h.1.2.1.2.1
  have hom1 := h.2.2.2.2.2.2.2.2.1
  have hdp1 := h.2.1.2.2.2.1.2
  obtain ⟨n1, hn1⟩ : ∃ n1, n = n1 + 1 + 1 := ⟨n - 2, by omega⟩
  have pf0 : PFm J (sI J 122 dp 0) b dp om cj := setPB_fr (Or.inr rfl)
  obtain ⟨K1, J1, M1, k1, at1, e1, u1, u2, u3, u4, u5, u6, u7⟩ := adv_P (fu := fu) hP hf (by omega) ht
  have u5' := u5.le (dp' := dp + 1) (om' := om) (cj' := cj) (by omega) (by omega) (by omega)
  have pf1 : PFm J J1 b dp om cj := pf0.trans u5'.dn (Nat.le_refl _) (Nat.le_refl _)
  have A1 : nI o + 1 = nI (o + 1) := nI_1 o
  unfold f_X8_readPair
  rcases lexS u3.1 with ⟨l1, l2, l3, l4⟩ | ⟨l1, pl, J7, l2, l3, l4, l5⟩
  · rcases signB u3.1 40 (by decide) with ⟨s1, s2, s3, s4⟩ | ⟨s1, s2, s3⟩
    · have s1' : f_X10_isSign K1 40 = some 1 := s1
      have s2' : f_X12_isSign J1 40 = some 1 := s2
      have ng := need_1 s1'
      rcases open_C (I := K1) (o := o) u3.1.2.1.1.2.2.1.1 ho with ⟨o1, o2⟩ | ⟨o1, Kb, o2, o3⟩
      · obtain ⟨K2, J3, M3, k3', at3, e3, q1, q2, q3, q4, q5, q6, q7, q8, q9⟩ := enter_R (fu := fu) (fk' := 3) u3 hf (by omega) o1 hdp (by decide) ht
        have hop := oMax_M (fu := fu) (d := dp + 1) h.1.2.2.1 hlex h.2.1.2.2.2.1.1 h.2.1.2.2.2.1.2 h.2.1.2.2.2.2.2.2.1 h.2.2.2.2.2.2.2.2.2.2.2.2.2.1 h.2.1.2.2.2.2.2.2.2.2.1 h.2.2.2.2.2.2.2.2.2.2.2.2.2.2 t2 t1 hno hc hw u2 l2 s2' q2 q3 q4 (by omega)
        have step := opR (fu := fu) (n := n1 + 1) h.2.1.2.2.2.2.2.1 hop (Or.inl rfl) (by rw [zs_ne (by decide)]; exact q3)
        obtain ⟨X, hX⟩ : ∃ X, X = sI (sI J3 123 (dp + 1) 37) 100 44 0 := ⟨_, rfl⟩
        have eX : ∀ x, x ≠ 123 → X x = (sI J3 100 44 0) x := fun x hx => by
          rw [hX]
          by_cases c1 : x = 100
          · rw [c1, zs_eq, zs_eq, zs_ne (by decide)]
          · rw [zs_ne c1, zs_ne c1, zs_ne hx]
        have eX123 : X 123 (dp + 1) = nI 37 := by
          rw [hX, zs_ne (by decide), zs_eq, zs_same]
          rfl
        have eX123o : ∀ i, i < dp + 1 → X 123 i = (sI J3 100 44 0) 123 i := fun i hi => by rw [hX, zs_ne (by decide), zs_eq, zs_other (by omega), zs_ne (by decide)]
        rw [← hX] at step
        have hXP := PRx_123 q5 eX
        have fX : PFx (sI J 122 dp 0) X b (dp + 1) om cj := by
          refine (u5'.trans q7 (Nat.le_refl _) (Nat.le_refl _)).trans (om' := om) (cj' := cj) ⟨fun x a c => eX x (by omega), fun s _ => by rw [eX 100 (by decide)], fun i hi => ?_, fun i _ => by rw [eX 125 (by decide)], fun k _ => by rw [eX 115 (by decide), eX 116 (by decide)]; exact ⟨rfl, rfl⟩⟩ (Nat.le_refl _) (Nat.le_refl _)
          rw [eX 120 (by decide), eX 121 (by decide), eX 122 (by decide), eX 124 (by decide), eX123o i hi]
          exact ⟨rfl, rfl, rfl, rfl, rfl⟩
        have pfX : PFm J X b dp om cj := pf0.trans fX.dn (Nat.le_refl _) (Nat.le_refl _)
        have pcX : PFc I K2 t cj := u6.trans q8 (Nat.le_refl _)
        have onX : OnL M M3 := u7.trans q9
        obtain ⟨y, K5, g1, g2⟩ := ss_R (r := r) (o := o + 1) (nd := nd) (fk := 3) (sg := 44) (n := n1 + 1) hf ht (hs o1) (Or.inr (Or.inl ⟨rfl, rfl⟩)) hXP (by omega) (by omega) (by omega)
        rcases g2 with ⟨y0, J5, M5, f, pl, d1, d2, d3, d4, d5⟩ | ⟨y1, Kb, nb, J5, M5, f, pl, d1, d2, d3, d4, d5⟩ | ⟨y1, ng2, J5, J6, M5, at5, e5, cj6, n6, d1, d2, d10, d11, d12, d13, d14, d15, d16, d17, d18, d19⟩
        · subst y0
          refine ⟨0, K5, ?_, Or.inr ⟨rfl, J5, M5, f, pl, by rw [hn1, step, d1], BdC.tr pcX d2, BdR.tr pfX d3, d4, onX.trans d5⟩⟩
          simp only [u1, Option.bind_some, if_neg n3, ng, o2, q1, A1, g1, if_true, gz_0]
        · subst y1
          have nb' : f_X10_needSign K5 44 = some (0, Kb) := nb
          refine ⟨0, Kb, ?_, Or.inr ⟨rfl, J5, M5, f, pl, by rw [hn1, step, d1], BdC.tr pcX d2, BdR.tr pfX d3, d4, onX.trans d5⟩⟩
          simp only [u1, Option.bind_some, if_neg n3, ng, o2, q1, A1, g1, nb', if_true, gz_0]
        · subst y1
          have ng2' : f_X10_needSign K5 44 = some (1, K5) := ng2
          obtain ⟨K8, J8, M8, k8, at8, e8, r1, r2, r3, r4, r5, r6, r7, r8⟩ := fun_next (fu := fu) (n6 := n6) hf ht d2 d10 d11
          have fX8 : PFx (sI J 122 dp 0) J8 b (dp + 1) om cj6 ∨ True := Or.inr trivial
          have fX8' : PFx (sI J 122 dp 0) J8 b (dp + 1) om cj := (fX.trans d16.x (Nat.le_refl _) (Nat.le_refl _)).trans r5 (Nat.le_refl _) d15
          obtain ⟨y2, K9, v1, v2⟩ := two_R (r := r) (o := o) (nd := nd) (fu := fu) (J0 := J8) (fk := fk) (ph := ph) (bs := bs) (code := 37) (n := n6) hf ht hok hR (hs o1) r3 ⟨fun _ _ _ => rfl, fun _ _ => rfl, fun _ _ => ⟨rfl, rfl, rfl, rfl, rfl⟩, fun _ _ => rfl, fun _ _ => ⟨rfl, rfl⟩⟩ (by rw [r6, d16.2.2.2.1]; exact eX123) (by decide) (by rw [(fX8'.2.2.1 dp (by omega)).1, zs_ne (by decide)]; exact h.2.1.2.2.2.2.2.2.1) (by rw [(fX8'.2.2.1 dp (by omega)).2.1, zs_ne (by decide)]; exact h.2.1.2.2.2.2.2.2.2.1) (by rw [(fX8'.2.2.1 dp (by omega)).2.2.1, zs_eq, zs_same]; rfl) (by rw [(fX8'.2.2.1 dp (by omega)).2.2.2.2, zs_ne (by decide)]; exact h.2.1.2.2.2.2.2.2.2.2.2) hbs h.2.2.2.2.2.2.2.2.2.2.2.2.2.1 hom hdp (by omega)
          have pf8 : PFm J J8 b dp om cj := pf0.trans fX8'.dn (Nat.le_refl _) (Nat.le_refl _)
          have pc8 : PFc I K8 t cj := (pcX.trans d17 (Nat.le_refl _)).trans r7 d15
          have on8 : OnL M M8 := (onX.trans d18).trans r8
          refine ⟨y2, K9, ?_, ?_⟩
          · simp only [u1, Option.bind_some, if_neg n3, ng, o2, q1, A1, g1, ng2', r1, hR, zg_ok hok]
            exact v1
          · rcases v2 with ⟨z, J9, M9, f, pl, w1, w2, w3, w4, w5⟩ | ⟨z, J9, M9, k9, at9, e9, cj9, n9, w1, w2, w3, w4, w5, w6, w7, w8, w9, w10, w11⟩
            · right
              exact ⟨z, J9, M9, f, pl, by rw [hn1, step, d1, r2, w1], BdC.tr pc8 w2, BdR.tr pf8 w3, w4, on8.trans w5⟩
            · left
              obtain ⟨hn5, hn6⟩ := hnd o1
              refine ⟨z, J9, M9, k9, at9, e9, cj9 + 1, ph, [], n9, by rw [hn1, step, d1, r2, w1], by omega, by omega, w4, fun x hx => absurd hx List.not_mem_nil, by show cj9 + 1 + 0 + at' ≤ cj + at9; omega, by omega, pf8.trans w7 (Nat.le_refl _) d15, pc8.trans w8 d15, on8.trans w9, ?_, rfl, trivial⟩
              exact VL_bin2 (VL_congr d19 (fun j j1 j2 => by rw [w8.2.2.2 j (by omega), r7.2.2.2 j (by omega)])) w10 w11 (by decide) (by omega)
      · have k41 : J1 100 41 = nI 7 := by
          have := u3.2.1.2.2.2.2.1
          rw [o1] at this
          exact this
        obtain ⟨J', m1, m2⟩ := opens7_M (fu := fu) (J := J1) (M := M1) (v := 3) (at' := at1) u3.1.2.2.1 k41 u3.1.2.1.1.2.2.1.2
        have hop := oMax_M7 (fu := fu) (f := 5) h.1.2.2.1 hlex h.2.1.2.2.2.1.1 h.2.1.2.2.2.1.2 h.2.1.2.2.2.2.2.2.1 h.2.2.2.2.2.2.2.2.2.2.2.2.2.1 h.2.1.2.2.2.2.2.2.2.2.1 h.2.2.2.2.2.2.2.2.2.2.2.2.2.2 t2 t1 hno hc hw u2 l2 s2' m1 (by decide) m2.2.1
        have step := opF (fu := fu) (n := n1) (f := 5) h.2.1.2.2.2.2.2.1 hop (Or.inl rfl) (by decide) m2.2.1
        refine ⟨0, Kb, ?_, Or.inr ⟨rfl, sI J' 100 44 0, M1, 5, at1, by rw [hn1, step], BdC.of u6 ht o3, BdR_44 (BdR.of pf1 m2), ⟨by decide, l4⟩, u7⟩⟩
        simp only [u1, Option.bind_some, if_neg n3, ng, o2, if_true, gz_0]
    · have s1' : f_X10_isSign K1 40 = some 0 := s1
      have s2' : f_X12_isSign J1 40 = some 0 := s2
      obtain ⟨Kb, nb, nb2⟩ := need_0 s1' l3
      obtain ⟨J', hop, m2⟩ := oMax_MF (fu := fu) (at1 := at1) h.1.2.2.1 hlex h.2.1.2.2.2.1.1 h.2.1.2.2.2.1.2 h.2.1.2.2.2.2.2.2.1 h.2.2.2.2.2.2.2.2.2.2.2.2.2.1 h.2.1.2.2.2.2.2.2.2.2.1 h.2.2.2.2.2.2.2.2.2.2.2.2.2.2 t2 t1 hno hc hw u2 u3.1.2.2.1 u3.1.2.1.1.2.2.1.2 l2 s2'
      have step := opF (fu := fu) (n := n1) (f := 1) h.2.1.2.2.2.2.2.1 hop (Or.inl rfl) (by decide) m2.2.1
      refine ⟨0, Kb, ?_, Or.inr ⟨rfl, sI J' 100 44 0, M1, 1, at1, by rw [hn1, step], BdC.of u6 ht nb2, BdR_44 (BdR.of pf1 m2), ⟨by decide, l4⟩, u7⟩⟩
      simp only [u1, Option.bind_some, if_neg n3, nb, if_true, gz_0]
  · have s1' : f_X10_isSign K1 40 = some 0 := by
      rcases signB u3.1 40 (by decide) with ⟨_, _, z, _⟩ | ⟨z, _⟩
      · omega
      · exact z
    have s2' : f_X12_isSign J7 40 = some 0 := by
      have z : f_X12_isSign J1 (nI 40) = some 0 := by
        rcases signB u3.1 40 (by decide) with ⟨_, _, z, _⟩ | ⟨_, z, _⟩
        · omega
        · exact z
      have z' : f_X12_isSign J1 40 = some 0 := z
      rw [← z']
      unfold f_X12_isSign
      rw [l5.2.2.2 3 (by decide) (by decide), l5.2.2.2 6 (by decide) (by decide)]
    obtain ⟨Kb, nb, nb2⟩ := need_0 s1' l3
    have hop := oMax_ML (fu := fu) (pl := pl) h.1.2.2.1 hlex h.2.1.2.2.2.1.1 h.2.1.2.2.2.1.2 h.2.1.2.2.2.2.2.2.1 h.2.2.2.2.2.2.2.2.2.2.2.2.2.1 h.2.1.2.2.2.2.2.2.2.2.1 h.2.2.2.2.2.2.2.2.2.2.2.2.2.2 t2 t1 hno hc hw u2 l4 l5 s2'
    have step := opF (fu := fu) (n := n1) (f := 1) h.2.1.2.2.2.2.2.1 hop (Or.inl rfl) (by decide) l5.2.1
    refine ⟨0, Kb, ?_, Or.inr ⟨rfl, sI J7 100 44 0, M1, 1, pl, by rw [hn1, step], BdC.of u6 ht nb2, BdR_44 (BdR.of pf1 l5), ⟨by decide, l2⟩, u7⟩⟩
    simp only [u1, Option.bind_some, if_neg n3, nb, if_true, gz_0]
end
