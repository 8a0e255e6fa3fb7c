/-! the rules' reader: tests in brackets, all, comparisons -/
section
variable {tp : Nat → Nat} {sz fu t b r0 : Nat} {R : HR}
/-- a test in brackets -/
theorem fact_B {r o nd : Nat} (hf : 2000 < fu) (ht : t = 67 ∨ t = 80) (ho : o ≤ 7) (hs : o < 7 → TestQ tp sz fu t b r0 R r 7 (o + 1) 1 1 nd 0 pkT) {I J : HI} {M : HL} {k at' e cj om dp fk bs n c w : Nat} (h : PRx tp sz t b r0 I J M k at' e cj om dp o 0 fk 0 1 bs []) (hts : tsF fk) (hom : om ≤ 5 * dp + o + 2) (hdp : dp ≤ o) (hn : sz + 10 ≤ n + at') (hk : k = 4) (hw : w ≠ 20) (hc : c = 91) (t1 : sgJ J c) (t2 : wdJ J M w) (t3 : ∀ d, d < 256 → f_X10_isSign I (nI d) = some (if c = d then 1 else 0)) (t4 : ∀ d, d < 25 → f_X10_isOwn I (nI d) = some (if w = d then 1 else 0)) : ∃ y K, f_X8_readFact (g_X8 fu r) fu I R (nI o) = some (y, K) ∧ ((y = 1 ∧ OutT tp sz fu t b r0 I J M K n at' cj om dp o fk bs 3 (nd + 1) pkF) ∨ (y = 0 ∧ OutB fu t b I J M K n)) := by
  have n3 : ¬ (1 : Int32) = 0 := by decide
  have hszs := h.1.2.2.2
  have hes := h.1.2.1.2.1
  have hbs : bs ≤ om := by
    have := h.2.2.2.2.2.2.2.1
    simpa using this
  have hcja : cj ≤ at' := by
    have : cj + 0 ≤ at' := h.2.2.2.2.2.2.2.2.2.1
    omega
  have s20 : f_X10_isOwn I 20 = some 0 := by
    have := t4 20 (by decide)
    rw [if_neg hw] at this
    exact this
  have s91 : f_X10_isSign I 91 = some 1 := by
    have := t3 91 (by decide)
    rw [if_pos hc] at this
    exact this
  have hlex : f_X12_lex J = some J := by
    rcases lexS h.1 with ⟨_, z, _⟩ | ⟨z, _⟩
    · exact z
    · omega
  have h4 := h.1.2.1.1.2.2.1
  have hfk := h.2.2.2.2.2.2.2.2.2.2.2.2.2.1
  have hd12 := h.2.1.2.2.2.1.2
  have hP := (setPB h).1
  have pf0 : PFm J (sI J 122 dp 0) b dp om cj := setPB_fr (Or.inr rfl)
  obtain ⟨n1, hn1⟩ : ∃ n1, n = n1 + 1 + 1 := ⟨n - 2, by omega⟩
  unfold f_X8_readFact
  rcases open_C (I := I) (o := o) h4.1 ho with ⟨o1, o2⟩ | ⟨o1, Kb, o2, o3⟩
  · obtain ⟨K, J3, M3, k3', at3, e3, q1, q2, q3, q4, q5, q6, q7, q8, q9⟩ := enter_R (fu := fu) (fk' := 5) hP hf (by omega) o1 hdp (by decide) ht
    have hop := oB_M (fu := fu) (Y := (J3, M3)) h.1.2.2.1 hlex h.2.1.2.2.2.1.1 h.2.1.2.2.2.1.2 h.2.1.2.2.2.2.2.2.1 hfk h.2.1.2.2.2.2.2.2.2.2.1 (by decide) hts rfl t2 hw t1 hc q2
    have step := opR (fu := fu) (n := n1 + 1) h.2.1.2.2.2.2.2.1 hop (Or.inl rfl) q3
    have A1 : nI o + 1 = nI (o + 1) := nI_1 o
    have pf1 : PFm J (sI J3 100 44 0) b dp om cj := pf0.trans q7.dn (Nat.le_refl _) (Nat.le_refl _)
    obtain ⟨y, K5, g1, g2⟩ := hs o1 K (sI J3 100 44 0) M3 k3' at3 e3 cj om (dp + 1) 5 om (n1 + 1) q5 (Or.inr (Or.inl rfl)) (Or.inl rfl) (by omega) (by omega) (by omega)
    rcases g2 with ⟨y1, J5, M5, k5, at5, e5, cj5, ph5, lg, n5, a1, a2, a3, a4, a5, a6, a7, a8, a9, a10, a11, a12⟩ | ⟨y0, J5, M5, f, pl, d1, d2, d3, d4, d5⟩
    · subst y1
      obtain ⟨n6, hn6⟩ : ∃ n6, n5 = n6 + 1 + 1 := ⟨n5 - 2, by have := a4.1.2.1.2.1; omega⟩
      have hph5 : 1 ≤ ph5 ∧ ph5 ≤ 2 := by
        rcases a12.1.1 with ⟨z, _⟩ | z
        · omega
        · omega
      have pcI : PFc I K5 t cj := q8.trans a9 (Nat.le_refl _)
      have pmI : PFm J J5 b dp om cj := by
        have := q7.trans a8.x (Nat.le_refl _) (Nat.le_refl _)
        exact pf0.trans this.dn (Nat.le_refl _) (Nat.le_refl _)
      rcases lexS a4.1 with ⟨l1, l2, l3, l4⟩ | ⟨l1, pl, J7, l2, l3, l4, l5⟩
      · obtain ⟨c', w', u1, u2, u3, u4, u5, u6⟩ := tok a4.1 l1
        have hA : ph5 < 2 → noA c' := fun z => by
          rcases a12.1.1 with ⟨_, z2⟩ | z2
          · exact noA_of z2 u5
          · omega
        have hww : w' ≠ 19 ∧ w' ≠ 18 := by
          rcases u6 with ⟨z0, z1, z2⟩ | ⟨_, z⟩
          · exact ⟨fun v => a12.1.2 z0 (by rw [z2, v]), fun v => a12.2 z0 (by rw [z2, v])⟩
          · omega
        have e1 := u3 93 (by decide)
        by_cases cc : c' = 93
        · rw [if_pos cc] at e1
          have hk4 : k5 = 4 := by
            rcases u5 with ⟨z, _⟩ | ⟨_, z⟩
            · exact z
            · omega
          subst hk4
          obtain ⟨J6, j1, j2, j3⟩ := jn_R (fu := fu) (least := 1) a4 hf (fun x _ => rk6.1) (Or.inl (by rw [Nat.add_sub_cancel])) (by decide)
          rw [Nat.add_sub_cancel] at j2 j3
          have ng' : f_X10_needSign K5 93 = some (1, K5) := need_1 e1
          have fx : PFx (sI J 122 dp 0) J6 b (dp + 1) om cj := (q7.trans a8.x (Nat.le_refl _) (Nat.le_refl _)).trans j3.x (Nat.le_refl _) a7
          obtain ⟨l1', l2'⟩ := leave_R (J0 := sI J 122 dp 0) (fk := fk) (ph := 0) (bg := 0) (bs := bs) j2 fx (by rw [zs_ne (by decide)]; exact h.2.1.2.2.2.2.2.2.1) (by rw [zs_ne (by decide)]; exact h.2.1.2.2.2.2.2.2.2.1) (by rw [zs_eq, zs_same]; rfl) (by rw [zs_ne (by decide)]; exact h.2.1.2.2.2.2.2.2.2.2.2) hbs hfk (by decide)
          have l3' := (setPB l1').2
          obtain ⟨K8, J8, M8, k8, at8, e8, r1, r2, r3, r4, r5, r6, r7⟩ := adv_P (fu := fu) l3' hf (by decide) ht
          have go := goX5_M (fu := fu) (dp := dp + 1) (ph := ph5) (J := J5) (J1 := J6) (J3 := J8) (M := M5) (M3 := M8) (c := c') (w := w') (op := o) (v := 0) (J2 := J6) a4.1.2.2.1 l2 a4.2.1.2.2.2.1.1 a4.2.1.2.2.2.1.2 a4.2.1.2.2.2.2.2.2.1 a4.2.1.2.2.2.2.2.2.2.1 hph5 u1 hA u2 hww cc j1 j2.2.1.2.2.2.1.1 j2.2.1.2.2.2.2.1 (by omega) r2
          have step2 := goR (fu := fu) (n := n6 + 1) a4.2.1.2.2.2.2.2.1 go r3.1.2.2.1
          have pfL : PFm J (sI (sI (sI J6 100 40 (nI (dp + 1))) 100 41 (nI o)) 121 dp 2) b dp om cj := (pf0.trans l2' (Nat.le_refl _) (Nat.le_refl _)).trans (setPB_fr (Or.inl rfl)) (Nat.le_refl _) (Nat.le_refl _)
          have ho100 : om ≤ 100 := h.2.2.2.2.2.2.2.2.1
          have pf8 : PFm J J8 b dp om cj := pfL.trans (r5.le (dp' := dp + 1) (om' := om) (cj' := cj) (by omega) (by omega) (by omega)).dn (Nat.le_refl _) (Nat.le_refl _)
          refine ⟨1, K8, ?_, Or.inl ⟨rfl, J8, M8, k8, at8, e8, cj5 + lg.length, 2, [], n6 + 1, by rw [hn1, step, a1, hn6, step2], by omega, by omega, r3, fun x hx => absurd hx List.not_mem_nil, by show cj5 + lg.length + 0 + at' ≤ cj + at8; omega, by omega, pf8, pcI.trans r6 (by omega), (q9.trans a10).trans r7, VL_le (VL_congr a11 (fun j j1 j2 => r6.2.2.2 j j2)) (by omega), Or.inr rfl⟩⟩
          simp only [s20, s91, Option.bind_some, if_true, if_neg n3, o2, q1, A1, g1, ng', r1, gz_1]
        · rw [if_neg cc] at e1
          obtain ⟨Kb, k1, k2⟩ := need_0 e1 l3
          have k1' : f_X10_needSign K5 93 = some (0, Kb) := k1
          obtain ⟨J7, g3, g4⟩ := goF5_M (fu := fu) (at' := at5) a4.1.2.2.1 l2 a4.2.1.2.2.2.1.1 a4.2.1.2.2.2.1.2 a4.2.1.2.2.2.2.2.2.1 a4.2.1.2.2.2.2.2.2.2.1 hph5 u1 hA u2 hww a4.1.2.1.1.2.2.1.2 cc
          refine ⟨0, Kb, ?_, Or.inr ⟨rfl, J7, M5, 1, at5, by rw [hn1, step, a1, hn6]; exact goF a4.2.1.2.2.2.2.2.1 g3, BdC.of pcI ht k2, BdR.of pmI g4, ⟨by decide, l4⟩, q9.trans a10⟩⟩
          simp only [s20, s91, Option.bind_some, if_true, if_neg n3, o2, q1, A1, g1, k1', gz_0]
      · have e1 : f_X10_isSign K5 (nI 93) = some 0 := by
          rcases signB a4.1 93 (by omega) with ⟨_, _, w, _⟩ | ⟨w, _⟩
          · omega
          · exact w
        obtain ⟨Kb, k1, k2⟩ := need_0 e1 l3
        have k1' : f_X10_needSign K5 93 = some (0, Kb) := k1
        refine ⟨0, Kb, ?_, Or.inr ⟨rfl, J7, M5, 1, pl, by rw [hn1, step, a1, hn6]; exact goF a4.2.1.2.2.2.2.2.1 (goL_M l4 l5), BdC.of pcI ht k2, BdR.of pmI l5, ⟨by decide, l2⟩, q9.trans a10⟩⟩
        simp only [s20, s91, Option.bind_some, if_true, if_neg n3, o2, q1, A1, g1, k1', gz_0]
    · subst y0
      refine ⟨0, K5, ?_, Or.inr ⟨rfl, J5, M5, f, pl, by rw [hn1, step, d1], BdC.tr q8 d2, BdR.tr pf1 d3, d4, q9.trans d5⟩⟩
      simp only [s20, s91, Option.bind_some, if_true, if_neg n3, o2, q1, A1, g1, gz_0]
  · have k41 : (sI J 122 dp 0) 100 41 = nI 7 := by
      rw [zs_ne (by decide)]
      have := h.2.1.2.2.2.2.1
      rw [o1] at this
      exact this
    obtain ⟨J', m1, m2⟩ := opens7_M (fu := fu) (J := sI J 122 dp 0) (M := M) (v := 5) (at' := at') (by rw [zs_ne (by decide)]; exact h.1.2.2.1) k41 (by rw [zs_ne (by decide)]; exact h4.2)
    have hop := oB_M (fu := fu) (Y := (J', M)) h.1.2.2.1 hlex h.2.1.2.2.2.1.1 h.2.1.2.2.2.1.2 h.2.1.2.2.2.2.2.2.1 hfk h.2.1.2.2.2.2.2.2.2.2.1 (by decide) hts rfl t2 hw t1 hc m1
    have step := opF (fu := fu) (n := n1) (f := 5) h.2.1.2.2.2.2.2.1 hop (Or.inl rfl) (by decide) m2.2.1
    refine ⟨0, Kb, ?_, Or.inr ⟨rfl, sI J' 100 44 0, M, 5, at', by rw [hn1, step], BdC.of (PFc.refl (c0 := 0)) ht o3, ?_, ⟨by decide, by omega⟩, OnL.refl⟩⟩
    · simp only [s20, s91, Option.bind_some, if_true, if_neg n3, o2, gz_0]
    · have hb := BdR.of pf0 m2
      refine ⟨fun x a c => by rw [zs_ne c]; exact hb.1 x a c, fun s hs => by rw [zs_eq, zs_other (by omega)]; exact hb.2.1 s hs, fun k hk => by rw [zs_ne (by decide), zs_ne (by decide)]; exact hb.2.2.1 k hk, by rw [zs_eq, zs_other (by decide)]; exact hb.2.2.2.1, by rw [zs_eq, zs_other (by decide)]; exact hb.2.2.2.2⟩
/-- all -/
theorem fact_A {r o nd : Nat} (hf : 2000 < fu) (ht : t = 67 ∨ t = 80) (hok : okLd t = true) (hR : R 8 1 = t) {I J : HI} {M : HL} {k at' e cj om dp fk bs n c w : Nat} (h : PRx tp sz t b r0 I J M k at' e cj om dp o 0 fk 0 1 bs []) (hts : tsF fk) (hdp : dp ≤ o) (hn : sz + 10 ≤ n + at') (hk : k = 2) (hw : w = 21) (hc : c ≠ 91) (t1 : sgJ J c) (t2 : wdJ J M w) (t3 : ∀ d, d < 256 → f_X10_isSign I (nI d) = some (if c = d then 1 else 0)) (t4 : ∀ d, d < 25 → f_X10_isOwn I (nI d) = some (if w = d then 1 else 0)) : ∃ y K, f_X8_readFact (g_X8 fu r) fu I R (nI o) = some (y, K) ∧ ((y = 1 ∧ OutT tp sz fu t b r0 I J M K n at' cj om dp o fk bs 3 (nd + 1) pkF) ∨ (y = 0 ∧ OutB fu t b I J M K n)) := by
  have n3 : ¬ (1 : Int32) = 0 := by decide
  have hszs := h.1.2.2.2
  have hes := h.1.2.1.2.1
  have hcja : cj ≤ at' := by
    have : cj + 0 ≤ at' := h.2.2.2.2.2.2.2.2.2.1
    omega
  have s20 : f_X10_isOwn I 20 = some 0 := by
    have := t4 20 (by decide)
    rw [if_neg (by omega)] at this
    exact this
  have s91 : f_X10_isSign I 91 = some 0 := by
    have := t3 91 (by decide)
    rw [if_neg hc] at this
    exact this
  have s21 : f_X10_isOwn I 21 = some 1 := by
    have := t4 21 (by decide)
    rw [if_pos hw] at this
    exact this
  have hlex : f_X12_lex J = some J := by
    rcases lexS h.1 with ⟨_, z, _⟩ | ⟨z, _⟩
    · exact z
    · omega
  have hfk := h.2.2.2.2.2.2.2.2.2.2.2.2.2.1
  obtain ⟨n1, hn1⟩ : ∃ n1, n = n1 + 1 := ⟨n - 1, by omega⟩
  have hP1 := (setPB h).1
  have hP2 := (setPB hP1).2
  have hat := h.1.2.1.2.1.2.2 (by omega)
  have ad1 := add_M (s := 30) (v := 0) hP1.2.1.1.1 hP1.2.1.1.2 hP1.2.1.2.1 (by omega)
  have ad2 := add_M (s := 30) (v := 0) hP2.2.1.1.1 hP2.2.1.1.2 hP2.2.1.2.1 (by omega)
  obtain ⟨K1, K, J1, J3, M3, k3, at3, e3, b1, b2, b3, b4, b5, b6, b7, b8, b9, b10, b11⟩ := lit2_R (fu := fu) (v := 1) (s := 30) (x := 0) hP2 hf (by omega) ht (Or.inr (Or.inl ⟨by decide, rfl⟩))
  have eJ1 := ad2.symm.trans b3
  injection eJ1 with eJ1
  have hop := oA_M (fu := fu) (J3 := J3) (M3 := M3) h.1.2.2.1 hlex h.2.1.2.2.2.1.1 h.2.1.2.2.2.1.2 h.2.1.2.2.2.2.2.2.1 hfk h.2.1.2.2.2.2.2.2.2.2.1 (by decide) hts rfl t2 hw t1 hc ad1 (by
    rw [sI_cm (a := 100) (a' := 121) (by decide), sI_cm (a := 116) (a' := 121) (by decide), sI_cm (a := 115) (a' := 121) (by decide), eJ1]
    exact b4)
  have step := opR (fu := fu) (n := n1) h.2.1.2.2.2.2.2.1 hop (Or.inr rfl) b5
  have b6' := set44 b6 1
  unfold f_X8_readFact
  refine ⟨1, K, ?_, Or.inl ⟨rfl, sI J3 100 44 (nI 1), M3, k3, at3, e3, cj + 1, 2, [], n1, by rw [hn1, step]; rfl, by omega, by omega, b6', fun x hx => absurd hx List.not_mem_nil, by show cj + 1 + 0 + at' ≤ cj + at3; omega, by omega, ?_, b9, b10, VL_num (z := 1) (by rw [b11]; decide) (by decide) (by omega) (fun _ => Or.inr rfl), Or.inr rfl⟩⟩
  · simp only [s20, s91, s21, Option.bind_some, if_true, if_neg n3, b1, hR, zg_ok hok, b2, gz_1]
  · exact (((setPB_fr (Or.inr rfl)).trans (setPB_fr (Or.inl rfl)) (Nat.le_refl _) (Nat.le_refl _)).trans b8 (Nat.le_refl _) (Nat.le_refl _)).trans set44_fr (Nat.le_refl _) (Nat.le_refl _)
end
