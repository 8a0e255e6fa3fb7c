/-! the rules' reader: choices -/
theorem VL_ch {K : HI} {t r0 c0 c1 c2 c3 nd1 nd2 nd3 nd : Nat} (h1 : VL K t r0 c0 c1 nd1 1) (h2 : VL K t r0 c1 c2 nd2 0) (h3 : VL K t r0 c2 c3 nd3 0) (hcode : K (t + 10) c3 = opC 44) (hnd : nd1 ≤ nd ∧ nd2 + 1 ≤ nd ∧ nd3 + 2 ≤ nd ∧ 4 ≤ nd) : VL K t r0 c0 (c3 + 1) nd 0 := by
  have a1 := h1.1
  have a2 := h2.1
  have a3 := h3.1
  refine ⟨by omega, fun fig hf st hs => ?_⟩
  obtain ⟨x, e1, f1⟩ := h1.2 fig hf st (by omega)
  obtain ⟨y, e2, f2⟩ := h2.2 fig hf (x :: st) (by show st.length + 1 + nd2 ≤ 100; omega)
  obtain ⟨z, e3, f3⟩ := h3.2 fig hf (y :: x :: st) (by show st.length + 1 + 1 + nd3 ≤ 100; omega)
  have ez : (opC 44).toInt = -8 := by decide
  have hv := f1 rfl
  have es : evS fig (K (t + 10) c3).toInt (z :: y :: x :: st) = some ((if x = 0 then z else y) :: st) := by
    rw [hcode]
    unfold evS
    have hl : (z :: y :: x :: st).length = st.length + 3 := rfl
    rw [if_neg (by rw [hl]; omega), if_neg (by rw [ez]; omega), if_neg (by rw [ez]; omega), if_neg (by rw [ez]; omega), if_pos ez]
    show (if x = 0 ∨ x = 1 then some ((if x = 0 then z else y) :: st) else none) = _
    rw [if_pos hv]
  refine ⟨if x = 0 then z else y, ?_, fun w => absurd w (by decide)⟩
  rw [show c3 + 1 - c0 = (c1 - c0) + ((c2 - c1) + ((c3 - c2) + 1)) by omega, evN_add, e1, Option.bind_some, show c0 + (c1 - c0) = c1 by omega, evN_add, e2, Option.bind_some, show c1 + (c2 - c1) = c2 by omega, evN_add, e3, Option.bind_some, show c2 + (c3 - c2) = c3 by omega, ev1]
  exact es
section
variable {tp : Nat → Nat} {sz fu t b r0 : Nat} {R : HR}
theorem set20 {I J J7 : HI} {M : HL} {k at' e cj om dp o opd fk ph bg bs fk' : Nat} (h : PRx tp sz t b r0 I J M k at' e cj om dp o opd fk ph bg bs []) (hfk' : fk' < 10) (hJ7 : J7 = sI (sI J 120 dp (nI fk')) 121 dp 0) : PRx tp sz t b r0 I J7 M k at' e cj om dp o opd fk' 0 bg bs [] ∧ PFx J J7 b dp om cj ∧ J7 123 dp = J 123 dp := by
  obtain ⟨s, ⟨⟨p1, p2⟩, p3, p4, ⟨p5, p6⟩, p7, p8, p9, p10, p11, p12⟩, q1, q2, q3, q4, q5, q6, q7, q8, q9, q10, q11, q12, q13⟩ := h
  have xx : ∀ x, x ≠ 120 → x ≠ 121 → J7 x = J x := fun x b1 b2 => by rw [hJ7, zs_ne b2, zs_ne b1]
  have e := xx 100 (by decide) (by decide)
  refine ⟨⟨StR_m s (xx 101 (by decide) (by decide)) (fun x hx => by rw [e]), ⟨⟨by rw [e]; exact p1, p2⟩, by rw [e]; exact p3, by rw [e]; exact p4, ⟨by rw [e]; exact p5, p6⟩, by rw [e]; exact p7, by rw [e]; exact p8, by rw [hJ7, zs_ne (by decide), zs_eq, zs_same], by rw [hJ7, zs_eq, zs_same]; rfl, by rw [xx 122 (by decide) (by decide)]; exact p11, by rw [xx 124 (by decide) (by decide)]; exact p12⟩, q1, trivial, trivial, fun c hc => absurd hc List.not_mem_nil, fun j hj => by rw [xx 115 (by decide) (by decide), xx 116 (by decide) (by decide)]; exact q5 j hj, q6, q7, q8, q9, by rw [e]; exact q10, q11, hfk', q13⟩, ⟨fun x a c => xx x (by omega) (by omega), fun s' _ => by rw [e], fun i hi => ?_, fun i _ => by rw [xx 125 (by decide) (by decide)], fun k' _ => by rw [xx 115 (by decide) (by decide), xx 116 (by decide) (by decide)]; exact ⟨rfl, rfl⟩⟩, by rw [xx 123 (by decide) (by decide)]⟩
  rw [hJ7, zs_ne (by decide), zs_eq, zs_other (by omega), zs_eq, zs_other (by omega), zs_ne (by decide), zs_ne (by decide), zs_ne (by decide), zs_ne (by decide), zs_ne (by decide), zs_ne (by decide), zs_ne (by decide)]
  exact ⟨rfl, rfl, rfl, rfl, rfl⟩
/-- a test and the comma behind it -/
theorem ts_R {r o nd : Nat} (hf : 2000 < fu) (ht : t = 67 ∨ t = 80) (hs : TestQ tp sz fu t b r0 R r 7 o 1 1 nd 0 pkT) {I J : HI} {M : HL} {k at' e cj om dp n : Nat} (h : PRx tp sz t b r0 I J M k at' e cj om dp o 0 6 0 1 om []) (hom : om ≤ 5 * dp + o) (hdp : dp ≤ o) (hn : sz + 10 ≤ n + at') : ∃ y K, g_X8 fu r 7 I R (nI o) 0 = some (y, K) ∧ ((y = 0 ∧ OutB fu t b I J M K n) ∨ (y = 1 ∧ ∃ Kb, f_X10_needSign K 44 = some (0, Kb) ∧ OutB fu t b I J M Kb n) ∨ (y = 1 ∧ f_X10_needSign K 44 = some (1, K) ∧ ∃ (K8 J8 : HI) (M8 : HL) (k8 at8 e8 cj6 n6 : Nat), f_X10_advance fu K = some (1, K8) ∧ f_X12_reads_L43 fu n J M 1 = f_X12_reads_L43 fu n6 J8 M8 1 ∧ PRx tp sz t b r0 K8 J8 M8 k8 at8 e8 cj6 om dp o 0 3 0 0 om [] ∧ n + at' ≤ n6 + at8 ∧ at' < at8 ∧ cj6 + at' ≤ cj + at8 ∧ cj ≤ cj6 ∧ PFx J J8 b dp om cj ∧ J8 123 dp = J 123 dp ∧ PFc I K8 t cj ∧ OnL M M8 ∧ VL K8 t r0 cj cj6 nd 1)) := by
  obtain ⟨y, K, g1, g2⟩ := hs I J M k at' e cj om dp 6 om n h (Or.inr (Or.inr rfl)) (Or.inl rfl) hom hdp hn
  refine ⟨y, K, g1, ?_⟩
  rcases g2 with ⟨y1, J5, M5, k5, at5, e5, cj5, ph5, lg, n5, a1, a2, a3, a4, a5, a6, a7, a8, a9, a10, a11, a12⟩ | ⟨y0, w⟩
  · right
    obtain ⟨n6, hn6⟩ : ∃ n6, n5 = n6 + 1 + 1 := ⟨n5 - 2, by have := a4.1.2.1.2.1; have := h.1.2.1.2.1; omega⟩
    have hph5 : 1 ≤ ph5 ∧ ph5 ≤ 2 := by
      rcases a12.1.1 with ⟨z, _⟩ | z
      · omega
      · omega
    rcases lexS a4.1 with ⟨l1, l2, l3, l4⟩ | ⟨l1, pl, J7, l2, l3, l4, l5⟩
    · obtain ⟨c', w', u1, u2, u3, u4, u5, u6⟩ := tok a4.1 l1
      have hA : ph5 < 2 → noA c' := fun z => by
        rcases a12.1.1 with ⟨_, z2⟩ | z2
        · exact noA_of z2 u5
        · omega
      have hww : w' ≠ 19 ∧ w' ≠ 18 := by
        rcases u6 with ⟨z0, z1, z2⟩ | ⟨_, z⟩
        · exact ⟨fun v => a12.1.2 z0 (by rw [z2, v]), fun v => a12.2 z0 (by rw [z2, v])⟩
        · omega
      have e1 : f_X10_isSign K 44 = _ := u3 44 (by decide)
      by_cases cc : c' = 44
      · right
        rw [if_pos cc] at e1
        have hk4 : k5 = 4 := by
          rcases u5 with ⟨z, _⟩ | ⟨_, z⟩
          · exact z
          · omega
        subst hk4
        obtain ⟨J6, j1, j2, j3⟩ := jn_R (fu := fu) (least := 1) a4 hf (fun x _ => rk6.1) (Or.inl (by rw [Nat.add_sub_cancel])) (by decide)
        rw [Nat.add_sub_cancel] at j2 j3
        obtain ⟨J7, hJ7⟩ : ∃ J7, J7 = sI (sI J6 120 dp (nI 3)) 121 dp 0 := ⟨_, rfl⟩
        obtain ⟨s1, s2, s3⟩ := set20 j2 (by decide) hJ7
        obtain ⟨K8, J8, M8, k8, at8, e8, r1, r2, r3, r4, r5, r6, r7⟩ := adv_P (fu := fu) s1 hf (by decide) ht
        have go := goK6_M (fu := fu) (dp := dp) (ph := ph5) (J := J5) (J1 := J6) (J3 := J8) (M := M5) (M3 := M8) (c := c') (w := w') a4.1.2.2.1 l2 a4.2.1.2.2.2.1.1 a4.2.1.2.2.2.1.2 a4.2.1.2.2.2.2.2.2.1 a4.2.1.2.2.2.2.2.2.2.1 hph5 u1 hA u2 hww cc j1 (by rw [← hJ7]; exact r2)
        have step2 := goR (fu := fu) (n := n6 + 1) a4.2.1.2.2.2.2.2.1 go (by rw [zs_eq, zs_other (by decide)]; exact r3.1.2.2.1)
        have h44 := set44 r3 0
        have f44 := set44_fr (J := J8) (b := b) (dp := dp) (om := om) (cj := cj) (v := nI 0)
        have hd12 := h.2.1.2.2.2.1.2
        have ho100 : om ≤ 100 := h.2.2.2.2.2.2.2.2.1
        have hcja : cj ≤ at' := by
          have : cj + 0 ≤ at' := h.2.2.2.2.2.2.2.2.2.1
          omega
        have hes := h.1.2.1.2.1
        have hszs := h.1.2.2.2
        have r5' := r5.le (dp' := dp) (om' := om) (cj' := cj) (by omega) (by omega) (by omega)
        refine ⟨y1, need_1 e1, K8, sI J8 100 44 (nI 0), M8, k8, at8, e8, cj5 + lg.length, n6 + 1, r1, ?_, h44, by omega, by omega, by omega, by omega, ?_, ?_, a9.trans r6 (by omega), a10.trans r7, VL_congr a11 (fun j j1 j2 => r6.2.2.2 j j2)⟩
        · rw [a1, hn6, step2]
          rfl
        · have q0 : PFx J J6 b dp om cj := a8.x.trans j3.x (Nat.le_refl _) a7
          have q1 : PFx J J7 b dp om cj := q0.trans s2 (Nat.le_refl _) (by omega)
          exact (q1.trans r5' (Nat.le_refl _) (Nat.le_refl _)).trans f44.x (Nat.le_refl _) (Nat.le_refl _)
        · rw [zs_ne (by decide), (r5.2.2.1 dp (by omega)).2.2.2.1, s3, j3.2.2.2.1, a8.2.2.2.1]
      · left
        rw [if_neg cc] at e1
        obtain ⟨Kb, k1, k2⟩ := need_0 e1 l3
        obtain ⟨J7, g3, g4⟩ := goF6_M (fu := fu) (at' := at5) a4.1.2.2.1 l2 a4.2.1.2.2.2.1.1 a4.2.1.2.2.2.1.2 a4.2.1.2.2.2.2.2.2.1 a4.2.1.2.2.2.2.2.2.2.1 hph5 u1 hA u2 hww a4.1.2.1.1.2.2.1.2 cc
        exact ⟨y1, Kb, k1, J7, M5, 1, at5, by rw [a1, hn6]; exact goF a4.2.1.2.2.2.2.2.1 g3, BdC.of a9 ht k2, BdR.of a8 g4, ⟨by decide, l4⟩, a10⟩
    · left
      have e1 : f_X10_isSign K 44 = some 0 := by
        rcases signB a4.1 44 (by omega) with ⟨_, _, w, _⟩ | ⟨w, _⟩
        · omega
        · exact w
      obtain ⟨Kb, k1, k2⟩ := need_0 e1 l3
      exact ⟨y1, Kb, k1, J7, M5, 1, pl, by rw [a1, hn6]; exact goF a4.2.1.2.2.2.2.2.1 (goL_M l4 l5), BdC.of a9 ht k2, BdR.of a8 l5, ⟨by decide, l2⟩, a10⟩
  · exact Or.inl ⟨y0, w⟩
/-- two sums, and the function behind them -/
theorem pr_R {r o nd : Nat} (hf : 2000 < fu) (ht : t = 67 ∨ t = 80) (hok : okLd t = true) (hR : R 8 1 = t) (hs : SumP tp sz fu t b r0 R r 6 (o + 1) 5 nd 3 tkSm) {I J : HI} {M : HL} {k at' e cj om dp fk ph bg bs n code : Nat} (h : PRx tp sz t b r0 I J M k at' e cj om (dp + 1) (o + 1) 0 3 0 bg om []) (h123 : J 123 (dp + 1) = nI code) (hcode : 31 ≤ code ∧ code < 45) (j120 : J 120 dp = nI fk) (j121 : J 121 dp = nI ph) (j122 : J 122 dp = nI 0) (j124 : J 124 dp = nI bs) (hbs : bs ≤ om) (hfk : fk < 10) (hom : om ≤ 5 * dp + o + 5) (hdp : dp ≤ o) (hn : sz + 10 ≤ n + at') : ∃ y K, ((g_X8 fu r 6 I R (nI (o + 1)) 0).bind fun x8 => if x8.1 = 0 then gz 0 (some ((0 : Int32), x8.2)) else (f_X10_needSign x8.2 44).bind fun x9 => if x9.1 = 0 then gz 0 (some (0, x9.2)) else (f_X10_advance fu x9.2).bind fun x10 => if x10.1 = 0 then gz 0 (some (0, x10.2)) else (g_X8 fu r 6 x10.2 R (nI (o + 1)) 0).bind fun x8 => if x8.1 = 0 then gz 0 (some ((0 : Int32), x8.2)) else (f_X10_needSign x8.2 41).bind fun x9 => if x9.1 = 0 then gz 0 (some (0, x9.2)) else (f_X10_advance fu x9.2).bind fun x10 => if x10.1 = 0 then gz 0 (some (0, x10.2)) else (f_X2_emit x10.2 t (opC code)).bind fun x12 => if x12.1 = 0 then gz 0 (some (0, x12.2)) else gz 1 (some (1, x12.2))) = some (y, K) ∧ ((y = 0 ∧ OutB fu t b I J M K n) ∨ (y = 1 ∧ ∃ (J8 : HI) (M8 : HL) (k8 at8 e8 cj5 cj6 n6 : Nat), f_X12_reads_L43 fu n J M 1 = f_X12_reads_L43 fu n6 J8 M8 1 ∧ n + at' ≤ n6 + at8 ∧ at' < at8 ∧ PRx tp sz t b r0 K J8 M8 k8 at8 e8 (cj6 + 1) om dp o 1 fk ph 0 bs [] ∧ cj6 + 1 + at' ≤ cj + at8 ∧ cj ≤ cj5 ∧ cj5 ≤ cj6 ∧ PFm J J8 b dp om cj ∧ PFc I K t cj ∧ OnL M M8 ∧ VL K t r0 cj cj5 nd 0 ∧ VL K t r0 cj5 cj6 nd 0 ∧ K (t + 10) cj6 = opC code)) := by
  have n3 : ¬ (1 : Int32) = 0 := by decide
  obtain ⟨y, K5, g1, g2⟩ := ss_R (r := r) (o := o + 1) (nd := nd) (fk := 3) (sg := 44) (n := n) hf ht hs (Or.inr (Or.inl ⟨rfl, rfl⟩)) h (by omega) (by omega) hn
  rcases g2 with ⟨y0, w⟩ | ⟨y1, Kb, nb, w⟩ | ⟨y1, ng2, J5, J6, M5, at5, e5, cj6, n6, d1, d2, d10, d11, d12, d13, d14, d15, d16, d17, d18, d19⟩
  · subst y0
    refine ⟨0, K5, ?_, Or.inl ⟨rfl, w⟩⟩
    rw [g1, Option.bind_some, if_pos rfl]
    exact gz_0
  · subst y1
    have nb' : f_X10_needSign K5 44 = some (0, Kb) := nb
    refine ⟨0, Kb, ?_, Or.inl ⟨rfl, w⟩⟩
    rw [g1, Option.bind_some, if_neg n3, nb', Option.bind_some, if_pos rfl]
    exact gz_0
  · subst y1
    have ng2' : f_X10_needSign K5 44 = some (1, K5) := ng2
    obtain ⟨K8, J8, M8, k8, at8, e8, r1, r2, r3, r4, r5, r6, r7, r8⟩ := fun_next (fu := fu) (n6 := n6) hf ht d2 d10 d11
    have fx : PFx J J8 b (dp + 1) om cj := d16.x.trans r5 (Nat.le_refl _) d15
    obtain ⟨y2, K9, v1, v2⟩ := two_R (r := r) (o := o) (nd := nd) (fu := fu) (J0 := J8) (fk := fk) (ph := ph) (bs := bs) (code := code) (n := n6) hf ht hok hR hs r3 ⟨fun _ _ _ => rfl, fun _ _ => rfl, fun _ _ => ⟨rfl, rfl, rfl, rfl, rfl⟩, fun _ _ => rfl, fun _ _ => ⟨rfl, rfl⟩⟩ (by rw [r6, d16.2.2.2.1]; exact h123) hcode (by rw [(fx.2.2.1 dp (by omega)).1]; exact j120) (by rw [(fx.2.2.1 dp (by omega)).2.1]; exact j121) (by rw [(fx.2.2.1 dp (by omega)).2.2.1]; exact j122) (by rw [(fx.2.2.1 dp (by omega)).2.2.2.2]; exact j124) hbs hfk hom hdp (by omega)
    refine ⟨y2, K9, ?_, ?_⟩
    · rw [g1, Option.bind_some, if_neg n3, ng2', Option.bind_some, if_neg n3, r1, Option.bind_some, if_neg n3]
      exact v1
    · rcases v2 with ⟨z, J9, M9, f, pl, w1, w2, w3, w4, w5⟩ | ⟨z, J9, M9, k9, at9, e9, cj9, n9, w1, w2, w3, w4, w5, w6, w7, w8, w9, w10, w11⟩
      · left
        exact ⟨z, J9, M9, f, pl, by rw [d1, r2, w1], BdC.tr (d17.trans r7 d15) w2, BdR.tr fx.dn w3, w4, (d18.trans r8).trans w5⟩
      · right
        exact ⟨z, J9, M9, k9, at9, e9, cj6, cj9, n9, by rw [d1, r2, w1], by omega, by omega, w4, by omega, d15, w6, fx.dn.trans w7 (Nat.le_refl _) d15, (d17.trans r7 d15).trans w8 d15, (d18.trans r8).trans w9, VL_congr d19 (fun j j1 j2 => by rw [w8.2.2.2 j (by omega), r7.2.2.2 j (by omega)]), w10, w11⟩
end
