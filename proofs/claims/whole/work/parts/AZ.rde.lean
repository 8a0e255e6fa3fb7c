/-! the rules' reader: the least and the greatest of two -/
theorem VL_bin2 {K : HI} {t r0 c0 c1 c2 nd1 nd2 nd code : Nat} (h1 : VL K t r0 c0 c1 nd1 0) (h2 : VL K t r0 c1 c2 nd2 0) (hcode : K (t + 10) c2 = opC code) (hc : 31 ≤ code ∧ code ≤ 40) (hnd : nd1 ≤ nd ∧ nd2 + 1 ≤ nd ∧ 3 ≤ nd) : VL K t r0 c0 (c2 + 1) nd 0 := VL_bin h1 h2 hcode ⟨hc.1, by omega⟩ (fun w => by omega) (fun w => absurd w (by decide)) hnd
section
variable {tp : Nat → Nat} {sz fu t b r0 : Nat} {R : HR}
/-- both sides put a frame's function behind what it takes, and leave the frame -/
theorem fun_out {I J0 J5 J6 : HI} {M5 : HL} {at5 e5 cj6 om dp o fk ph bs cj0 code n6 : Nat} (hf : 2000 < fu) (ht : t = 67 ∨ t = 80) (hg : GoH J5 (dp + 1) 4 0 41) (hj : f_X12_joins fu J5 1 = some J6) (h : PRx tp sz t b r0 I J6 M5 4 at5 e5 cj6 om (dp + 1) (o + 1) 1 4 0 0 om []) (hx : PFx J0 J6 b (dp + 1) om cj0) (h123 : J6 123 (dp + 1) = nI code) (hcode : 31 ≤ code ∧ code < 45) (j120 : J0 120 dp = nI fk) (j121 : J0 121 dp = nI ph) (j122 : J0 122 dp = nI 0) (j124 : J0 124 dp = nI bs) (hbs : bs ≤ om) (hfk : fk < 10) (hc0 : cj0 ≤ cj6) : ∃ K1 K J8 M8 k8 at8 e8, f_X10_advance fu I = some (1, K1) ∧ f_X2_emit K1 t (opC code) = some (1, K) ∧ f_X12_reads_L43 fu (n6 + 1) J5 M5 1 = f_X12_reads_L43 fu n6 J8 M8 1 ∧ PRx tp sz t b r0 K J8 M8 k8 at8 e8 (cj6 + 1) om dp o 1 fk ph 0 bs [] ∧ at5 < at8 ∧ PFm J0 J8 b dp om cj0 ∧ PFc I K t cj6 ∧ OnL M5 M8 ∧ K (t + 10) cj6 = opC code := by
  obtain ⟨d2, d3, d4, d5, d6, d7, d8, d9⟩ := hg
  obtain ⟨l1, l2⟩ := leave_R (J0 := J0) (fk := fk) (ph := ph) (bg := 0) (bs := bs) h hx j120 j121 j122 j124 hbs hfk (by decide)
  obtain ⟨K1, K, J7, J8, M8, k8, at8, e8, r1, r2, r3, r4, r5, r6, r7, r8, r9, r10, r11⟩ := lit2_R (fu := fu) (v := opC code) (s := nI code) (x := 0) l1 hf (by decide) ht (opC_cr code hcode.2 hcode.1 0)
  have go := goX4_M (fu := fu) (dp := dp + 1) (ph := 0) (J := J5) (J1 := J6) (J3 := J8) (M := M5) (M3 := M8) (c := 41) (op := o) (v := nI code) (J2 := J7) d2 d3 d4 d5 d6 d7 (by decide) d8 (fun _ => ⟨by decide, by decide, by decide, by decide, by decide⟩) rfl hj h.2.1.2.2.2.1.1 h.2.1.2.2.2.2.1 h123 r3 r4
  have step2 := goR (fu := fu) (n := n6) d9 go r5
  exact ⟨K1, K, J8, M8, k8, at8, e8, r1, r2, step2, r6, r7, l2.trans r8 (Nat.le_refl _) hc0, r9, r10, r11⟩
/-- from a frame's first sum to its second -/
theorem fun_next {I J5 J6 : HI} {M5 : HL} {at5 e5 cj6 om dp o n6 : Nat} (hf : 2000 < fu) (ht : t = 67 ∨ t = 80) (hg : GoH J5 dp 3 0 44) (hj : f_X12_joins fu J5 1 = some J6) (h : PRx tp sz t b r0 I J6 M5 4 at5 e5 cj6 om dp o 1 3 0 0 om []) : ∃ K J8 M8 k8 at8 e8, f_X10_advance fu I = some (1, K) ∧ f_X12_reads_L43 fu (n6 + 1) J5 M5 1 = f_X12_reads_L43 fu n6 J8 M8 1 ∧ PRx tp sz t b r0 K J8 M8 k8 at8 e8 cj6 om dp o 0 4 0 0 om [] ∧ at5 < at8 ∧ PFx J6 J8 b dp om cj6 ∧ J8 123 dp = J6 123 dp ∧ PFc I K t cj6 ∧ OnL M5 M8 := by
  obtain ⟨d2, d3, d4, d5, d6, d7, d8, d9⟩ := hg
  obtain ⟨s, ⟨⟨p1, p2⟩, p3, p4, ⟨p5, p6⟩, p7, p8, p9, p10, p11, p12⟩, q1, q2, q3, q4, q5, q6, q7, q8, q9, q10, q11, q12, q13⟩ := h
  obtain ⟨J7, hJ7⟩ : ∃ J7, J7 = sI (sI J6 120 dp (nI 4)) 121 dp 0 := ⟨_, rfl⟩
  have xx : ∀ x, x ≠ 120 → x ≠ 121 → J7 x = J6 x := fun x b1 b2 => by rw [hJ7, zs_ne b2, zs_ne b1]
  have h7 : PRx tp sz t b r0 I J7 M5 4 at5 e5 cj6 om dp o 1 4 0 0 om [] := ⟨StR_m s (xx 101 (by decide) (by decide)) (fun x hx => by rw [xx 100 (by decide) (by decide)]), ⟨⟨by rw [xx 100 (by decide) (by decide)]; exact p1, p2⟩, by rw [xx 100 (by decide) (by decide)]; exact p3, by rw [xx 100 (by decide) (by decide)]; exact p4, ⟨by rw [xx 100 (by decide) (by decide)]; exact p5, p6⟩, by rw [xx 100 (by decide) (by decide)]; exact p7, by rw [xx 100 (by decide) (by decide)]; exact p8, by rw [hJ7, zs_ne (by decide), zs_eq, zs_same], by rw [hJ7, zs_eq, zs_same]; rfl, by rw [xx 122 (by decide) (by decide)]; exact p11, by rw [xx 124 (by decide) (by decide)]; exact p12⟩, q1, trivial, trivial, q4, fun j hj => by rw [xx 115 (by decide) (by decide), xx 116 (by decide) (by decide)]; exact q5 j hj, q6, q7, q8, q9, by rw [xx 100 (by decide) (by decide)]; exact q10, q11, by decide, q13⟩
  obtain ⟨K, J8, M8, k8, at8, e8, r1, r2, r3, r4, r5, r6, r7⟩ := adv_P (fu := fu) h7 hf (by decide) ht
  rw [hJ7] at r2
  have go := goK3_M (fu := fu) (dp := dp) (ph := 0) (J := J5) (J1 := J6) (J3 := J8) (M := M5) (M3 := M8) (c := 44) d2 d3 d4 d5 d6 d7 (by decide) d8 (fun _ => ⟨by decide, by decide, by decide, by decide, by decide⟩) rfl hj r2
  have h44 := set44 r3 0
  have step2 := goR (fu := fu) (n := n6) d9 go (by rw [zs_eq, zs_other (by decide)]; exact r3.1.2.2.1)
  have f44 := set44_fr (J := J8) (b := b) (dp := dp) (om := om) (cj := cj6) (v := 0)
  have p9' : dp < 12 := p6
  have q7' : om ≤ 100 := q7
  have q8' : cj6 ≤ 1600 := by
    have z1 : cj6 + 0 ≤ at5 := q8
    have := s.2.1.2.1
    have := s.2.2.2
    omega
  refine ⟨K, sI J8 100 44 0, M8, k8, at8, e8, r1, step2, h44, r4, ?_, ?_, r6, r7⟩
  · have r5' := r5.le (dp' := dp) (om' := om) (cj' := cj6) (by omega) (by omega) (by omega)
    refine PFx.trans (PFx.trans (J' := J7) ⟨fun x a c => xx x (by omega) (by omega), fun s' _ => by rw [xx 100 (by decide) (by decide)], fun i hi => ?_, fun i _ => by rw [xx 125 (by decide) (by decide)], fun k' _ => by rw [xx 115 (by decide) (by decide), xx 116 (by decide) (by decide)]; exact ⟨rfl, rfl⟩⟩ r5' (Nat.le_refl _) (Nat.le_refl _)) f44.x (Nat.le_refl _) (Nat.le_refl _)
    rw [hJ7, zs_ne (by decide), zs_eq, zs_other (by omega), zs_eq, zs_other (by omega), zs_ne (by decide), zs_ne (by decide), zs_ne (by decide), zs_ne (by decide), zs_ne (by decide), zs_ne (by decide), zs_ne (by decide)]
    exact ⟨rfl, rfl, rfl, rfl, rfl⟩
  · rw [zs_ne (by decide), (r5.2.2.1 dp (by omega)).2.2.2.1, xx 123 (by decide) (by decide)]
/-- two sums behind a function's bracket, the frame's second part first -/
theorem two_R {r o nd : Nat} (hf : 2000 < fu) (ht : t = 67 ∨ t = 80) (hok : okLd t = true) (hR : R 8 1 = t) (hs : SumP tp sz fu t b r0 R r 6 (o + 1) 5 nd 3 tkSm) {I J J0 : HI} {M : HL} {k at' e cj om dp fk ph bg bs n code : Nat} (h : PRx tp sz t b r0 I J M k at' e cj om (dp + 1) (o + 1) 0 4 0 bg om []) (hx : PFx J0 J b (dp + 1) om cj) (h123 : J 123 (dp + 1) = nI code) (hcode : 31 ≤ code ∧ code < 45) (j120 : J0 120 dp = nI fk) (j121 : J0 121 dp = nI ph) (j122 : J0 122 dp = nI 0) (j124 : J0 124 dp = nI bs) (hbs : bs ≤ om) (hfk : fk < 10) (hom : om ≤ 5 * dp + o + 5) (hdp : dp ≤ o) (hn : sz + 10 ≤ n + at') : ∃ y K, ((g_X8 fu r 6 I R (nI (o + 1)) 0).bind fun x8 => if x8.1 = 0 then gz 0 (some ((0 : Int32), x8.2)) else (f_X10_needSign x8.2 41).bind fun x9 => if x9.1 = 0 then gz 0 (some (0, x9.2)) else (f_X10_advance fu x9.2).bind fun x10 => if x10.1 = 0 then gz 0 (some (0, x10.2)) else (f_X2_emit x10.2 t (opC code)).bind fun x12 => if x12.1 = 0 then gz 0 (some (0, x12.2)) else gz 1 (some (1, x12.2))) = some (y, K) ∧ ((y = 0 ∧ OutB fu t b I J M K n) ∨ (y = 1 ∧ ∃ (J8 : HI) (M8 : HL) (k8 at8 e8 cj6 n6 : Nat), f_X12_reads_L43 fu n J M 1 = f_X12_reads_L43 fu n6 J8 M8 1 ∧ n + at' ≤ n6 + at8 ∧ at' < at8 ∧ PRx tp sz t b r0 K J8 M8 k8 at8 e8 (cj6 + 1) om dp o 1 fk ph 0 bs [] ∧ cj6 + 1 + at' ≤ cj + at8 ∧ cj ≤ cj6 ∧ PFm J0 J8 b dp om cj ∧ PFc I K t cj ∧ OnL M M8 ∧ VL K t r0 cj cj6 nd 0 ∧ K (t + 10) cj6 = opC code)) := by
  have n3 : ¬ (1 : Int32) = 0 := by decide
  obtain ⟨y, K5, g1, g2⟩ := ss_R (r := r) (o := o + 1) (nd := nd) (fk := 4) (sg := 41) (n := n) hf ht hs (Or.inr (Or.inr ⟨rfl, rfl⟩)) h (by omega) (by omega) hn
  rcases g2 with ⟨y0, w⟩ | ⟨y1, Kb, nb, w⟩ | ⟨y1, ng, J5, J6, M5, at5, e5, cj6, n6, d1, d2, d10, d11, d12, d13, d14, d15, d16, d17, d18, d19⟩
  · subst y0
    refine ⟨0, K5, ?_, Or.inl ⟨rfl, w⟩⟩
    rw [g1, Option.bind_some, if_pos rfl]
    exact gz_0
  · subst y1
    have nb' : f_X10_needSign K5 41 = some (0, Kb) := nb
    refine ⟨0, Kb, ?_, Or.inl ⟨rfl, w⟩⟩
    rw [g1, Option.bind_some, if_neg n3, nb', Option.bind_some, if_pos rfl]
    exact gz_0
  · subst y1
    have ng' : f_X10_needSign K5 41 = some (1, K5) := ng
    obtain ⟨K1, K, J8, M8, k8, at8, e8, r1, r2, r3, r4, r5, r6, r7, r8, r9⟩ := fun_out (fu := fu) (n6 := n6) hf ht d2 d10 d11 (hx.trans d16.x (Nat.le_refl _) (Nat.le_refl _)) (by rw [d16.2.2.2.1]; exact h123) hcode j120 j121 j122 j124 hbs hfk d15
    refine ⟨1, K, ?_, Or.inr ⟨rfl, J8, M8, k8, at8, e8, cj6, n6, by rw [d1, r3], by omega, by omega, r4, by omega, d15, r6, d17.trans r7 d15, d18.trans r8, VL_congr d19 (fun j j1 j2 => r7.2.2.2 j j2), r9⟩⟩
    rw [g1, Option.bind_some, if_neg n3, ng', Option.bind_some, if_neg n3, r1, Option.bind_some, if_neg n3, r2, Option.bind_some, if_neg n3]
    exact gz_1
end
