/-! the rules' reader: a sum and the sign behind it -/
section
variable {tp : Nat → Nat} {sz fu t b r0 : Nat} {R : HR}
theorem need_1 {I : HI} {sg : Int32} (h : f_X10_isSign I sg = some 1) : f_X10_needSign I sg = some (1, I) := by
  have n3 : ¬ (1 : Int32) = 0 := by decide
  unfold f_X10_needSign
  simp only [h, Option.bind_some, jnt, if_neg n3, gz_1]
theorem need_0 {I : HI} {sg : Int32} {pl : Nat} (h : f_X10_isSign I sg = some 0) (h5 : I 7 5 = nI pl) : ∃ K, f_X10_needSign I sg = some (0, K) ∧ BadC I K 1 pl := by
  obtain ⟨K, k1, k2⟩ := failFormC h5
  refine ⟨K, ?_, k2⟩
  unfold f_X10_needSign
  simp only [h, Option.bind_some, jnt, if_true, k1, gz_0]
/-- what the reference needs to go on at a sign -/
def GoH (J : HI) (dp fk ph c : Nat) : Prop := J 100 8 = 0 ∧ f_X12_lex J = some J ∧ J 100 40 = nI (dp + 1) ∧ dp < 12 ∧ J 120 dp = nI fk ∧ J 121 dp = nI ph ∧ sgJ J c ∧ J 100 44 = nI 1
theorem noA_of {K : HI} {k c : Nat} (h : tkSm K k) (h5 : (k = 4 ∧ c < 256 ∧ K 7 6 = nI c) ∨ (k ≠ 4 ∧ c = 999)) : noA c := by
  rcases h5 with ⟨z0, z1, z2⟩ | ⟨_, z⟩
  · obtain ⟨⟨a1, a2, a3⟩, a4, a5⟩ := h z0
    exact ⟨fun w => a4 (by rw [z2, w]), fun w => a5 (by rw [z2, w]), fun w => a1 (by rw [z2, w]), fun w => a2 (by rw [z2, w]), fun w => a3 (by rw [z2, w])⟩
  · subst z
    exact ⟨by decide, by decide, by decide, by decide, by decide⟩
theorem ss_R {r o nd fk sg : Nat} (hf : 2000 < fu) (ht : t = 67 ∨ t = 80) (hs : SumP tp sz fu t b r0 R r 6 o 5 nd 3 tkSm) (hfk : (fk = 2 ∧ sg = 41) ∨ (fk = 3 ∧ sg = 44) ∨ (fk = 4 ∧ sg = 41)) {I J : HI} {M : HL} {k at' e cj om dp bg n : Nat} (h : PRx tp sz t b r0 I J M k at' e cj om dp o 0 fk 0 bg om []) (hom : om ≤ 5 * dp + o + 3) (hdp : dp ≤ o) (hn : sz + 10 ≤ n + at') : ∃ y K, g_X8 fu r 6 I R (nI o) 0 = some (y, K) ∧ ((y = 0 ∧ OutB fu t b I J M K n) ∨ (y = 1 ∧ ∃ Kb, f_X10_needSign K (nI sg) = some (0, Kb) ∧ OutB fu t b I J M Kb n) ∨ (y = 1 ∧ f_X10_needSign K (nI sg) = some (1, K) ∧ ∃ (J5 J6 : HI) (M5 : HL) (at5 e5 cj6 n6 : Nat), f_X12_reads_L43 fu n J M 1 = f_X12_reads_L43 fu (n6 + 1) J5 M5 1 ∧ GoH J5 dp fk 0 sg ∧ f_X12_joins fu J5 1 = some J6 ∧ PRx tp sz t b r0 K J6 M5 4 at5 e5 cj6 om dp o 1 fk 0 0 om [] ∧ n + at' ≤ n6 + 1 + at5 ∧ at' < at5 ∧ cj6 + at' ≤ cj + at5 ∧ cj ≤ cj6 ∧ PFm J J6 b dp om cj ∧ PFc I K t cj ∧ OnL M M5 ∧ VL K t r0 cj cj6 nd 0)) := by
  have hts : ¬ tsF fk := by unfold tsF; omega
  obtain ⟨y, K, g1, g2⟩ := hs I J M k at' e cj om dp fk 0 bg om n h (by decide) (fun w => absurd w.1 hts) (Or.inl rfl) hom hdp hn
  refine ⟨y, K, g1, ?_⟩
  rcases g2 with ⟨y1, J5, M5, k5, at5, e5, cj5, ph5, lg, n5, a1, a2, a3, a4, a5, a6, a7, a8, a9, a10, a11, a12, a13⟩ | ⟨y0, w⟩
  · right
    subst a12
    have hk5 : k5 = 5 ∨ k5 ≠ 5 := by omega
    obtain ⟨n6, hn6⟩ : ∃ n6, n5 = n6 + 1 + 1 := ⟨n5 - 2, by have := a4.1.2.1.2.1; omega⟩
    rcases lexS a4.1 with ⟨l1, l2, l3, l4⟩ | ⟨l1, pl, J7, l2, l3, l4, l5⟩
    · obtain ⟨c, w, t1, t2, t3, t4, t5, t6⟩ := tok a4.1 l1
      have hA : noA c := noA_of a13 t5
      have hsg : sg < 256 := by omega
      have e1 := t3 sg hsg
      by_cases cc : c = sg
      · right
        rw [if_pos cc] at e1
        have hk4 : k5 = 4 := by
          rcases t5 with ⟨z, _⟩ | ⟨_, z⟩
          · exact z
          · omega
        subst hk4
        obtain ⟨J6, j1, j2, j3⟩ := jn_R (fu := fu) (least := 1) a4 hf (fun x _ => rk6.1) (Or.inl (by rw [Nat.add_sub_cancel])) (by decide)
        rw [Nat.add_sub_cancel] at j2 j3
        refine ⟨y1, need_1 e1, J5, J6, M5, at5, e5, cj5 + lg.length, n6 + 1, by rw [a1, hn6], ⟨a4.1.2.2.1, l2, a4.2.1.2.2.2.1.1, a4.2.1.2.2.2.1.2, a4.2.1.2.2.2.2.2.2.1, a4.2.1.2.2.2.2.2.2.2.1, by rw [← cc]; exact t1, a4.2.1.2.2.2.2.2.1⟩, j1, j2, by omega, a3, by omega, by omega, a8.trans j3 (Nat.le_refl _) a7, a9, a10, a11⟩
      · left
        rw [if_neg cc] at e1
        obtain ⟨Kb, k1, k2⟩ := need_0 e1 l3
        have go : ∃ J', f_X12_goesOn fu J5 M5 = some (0, J', M5) ∧ BadM J5 J' 1 at5 := by
          have h120 := a4.2.1.2.2.2.2.2.2.1
          rcases hfk with ⟨rfl, rfl⟩ | ⟨rfl, rfl⟩ | ⟨rfl, rfl⟩
          · exact goF2_M a4.1.2.2.1 l2 a4.2.1.2.2.2.1.1 a4.2.1.2.2.2.1.2 h120 a4.2.1.2.2.2.2.2.2.2.1 (by decide) t1 (fun _ => hA) a4.1.2.1.1.2.2.1.2 cc
          · exact goF3_M a4.1.2.2.1 l2 a4.2.1.2.2.2.1.1 a4.2.1.2.2.2.1.2 h120 a4.2.1.2.2.2.2.2.2.2.1 (by decide) t1 (fun _ => hA) a4.1.2.1.1.2.2.1.2 cc
          · exact goF4_M a4.1.2.2.1 l2 a4.2.1.2.2.2.1.1 a4.2.1.2.2.2.1.2 h120 a4.2.1.2.2.2.2.2.2.2.1 (by decide) t1 (fun _ => hA) a4.1.2.1.1.2.2.1.2 cc
        obtain ⟨J7, g3, g4⟩ := go
        exact ⟨y1, Kb, k1, J7, M5, 1, at5, by rw [a1, hn6]; exact goF a4.2.1.2.2.2.2.2.1 g3, BdC.of a9 ht k2, BdR.of a8 g4, ⟨by decide, l4⟩, a10⟩
    · left
      have e1 : f_X10_isSign K (nI sg) = some 0 := by
        rcases signB a4.1 sg (by omega) with ⟨_, _, w, _⟩ | ⟨w, _⟩
        · omega
        · exact w
      obtain ⟨Kb, k1, k2⟩ := need_0 e1 l3
      exact ⟨y1, Kb, k1, J7, M5, 1, pl, by rw [a1, hn6]; exact goF a4.2.1.2.2.2.2.2.1 (goL_M l4 l5), BdC.of a9 ht k2, BdR.of a8 l5, ⟨by decide, l2⟩, a10⟩
  · exact Or.inl ⟨y0, w⟩
theorem open_C {I : HI} {o at' : Nat} (h4 : I 7 4 = nI at') (ho : o ≤ 7) : (o < 7 ∧ f_X8_mayOpen I (nI o) = some (1, I)) ∨ (o = 7 ∧ ∃ K, f_X8_mayOpen I (nI o) = some (0, K) ∧ BadC I K 5 at') := by
  unfold f_X8_mayOpen
  by_cases c : o < 7
  · left
    have z : nI o < 7 := nI_lt (b := 7) c (by decide)
    refine ⟨c, ?_⟩
    simp only [jnt, if_pos z, gz_1]
  · right
    have e : o = 7 := by omega
    have z : ¬ nI o < 7 := by rw [e]; decide
    obtain ⟨K, k1, k2⟩ := failC (f := 5) h4
    have k1' : f_X10_fail I 5 = some (0, K) := k1
    refine ⟨e, K, ?_, k2⟩
    simp only [jnt, if_neg z, k1', Option.bind_some, if_true, gz_0]
/-- a sum in brackets -/
theorem par_R {r o nd : Nat} (hf : 2000 < fu) (ht : t = 67 ∨ t = 80) (ho : o ≤ 7) (hs : o < 7 → SumP tp sz fu t b r0 R r 6 (o + 1) 5 nd 3 tkSm) {I J : HI} {M : HL} {k at' e cj om dp fk ph bg bs n c w : Nat} (h : PRx tp sz t b r0 I J M k at' e cj om dp o 0 fk ph bg bs []) (hno : tsF fk ∧ bg = 1 → w ≠ 20 ∧ c ≠ 91 ∧ w ≠ 21) (hom : om ≤ 5 * dp + o + 5) (hdp : dp ≤ o) (hn : sz + 10 ≤ n + at') (hk : k = 4) (hc : c = 40) (t1 : sgJ J c) (t2 : wdJ J M w) (t3 : ∀ d, d < 256 → f_X10_isSign I (nI d) = some (if c = d then 1 else 0)) : ∃ y K, f_X8_readPart (g_X8 fu r) fu I R (nI o) = some (y, K) ∧ ((y = 1 ∧ OutG tp sz fu t b r0 I J M K n at' cj om dp o fk bs 7 nd 0 (fun p => p = ph) (fun _ _ => True)) ∨ (y = 0 ∧ OutB fu t b I J M K n)) := by
  have n3 : ¬ (1 : Int32) = 0 := by decide
  have k3 : ¬ nI k = 3 := by rw [hk]; decide
  have s40 : f_X10_isSign I 40 = some 1 := by
    have := t3 40 (by decide)
    rw [if_pos hc] at this
    exact this
  have b4 := h.1.2.1.1.2.2.2
  have hlex : f_X12_lex J = some J := by
    rcases lexS h.1 with ⟨_, z, _⟩ | ⟨z, _⟩
    · exact z
    · omega
  have h4 := h.1.2.1.1.2.2.1
  have hP := (setPB h).1
  have hbs : bs ≤ om := by
    have := h.2.2.2.2.2.2.2.1
    simpa using this
  obtain ⟨n1, hn1⟩ : ∃ n1, n = n1 + 1 + 1 := ⟨n - 2, by have := h.1.2.1.2.1; omega⟩
  have pf0 : PFm J (sI J 122 dp 0) b dp om cj := setPB_fr (Or.inr rfl)
  unfold f_X8_readPart
  rcases open_C (I := I) (o := o) h4.1 ho with ⟨o1, o2⟩ | ⟨o1, Kb, o2, o3⟩
  · obtain ⟨K, J3, M3, k3', at3, e3, q1, q2, q3, q4, q5, q6, q7, q8, q9⟩ := enter_R (fu := fu) (fk' := 2) hP hf (by omega) o1 hdp (by decide) ht
    have hop := oP_M (fu := fu) (Y := (J3, M3)) h.1.2.2.1 hlex h.2.1.2.2.2.1.1 h.2.1.2.2.2.1.2 h.2.1.2.2.2.2.2.2.1 h.2.2.2.2.2.2.2.2.2.2.2.2.2.1 h.2.1.2.2.2.2.2.2.2.2.1 h.2.2.2.2.2.2.2.2.2.2.2.2.2.2 t2 t1 hno hc q2
    have step := opR (fu := fu) (n := n1 + 1) h.2.1.2.2.2.2.2.1 hop (Or.inl rfl) q3
    have A1 : nI o + 1 = nI (o + 1) := nI_1 o
    have pf1 : PFm J (sI J3 100 44 0) b dp om cj := pf0.trans q7.dn (Nat.le_refl _) (Nat.le_refl _)
    obtain ⟨y, K5, g1, g2⟩ := ss_R (r := r) (o := o + 1) (nd := nd) (fk := 2) (sg := 41) (n := n1 + 1) hf ht (hs o1) (Or.inl ⟨rfl, rfl⟩) q5 (by omega) (by omega) (by omega)
    rcases g2 with ⟨y0, J5, M5, f, pl, d1, d2, d3, d4, d5⟩ | ⟨y1, Kb, nb, J5, M5, f, pl, d1, d2, d3, d4, d5⟩ | ⟨y1, ng, J5, J6, M5, at5, e5, cj6, n6, d1, ⟨d2, d3, d4, d5, d6, d7, d8, d9⟩, d10, d11, d12, d13, d14, d15, d16, d17, d18, d19⟩
    · subst y0
      refine ⟨0, K5, ?_, Or.inr ⟨rfl, J5, M5, f, pl, by rw [hn1, step, d1], BdC.tr q8 d2, BdR.tr pf1 d3, d4, q9.trans d5⟩⟩
      simp only [b4, if_neg k3, s40, Option.bind_some, if_neg n3, o2, q1, A1, g1, if_true, gz_0]
    · subst y1
      have nb' : f_X10_needSign K5 41 = some (0, Kb) := nb
      refine ⟨0, Kb, ?_, Or.inr ⟨rfl, J5, M5, f, pl, by rw [hn1, step, d1], BdC.tr q8 d2, BdR.tr pf1 d3, d4, q9.trans d5⟩⟩
      simp only [b4, if_neg k3, s40, Option.bind_some, if_neg n3, o2, q1, A1, g1, nb', if_true, gz_0]
    · subst y1
      have ng' : f_X10_needSign K5 41 = some (1, K5) := ng
      have fx : PFx (sI J 122 dp 0) J6 b (dp + 1) om cj := q7.trans d16.x (Nat.le_refl _) (Nat.le_refl _)
      obtain ⟨l1, l2⟩ := leave_R (J0 := sI J 122 dp 0) (fk := fk) (ph := ph) (bg := 0) (bs := bs) d11 fx (by rw [zs_ne (by decide)]; exact h.2.1.2.2.2.2.2.2.1) (by rw [zs_ne (by decide)]; exact h.2.1.2.2.2.2.2.2.2.1) (by rw [zs_eq, zs_same]; rfl) (by rw [zs_ne (by decide)]; exact h.2.1.2.2.2.2.2.2.2.2.2) hbs h.2.2.2.2.2.2.2.2.2.2.2.2.2.1 (by decide)
      obtain ⟨K8, J8, M8, k8, at8, e8, r1, r2, r3, r4, r5, r6, r7⟩ := adv_P (fu := fu) l1 hf (by decide) ht
      have go := goX2_M (fu := fu) (dp := dp + 1) (ph := 0) (J := J5) (J1 := J6) (J3 := J8) (M := M5) (M3 := M8) (c := 41) (op := o) (v := 0) (J2 := J6) d2 d3 d4 d5 d6 d7 (by decide) d8 (fun _ => ⟨by decide, by decide, by decide, by decide, by decide⟩) rfl d10 d11.2.1.2.2.2.1.1 d11.2.1.2.2.2.2.1 r2
      have step2 := goR (fu := fu) (n := n6) d9 go r3.1.2.2.1
      refine ⟨1, K8, ?_, Or.inl ⟨rfl, J8, M8, k8, at8, e8, cj6, ph, [], n6, by rw [hn1, step, d1, step2], by omega, by omega, r3, fun x hx => absurd hx List.not_mem_nil, by show cj6 + 0 + at' ≤ cj + at8; omega, by omega, (pf0.trans l2 (Nat.le_refl _) (Nat.le_refl _)).trans (r5.le (dp' := dp + 1) (om' := om) (cj' := cj) (by have := h.2.1.2.2.2.1.2; omega) (by have := h.2.2.2.2.2.2.2.2.1; omega) (by have := h.2.2.2.2.2.2.2.2.2.1; have := h.1.2.1.2.1; have := h.1.2.2.2; simp at *; omega)).dn (Nat.le_refl _) (Nat.le_refl _), (q8.trans d17 (Nat.le_refl _)).trans r6 (by omega), (q9.trans d18).trans r7, VL_congr d19 (fun j j1 j2 => r6.2.2.2 j j2), rfl, trivial⟩⟩
      simp only [b4, if_neg k3, s40, Option.bind_some, if_neg n3, o2, q1, A1, g1, ng', r1, gz_1]
  · have k41 : (sI J 122 dp 0) 100 41 = nI 7 := by
      rw [zs_ne (by decide)]
      have := h.2.1.2.2.2.2.1
      rw [o1] at this
      exact this
    obtain ⟨J', m1, m2⟩ := opens7_M (fu := fu) (J := sI J 122 dp 0) (M := M) (v := 2) (at' := at') (by rw [zs_ne (by decide)]; exact h.1.2.2.1) k41 (by rw [zs_ne (by decide)]; exact h4.2)
    have hop := oP_M (fu := fu) (Y := (J', M)) h.1.2.2.1 hlex h.2.1.2.2.2.1.1 h.2.1.2.2.2.1.2 h.2.1.2.2.2.2.2.2.1 h.2.2.2.2.2.2.2.2.2.2.2.2.2.1 h.2.1.2.2.2.2.2.2.2.2.1 h.2.2.2.2.2.2.2.2.2.2.2.2.2.2 t2 t1 hno hc m1
    have step := opF (fu := fu) (n := n1) (f := 5) h.2.1.2.2.2.2.2.1 hop (Or.inl rfl) (by decide) m2.2.1
    refine ⟨0, Kb, ?_, Or.inr ⟨rfl, sI J' 100 44 0, M, 5, at', by rw [hn1, step], BdC.of (PFc.refl (c0 := 0)) ht o3, ?_, ⟨by decide, by have := h.1.2.1.2.1; have := h.1.2.2.2; omega⟩, OnL.refl⟩⟩
    · simp only [b4, if_neg k3, s40, Option.bind_some, if_neg n3, o2, if_true, gz_0]
    · have hb := BdR.of pf0 m2
      refine ⟨fun x a c => by rw [zs_ne c]; exact hb.1 x a c, fun s hs => by rw [zs_eq, zs_other (by omega)]; exact hb.2.1 s hs, fun k hk => by rw [zs_ne (by decide), zs_ne (by decide)]; exact hb.2.2.1 k hk, by rw [zs_eq, zs_other (by decide)]; exact hb.2.2.2.1, by rw [zs_eq, zs_other (by decide)]; exact hb.2.2.2.2⟩
end
