/-! the rules' reader: comparisons -/
section
variable {tp : Nat → Nat} {sz fu t b r0 : Nat} {R : HR}
theorem fact_C {r o nd : Nat} (hf : 2000 < fu) (ht : t = 67 ∨ t = 80) (hok : okLd t = true) (hR : R 8 1 = t) (ho : o ≤ 7) (hnd : 2 ≤ nd) (hs : SumP tp sz fu t b r0 R r 6 o 5 nd 3 tkSm) {I J : HI} {M : HL} {k at' e cj om dp fk bs n : Nat} (h : PRx tp sz t b r0 I J M k at' e cj om dp o 0 fk 0 1 bs []) (hts : tsF fk) (hctx : CtxJ J om bs 5) (hom : om ≤ 5 * dp + o + 2) (hdp : dp ≤ o) (hn : sz + 10 ≤ n + at') (s20 : f_X10_isOwn I 20 = some 0) (s91 : f_X10_isSign I 91 = some 0) (s21 : f_X10_isOwn I 21 = some 0) (hno : noTok I k) : ∃ y K, f_X8_readFact (g_X8 fu r) fu I R (nI o) = some (y, K) ∧ ((y = 1 ∧ OutT tp sz fu t b r0 I J M K n at' cj om dp o fk bs 3 (nd + 1) pkF) ∨ (y = 0 ∧ OutB fu t b I J M K n)) := by
  have n3 : ¬ (1 : Int32) = 0 := by decide
  have hszs := h.1.2.2.2
  have hes := h.1.2.1.2.1
  have hbs : bs ≤ om := by
    have := h.2.2.2.2.2.2.2.1
    simpa using this
  have hcja : cj ≤ at' := by
    have : cj + 0 ≤ at' := h.2.2.2.2.2.2.2.2.2.1
    omega
  obtain ⟨y, K, g1, g2⟩ := hs I J M k at' e cj om dp fk 0 1 bs n h (by decide) (fun _ => hno) hctx (by omega) hdp hn
  unfold f_X8_readFact
  rcases g2 with ⟨y1, J', M', k', at2, e', cj', ph', lg, n', a1, a2, a3, a4, a5, a6, a7, a8, a9, a10, a11, a12, a13⟩ | ⟨y0, g3⟩
  · subst y1
    subst a12
    have hlg : om + lg.length ≤ 100 := a4.2.2.2.2.2.2.2.2.1
    obtain ⟨n1, hn1⟩ : ∃ n1, n' = n1 + 1 + 1 := ⟨n' - 2, by have := a4.1.2.1.2.1; omega⟩
    rcases lexS a4.1 with ⟨l1, l2, l3, l4⟩ | ⟨l1, pl, J7, l2, l3, l4, l5⟩
    · obtain ⟨c, w, t1, t2, t3, t4, t5, t6⟩ := tok a4.1 l1
      have hA : noA c := noA_of a13 t5
      rcases cmpOp t3 with ⟨code, o1, o2⟩ | ⟨o1, o2⟩
      · have hk4 : k' = 4 := by
          rcases t5 with ⟨z, _⟩ | ⟨_, z⟩
          · exact z
          · unfold cmC at o1; omega
        have hcd : 38 ≤ code ∧ code ≤ 40 ∧ rkN code = 4 := by
          unfold cmC at o1
          rcases o1 with ⟨_, z⟩ | ⟨_, z⟩ | ⟨_, z⟩
          all_goals (subst z; exact ⟨by decide, by decide, by decide⟩)
        obtain ⟨J1, j1, j2, j3⟩ := jn_R (fu := fu) a4 hf a5 (by rw [Nat.add_sub_cancel]; exact CtxJ_fr hctx a8 hbs) (by decide)
        rw [Nat.add_sub_cancel] at j2 j3
        obtain ⟨K3, J3, M3, k3, at3, e3, b1, b2, b3, b4, b5, b6, b7, b8, b9⟩ := push_op (fu := fu) (J := J') j2 hf (by omega) (by omega) ht ⟨by omega, by omega⟩ 1 0 (by decide) (JX := sI (sI (sI (sI J1 125 om (nI code)) 100 43 (nI (om + 1))) 121 dp (nI 1)) 122 dp (nI 0)) ⟨_, holds_M j2.2.1.2.2.1 (by omega), rfl⟩
        have eJX : sI (sI (sI (sI J1 125 om (nI code)) 100 43 (nI (om + 1))) 121 dp (nI 1)) 122 dp (nI 0) = sI (sI (sI J1 125 om (nI code)) 100 43 (nI (om + 1))) 121 dp 1 := by
          funext x k
          by_cases x1 : x = 122
          · subst x1
            rw [zs_eq]
            by_cases kk : k = dp
            · rw [kk, zs_same, zs_ne (by decide), zs_ne (by decide), zs_ne (by decide)]
              exact j2.2.1.2.2.2.2.2.2.2.2.1.symm
            · rw [zs_other kk]
              rfl
          · rw [zs_ne x1]
            rfl
        rw [eJX] at b2
        have go := goC_M (fu := fu) (dp := dp) (fk := fk) (J := J') (J1 := J1) (J3 := J3) (M := M') (M3 := M3) (c := c) (code := code) a4.1.2.2.1 l2 a4.2.1.2.2.2.1.1 a4.2.1.2.2.2.1.2 a4.2.1.2.2.2.2.2.2.1 a4.2.2.2.2.2.2.2.2.2.2.2.2.2.1 hts a4.2.1.2.2.2.2.2.2.2.1 t1 j1 (by
          obtain ⟨c', w', u1, u2, u3, u4, u5, u6⟩ := tok j2.1 l1
          have : c' = c := by
            rcases t5 with ⟨z0, z1, z2⟩ | ⟨z, _⟩
            · rcases u5 with ⟨y0, y1, y2⟩ | ⟨y, _⟩
              · exact (nI_eq (by omega) (by omega)).mp (y2.symm.trans z2)
              · omega
            · omega
          rw [← this]
          exact u1) (holds_M j2.2.1.2.2.1 (by omega)) b2 o1
        have step := goR (fu := fu) (n := n1 + 1) a4.2.1.2.2.2.2.2.1 go (by rw [zs_eq, zs_other (by decide)]; exact b3)
        have hae := a4.1.2.1.2.1
        obtain ⟨y2, K4, g4, g5⟩ := hs K3 (sI J3 100 44 0) M3 k3 at3 e3 (cj' + lg.length) (om + 1) dp fk 1 0 bs (n1 + 1) b4 (by decide) (fun z => absurd z.2 (by decide)) (Or.inr ⟨code, by omega, by omega, by rw [Nat.add_sub_cancel]; exact b5, by omega⟩) (by omega) hdp (by omega)
        have pf1 : PFm J (sI J3 100 44 0) b dp om cj := (a8.trans j3 (Nat.le_refl _) a7).trans b7 (Nat.le_refl _) (by omega)
        have pc1 : PFc I K3 t cj := a9.trans b8 (by omega)
        have on1 : OnL M M3 := a10.trans b9
        have opn : ¬ opC code = 0 := by
          have hz : ∀ d, d < 41 → 31 ≤ d → ¬ opC d = 0 := by decide
          exact hz code (by omega) (by omega)
        rcases g5 with ⟨y1, J5, M5, k5, at5, e5, cj5, ph5, lg5, n5, d1, d2, d3, d4, d5, d6, d7, d8, d9, d10, d11, d12, d13⟩ | ⟨y0, J5, M5, f, pl, d1, d2, d3, d4, d5⟩
        · subst y1
          subst d12
          have hop5 : J5 125 om = nI code := by rw [d8.2.2.2.2.1 om (by omega)]; exact b5
          obtain ⟨K6, f1, f2, f3, f4, f5⟩ := emit_op (I := I) (code := code) d4 ht ⟨by omega, by omega⟩ hop5 (by omega) (by omega) hbs
          have hl6 : (lg5 ++ [code]).length = lg5.length + 1 := by rw [List.length_append]; rfl
          refine ⟨1, K6, ?_, Or.inl ⟨rfl, J5, M5, k5, at5, e5, cj5, 1, lg5 ++ [code], n5, ?_, by omega, by omega, f2, fun x hx => ?_, by rw [hl6]; omega, by omega, pf1.trans d8 (by omega) (by omega), (pc1.trans d9 (by omega)).trans f3 (by omega), on1.trans d10, ?_, ?_⟩⟩
          · simp only [s20, s91, s21, Option.bind_some, if_true, g1, if_neg n3, o2, if_neg opn, b1, g4, hR, zg_ok hok, f1, gz_1]
          · rw [a1, hn1, step, d1]
          · rcases List.mem_append.mp hx with z | z
            · have := d5 x z; omega
            · rw [List.mem_singleton.mp z]; omega
          · rw [hl6]
            have v1 : VL K6 t r0 cj (cj' + lg.length) nd 0 := VL_congr a11 (fun j j1 j2 => by rw [f3.2.2.2 j (by omega), d9.2.2.2 j (by omega), b8.2.2.2 j (by omega)])
            have v2 : VL K6 t r0 (cj' + lg.length) (cj5 + lg5.length) nd 0 := VL_congr d11 (fun j j1 j2 => by rw [f3.2.2.2 j (by omega)])
            exact VL_bin v1 v2 f4 ⟨by omega, by omega⟩ (fun z => by omega) (fun _ => hcd.1) (by omega)
          · refine Or.inl ⟨rfl, ?_⟩
            unfold tkSm at d13 ⊢
            rw [f5]
            exact d13
        · subst y0
          refine ⟨0, K4, ?_, Or.inr ⟨rfl, J5, M5, f, pl, by rw [a1, hn1, step, d1], BdC.tr pc1 d2, BdR.tr pf1 d3, d4, on1.trans d5⟩⟩
          simp only [s20, s91, s21, Option.bind_some, if_true, g1, if_neg n3, o2, if_neg opn, b1, g4, gz_0]
      · obtain ⟨Kb, k1, k2⟩ := failFormC l3
        obtain ⟨J7, m1, m2⟩ := goN_M (fu := fu) (at' := at2) a4.1.2.2.1 l2 a4.1.2.1.1.2.2.1.2 a4.2.1.2.2.2.1.1 a4.2.1.2.2.2.1.2 a4.2.1.2.2.2.2.2.2.1 a4.2.2.2.2.2.2.2.2.2.2.2.2.2.1 hts a4.2.1.2.2.2.2.2.2.2.1 t1 hA o1 t2 (fun X hX => sg_ext t1 (hX.2.2.2 3 (by decide) (by decide)) (hX.2.2.2 6 (by decide) (by decide)))
        refine ⟨0, Kb, ?_, Or.inr ⟨rfl, J7, M', 1, at2, by rw [a1, hn1]; exact goF a4.2.1.2.2.2.2.2.1 m1, BdC.of a9 ht k2, BdR.of a8 m2, ⟨by decide, l4⟩, a10⟩⟩
        simp only [s20, s91, s21, Option.bind_some, if_true, g1, if_neg n3, o2, k1, gz_0]
    · obtain ⟨Kb, k1, k2⟩ := failFormC l3
      have z : ∀ d, d < 256 → f_X10_isSign K (nI d) = some 0 := fun d hd => by
        rcases signB a4.1 d hd with ⟨_, _, w, _⟩ | ⟨w, _⟩
        · omega
        · exact w
      have z60 : f_X10_isSign K 60 = some 0 := z 60 (by decide)
      have z62 : f_X10_isSign K 62 = some 0 := z 62 (by decide)
      have z61 : f_X10_isSign K 61 = some 0 := z 61 (by decide)
      have o2 : f_X8_compareOp K = some 0 := by
        unfold f_X8_compareOp
        simp only [z60, z62, z61, Option.bind_some, if_true]
      refine ⟨0, Kb, ?_, Or.inr ⟨rfl, J7, M', 1, pl, by rw [a1, hn1]; exact goF a4.2.1.2.2.2.2.2.1 (goL_M l4 l5), BdC.of a9 ht k2, BdR.of a8 l5, ⟨by decide, l2⟩, a10⟩⟩
      simp only [s20, s91, s21, Option.bind_some, if_true, g1, if_neg n3, o2, k1, gz_0]
  · subst y0
    refine ⟨0, K, ?_, Or.inr ⟨rfl, g3⟩⟩
    simp only [s20, s91, s21, Option.bind_some, if_true, g1, gz_0]
theorem fact_P {r o nd : Nat} (hf : 2000 < fu) (ht : t = 67 ∨ t = 80) (hok : okLd t = true) (hR : R 8 1 = t) (ho : o ≤ 7) (hnd : 2 ≤ nd) (hs : SumP tp sz fu t b r0 R r 6 o 5 nd 3 tkSm) (hN : o < 7 → TestQ tp sz fu t b r0 R r 2 (o + 1) 4 3 nd 2 pkF) (hT : o < 7 → TestQ tp sz fu t b r0 R r 7 (o + 1) 1 1 nd 0 pkT) : TestQ tp sz fu t b r0 R (r + 1) 2 o 4 3 (nd + 1) 2 pkF := by
  intro I J M k at' e cj om dp fk bs n h hts hctx hom hdp hn
  show ∃ y K, f_X8_readFact (g_X8 fu r) fu I R (nI o) = some (y, K) ∧ _
  have hctx5 : CtxJ J om bs 5 := by
    rcases hctx with w | ⟨c, w1, w2, w3, w4⟩
    · exact Or.inl w
    · exact Or.inr ⟨c, w1, w2, w3, by omega⟩
  by_cases hk5 : k = 5
  · have hkk : I 7 3 = nI 5 := by
      rw [h.1.2.1.1.2.2.2, hk5]
    have e2 : ¬ nI 5 = 2 := by decide
    have e4 : ¬ nI 5 = 4 := by decide
    refine fact_C hf ht hok hR ho hnd hs h hts hctx5 hom hdp hn ?_ ?_ ?_ ⟨fun z => by omega, fun z => by omega⟩
    · unfold f_X10_isOwn
      rw [hkk, if_neg e2]
      rfl
    · rcases signB h.1 91 (by decide) with ⟨_, _, w, _⟩ | ⟨w, _⟩
      · omega
      · exact w
    · unfold f_X10_isOwn
      rw [hkk, if_neg e2]
      rfl
  · obtain ⟨c, w, t1, t2, t3, t4, t5, t6⟩ := tok h.1 hk5
    by_cases c20 : w = 20
    · exact fact_N hf ht hok hR ho hnd hN h hts hom hdp hn (by
        rcases t6 with ⟨z, _⟩ | ⟨_, z⟩
        · exact z
        · omega) c20 t2 t4
    · by_cases c91 : c = 91
      · exact fact_B hf ht ho hT h hts hom hdp hn (by
          rcases t5 with ⟨z, _⟩ | ⟨_, z⟩
          · exact z
          · omega) c20 c91 t1 t2 t3 t4
      · by_cases c21 : w = 21
        · exact fact_A hf ht hok hR h hts hdp hn (by
            rcases t6 with ⟨z, _⟩ | ⟨_, z⟩
            · exact z
            · omega) c21 c91 t1 t2 t3 t4
        · have s20 := t4 20 (by decide)
          have s91 := t3 91 (by decide)
          have s21 := t4 21 (by decide)
          rw [if_neg c20] at s20
          rw [if_neg c91] at s91
          rw [if_neg c21] at s21
          refine fact_C hf ht hok hR ho hnd hs h hts hctx5 hom hdp hn s20 s91 s21 ⟨fun z => ?_, fun z => ?_⟩
          · rcases t6 with ⟨_, z1, z2⟩ | ⟨z1, _⟩
            · rcases z.2 with y | y
              · exact c20 ((nI_eq (by omega) (by decide)).mp (z2.symm.trans y))
              · exact c21 ((nI_eq (by omega) (by decide)).mp (z2.symm.trans y))
            · exact z1 z.1
          · rcases t5 with ⟨_, z1, z2⟩ | ⟨z1, _⟩
            · exact c91 ((nI_eq (by omega) (by decide)).mp (z2.symm.trans z.2))
            · exact z1 z.1
end
