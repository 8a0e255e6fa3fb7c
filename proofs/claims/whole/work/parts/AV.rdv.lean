/-! the rules' reader: sums of products -/
section
variable {tp : Nat → Nat} {sz fu t b r0 : Nat} {R : HR}
def tkSm (K : HI) (k : Nat) : Prop := k = 4 → (K 7 6 ≠ nI 42 ∧ K 7 6 ≠ nI 47 ∧ K 7 6 ≠ nI 37) ∧ K 7 6 ≠ nI 43 ∧ K 7 6 ≠ nI 45
theorem sumOp {I : HI} {c : Nat} (h : ∀ d, d < 256 → f_X10_isSign I (nI d) = some (if c = d then 1 else 0)) : (∃ code, arC c 5 code ∧ f_X8_addOp I = some (opC code)) ∨ ((c ≠ 43 ∧ c ≠ 45) ∧ f_X8_addOp I = some 0) := by
  have s43 : f_X10_isSign I 43 = _ := h 43 (by decide)
  have s45 : f_X10_isSign I 45 = _ := h 45 (by decide)
  unfold f_X8_addOp
  by_cases q43 : c = 43
  · left
    rw [if_pos q43] at s43
    refine ⟨31, Or.inl ⟨q43, rfl, rfl⟩, ?_⟩
    simp only [s43, Option.bind_some, if_true, if_neg (show ¬ (1 : Int32) = 0 by decide)]
    rfl
  rw [if_neg q43] at s43
  by_cases q45 : c = 45
  · left
    rw [if_pos q45] at s45
    refine ⟨32, Or.inr (Or.inl ⟨q45, rfl, rfl⟩), ?_⟩
    simp only [s43, s45, Option.bind_some, if_true, if_neg (show ¬ (1 : Int32) = 0 by decide)]
    rfl
  rw [if_neg q45] at s45
  right
  refine ⟨⟨q43, q45⟩, ?_⟩
  simp only [s43, s45, Option.bind_some, if_true]
theorem sum_P {r o nd : Nat} (hf : 2000 < fu) (ht : t = 67 ∨ t = 80) (hok : okLd t = true) (hR : R 8 1 = t) (ho : o ≤ 7) (hnd : 2 ≤ nd) (hs : SumP tp sz fu t b r0 R r 5 o 6 nd 4 tkPr) : SumP tp sz fu t b r0 R (r + 1) 6 o 5 (nd + 1) 3 tkSm := by
  have n3 : ¬ (1 : Int32) = 0 := by decide
  intro I J M k at' e cj om dp fk ph bg bs n h hph hno hctx hom hdp hn
  have hbs : bs ≤ om := by
    have := h.2.2.2.2.2.2.2.1
    simpa using this
  have hszs := h.1.2.2.2
  have hcja : cj ≤ at' := by
    have := h.2.2.2.2.2.2.2.2.2.1
    simpa using this
  obtain ⟨y, K, g1, g2⟩ := hs I J M k at' e cj om dp fk ph bg bs n h hph hno (by
    rcases hctx with w | ⟨c, w1, w2, w3, w4⟩
    · exact Or.inl w
    · exact Or.inr ⟨c, w1, w2, w3, by omega⟩) (by omega) hdp hn
  show ∃ y K, f_X8_readSum (g_X8 fu r) fu I R (nI o) = some (y, K) ∧ _
  rcases g2 with ⟨y1, g3⟩ | ⟨y0, g3⟩
  · subst y1
    have loop : ∀ (q m i : Nat) (K : HI), OutG tp sz fu t b r0 I J M K n at' cj om dp o fk bs 5 (nd + 1) 0 (fun p => p = ph) tkPr → (∀ (J' : HI) (M' : HL) (k' at2 e' cj' om' dp' o' opd' fk' ph' bg' bs' : Nat) (lg : List Nat), PRx tp sz t b r0 K J' M' k' at2 e' cj' om' dp' o' opd' fk' ph' bg' bs' lg → sz + 1 ≤ q + at2 ∧ (k' ≠ 0 → i < at2)) → q < m → ∃ y K', f_X8_readSum_L8 (g_X8 fu r) fu m K R (nI o) 1 (nI i) = some (y, K') ∧ ((y = 1 ∧ OutG tp sz fu t b r0 I J M K' n at' cj om dp o fk bs 5 (nd + 1) 0 (fun p => p = ph) tkSm) ∨ (y = 0 ∧ OutB fu t b I J M K' n)) := by
      intro q
      induction q with
      | zero =>
        intro m i K hG hm _
        obtain ⟨J', M', k', at2, e', cj', ph', lg, n', _, _, _, a4, _⟩ := id hG
        have := (hm _ _ _ _ _ _ _ _ _ _ _ _ _ _ _ a4).1
        have := a4.1.2.1.2.1
        omega
      | succ q ih =>
        intro m i K hG hm hq
        obtain ⟨m, rfl⟩ : ∃ z, m = z + 1 := ⟨m - 1, by omega⟩
        obtain ⟨J', M', k', at2, e', cj', ph', lg, n', a1, a2, a3, a4, a5, a6, a7, a8, a9, a10, a11, a12, a13⟩ := hG
        obtain ⟨hm1, hm2⟩ := hm _ _ _ _ _ _ _ _ _ _ _ _ _ _ _ a4
        have hk5 : k' = 5 ∨ k' ≠ 5 := by omega
        have fin : f_X8_addOp K = some 0 → tkSm K k' → ∃ y K', f_X8_readSum_L8 (g_X8 fu r) fu (m + 1) K R (nI o) 1 (nI i) = some (y, K') ∧ ((y = 1 ∧ OutG tp sz fu t b r0 I J M K' n at' cj om dp o fk bs 5 (nd + 1) 0 (fun p => p = ph) tkSm) ∨ (y = 0 ∧ OutB fu t b I J M K' n)) := fun z1 z2 => by
          refine ⟨1, K, ?_, Or.inl ⟨rfl, J', M', k', at2, e', cj', ph', lg, n', a1, a2, a3, a4, a5, a6, a7, a8, a9, a10, a11, a12, z2⟩⟩
          by_cases ci : (1600 : Int32) ≤ nI i
          · simp only [f_X8_readSum_L8, if_pos ci]
          · simp only [f_X8_readSum_L8, if_neg ci, if_neg n3, z1, Option.bind_some, if_true]
        rcases hk5 with hk5 | hk5
        · refine fin ?_ ?_
          · have z : ∀ d, d < 256 → f_X10_isSign K (nI d) = some 0 := fun d hd => by
              rcases signB a4.1 d hd with ⟨_, _, w, _⟩ | ⟨w, _⟩
              · omega
              · exact w
            have s43 : f_X10_isSign K 43 = some 0 := z 43 (by decide)
            have s45 : f_X10_isSign K 45 = some 0 := z 45 (by decide)
            unfold f_X8_addOp
            simp only [s43, s45, Option.bind_some, if_true]
          · exact fun w => by omega
        · obtain ⟨c, w, t1, t2, t3, t4, t5, t6⟩ := tok a4.1 hk5
          rcases sumOp t3 with ⟨code, o1, o2⟩ | ⟨o1, o2⟩
          · have hk4 : k' = 4 := by
              rcases t5 with ⟨z, _⟩ | ⟨_, z⟩
              · exact z
              · unfold arC at o1; omega
            have hcd : 31 ≤ code ∧ code ≤ 35 ∧ rkN code = 5 := by
              unfold arC at o1
              rcases o1 with ⟨_, z1, z⟩ | ⟨_, z1, z⟩ | ⟨_, z1, z⟩ | ⟨_, z1, z⟩ | ⟨_, z1, z⟩
              all_goals first
                | (exfalso; omega)
                | (subst z; exact ⟨by decide, by decide, by decide⟩)
            have hph2 : ph' < 2 := by rw [a12]; exact hph
            have hlg : om + lg.length ≤ 100 := a4.2.2.2.2.2.2.2.2.1
            obtain ⟨J1, j1, j2, j3⟩ := jn_R (fu := fu) a4 hf a5 (by rw [Nat.add_sub_cancel]; exact CtxJ_fr hctx a8 hbs) (by decide)
            rw [Nat.add_sub_cancel] at j2 j3
            obtain ⟨K3, J3, M3, k3, at3, e3, b1, b2, b3, b4, b5, b6, b7, b8, b9⟩ := push_op (fu := fu) (J := J') j2 hf (by omega) (by omega) ht ⟨hcd.1, by omega⟩ ph' 0 (by decide) (JX := sI (sI (sI (sI J1 125 om (nI code)) 100 43 (nI (om + 1))) 121 dp (nI ph')) 122 dp (nI 0)) ⟨_, holds_M j2.2.1.2.2.1 (by omega), rfl⟩
            have eJX : sI (sI (sI (sI J1 125 om (nI code)) 100 43 (nI (om + 1))) 121 dp (nI ph')) 122 dp (nI 0) = sI (sI J1 125 om (nI code)) 100 43 (nI (om + 1)) := by
              funext x k
              by_cases x1 : x = 122
              · subst x1
                rw [zs_eq]
                by_cases kk : k = dp
                · rw [kk, zs_same, zs_ne (by decide), zs_ne (by decide)]
                  exact j2.2.1.2.2.2.2.2.2.2.2.1.symm
                · rw [zs_other kk, zs_ne (by decide)]
              · rw [zs_ne x1]
                by_cases x2 : x = 121
                · subst x2
                  rw [zs_eq]
                  by_cases kk : k = dp
                  · rw [kk, zs_same, zs_ne (by decide), zs_ne (by decide)]
                    exact j2.2.1.2.2.2.2.2.2.2.1.symm
                  · rw [zs_other kk]
                · rw [zs_ne x2]
            rw [eJX] at b2
            have hlexJ : f_X12_lex J' = some J' := by
              rcases lexS a4.1 with ⟨_, z, _⟩ | ⟨z, _⟩
              · exact z
              · omega
            have go := goA_M (fu := fu) (dp := dp) (fk := fk) (ph := ph') (J := J') (J1 := J1) (J3 := J3) (M := M') (M3 := M3) (c := c) (least := 5) (code := code) a4.1.2.2.1 hlexJ a4.2.1.2.2.2.1.1 a4.2.1.2.2.2.1.2 a4.2.1.2.2.2.2.2.2.1 a4.2.2.2.2.2.2.2.2.2.2.2.2.2.1 a4.2.1.2.2.2.2.2.2.2.1 hph2 t1 j1 (by
              obtain ⟨c', w', u1, u2, u3, u4, u5, u6⟩ := tok j2.1 hk5
              have : c' = c := by
                rcases t5 with ⟨z0, z1, z2⟩ | ⟨z, _⟩
                · rcases u5 with ⟨y0, y1, y2⟩ | ⟨y, _⟩
                  · exact (nI_eq (by omega) (by omega)).mp (y2.symm.trans z2)
                  · omega
                · omega
              rw [← this]
              exact u1) (holds_M j2.2.1.2.2.1 (by omega)) b2 o1
            have hat2 : at2 ≤ 1600 := by
              have := a4.1.2.1.2.1
              omega
            obtain ⟨n1, hn1⟩ : ∃ n1, n' = n1 + 1 := ⟨n' - 1, by have := a4.1.2.1.2.1; omega⟩
            have step := goR (fu := fu) (n := n1) a4.2.1.2.2.2.2.2.1 go (by rw [zs_eq, zs_other (by decide)]; exact b3)
            obtain ⟨y2, K4, g4, g5⟩ := hs K3 (sI J3 100 44 0) M3 k3 at3 e3 (cj' + lg.length) (om + 1) dp fk ph' 0 bs n1 b4 hph2 (fun z => by omega) (Or.inr ⟨code, by omega, by omega, by rw [Nat.add_sub_cancel]; exact b5, by omega⟩) (by omega) hdp (by omega)
            have pf1 : PFm J (sI J3 100 44 0) b dp om cj := (a8.trans j3 (Nat.le_refl _) a7).trans b7 (Nat.le_refl _) (by omega)
            have pc1 : PFc I K3 t cj := a9.trans b8 (by omega)
            have on1 : OnL M M3 := a10.trans b9
            have hi : ¬ (1600 : Int32) ≤ nI i := nI_ge (b := 1600) (by have := hm2 (by omega); omega) (by decide)
            have opn : ¬ opC code = 0 := by
              have hz : ∀ d, d < 36 → 31 ≤ d → ¬ opC d = 0 := by decide
              exact hz code (by omega) hcd.1
            have A1 : nI i + 1 = nI (i + 1) := nI_1 i
            rcases g5 with ⟨y1, J5, M5, k5, at5, e5, cj5, ph5, lg5, n5, d1, d2, d3, d4, d5, d6, d7, d8, d9, d10, d11, d12, d13⟩ | ⟨y0, J5, M5, f, pl, d1, d2, d3, d4, d5⟩
            · subst y1
              have hbs1 : bs ≤ om := hbs
              have hop5 : J5 125 om = nI code := by rw [d8.2.2.2.2.1 om (by omega)]; exact b5
              obtain ⟨K6, f1, f2, f3, f4, f5⟩ := emit_op (I := I) (code := code) d4 ht ⟨hcd.1, by omega⟩ hop5 (by omega) (by omega) hbs1
              have hl6 : (lg5 ++ [code]).length = lg5.length + 1 := by rw [List.length_append]; rfl
              have hG : OutG tp sz fu t b r0 I J M K6 n at' cj om dp o fk bs 5 (nd + 1) 0 (fun p => p = ph) tkPr := by
                refine ⟨J5, M5, k5, at5, e5, cj5, ph5, lg5 ++ [code], n5, ?_, by omega, by omega, f2, fun x hx => ?_, by rw [hl6]; omega, by omega, pf1.trans d8 (by omega) (by omega), (pc1.trans d9 (by omega)).trans f3 (by omega), on1.trans d10, ?_, by rw [d12]; exact a12, by unfold tkPr at d13 ⊢; rw [f5]; exact d13⟩
                · rw [a1, hn1, step, d1]
                · rcases List.mem_append.mp hx with z | z
                  · have := d5 x z; omega
                  · rw [List.mem_singleton.mp z]; omega
                · rw [hl6]
                  have v1 : VL K6 t r0 cj (cj' + lg.length) (nd + 1) 0 := VL_congr a11 (fun j j1 j2 => by rw [f3.2.2.2 j (by omega), d9.2.2.2 j (by omega), b8.2.2.2 j (by omega)])
                  have v2 : VL K6 t r0 (cj' + lg.length) (cj5 + lg5.length) nd 0 := VL_congr d11 (fun j j1 j2 => by rw [f3.2.2.2 j (by omega)])
                  exact VL_bin v1 v2 f4 ⟨hcd.1, by omega⟩ (fun z => by omega) (fun z => absurd z (by decide)) (by omega)
              obtain ⟨y3, K7, r1, r2⟩ := ih m (i + 1) K6 hG (fun J8 M8 k8 at8 e8 cj8 om8 dp8 o8 opd8 fk8 ph8 bg8 bs8 lg8 z => by
                have e1 := z.1.2.1.1.2.2.1.1
                have e2 := f2.1.2.1.1.2.2.1.1
                have l1 := z.1.2.1.2.1
                have l2 := f2.1.2.1.2.1
                have : at8 = at5 := (nI_eq (by omega) (by omega)).mp (e1.symm.trans e2)
                exact ⟨by omega, fun _ => by have := hm2 (by omega); omega⟩) (by omega)
              refine ⟨y3, K7, ?_, r2⟩
              rw [← r1]
              simp only [f_X8_readSum_L8, if_neg hi, if_neg n3, o2, Option.bind_some, if_neg opn, b1, jnt, g4, hR, zg_ok hok, f1, A1]
            · subst y0
              have stop : f_X8_readSum_L8 (g_X8 fu r) fu m K4 R (nI o) 0 (nI (i + 1)) = some (0, K4) := by
                obtain ⟨m, rfl⟩ : ∃ z, m = z + 1 := ⟨m - 1, by omega⟩
                by_cases ci : (1600 : Int32) ≤ nI (i + 1)
                · simp only [f_X8_readSum_L8, if_pos ci]
                · simp only [f_X8_readSum_L8, if_neg ci, if_true]
              refine ⟨0, K4, ?_, Or.inr ⟨rfl, J5, M5, f, pl, by rw [a1, hn1, step, d1], BdC.tr pc1 d2, BdR.tr pf1 d3, d4, on1.trans d5⟩⟩
              simp only [f_X8_readSum_L8, if_neg hi, if_neg n3, o2, Option.bind_some, if_neg opn, b1, jnt, g4, if_true, A1]
              exact stop
          · refine fin o2 (fun z => ?_)
            rcases t5 with ⟨_, z1, z2⟩ | ⟨z1, _⟩
            · exact ⟨a13 z, fun y => o1.1 ((nI_eq (by omega) (by decide)).mp (z2.symm.trans y)), fun y => o1.2 ((nI_eq (by omega) (by decide)).mp (z2.symm.trans y))⟩
            · exact absurd z z1
    have hG0 : OutG tp sz fu t b r0 I J M K n at' cj om dp o fk bs 5 (nd + 1) 0 (fun p => p = ph) tkPr := by
      obtain ⟨J', M', k', at2, e', cj', ph', lg, n', a1, a2, a3, a4, a5, a6, a7, a8, a9, a10, a11, a12, a13⟩ := g3
      exact ⟨J', M', k', at2, e', cj', ph', lg, n', a1, a2, a3, a4, fun c hc => by have := a5 c hc; omega, a6, a7, a8, a9, a10, VL_le a11 (by omega), a12, a13⟩
    obtain ⟨y2, K2, l1, l2⟩ := loop (sz + 1) fu 0 K hG0 (fun J8 M8 k8 at8 e8 cj8 om8 dp8 o8 opd8 fk8 ph8 bg8 bs8 lg8 z => by
      obtain ⟨J', M', k', at2, e', cj', ph', lg, n', a1, a2, a3, a4, _⟩ := g3
      have e1 := z.1.2.1.1.2.2.1.1
      have e2 := a4.1.2.1.1.2.2.1.1
      have l1 := z.1.2.1.2.1
      have l2 := a4.1.2.1.2.1
      have : at8 = at2 := (nI_eq (by omega) (by omega)).mp (e1.symm.trans e2)
      exact ⟨by omega, fun _ => by omega⟩) (by omega)
    have l1' : f_X8_readSum_L8 (g_X8 fu r) fu fu K R (nI o) 1 0 = some (y2, K2) := l1
    refine ⟨y2, K2, ?_, l2⟩
    unfold f_X8_readSum
    simp only [g1, Option.bind_some, l1']
    rcases l2 with ⟨z, _⟩ | ⟨z, _⟩
    · rw [z]; exact gz_1
    · rw [z]; exact gz_0
  · subst y0
    have stop : f_X8_readSum_L8 (g_X8 fu r) fu fu K R (nI o) 0 0 = some (0, K) := by
      obtain ⟨m, hm⟩ : ∃ m, fu = m + 1 := ⟨fu - 1, by omega⟩
      have z : ¬ (1600 : Int32) ≤ 0 := by decide
      rw [show f_X8_readSum_L8 (g_X8 fu r) fu fu K R (nI o) 0 0 = f_X8_readSum_L8 (g_X8 fu r) fu (m + 1) K R (nI o) 0 0 from by rw [← hm]]
      simp only [f_X8_readSum_L8, if_neg z, if_true]
    refine ⟨0, K, ?_, Or.inr ⟨rfl, g3⟩⟩
    unfold f_X8_readSum
    simp only [g1, Option.bind_some, stop, gz_0]
end
