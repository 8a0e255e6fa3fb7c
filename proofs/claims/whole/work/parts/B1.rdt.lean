/-! the rules' reader: and, or -/
section
variable {tp : Nat → Nat} {sz fu t b r0 : Nat} {R : HR}
def OutT (tp : Nat → Nat) (sz fu t b r0 : Nat) (I J : HI) (M : HL) (K : HI) (n at' cj om dp o fk bs ρ nd : Nat) (pk : Nat → HI → Nat → Prop) : Prop := ∃ (J' : HI) (M' : HL) (k' at2 e' cj' ph' : Nat) (lg : List Nat) (n' : Nat), f_X12_reads_L43 fu n J M 1 = f_X12_reads_L43 fu n' J' M' 1 ∧ n + at' ≤ n' + at2 ∧ at' < at2 ∧ PRx tp sz t b r0 K J' M' k' at2 e' cj' (om + lg.length) dp o 1 fk ph' 0 bs lg ∧ (∀ c ∈ lg, ρ ≤ rkN c) ∧ cj' + lg.length + at' ≤ cj + at2 ∧ cj ≤ cj' ∧ PFm J J' b dp om cj ∧ PFc I K t cj ∧ OnL M M' ∧ VL K t r0 cj (cj' + lg.length) nd 1 ∧ pk ph' K k'
def pkF (p : Nat) (K : HI) (k : Nat) : Prop := (p = 1 ∧ tkSm K k) ∨ p = 2
def pkB (p : Nat) (K : HI) (k : Nat) : Prop := pkF p K k ∧ (k = 2 → K 7 6 ≠ nI 19)
def pkT (p : Nat) (K : HI) (k : Nat) : Prop := pkB p K k ∧ (k = 2 → K 7 6 ≠ nI 18)
def TestQ (tp : Nat → Nat) (sz fu t b r0 : Nat) (R : HR) (r w o ρc ρl nd β : Nat) (pk : Nat → HI → Nat → Prop) : Prop := ∀ (I J : HI) (M : HL) (k at' e cj om dp fk bs n : Nat), PRx tp sz t b r0 I J M k at' e cj om dp o 0 fk 0 1 bs [] → tsF fk → CtxJ J om bs ρc → om ≤ 5 * dp + o + β → dp ≤ o → sz + 10 ≤ n + at' → ∃ y K, g_X8 fu r w I R (nI o) 0 = some (y, K) ∧ ((y = 1 ∧ OutT tp sz fu t b r0 I J M K n at' cj om dp o fk bs ρl nd pk) ∨ (y = 0 ∧ OutB fu t b I J M K n))
theorem both_P {r o nd : Nat} (hf : 2000 < fu) (ht : t = 67 ∨ t = 80) (hok : okLd t = true) (hR : R 8 1 = t) (ho : o ≤ 7) (hnd : 2 ≤ nd) (hs : TestQ tp sz fu t b r0 R r 2 o 4 3 nd 2 pkF) : TestQ tp sz fu t b r0 R (r + 1) 0 o 2 2 (nd + 1) 1 pkB := by
  have n3 : ¬ (1 : Int32) = 0 := by decide
  intro I J M k at' e cj om dp fk bs n h hts hctx hom hdp hn
  have hbs : bs ≤ om := by
    have := h.2.2.2.2.2.2.2.1
    simpa using this
  have hszs := h.1.2.2.2
  have hcja : cj ≤ at' := by
    have := h.2.2.2.2.2.2.2.2.2.1
    simpa using this
  obtain ⟨y, K, g1, g2⟩ := hs I J M k at' e cj om dp fk bs n h hts (by
    rcases hctx with w | ⟨c, w1, w2, w3, w4⟩
    · exact Or.inl w
    · exact Or.inr ⟨c, w1, w2, w3, by omega⟩) (by omega) hdp hn
  show ∃ y K, f_X8_readBoth (g_X8 fu r) fu I R (nI o) = some (y, K) ∧ _
  rcases g2 with ⟨y1, g3⟩ | ⟨y0, g3⟩
  · subst y1
    have loop : ∀ (q m i : Nat) (K : HI), OutT tp sz fu t b r0 I J M K n at' cj om dp o fk bs 2 (nd + 1) pkF → (∀ (J' : HI) (M' : HL) (k' at2 e' cj' om' dp' o' opd' fk' ph' bg' bs' : Nat) (lg : List Nat), PRx tp sz t b r0 K J' M' k' at2 e' cj' om' dp' o' opd' fk' ph' bg' bs' lg → sz + 1 ≤ q + at2 ∧ (k' ≠ 0 → i < at2)) → q < m → ∃ y K', f_X8_readBoth_L8 (g_X8 fu r) fu m K R (nI o) 1 (nI i) = some (y, K') ∧ ((y = 1 ∧ OutT tp sz fu t b r0 I J M K' n at' cj om dp o fk bs 2 (nd + 1) pkB) ∨ (y = 0 ∧ OutB fu t b I J M K' n)) := by
      intro q
      induction q with
      | zero =>
        intro m i K hG hm _
        obtain ⟨J', M', k', at2, e', cj', ph', lg, n', _, _, _, a4, _⟩ := id hG
        have := (hm _ _ _ _ _ _ _ _ _ _ _ _ _ _ _ a4).1
        have := a4.1.2.1.2.1
        omega
      | succ q ih =>
        intro m i K hG hm hq
        obtain ⟨m, rfl⟩ : ∃ z, m = z + 1 := ⟨m - 1, by omega⟩
        obtain ⟨J', M', k', at2, e', cj', ph', lg, n', a1, a2, a3, a4, a5, a6, a7, a8, a9, a10, a11, a12⟩ := hG
        obtain ⟨hm1, hm2⟩ := hm _ _ _ _ _ _ _ _ _ _ _ _ _ _ _ a4
        have hk5 : k' = 5 ∨ k' ≠ 5 := by omega
        have fin : f_X10_isOwn K 19 = some 0 → (k' = 2 → K 7 6 ≠ nI 19) → ∃ y K', f_X8_readBoth_L8 (g_X8 fu r) fu (m + 1) K R (nI o) 1 (nI i) = some (y, K') ∧ ((y = 1 ∧ OutT tp sz fu t b r0 I J M K' n at' cj om dp o fk bs 2 (nd + 1) pkB) ∨ (y = 0 ∧ OutB fu t b I J M K' n)) := fun z1 z2 => by
          refine ⟨1, K, ?_, Or.inl ⟨rfl, J', M', k', at2, e', cj', ph', lg, n', a1, a2, a3, a4, a5, a6, a7, a8, a9, a10, a11, a12, z2⟩⟩
          by_cases ci : (1600 : Int32) ≤ nI i
          · simp only [f_X8_readBoth_L8, if_pos ci]
          · simp only [f_X8_readBoth_L8, if_neg ci, if_neg n3, z1, Option.bind_some, if_true]
        rcases hk5 with hk5 | hk5
        · refine fin ?_ (fun w => by omega)
          have hkk : ¬ K 7 3 = 2 := by
            rw [a4.1.2.1.1.2.2.2, hk5]
            decide
          unfold f_X10_isOwn
          simp only [hkk, if_false, if_neg hkk]
          rfl
        · obtain ⟨c, w, t1, t2, t3, t4, t5, t6⟩ := tok a4.1 hk5
          by_cases cw : w = 19
          · have hk2 : k' = 2 := by
              rcases t6 with ⟨z, _⟩ | ⟨_, z⟩
              · exact z
              · omega
            have o2 : f_X10_isOwn K 19 = some 1 := by
              have := t4 19 (by decide)
              rw [if_pos cw] at this
              exact this
            have hpk : pkF ph' K k' := a12
            have hph' : 1 ≤ ph' ∧ ph' ≤ 2 := by
              rcases hpk with ⟨z, _⟩ | z
              · omega
              · omega
            have hA : ph' < 2 → noA c := fun z => by
              rcases hpk with ⟨_, z2⟩ | z2
              · exact noA_of z2 t5
              · omega
            have hlg : om + lg.length ≤ 100 := a4.2.2.2.2.2.2.2.2.1
            obtain ⟨J1, j1, j2, j3⟩ := jn_R (fu := fu) a4 hf a5 (by rw [Nat.add_sub_cancel]; exact CtxJ_fr hctx a8 hbs) (by decide)
            rw [Nat.add_sub_cancel] at j2 j3
            obtain ⟨K3, J3, M3, k3, at3, e3, b1, b2, b3, b4, b5, b6, b7, b8, b9⟩ := push_op (fu := fu) (J := J') (code := 41) j2 hf (by omega) (by omega) ht ⟨by decide, by decide⟩ 0 1 (by decide) (JX := sI (sI (sI (sI J1 125 om (nI 41)) 100 43 (nI (om + 1))) 121 dp (nI 0)) 122 dp (nI 1)) ⟨_, holds_M j2.2.1.2.2.1 (by omega), rfl⟩
            have hlexJ : f_X12_lex J' = some J' := by
              rcases lexS a4.1 with ⟨_, z, _⟩ | ⟨z, _⟩
              · exact z
              · omega
            have go := goB_M (fu := fu) (dp := dp) (fk := fk) (ph := ph') (J := J') (J1 := J1) (J3 := J3) (M := M') (M3 := M3) (c := c) (w := 19) a4.1.2.2.1 hlexJ a4.2.1.2.2.2.1.1 a4.2.1.2.2.2.1.2 a4.2.1.2.2.2.2.2.2.1 a4.2.2.2.2.2.2.2.2.2.2.2.2.2.1 hts a4.2.1.2.2.2.2.2.2.2.1 hph' t1 hA (by rw [← cw]; exact t2) (by decide) j1 (holds_M j2.2.1.2.2.1 (by omega)) b2
            have hat2 : at2 ≤ 1600 := by
              have := a4.1.2.1.2.1
              omega
            obtain ⟨n1, hn1⟩ : ∃ n1, n' = n1 + 1 := ⟨n' - 1, by have := a4.1.2.1.2.1; omega⟩
            have step := goR (fu := fu) (n := n1) a4.2.1.2.2.2.2.2.1 go (by rw [zs_eq, zs_other (by decide)]; exact b3)
            obtain ⟨y2, K4, g4, g5⟩ := hs K3 (sI J3 100 44 0) M3 k3 at3 e3 (cj' + lg.length) (om + 1) dp fk bs n1 b4 hts (Or.inr ⟨41, by decide, by decide, by rw [Nat.add_sub_cancel]; exact b5, by decide⟩) (by omega) hdp (by omega)
            have pf1 : PFm J (sI J3 100 44 0) b dp om cj := (a8.trans j3 (Nat.le_refl _) a7).trans b7 (Nat.le_refl _) (by omega)
            have pc1 : PFc I K3 t cj := a9.trans b8 (by omega)
            have on1 : OnL M M3 := a10.trans b9
            have hi : ¬ (1600 : Int32) ≤ nI i := nI_ge (b := 1600) (by have := hm2 (by omega); omega) (by decide)
            have A1 : nI i + 1 = nI (i + 1) := nI_1 i
            rcases g5 with ⟨y1, J5, M5, k5, at5, e5, cj5, ph5, lg5, n5, d1, d2, d3, d4, d5, d6, d7, d8, d9, d10, d11, d12⟩ | ⟨y0, J5, M5, f, pl, d1, d2, d3, d4, d5⟩
            · subst y1
              have hbs1 : bs ≤ om := hbs
              have hop5 : J5 125 om = nI 41 := by rw [d8.2.2.2.2.1 om (by omega)]; exact b5
              obtain ⟨K6, f1, f2, f3, f4, f5⟩ := emit_op (I := I) (code := 41) d4 ht ⟨by decide, by decide⟩ hop5 (by decide) (by omega) hbs1
              have f1' : f_X2_emit K4 t (-19) = some (1, K6) := f1
              have hl6 : (lg5 ++ [41]).length = lg5.length + 1 := by rw [List.length_append]; rfl
              have hG : OutT tp sz fu t b r0 I J M K6 n at' cj om dp o fk bs 2 (nd + 1) pkF := by
                refine ⟨J5, M5, k5, at5, e5, cj5, ph5, lg5 ++ [41], n5, ?_, by omega, by omega, f2, fun x hx => ?_, by rw [hl6]; omega, by omega, pf1.trans d8 (by omega) (by omega), (pc1.trans d9 (by omega)).trans f3 (by omega), on1.trans d10, ?_, ?_⟩
                · rw [a1, hn1, step, d1]
                · rcases List.mem_append.mp hx with z | z
                  · have := d5 x z; omega
                  · rw [List.mem_singleton.mp z]; decide
                · rw [hl6]
                  have v1 : VL K6 t r0 cj (cj' + lg.length) (nd + 1) 1 := VL_congr a11 (fun j j1 j2 => by rw [f3.2.2.2 j (by omega), d9.2.2.2 j (by omega), b8.2.2.2 j (by omega)])
                  have v2 : VL K6 t r0 (cj' + lg.length) (cj5 + lg5.length) nd 1 := VL_congr d11 (fun j j1 j2 => by rw [f3.2.2.2 j (by omega)])
                  exact VL_bin v1 v2 f4 ⟨by decide, by decide⟩ (fun _ => rfl) (fun _ => by decide) (by omega)
                · unfold pkF tkSm at d12 ⊢
                  rw [f5]
                  exact d12
              obtain ⟨y3, K7, r1, r2⟩ := ih m (i + 1) K6 hG (fun J8 M8 k8 at8 e8 cj8 om8 dp8 o8 opd8 fk8 ph8 bg8 bs8 lg8 z => by
                have e1 := z.1.2.1.1.2.2.1.1
                have e2 := f2.1.2.1.1.2.2.1.1
                have l1 := z.1.2.1.2.1
                have l2 := f2.1.2.1.2.1
                have : at8 = at5 := (nI_eq (by omega) (by omega)).mp (e1.symm.trans e2)
                exact ⟨by omega, fun _ => by have := hm2 (by omega); omega⟩) (by omega)
              refine ⟨y3, K7, ?_, r2⟩
              rw [← r1]
              simp only [f_X8_readBoth_L8, if_neg hi, if_neg n3, o2, Option.bind_some, b1, jnt, g4, hR, zg_ok hok, f1', A1]
            · subst y0
              have stop : f_X8_readBoth_L8 (g_X8 fu r) fu m K4 R (nI o) 0 (nI (i + 1)) = some (0, K4) := by
                obtain ⟨m, rfl⟩ : ∃ z, m = z + 1 := ⟨m - 1, by omega⟩
                by_cases ci : (1600 : Int32) ≤ nI (i + 1)
                · simp only [f_X8_readBoth_L8, if_pos ci]
                · simp only [f_X8_readBoth_L8, if_neg ci, if_true]
              refine ⟨0, K4, ?_, Or.inr ⟨rfl, J5, M5, f, pl, by rw [a1, hn1, step, d1], BdC.tr pc1 d2, BdR.tr pf1 d3, d4, on1.trans d5⟩⟩
              simp only [f_X8_readBoth_L8, if_neg hi, if_neg n3, o2, Option.bind_some, b1, jnt, g4, if_true, A1]
              exact stop
          · have o2 : f_X10_isOwn K 19 = some 0 := by
              have := t4 19 (by decide)
              rw [if_neg cw] at this
              exact this
            refine fin o2 (fun z => ?_)
            rcases t6 with ⟨_, z1, z2⟩ | ⟨z1, _⟩
            · exact fun y => cw ((nI_eq (by omega) (by decide)).mp (z2.symm.trans y))
            · exact absurd z z1
    have hG0 : OutT tp sz fu t b r0 I J M K n at' cj om dp o fk bs 2 (nd + 1) pkF := by
      obtain ⟨J', M', k', at2, e', cj', ph', lg, n', a1, a2, a3, a4, a5, a6, a7, a8, a9, a10, a11, a12⟩ := g3
      exact ⟨J', M', k', at2, e', cj', ph', lg, n', a1, a2, a3, a4, fun c hc => by have := a5 c hc; omega, a6, a7, a8, a9, a10, VL_le a11 (by omega), a12⟩
    obtain ⟨y2, K2, l1, l2⟩ := loop (sz + 1) fu 0 K hG0 (fun J8 M8 k8 at8 e8 cj8 om8 dp8 o8 opd8 fk8 ph8 bg8 bs8 lg8 z => by
      obtain ⟨J', M', k', at2, e', cj', ph', lg, n', a1, a2, a3, a4, _⟩ := g3
      have e1 := z.1.2.1.1.2.2.1.1
      have e2 := a4.1.2.1.1.2.2.1.1
      have l1 := z.1.2.1.2.1
      have l2 := a4.1.2.1.2.1
      have : at8 = at2 := (nI_eq (by omega) (by omega)).mp (e1.symm.trans e2)
      exact ⟨by omega, fun _ => by omega⟩) (by omega)
    have l1' : f_X8_readBoth_L8 (g_X8 fu r) fu fu K R (nI o) 1 0 = some (y2, K2) := l1
    refine ⟨y2, K2, ?_, l2⟩
    unfold f_X8_readBoth
    simp only [g1, Option.bind_some, l1']
    rcases l2 with ⟨z, _⟩ | ⟨z, _⟩
    · rw [z]; exact gz_1
    · rw [z]; exact gz_0
  · subst y0
    have stop : f_X8_readBoth_L8 (g_X8 fu r) fu fu K R (nI o) 0 0 = some (0, K) := by
      obtain ⟨m, hm⟩ : ∃ m, fu = m + 1 := ⟨fu - 1, by omega⟩
      have z : ¬ (1600 : Int32) ≤ 0 := by decide
      rw [show f_X8_readBoth_L8 (g_X8 fu r) fu fu K R (nI o) 0 0 = f_X8_readBoth_L8 (g_X8 fu r) fu (m + 1) K R (nI o) 0 0 from by rw [← hm]]
      simp only [f_X8_readBoth_L8, if_neg z, if_true]
    refine ⟨0, K, ?_, Or.inr ⟨rfl, g3⟩⟩
    unfold f_X8_readBoth
    simp only [g1, Option.bind_some, stop, gz_0]
theorem test_P {r o nd : Nat} (hf : 2000 < fu) (ht : t = 67 ∨ t = 80) (hok : okLd t = true) (hR : R 8 1 = t) (ho : o ≤ 7) (hnd : 2 ≤ nd) (hs : TestQ tp sz fu t b r0 R r 0 o 2 2 nd 1 pkB) : TestQ tp sz fu t b r0 R (r + 1) 7 o 1 1 (nd + 1) 0 pkT := by
  have n3 : ¬ (1 : Int32) = 0 := by decide
  intro I J M k at' e cj om dp fk bs n h hts hctx hom hdp hn
  have hbs : bs ≤ om := by
    have := h.2.2.2.2.2.2.2.1
    simpa using this
  have hszs := h.1.2.2.2
  have hcja : cj ≤ at' := by
    have := h.2.2.2.2.2.2.2.2.2.1
    simpa using this
  obtain ⟨y, K, g1, g2⟩ := hs I J M k at' e cj om dp fk bs n h hts (by
    rcases hctx with w | ⟨c, w1, w2, w3, w4⟩
    · exact Or.inl w
    · exact Or.inr ⟨c, w1, w2, w3, by omega⟩) (by omega) hdp hn
  show ∃ y K, f_X8_readTest (g_X8 fu r) fu I R (nI o) = some (y, K) ∧ _
  rcases g2 with ⟨y1, g3⟩ | ⟨y0, g3⟩
  · subst y1
    have loop : ∀ (q m i : Nat) (K : HI), OutT tp sz fu t b r0 I J M K n at' cj om dp o fk bs 1 (nd + 1) pkB → (∀ (J' : HI) (M' : HL) (k' at2 e' cj' om' dp' o' opd' fk' ph' bg' bs' : Nat) (lg : List Nat), PRx tp sz t b r0 K J' M' k' at2 e' cj' om' dp' o' opd' fk' ph' bg' bs' lg → sz + 1 ≤ q + at2 ∧ (k' ≠ 0 → i < at2)) → q < m → ∃ y K', f_X8_readTest_L8 (g_X8 fu r) fu m K R (nI o) 1 (nI i) = some (y, K') ∧ ((y = 1 ∧ OutT tp sz fu t b r0 I J M K' n at' cj om dp o fk bs 1 (nd + 1) pkT) ∨ (y = 0 ∧ OutB fu t b I J M K' n)) := by
      intro q
      induction q with
      | zero =>
        intro m i K hG hm _
        obtain ⟨J', M', k', at2, e', cj', ph', lg, n', _, _, _, a4, _⟩ := id hG
        have := (hm _ _ _ _ _ _ _ _ _ _ _ _ _ _ _ a4).1
        have := a4.1.2.1.2.1
        omega
      | succ q ih =>
        intro m i K hG hm hq
        obtain ⟨m, rfl⟩ : ∃ z, m = z + 1 := ⟨m - 1, by omega⟩
        obtain ⟨J', M', k', at2, e', cj', ph', lg, n', a1, a2, a3, a4, a5, a6, a7, a8, a9, a10, a11, a12⟩ := hG
        obtain ⟨hm1, hm2⟩ := hm _ _ _ _ _ _ _ _ _ _ _ _ _ _ _ a4
        have hk5 : k' = 5 ∨ k' ≠ 5 := by omega
        have fin : f_X10_isOwn K 18 = some 0 → (k' = 2 → K 7 6 ≠ nI 18) → ∃ y K', f_X8_readTest_L8 (g_X8 fu r) fu (m + 1) K R (nI o) 1 (nI i) = some (y, K') ∧ ((y = 1 ∧ OutT tp sz fu t b r0 I J M K' n at' cj om dp o fk bs 1 (nd + 1) pkT) ∨ (y = 0 ∧ OutB fu t b I J M K' n)) := fun z1 z2 => by
          refine ⟨1, K, ?_, Or.inl ⟨rfl, J', M', k', at2, e', cj', ph', lg, n', a1, a2, a3, a4, a5, a6, a7, a8, a9, a10, a11, a12, z2⟩⟩
          by_cases ci : (1600 : Int32) ≤ nI i
          · simp only [f_X8_readTest_L8, if_pos ci]
          · simp only [f_X8_readTest_L8, if_neg ci, if_neg n3, z1, Option.bind_some, if_true]
        rcases hk5 with hk5 | hk5
        · refine fin ?_ (fun w => by omega)
          have hkk : ¬ K 7 3 = 2 := by
            rw [a4.1.2.1.1.2.2.2, hk5]
            decide
          unfold f_X10_isOwn
          simp only [hkk, if_false, if_neg hkk]
          rfl
        · obtain ⟨c, w, t1, t2, t3, t4, t5, t6⟩ := tok a4.1 hk5
          by_cases cw : w = 18
          · have hk2 : k' = 2 := by
              rcases t6 with ⟨z, _⟩ | ⟨_, z⟩
              · exact z
              · omega
            have o2 : f_X10_isOwn K 18 = some 1 := by
              have := t4 18 (by decide)
              rw [if_pos cw] at this
              exact this
            have hpk : pkF ph' K k' := a12.1
            have hph' : 1 ≤ ph' ∧ ph' ≤ 2 := by
              rcases hpk with ⟨z, _⟩ | z
              · omega
              · omega
            have hA : ph' < 2 → noA c := fun z => by
              rcases hpk with ⟨_, z2⟩ | z2
              · exact noA_of z2 t5
              · omega
            have hlg : om + lg.length ≤ 100 := a4.2.2.2.2.2.2.2.2.1
            obtain ⟨J1, j1, j2, j3⟩ := jn_R (fu := fu) a4 hf a5 (by rw [Nat.add_sub_cancel]; exact CtxJ_fr hctx a8 hbs) (by decide)
            rw [Nat.add_sub_cancel] at j2 j3
            obtain ⟨K3, J3, M3, k3, at3, e3, b1, b2, b3, b4, b5, b6, b7, b8, b9⟩ := push_op (fu := fu) (J := J') (code := 42) j2 hf (by omega) (by omega) ht ⟨by decide, by decide⟩ 0 1 (by decide) (JX := sI (sI (sI (sI J1 125 om (nI 42)) 100 43 (nI (om + 1))) 121 dp (nI 0)) 122 dp (nI 1)) ⟨_, holds_M j2.2.1.2.2.1 (by omega), rfl⟩
            have hlexJ : f_X12_lex J' = some J' := by
              rcases lexS a4.1 with ⟨_, z, _⟩ | ⟨z, _⟩
              · exact z
              · omega
            have go := goB_M (fu := fu) (dp := dp) (fk := fk) (ph := ph') (J := J') (J1 := J1) (J3 := J3) (M := M') (M3 := M3) (c := c) (w := 18) a4.1.2.2.1 hlexJ a4.2.1.2.2.2.1.1 a4.2.1.2.2.2.1.2 a4.2.1.2.2.2.2.2.2.1 a4.2.2.2.2.2.2.2.2.2.2.2.2.2.1 hts a4.2.1.2.2.2.2.2.2.2.1 hph' t1 hA (by rw [← cw]; exact t2) (by decide) j1 (holds_M j2.2.1.2.2.1 (by omega)) b2
            have hat2 : at2 ≤ 1600 := by
              have := a4.1.2.1.2.1
              omega
            obtain ⟨n1, hn1⟩ : ∃ n1, n' = n1 + 1 := ⟨n' - 1, by have := a4.1.2.1.2.1; omega⟩
            have step := goR (fu := fu) (n := n1) a4.2.1.2.2.2.2.2.1 go (by rw [zs_eq, zs_other (by decide)]; exact b3)
            obtain ⟨y2, K4, g4, g5⟩ := hs K3 (sI J3 100 44 0) M3 k3 at3 e3 (cj' + lg.length) (om + 1) dp fk bs n1 b4 hts (Or.inr ⟨42, by decide, by decide, by rw [Nat.add_sub_cancel]; exact b5, by decide⟩) (by omega) hdp (by omega)
            have pf1 : PFm J (sI J3 100 44 0) b dp om cj := (a8.trans j3 (Nat.le_refl _) a7).trans b7 (Nat.le_refl _) (by omega)
            have pc1 : PFc I K3 t cj := a9.trans b8 (by omega)
            have on1 : OnL M M3 := a10.trans b9
            have hi : ¬ (1600 : Int32) ≤ nI i := nI_ge (b := 1600) (by have := hm2 (by omega); omega) (by decide)
            have A1 : nI i + 1 = nI (i + 1) := nI_1 i
            rcases g5 with ⟨y1, J5, M5, k5, at5, e5, cj5, ph5, lg5, n5, d1, d2, d3, d4, d5, d6, d7, d8, d9, d10, d11, d12⟩ | ⟨y0, J5, M5, f, pl, d1, d2, d3, d4, d5⟩
            · subst y1
              have hbs1 : bs ≤ om := hbs
              have hop5 : J5 125 om = nI 42 := by rw [d8.2.2.2.2.1 om (by omega)]; exact b5
              obtain ⟨K6, f1, f2, f3, f4, f5⟩ := emit_op (I := I) (code := 42) d4 ht ⟨by decide, by decide⟩ hop5 (by decide) (by omega) hbs1
              have f1' : f_X2_emit K4 t (-20) = some (1, K6) := f1
              have hl6 : (lg5 ++ [42]).length = lg5.length + 1 := by rw [List.length_append]; rfl
              have hG : OutT tp sz fu t b r0 I J M K6 n at' cj om dp o fk bs 1 (nd + 1) pkB := by
                refine ⟨J5, M5, k5, at5, e5, cj5, ph5, lg5 ++ [42], n5, ?_, by omega, by omega, f2, fun x hx => ?_, by rw [hl6]; omega, by omega, pf1.trans d8 (by omega) (by omega), (pc1.trans d9 (by omega)).trans f3 (by omega), on1.trans d10, ?_, ?_⟩
                · rw [a1, hn1, step, d1]
                · rcases List.mem_append.mp hx with z | z
                  · have := d5 x z; omega
                  · rw [List.mem_singleton.mp z]; decide
                · rw [hl6]
                  have v1 : VL K6 t r0 cj (cj' + lg.length) (nd + 1) 1 := VL_congr a11 (fun j j1 j2 => by rw [f3.2.2.2 j (by omega), d9.2.2.2 j (by omega), b8.2.2.2 j (by omega)])
                  have v2 : VL K6 t r0 (cj' + lg.length) (cj5 + lg5.length) nd 1 := VL_congr d11 (fun j j1 j2 => by rw [f3.2.2.2 j (by omega)])
                  exact VL_bin v1 v2 f4 ⟨by decide, by decide⟩ (fun _ => rfl) (fun _ => by decide) (by omega)
                · unfold pkB pkF tkSm at d12 ⊢
                  rw [f5]
                  exact d12
              obtain ⟨y3, K7, r1, r2⟩ := ih m (i + 1) K6 hG (fun J8 M8 k8 at8 e8 cj8 om8 dp8 o8 opd8 fk8 ph8 bg8 bs8 lg8 z => by
                have e1 := z.1.2.1.1.2.2.1.1
                have e2 := f2.1.2.1.1.2.2.1.1
                have l1 := z.1.2.1.2.1
                have l2 := f2.1.2.1.2.1
                have : at8 = at5 := (nI_eq (by omega) (by omega)).mp (e1.symm.trans e2)
                exact ⟨by omega, fun _ => by have := hm2 (by omega); omega⟩) (by omega)
              refine ⟨y3, K7, ?_, r2⟩
              rw [← r1]
              simp only [f_X8_readTest_L8, if_neg hi, if_neg n3, o2, Option.bind_some, b1, jnt, g4, hR, zg_ok hok, f1', A1]
            · subst y0
              have stop : f_X8_readTest_L8 (g_X8 fu r) fu m K4 R (nI o) 0 (nI (i + 1)) = some (0, K4) := by
                obtain ⟨m, rfl⟩ : ∃ z, m = z + 1 := ⟨m - 1, by omega⟩
                by_cases ci : (1600 : Int32) ≤ nI (i + 1)
                · simp only [f_X8_readTest_L8, if_pos ci]
                · simp only [f_X8_readTest_L8, if_neg ci, if_true]
              refine ⟨0, K4, ?_, Or.inr ⟨rfl, J5, M5, f, pl, by rw [a1, hn1, step, d1], BdC.tr pc1 d2, BdR.tr pf1 d3, d4, on1.trans d5⟩⟩
              simp only [f_X8_readTest_L8, if_neg hi, if_neg n3, o2, Option.bind_some, b1, jnt, g4, if_true, A1]
              exact stop
          · have o2 : f_X10_isOwn K 18 = some 0 := by
              have := t4 18 (by decide)
              rw [if_neg cw] at this
              exact this
            refine fin o2 (fun z => ?_)
            rcases t6 with ⟨_, z1, z2⟩ | ⟨z1, _⟩
            · exact fun y => cw ((nI_eq (by omega) (by decide)).mp (z2.symm.trans y))
            · exact absurd z z1
    have hG0 : OutT tp sz fu t b r0 I J M K n at' cj om dp o fk bs 1 (nd + 1) pkB := by
      obtain ⟨J', M', k', at2, e', cj', ph', lg, n', a1, a2, a3, a4, a5, a6, a7, a8, a9, a10, a11, a12⟩ := g3
      exact ⟨J', M', k', at2, e', cj', ph', lg, n', a1, a2, a3, a4, fun c hc => by have := a5 c hc; omega, a6, a7, a8, a9, a10, VL_le a11 (by omega), a12⟩
    obtain ⟨y2, K2, l1, l2⟩ := loop (sz + 1) fu 0 K hG0 (fun J8 M8 k8 at8 e8 cj8 om8 dp8 o8 opd8 fk8 ph8 bg8 bs8 lg8 z => by
      obtain ⟨J', M', k', at2, e', cj', ph', lg, n', a1, a2, a3, a4, _⟩ := g3
      have e1 := z.1.2.1.1.2.2.1.1
      have e2 := a4.1.2.1.1.2.2.1.1
      have l1 := z.1.2.1.2.1
      have l2 := a4.1.2.1.2.1
      have : at8 = at2 := (nI_eq (by omega) (by omega)).mp (e1.symm.trans e2)
      exact ⟨by omega, fun _ => by omega⟩) (by omega)
    have l1' : f_X8_readTest_L8 (g_X8 fu r) fu fu K R (nI o) 1 0 = some (y2, K2) := l1
    refine ⟨y2, K2, ?_, l2⟩
    unfold f_X8_readTest
    simp only [g1, Option.bind_some, l1']
    rcases l2 with ⟨z, _⟩ | ⟨z, _⟩
    · rw [z]; exact gz_1
    · rw [z]; exact gz_0
  · subst y0
    have stop : f_X8_readTest_L8 (g_X8 fu r) fu fu K R (nI o) 0 0 = some (0, K) := by
      obtain ⟨m, hm⟩ : ∃ m, fu = m + 1 := ⟨fu - 1, by omega⟩
      have z : ¬ (1600 : Int32) ≤ 0 := by decide
      rw [show f_X8_readTest_L8 (g_X8 fu r) fu fu K R (nI o) 0 0 = f_X8_readTest_L8 (g_X8 fu r) fu (m + 1) K R (nI o) 0 0 from by rw [← hm]]
      simp only [f_X8_readTest_L8, if_neg z, if_true]
    refine ⟨0, K, ?_, Or.inr ⟨rfl, g3⟩⟩
    unfold f_X8_readTest
    simp only [g1, Option.bind_some, stop, gz_0]
end
