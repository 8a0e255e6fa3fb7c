/-! the rules' reader: tests -/
theorem sI_cm {J : HI} {a a' i i' : Nat} {v v' : Int32} (h : a ≠ a') : sI (sI J a i v) a' i' v' = sI (sI J a' i' v') a i v := by
  funext x k
  by_cases x1 : x = a
  · subst x1
    rw [zs_ne h, zs_eq, zs_eq, zs_ne h]
  · by_cases x2 : x = a'
    · subst x2
      rw [zs_eq, zs_ne x1, zs_ne x1, zs_eq]
    · rw [zs_ne x2, zs_ne x1, zs_ne x1, zs_ne x2]
theorem VL_not {K : HI} {t r0 c0 c1 nd : Nat} (h : VL K t r0 c0 c1 nd 1) (hcode : K (t + 10) c1 = opC 43) (hnd : 2 ≤ nd) : VL K t r0 c0 (c1 + 1) nd 1 := by
  have a1 := h.1
  refine ⟨by omega, fun fig hf st hs => ?_⟩
  obtain ⟨v, e1, f1⟩ := h.2 fig hf st hs
  have ez : (opC 43).toInt = -7 := by decide
  have hv := f1 rfl
  have es : evS fig (K (t + 10) c1).toInt (v :: st) = some ((1 - v) :: st) := by
    rw [hcode]
    unfold evS
    have hl : (v :: st).length = st.length + 1 := rfl
    rw [if_neg (by rw [hl]; omega), if_neg (by rw [ez]; omega), if_neg (by rw [ez]; omega), if_pos ez]
    show (if v = 0 ∨ v = 1 then some ((1 - v) :: st) else none) = _
    rw [if_pos hv]
  refine ⟨1 - v, ?_, fun _ => by omega⟩
  rw [show c1 + 1 - c0 = (c1 - c0) + 1 by omega, evN_add, e1, Option.bind_some, show c0 + (c1 - c0) = c1 by omega, ev1]
  exact es
theorem VL_num {K : HI} {t r0 c0 nd ts : Nat} {z : Int} (hc : (K (t + 10) c0).toInt = z) (hz : 0 ≤ z ∧ z ≤ 9999) (hnd : 1 ≤ nd) (hts : ts = 1 → z = 0 ∨ z = 1) : VL K t r0 c0 (c0 + 1) nd ts := by
  refine ⟨by omega, fun fig hf st hs => ⟨z, ?_, hts⟩⟩
  rw [show c0 + 1 - c0 = 1 by omega, ev1, hc]
  unfold evS
  rw [if_neg (by omega), if_pos hz.1, if_pos hz.2]
section
variable {tp : Nat → Nat} {sz fu t b r0 : Nat} {R : HR}
theorem emit_not {K : HI} {J : HI} {M : HL} {k at' e cj om dp o fk ph bs : Nat} {lg : List Nat} (h : PRx tp sz t b r0 K J M k at' e cj (om + 1 + lg.length) dp (o + 1) 1 fk ph 0 bs lg) (ht : t = 67 ∨ t = 80) (hop : J 125 om = nI 43) (hroom : cj + lg.length + 1 ≤ at') (hbs : bs ≤ om) : ∃ K', f_X2_emit K t (opC 43) = some (1, K') ∧ PRx tp sz t b r0 K' J M k at' e cj (om + (lg ++ [43]).length) dp o 1 fk ph 0 bs (lg ++ [43]) ∧ PFc K K' t (cj + lg.length) ∧ K' (t + 10) (cj + lg.length) = opC 43 ∧ K' 7 = K 7 := by
  obtain ⟨s, ⟨⟨p1, p2⟩, p3, p4, ⟨p5, p6⟩, p7, p8, p9, p10, p11, p12⟩, q1, q2, q3, q4, q5, q6, q7, q8, q9, q10, q11, q12, q13⟩ := h
  have hsz : at' ≤ 1600 := by
    have := s.2.1.2.1
    have := s.2.2.2
    omega
  have hl : (lg ++ [43]).length = lg.length + 1 := by rw [List.length_append]; rfl
  have hn : o + ntL (lg ++ [43]) = o + 1 + ntL lg := by rw [ntL_app, if_pos rfl]; omega
  refine ⟨_, emit_C q1 (by omega), ?_, ⟨fun x a1 a2 a3 => by rw [zs_ne a2, zs_ne a3], fun s hs => by rw [zs_eq, zs_other hs, zs_ne (by omega)], fun s _ => by rw [zs_ne (by omega), zs_ne (by omega)], fun j hj => by rw [zs_ne (by omega), zs_eq, zs_other (by omega)]⟩, by rw [zs_ne (by omega), zs_eq, zs_same], by rw [zs_ne (by omega), zs_ne (by omega)]⟩
  rw [hl, show om + (lg.length + 1) = om + 1 + lg.length by omega]
  refine ⟨StR_tk s (fun x hx => by rw [zs_ne (by omega), zs_ne (by omega)]), ⟨⟨p1, p2⟩, p3, p4, ⟨p5, p6⟩, by rw [hn]; exact p7, p8, p9, p10, p11, p12⟩, by rw [zs_eq, zs_same, hl]; rfl, OnS_app lg _ q2 (by omega) (by rw [show om + 1 + lg.length - 1 - lg.length = om by omega]; exact hop), CLs_app lg cj (CLs_congr lg cj (fun j j1 j2 => by rw [zs_ne (by omega), zs_eq, zs_other (by omega)]) q3) (by rw [zs_ne (by omega), zs_eq, zs_same]), fun c hc => ?_, fun j hj => ?_, by rw [hl]; omega, by omega, by rw [hl]; omega, by rw [hn]; exact q9, q10, by rw [zs_ne (by omega), zs_ne (by omega)]; exact q11, q12, q13⟩
  · rcases List.mem_append.mp hc with w | w
    · exact q4 c w
    · rw [List.mem_singleton.mp w]; decide
  · rw [zs_ne (by omega), zs_eq, zs_other (by omega)]
    exact q5 j hj
/-- the reference holds a NOT back -/
theorem nt_R {I J JX : HI} {M : HL} {k at' e cj om dp o fk ph bg bs : Nat} (h : PRx tp sz t b r0 I J M k at' e cj om dp o 0 fk ph bg bs []) (hom : om ≤ 90) (ho : o ≤ 7) (hJX : JX = sI (sI (sI J 100 41 (nI (o + 1))) 125 om (nI 43)) 100 43 (nI (om + 1))) : PRx tp sz t b r0 I JX M k at' e cj (om + 1) dp (o + 1) 0 fk ph bg bs [] ∧ PFm J JX b dp om cj ∧ JX 125 om = nI 43 := by
  obtain ⟨s, ⟨⟨p1, p2⟩, p3, p4, ⟨p5, p6⟩, p7, p8, p9, p10, p11, p12⟩, q1, q2, q3, q4, q5, q6, q7, q8, q9, q10, q11, q12, q13⟩ := h
  have x100 : ∀ s, s ≠ 41 → s ≠ 43 → JX 100 s = J 100 s := fun s a1 a2 => by rw [hJX, zs_eq, zs_other a2, zs_ne (by decide), zs_eq, zs_other a1]
  have x43 : JX 100 43 = nI (om + 1) := by rw [hJX, zs_eq, zs_same]
  have x41 : JX 100 41 = nI (o + 1) := by rw [hJX, zs_eq, zs_other (by decide), zs_ne (by decide), zs_eq, zs_same]
  have xx : ∀ x, x ≠ 100 → x ≠ 125 → JX x = J x := fun x a1 a2 => by rw [hJX, zs_ne a1, zs_ne a2, zs_ne a1]
  have x125 : JX 125 om = nI 43 := by rw [hJX, zs_ne (by decide), zs_eq, zs_same]
  have x125o : ∀ i, i ≠ om → JX 125 i = J 125 i := fun i hi => by rw [hJX, zs_ne (by decide), zs_eq, zs_other hi, zs_ne (by decide)]
  refine ⟨⟨StR_m s (xx 101 (by decide) (by decide)) (fun x hx => x100 x (by omega) (by omega)), ⟨⟨by rw [x100 33 (by decide) (by decide)]; exact p1, p2⟩, by rw [x100 32 (by decide) (by decide)]; exact p3, x43, ⟨by rw [x100 40 (by decide) (by decide)]; exact p5, p6⟩, x41, by rw [x100 44 (by decide) (by decide)]; exact p8, by rw [xx 120 (by decide) (by decide)]; exact p9, by rw [xx 121 (by decide) (by decide)]; exact p10, by rw [xx 122 (by decide) (by decide)]; exact p11, by rw [xx 124 (by decide) (by decide)]; exact p12⟩, q1, trivial, trivial, fun c hc => absurd hc List.not_mem_nil, fun j hj => by rw [xx 115 (by decide) (by decide), xx 116 (by decide) (by decide)]; exact q5 j hj, by show bs + 0 ≤ om + 1; have : bs + 0 ≤ om := q6; omega, by omega, q8, by show o + 1 + 0 ≤ 60; omega, by rw [x100 34 (by decide) (by decide)]; exact q10, q11, q12, q13⟩, ⟨fun x a c => xx x c (by omega), fun s hs => x100 s (by omega) (by omega), fun i hi => by rw [xx 120 (by decide) (by decide), xx 121 (by decide) (by decide), xx 122 (by decide) (by decide), xx 123 (by decide) (by decide), xx 124 (by decide) (by decide)]; exact ⟨rfl, rfl, rfl, rfl, rfl⟩, by rw [xx 123 (by decide) (by decide)], fun i hi => x125o i (by omega), fun k hk => by rw [xx 115 (by decide) (by decide), xx 116 (by decide) (by decide)]; exact ⟨rfl, rfl⟩⟩, x125⟩
theorem cmpOp {I : HI} {c : Nat} (h : ∀ d, d < 256 → f_X10_isSign I (nI d) = some (if c = d then 1 else 0)) : (∃ code, cmC c code ∧ f_X8_compareOp I = some (opC code)) ∨ ((c ≠ 60 ∧ c ≠ 62 ∧ c ≠ 61) ∧ f_X8_compareOp I = some 0) := by
  have s60 : f_X10_isSign I 60 = _ := h 60 (by decide)
  have s62 : f_X10_isSign I 62 = _ := h 62 (by decide)
  have s61 : f_X10_isSign I 61 = _ := h 61 (by decide)
  unfold f_X8_compareOp
  by_cases q60 : c = 60
  · left
    rw [if_pos q60] at s60
    refine ⟨38, Or.inl ⟨q60, rfl⟩, ?_⟩
    simp only [s60, Option.bind_some, if_true, if_neg (show ¬ (1 : Int32) = 0 by decide)]
    rfl
  rw [if_neg q60] at s60
  by_cases q62 : c = 62
  · left
    rw [if_pos q62] at s62
    refine ⟨39, Or.inr (Or.inl ⟨q62, rfl⟩), ?_⟩
    simp only [s60, s62, Option.bind_some, if_true, if_neg (show ¬ (1 : Int32) = 0 by decide)]
    rfl
  rw [if_neg q62] at s62
  by_cases q61 : c = 61
  · left
    rw [if_pos q61] at s61
    refine ⟨40, Or.inr (Or.inr ⟨q61, rfl⟩), ?_⟩
    simp only [s60, s62, s61, Option.bind_some, if_true, if_neg (show ¬ (1 : Int32) = 0 by decide)]
    rfl
  rw [if_neg q61] at s61
  right
  refine ⟨⟨q60, q62, q61⟩, ?_⟩
  simp only [s60, s62, s61, Option.bind_some, if_true]
/-- NOT -/
theorem fact_N {r o nd : Nat} (hf : 2000 < fu) (ht : t = 67 ∨ t = 80) (hok : okLd t = true) (hR : R 8 1 = t) (ho : o ≤ 7) (hnd : 2 ≤ nd) (hs : o < 7 → TestQ tp sz fu t b r0 R r 2 (o + 1) 4 3 nd 2 pkF) {I J : HI} {M : HL} {k at' e cj om dp fk bs n w : Nat} (h : PRx tp sz t b r0 I J M k at' e cj om dp o 0 fk 0 1 bs []) (hts : tsF fk) (hom : om ≤ 5 * dp + o + 2) (hdp : dp ≤ o) (hn : sz + 10 ≤ n + at') (hk : k = 2) (hw : w = 20) (t2 : wdJ J M w) (t4 : ∀ d, d < 25 → f_X10_isOwn I (nI d) = some (if w = d then 1 else 0)) : ∃ y K, f_X8_readFact (g_X8 fu r) fu I R (nI o) = some (y, K) ∧ ((y = 1 ∧ OutT tp sz fu t b r0 I J M K n at' cj om dp o fk bs 3 (nd + 1) pkF) ∨ (y = 0 ∧ OutB fu t b I J M K n)) := by
  have n3 : ¬ (1 : Int32) = 0 := by decide
  have hszs := h.1.2.2.2
  have hes := h.1.2.1.2.1
  have hbs : bs ≤ om := by
    have := h.2.2.2.2.2.2.2.1
    simpa using this
  have s20 : f_X10_isOwn I 20 = some 1 := by
    have := t4 20 (by decide)
    rw [if_pos hw] at this
    exact this
  have hlex : f_X12_lex J = some J := by
    rcases lexS h.1 with ⟨_, z, _⟩ | ⟨z, _⟩
    · exact z
    · omega
  have h4 := h.1.2.1.1.2.2.1
  have hfk := h.2.2.2.2.2.2.2.2.2.2.2.2.2.1
  obtain ⟨n1, hn1⟩ : ∃ n1, n = n1 + 1 + 1 := ⟨n - 2, by omega⟩
  unfold f_X8_readFact
  rcases open_C (I := I) (o := o) h4.1 ho with ⟨o1, o2⟩ | ⟨o1, Kb, o2, o3⟩
  · obtain ⟨JX, hJX⟩ : ∃ JX, JX = sI (sI (sI J 100 41 (nI (o + 1))) 125 om (nI 43)) 100 43 (nI (om + 1)) := ⟨_, rfl⟩
    obtain ⟨x1, x2, x3⟩ := nt_R h (by omega) ho hJX
    obtain ⟨K3, J3, M3, k3, at3, e3, b1, b2, b3, b4, b5, b6, b7⟩ := adv_P (fu := fu) x1 hf (by omega) ht
    have hop := oN_M (fu := fu) (op := o) (om := om) (J3 := J3) (M3 := M3) h.1.2.2.1 hlex h.2.1.2.2.2.1.1 h.2.1.2.2.2.1.2 h.2.1.2.2.2.2.2.2.1 hfk h.2.1.2.2.2.2.2.2.2.2.1 (by decide) hts rfl t2 hw h.2.1.2.2.2.2.1 o1 h.2.1.2.2.1 (by omega) (by rw [← hJX]; exact b2)
    have step := opR (fu := fu) (n := n1 + 1) h.2.1.2.2.2.2.2.1 hop (Or.inl rfl) b3.1.2.2.1
    have b3' := set44 b3 0
    have j125 : (sI J3 100 44 (nI 0)) 125 om = nI 43 := by rw [zs_ne (by decide), b5.2.2.2.1 om (by omega)]; exact x3
    obtain ⟨y2, K4, g4, g5⟩ := hs o1 K3 (sI J3 100 44 (nI 0)) M3 k3 at3 e3 cj (om + 1) dp fk bs (n1 + 1) b3' hts (Or.inr ⟨43, by decide, by decide, by rw [Nat.add_sub_cancel]; exact j125, by decide⟩) (by omega) (by omega) (by omega)
    have hd12 := h.2.1.2.2.2.1.2
    have hcja : cj ≤ at' := by
      have : cj + 0 ≤ at' := h.2.2.2.2.2.2.2.2.2.1
      omega
    have hcj : cj ≤ 1600 := by omega
    have pfa : PFm JX J3 b dp om cj := (b5.le (dp' := dp + 1) (om' := om) (cj' := cj) (by omega) (by omega) hcj).dn
    have pf1 : PFm J (sI J3 100 44 (nI 0)) b dp om cj := (x2.trans pfa (Nat.le_refl _) (Nat.le_refl _)).trans set44_fr (Nat.le_refl _) (Nat.le_refl _)
    have A1 : nI o + 1 = nI (o + 1) := nI_1 o
    rcases g5 with ⟨y1, J5, M5, k5, at5, e5, cj5, ph5, lg5, n5, d1, d2, d3, d4, d5, d6, d7, d8, d9, d10, d11, d12⟩ | ⟨y0, J5, M5, f, pl, d1, d2, d3, d4, d5⟩
    · subst y1
      have hop5 : J5 125 om = nI 43 := by rw [d8.2.2.2.2.1 om (by omega)]; exact j125
      obtain ⟨K6, f1, f2, f3, f4, f5⟩ := emit_not d4 ht hop5 (by omega) hbs
      have f1' : f_X2_emit K4 t (-7) = some (1, K6) := f1
      have hl6 : (lg5 ++ [43]).length = lg5.length + 1 := by rw [List.length_append]; rfl
      refine ⟨1, K6, ?_, Or.inl ⟨rfl, J5, M5, k5, at5, e5, cj5, ph5, lg5 ++ [43], n5, ?_, by omega, by omega, f2, fun x hx => ?_, by rw [hl6]; omega, by omega, pf1.trans d8 (by omega) (by omega), (b6.trans d9 (by omega)).trans f3 (by omega), b7.trans d10, ?_, ?_⟩⟩
      · simp only [s20, Option.bind_some, if_neg n3, o2, b1, A1, g4, hR, zg_ok hok, f1', gz_1]
      · rw [hn1, step]
        exact d1
      · rcases List.mem_append.mp hx with z | z
        · exact d5 x z
        · rw [List.mem_singleton.mp z]; decide
      · rw [hl6]
        exact VL_le (VL_not (VL_congr d11 (fun j j1 j2 => by rw [f3.2.2.2 j (by omega)])) f4 hnd) (by omega)
      · unfold pkF tkSm at d12 ⊢
        rw [f5]
        exact d12
    · subst y0
      refine ⟨0, K4, ?_, Or.inr ⟨rfl, J5, M5, f, pl, by rw [hn1, step]; exact d1, BdC.tr b6 d2, BdR.tr pf1 d3, d4, b7.trans d5⟩⟩
      simp only [s20, Option.bind_some, if_neg n3, o2, b1, A1, g4, if_true, gz_0]
  · have k41 : J 100 41 = nI 7 := by
      have := h.2.1.2.2.2.2.1
      rw [o1] at this
      exact this
    obtain ⟨J', m1, m2⟩ := oN7_M (fu := fu) (at' := at') h.1.2.2.1 hlex h.2.1.2.2.2.1.1 h.2.1.2.2.2.1.2 h.2.1.2.2.2.2.2.2.1 hfk h.2.1.2.2.2.2.2.2.2.2.1 (by decide) hts rfl t2 hw k41 h4.2
    have step := opF (fu := fu) (n := n1) (f := 5) h.2.1.2.2.2.2.2.1 m1 (Or.inr rfl) (by decide) m2.2.1
    refine ⟨0, Kb, ?_, Or.inr ⟨rfl, sI J' 100 44 1, M, 5, at', by rw [hn1, step], BdC.of (PFc.refl (c0 := 0)) ht o3, ?_, ⟨by decide, by omega⟩, OnL.refl⟩⟩
    · simp only [s20, Option.bind_some, if_neg n3, o2, if_true, gz_0]
    · have hb := BdR.of (PFm.refl (b := b) (dp := 0) (om := 0) (cj := 0)) m2
      refine ⟨fun x a c => by rw [zs_ne c]; exact hb.1 x a c, fun s hs => by rw [zs_eq, zs_other (by omega)]; exact hb.2.1 s hs, fun k hk => by rw [zs_ne (by decide), zs_ne (by decide)]; exact hb.2.2.1 k hk, by rw [zs_eq, zs_other (by decide)]; exact hb.2.2.2.1, by rw [zs_eq, zs_other (by decide)]; exact hb.2.2.2.2⟩
end
