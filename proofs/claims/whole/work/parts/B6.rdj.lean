/-! the rules' reader: choices, and parts -/
section
variable {rec : Nat → HI → HR → Int32 → Int32 → Option (Int32 × HI)} {fu t : Nat} {I K1 K2 K5 K8 Kb : HI} {R : HR} {p : Int32}
theorem rc_1 (u1 : f_X10_advance fu I = some (1, K1)) (h : f_X10_needSign K1 40 = some (0, Kb)) : f_X8_readChoice rec fu I R p = some (0, Kb) := by
  have n3 : ¬ (1 : Int32) = 0 := by decide
  unfold f_X8_readChoice
  rw [u1, Option.bind_some, if_neg n3, h, Option.bind_some, if_pos rfl]
  exact gz_0
theorem rc_2 (u1 : f_X10_advance fu I = some (1, K1)) (u2 : f_X10_needSign K1 40 = some (1, K1)) (h : f_X8_mayOpen K1 p = some (0, Kb)) : f_X8_readChoice rec fu I R p = some (0, Kb) := by
  have n3 : ¬ (1 : Int32) = 0 := by decide
  unfold f_X8_readChoice
  rw [u1, Option.bind_some, if_neg n3, u2, Option.bind_some, if_neg n3, h, Option.bind_some, if_pos rfl]
  exact gz_0
theorem rc_3 (u1 : f_X10_advance fu I = some (1, K1)) (u2 : f_X10_needSign K1 40 = some (1, K1)) (u3 : f_X8_mayOpen K1 p = some (1, K1)) (u4 : f_X10_advance fu K1 = some (1, K2)) (h : rec 7 K2 R (p + 1) 0 = some (0, Kb)) : f_X8_readChoice rec fu I R p = some (0, Kb) := by
  have n3 : ¬ (1 : Int32) = 0 := by decide
  unfold f_X8_readChoice
  rw [u1, Option.bind_some, if_neg n3, u2, Option.bind_some, if_neg n3, u3, Option.bind_some, if_neg n3, u4, Option.bind_some, if_neg n3, h, Option.bind_some, if_pos rfl]
  exact gz_0
theorem rc_4 (u1 : f_X10_advance fu I = some (1, K1)) (u2 : f_X10_needSign K1 40 = some (1, K1)) (u3 : f_X8_mayOpen K1 p = some (1, K1)) (u4 : f_X10_advance fu K1 = some (1, K2)) (u5 : rec 7 K2 R (p + 1) 0 = some (1, K5)) (h : f_X10_needSign K5 44 = some (0, Kb)) : f_X8_readChoice rec fu I R p = some (0, Kb) := by
  have n3 : ¬ (1 : Int32) = 0 := by decide
  unfold f_X8_readChoice
  rw [u1, Option.bind_some, if_neg n3, u2, Option.bind_some, if_neg n3, u3, Option.bind_some, if_neg n3, u4, Option.bind_some, if_neg n3, u5, Option.bind_some, if_neg n3, h, Option.bind_some, if_pos rfl]
  exact gz_0
theorem rc_5 {q : Int32} {Y : Option (Int32 × HI)} (u1 : f_X10_advance fu I = some (1, K1)) (u2 : f_X10_needSign K1 40 = some (1, K1)) (u3 : f_X8_mayOpen K1 p = some (1, K1)) (u4 : f_X10_advance fu K1 = some (1, K2)) (u5 : rec 7 K2 R (p + 1) 0 = some (1, K5)) (u6 : f_X10_needSign K5 44 = some (1, K5)) (u7 : f_X10_advance fu K5 = some (1, K8)) (hok : okLd t = true) (hR : R 8 1 = t) (hq : q = -8) (h : ((rec 6 K8 R (p + 1) 0).bind fun x8 => if x8.1 = 0 then gz 0 (some ((0 : Int32), x8.2)) else (f_X10_needSign x8.2 44).bind fun x9 => if x9.1 = 0 then gz 0 (some (0, x9.2)) else (f_X10_advance fu x9.2).bind fun x10 => if x10.1 = 0 then gz 0 (some (0, x10.2)) else (rec 6 x10.2 R (p + 1) 0).bind fun x8 => if x8.1 = 0 then gz 0 (some ((0 : Int32), x8.2)) else (f_X10_needSign x8.2 41).bind fun x9 => if x9.1 = 0 then gz 0 (some (0, x9.2)) else (f_X10_advance fu x9.2).bind fun x10 => if x10.1 = 0 then gz 0 (some (0, x10.2)) else (f_X2_emit x10.2 t q).bind fun x12 => if x12.1 = 0 then gz 0 (some (0, x12.2)) else gz 1 (some (1, x12.2))) = Y) : f_X8_readChoice rec fu I R p = Y := by
  have n3 : ¬ (1 : Int32) = 0 := by decide
  subst hq
  rw [← h]
  unfold f_X8_readChoice
  rw [u1, Option.bind_some, if_neg n3, u2, Option.bind_some, if_neg n3, u3, Option.bind_some, if_neg n3, u4, Option.bind_some, if_neg n3, u5, Option.bind_some, if_neg n3, u6, Option.bind_some, if_neg n3, u7, Option.bind_some, if_neg n3, hR]
  simp only [zg_ok hok]
end
section
variable {tp : Nat → Nat} {sz fu t b r0 : Nat} {R : HR}
theorem choice_R {r o nd ndt ndp : Nat} (hf : 2000 < fu) (ht : t = 67 ∨ t = 80) (hok : okLd t = true) (hR : R 8 1 = t) (ho : o ≤ 7) (hnd : o < 7 → nd + 2 ≤ ndp ∧ ndt ≤ ndp ∧ 4 ≤ ndp) (hs : o < 7 → SumP tp sz fu t b r0 R r 6 (o + 1) 5 nd 3 tkSm) (hT : o < 7 → TestQ tp sz fu t b r0 R r 7 (o + 1) 1 1 ndt 0 pkT) {I J : HI} {M : HL} {k at' e cj om dp fk ph bg bs n c w : Nat} (h : PRx tp sz t b r0 I J M k at' e cj om dp o 0 fk ph bg bs []) (hno : tsF fk ∧ bg = 1 → w ≠ 20 ∧ c ≠ 91 ∧ w ≠ 21) (hom : om ≤ 5 * dp + o + 5) (hdp : dp ≤ o) (hn : sz + 10 ≤ n + at') (hk : k = 2) (hc : c ≠ 40) (hw : w = 17) (t1 : sgJ J c) (t2 : wdJ J M w) : ∃ y K, f_X8_readChoice (g_X8 fu r) fu I R (nI o) = some (y, K) ∧ ((y = 1 ∧ OutG tp sz fu t b r0 I J M K n at' cj om dp o fk bs 7 ndp 0 (fun p => p = ph) (fun _ _ => True)) ∨ (y = 0 ∧ OutB fu t b I J M K n)) := by
  have n3 : ¬ (1 : Int32) = 0 := by decide
  have hlex : f_X12_lex J = some J := by
    rcases lexS h.1 with ⟨_, z, _⟩ | ⟨z, _⟩
    · exact z
    · omega
  have hP := (setPB h).1
  have hbs : bs ≤ om := by
    have := h.2.2.2.2.2.2.2.1
    simpa using this
  have hcja : cj ≤ at' := by
    have := h.2.2.2.2.2.2.2.2.2.1
    simpa using this
  have hszs := h.1.2.2.2
  have hes := h.1.2.1.2.1
  have hom1 := h.2.2.2.2.2.2.2.2.1
  have hdp1 := h.2.1.2.2.2.1.2
  obtain ⟨n1, hn1⟩ : ∃ n1, n = n1 + 1 + 1 := ⟨n - 2, by omega⟩
  have pf0 : PFm J (sI J 122 dp 0) b dp om cj := setPB_fr (Or.inr rfl)
  obtain ⟨K1, J1, M1, k1, at1, e1, u1, u2, u3, u4, u5, u6, u7⟩ := adv_P (fu := fu) hP hf (by omega) ht
  have u5' := u5.le (dp' := dp + 1) (om' := om) (cj' := cj) (by omega) (by omega) (by omega)
  have pf1 : PFm J J1 b dp om cj := pf0.trans u5'.dn (Nat.le_refl _) (Nat.le_refl _)
  have A1 : nI o + 1 = nI (o + 1) := nI_1 o
  rcases lexS u3.1 with ⟨l1, l2, l3, l4⟩ | ⟨l1, pl, J7, l2, l3, l4, l5⟩
  · rcases signB u3.1 40 (by decide) with ⟨s1, s2, s3, s4⟩ | ⟨s1, s2, s3⟩
    · have s1' : f_X10_isSign K1 40 = some 1 := s1
      have s2' : f_X12_isSign J1 40 = some 1 := s2
      have ng := need_1 s1'
      rcases open_C (I := K1) (o := o) u3.1.2.1.1.2.2.1.1 ho with ⟨o1, o2⟩ | ⟨o1, Kb, o2, o3⟩
      · obtain ⟨K2, J3, M3, k3', at3, e3, q1, q2, q3, q4, q5, q6, q7, q8, q9⟩ := enter_R (fu := fu) (fk' := 6) u3 hf (by omega) o1 hdp (by decide) ht
        have hop := oIf_M (fu := fu) (d := dp + 1) h.1.2.2.1 hlex h.2.1.2.2.2.1.1 h.2.1.2.2.2.1.2 h.2.1.2.2.2.2.2.2.1 h.2.2.2.2.2.2.2.2.2.2.2.2.2.1 h.2.1.2.2.2.2.2.2.2.2.1 h.2.2.2.2.2.2.2.2.2.2.2.2.2.2 t2 t1 hno hc hw u2 l2 s2' q2 q3 q4 (by omega)
        have step := opR (fu := fu) (n := n1 + 1) h.2.1.2.2.2.2.2.1 hop (Or.inl rfl) (by rw [zs_ne (by decide)]; exact q3)
        obtain ⟨X, hX⟩ : ∃ X, X = sI (sI J3 123 (dp + 1) 44) 100 44 0 := ⟨_, rfl⟩
        have eX : ∀ x, x ≠ 123 → X x = (sI J3 100 44 0) x := fun x hx => by
          rw [hX]
          by_cases c1 : x = 100
          · rw [c1, zs_eq, zs_eq, zs_ne (by decide)]
          · rw [zs_ne c1, zs_ne c1, zs_ne hx]
        have eX123 : X 123 (dp + 1) = nI 44 := by
          rw [hX, zs_ne (by decide), zs_eq, zs_same]
          rfl
        have eX123o : ∀ i, i < dp + 1 → X 123 i = (sI J3 100 44 0) 123 i := fun i hi => by rw [hX, zs_ne (by decide), zs_eq, zs_other (by omega), zs_ne (by decide)]
        rw [← hX] at step
        have hXP := PRx_123 q5 eX
        have fX : PFx (sI J 122 dp 0) X b (dp + 1) om cj := by
          refine (u5'.trans q7 (Nat.le_refl _) (Nat.le_refl _)).trans (om' := om) (cj' := cj) ⟨fun x a c => eX x (by omega), fun s _ => by rw [eX 100 (by decide)], fun i hi => ?_, fun i _ => by rw [eX 125 (by decide)], fun k _ => by rw [eX 115 (by decide), eX 116 (by decide)]; exact ⟨rfl, rfl⟩⟩ (Nat.le_refl _) (Nat.le_refl _)
          rw [eX 120 (by decide), eX 121 (by decide), eX 122 (by decide), eX 124 (by decide), eX123o i hi]
          exact ⟨rfl, rfl, rfl, rfl, rfl⟩
        have pfX : PFm J X b dp om cj := pf0.trans fX.dn (Nat.le_refl _) (Nat.le_refl _)
        have pcX : PFc I K2 t cj := u6.trans q8 (Nat.le_refl _)
        have onX : OnL M M3 := u7.trans q9
        obtain ⟨y, K5, g1, g2⟩ := ts_R (r := r) (o := o + 1) (nd := ndt) (n := n1 + 1) hf ht (hT o1) hXP (by omega) (by omega) (by omega)
        rcases g2 with ⟨y0, J5, M5, f, pl, d1, d2, d3, d4, d5⟩ | ⟨y1, Kb, nb', J5, M5, f, pl, d1, d2, d3, d4, d5⟩ | ⟨y1, ng2', K8, J8, M8, k8, at8, e8, cj6, n6, r1, r2, r3, d12, d13, d14, d15, d16, d16', d17, d18, d19⟩
        · subst y0
          refine ⟨0, K5, ?_, Or.inr ⟨rfl, J5, M5, f, pl, by rw [hn1, step, d1], BdC.tr pcX d2, BdR.tr pfX d3, d4, onX.trans d5⟩⟩
          exact rc_3 u1 ng o2 q1 (by rw [A1]; exact g1)
        · subst y1
          refine ⟨0, Kb, ?_, Or.inr ⟨rfl, J5, M5, f, pl, by rw [hn1, step, d1], BdC.tr pcX d2, BdR.tr pfX d3, d4, onX.trans d5⟩⟩
          exact rc_4 u1 ng o2 q1 (by rw [A1]; exact g1) nb'
        · subst y1
          have fX8 : PFx (sI J 122 dp 0) J8 b (dp + 1) om cj := fX.trans d16 (Nat.le_refl _) (Nat.le_refl _)
          obtain ⟨y2, K9, v1, v2⟩ := pr_R (r := r) (o := o) (nd := nd) (fu := fu) (fk := fk) (ph := ph) (bs := bs) (code := 44) (n := n6) hf ht hok hR (hs o1) r3 (by rw [d16']; exact eX123) (by decide) (by rw [(fX8.2.2.1 dp (by omega)).1, zs_ne (by decide)]; exact h.2.1.2.2.2.2.2.2.1) (by rw [(fX8.2.2.1 dp (by omega)).2.1, zs_ne (by decide)]; exact h.2.1.2.2.2.2.2.2.2.1) (by rw [(fX8.2.2.1 dp (by omega)).2.2.1, zs_eq, zs_same]; rfl) (by rw [(fX8.2.2.1 dp (by omega)).2.2.2.2, zs_ne (by decide)]; exact h.2.1.2.2.2.2.2.2.2.2.2) hbs h.2.2.2.2.2.2.2.2.2.2.2.2.2.1 hom hdp (by omega)
          have pf8 : PFm J J8 b dp om cj := pf0.trans fX8.dn (Nat.le_refl _) (Nat.le_refl _)
          have pc8 : PFc I K8 t cj := pcX.trans d17 (Nat.le_refl _)
          have on8 : OnL M M8 := onX.trans d18
          have hO : (-8 : Int32) = opC 44 := by decide
          refine ⟨y2, K9, ?_, ?_⟩
          · exact rc_5 (q := opC 44) u1 ng o2 q1 (by rw [A1]; exact g1) ng2' r1 hok hR hO.symm (by rw [A1]; exact v1)
          · rcases v2 with ⟨z, J9, M9, f, pl, w1, w2, w3, w4, w5⟩ | ⟨z, J9, M9, k9, at9, e9, cj5, cj9, n9, w1, w2, w3, w4, w5, w6, w6', w7, w8, w9, w10, w10', w11⟩
            · right
              exact ⟨z, J9, M9, f, pl, by rw [hn1, step, r2, w1], BdC.tr pc8 w2, BdR.tr pf8 w3, w4, on8.trans w5⟩
            · left
              obtain ⟨hn5, hn6, hn7⟩ := hnd o1
              refine ⟨z, J9, M9, k9, at9, e9, cj9 + 1, ph, [], n9, by rw [hn1, step, r2, w1], by omega, by omega, w4, fun x hx => absurd hx List.not_mem_nil, by show cj9 + 1 + 0 + at' ≤ cj + at9; omega, by omega, pf8.trans w7 (Nat.le_refl _) d15, pc8.trans w8 d15, on8.trans w9, ?_, rfl, trivial⟩
              exact VL_ch (VL_congr d19 (fun j j1 j2 => w8.2.2.2 j j2)) w10 w10' w11 (by omega)
      · have k41 : J1 100 41 = nI 7 := by
          have := u3.2.1.2.2.2.2.1
          rw [o1] at this
          exact this
        obtain ⟨J', m1, m2⟩ := opens7_M (fu := fu) (J := J1) (M := M1) (v := 6) (at' := at1) u3.1.2.2.1 k41 u3.1.2.1.1.2.2.1.2
        have hop := oIf_M7 (fu := fu) (f := 5) h.1.2.2.1 hlex h.2.1.2.2.2.1.1 h.2.1.2.2.2.1.2 h.2.1.2.2.2.2.2.2.1 h.2.2.2.2.2.2.2.2.2.2.2.2.2.1 h.2.1.2.2.2.2.2.2.2.2.1 h.2.2.2.2.2.2.2.2.2.2.2.2.2.2 t2 t1 hno hc hw u2 l2 s2' m1 (by decide) m2.2.1
        have step := opF (fu := fu) (n := n1) (f := 5) h.2.1.2.2.2.2.2.1 hop (Or.inl rfl) (by decide) m2.2.1
        refine ⟨0, Kb, ?_, Or.inr ⟨rfl, sI J' 100 44 0, M1, 5, at1, by rw [hn1, step], BdC.of u6 ht o3, BdR_44 (BdR.of pf1 m2), ⟨by decide, l4⟩, u7⟩⟩
        exact rc_2 u1 ng o2
    · have s1' : f_X10_isSign K1 40 = some 0 := s1
      have s2' : f_X12_isSign J1 40 = some 0 := s2
      obtain ⟨Kb, nb, nb2⟩ := need_0 s1' l3
      obtain ⟨J', hop, m2⟩ := oIf_MF (fu := fu) (at1 := at1) h.1.2.2.1 hlex h.2.1.2.2.2.1.1 h.2.1.2.2.2.1.2 h.2.1.2.2.2.2.2.2.1 h.2.2.2.2.2.2.2.2.2.2.2.2.2.1 h.2.1.2.2.2.2.2.2.2.2.1 h.2.2.2.2.2.2.2.2.2.2.2.2.2.2 t2 t1 hno hc hw u2 u3.1.2.2.1 u3.1.2.1.1.2.2.1.2 l2 s2'
      have step := opF (fu := fu) (n := n1) (f := 1) h.2.1.2.2.2.2.2.1 hop (Or.inl rfl) (by decide) m2.2.1
      refine ⟨0, Kb, ?_, Or.inr ⟨rfl, sI J' 100 44 0, M1, 1, at1, by rw [hn1, step], BdC.of u6 ht nb2, BdR_44 (BdR.of pf1 m2), ⟨by decide, l4⟩, u7⟩⟩
      exact rc_1 u1 nb
  · have s1' : f_X10_isSign K1 40 = some 0 := by
      rcases signB u3.1 40 (by decide) with ⟨_, _, z, _⟩ | ⟨z, _⟩
      · omega
      · exact z
    have s2' : f_X12_isSign J7 40 = some 0 := by
      have z : f_X12_isSign J1 (nI 40) = some 0 := by
        rcases signB u3.1 40 (by decide) with ⟨_, _, z, _⟩ | ⟨_, z, _⟩
        · omega
        · exact z
      have z' : f_X12_isSign J1 40 = some 0 := z
      rw [← z']
      unfold f_X12_isSign
      rw [l5.2.2.2 3 (by decide) (by decide), l5.2.2.2 6 (by decide) (by decide)]
    obtain ⟨Kb, nb, nb2⟩ := need_0 s1' l3
    have hop := oIf_ML (fu := fu) (pl := pl) h.1.2.2.1 hlex h.2.1.2.2.2.1.1 h.2.1.2.2.2.1.2 h.2.1.2.2.2.2.2.2.1 h.2.2.2.2.2.2.2.2.2.2.2.2.2.1 h.2.1.2.2.2.2.2.2.2.2.1 h.2.2.2.2.2.2.2.2.2.2.2.2.2.2 t2 t1 hno hc hw u2 l4 l5 s2'
    have step := opF (fu := fu) (n := n1) (f := 1) h.2.1.2.2.2.2.2.1 hop (Or.inl rfl) (by decide) l5.2.1
    refine ⟨0, Kb, ?_, Or.inr ⟨rfl, sI J7 100 44 0, M1, 1, pl, by rw [hn1, step], BdC.of u6 ht nb2, BdR_44 (BdR.of pf1 l5), ⟨by decide, l2⟩, u7⟩⟩
    exact rc_1 u1 nb
end
