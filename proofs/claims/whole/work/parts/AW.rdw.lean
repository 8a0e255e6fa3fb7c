/-! the rules' reader: in and out of brackets -/
def PFx (J J' : HI) (b dp om cj : Nat) : Prop := (∀ x, x < 115 ∨ (117 ≤ x ∧ x ≤ 119) ∨ 126 ≤ x → x ≠ 100 → J' x = J x) ∧ (∀ s, s ≤ 2 ∨ (7 ≤ s ∧ s ≠ 12 ∧ s ≠ 32 ∧ s ≠ 40 ∧ s ≠ 41 ∧ s ≠ 43 ∧ s ≠ 44) → J' 100 s = J 100 s) ∧ (∀ i, i < dp → J' 120 i = J 120 i ∧ J' 121 i = J 121 i ∧ J' 122 i = J 122 i ∧ J' 123 i = J 123 i ∧ J' 124 i = J 124 i) ∧ (∀ i, i < om → J' 125 i = J 125 i) ∧ ∀ k, k < 1600 * b + cj ∨ 1600 * b + 1600 ≤ k → J' 115 k = J 115 k ∧ J' 116 k = J 116 k
theorem PFm.x {J J' : HI} {b dp om cj : Nat} (h : PFm J J' b dp om cj) : PFx J J' b dp om cj := ⟨h.1, h.2.1, h.2.2.1, h.2.2.2.2.1, h.2.2.2.2.2⟩
theorem PFx.trans {J J' J'' : HI} {b dp om om' cj cj' : Nat} (h : PFx J J' b dp om cj) (h' : PFx J' J'' b dp om' cj') (ho : om ≤ om') (hc : cj ≤ cj') : PFx J J'' b dp om cj := by
  refine ⟨fun x a c => (h'.1 x a c).trans (h.1 x a c), fun s hs => (h'.2.1 s hs).trans (h.2.1 s hs), fun i hi => ?_, fun i hi => (h'.2.2.2.1 i (by omega)).trans (h.2.2.2.1 i hi), fun k hk => ?_⟩
  · obtain ⟨a1, a2, a3, a4, a5⟩ := h.2.2.1 i hi
    obtain ⟨b1, b2, b3, b4, b5⟩ := h'.2.2.1 i hi
    exact ⟨b1.trans a1, b2.trans a2, b3.trans a3, b4.trans a4, b5.trans a5⟩
  · obtain ⟨a1, a2⟩ := h.2.2.2.2 k hk
    obtain ⟨b1, b2⟩ := h'.2.2.2.2 k (by omega)
    exact ⟨b1.trans a1, b2.trans a2⟩
theorem PFx.dn {J J' : HI} {b dp om cj : Nat} (h : PFx J J' b (dp + 1) om cj) : PFm J J' b dp om cj := ⟨h.1, h.2.1, fun i hi => h.2.2.1 i (by omega), (h.2.2.1 dp (by omega)).2.2.2.1, h.2.2.2.1, h.2.2.2.2⟩
section
variable {tp : Nat → Nat} {sz fu t b r0 : Nat} {R : HR}
theorem adv_P {I J : HI} {M : HL} {k at' e cj om dp o opd fk ph bg bs : Nat} (h : PRx tp sz t b r0 I J M k at' e cj om dp o opd fk ph bg bs []) (hf : 2000 < fu) (hk : k ≠ 0) (ht : t = 67 ∨ t = 80) : ∃ K J3 M3 k3 at3 e3, f_X10_advance fu I = some (1, K) ∧ f_X12_ahead fu J M = some (J3, M3) ∧ PRx tp sz t b r0 K J3 M3 k3 at3 e3 cj om dp o opd fk ph bg bs [] ∧ at' < at3 ∧ PFx J J3 b 100 500 1600 ∧ PFc I K t cj ∧ OnL M M3 := by
  obtain ⟨s, ⟨⟨p1, p2⟩, p3, p4, ⟨p5, p6⟩, p7, p8, p9, p10, p11, p12⟩, q1, q2, q3, q4, q5, q6, q7, q8, q9, q10, q11, q12, q13⟩ := h
  obtain ⟨K, J3, M3, k3, at3, e3, a1, a2, a3, a4, a5, a6, a7⟩ := advS s hf hk
  have y : ∀ s, (s ≤ 2 ∨ (7 ≤ s ∧ s ≠ 12)) → J3 100 s = J 100 s := a6.2
  have hat := s.2.1.2.1.2.2 hk
  refine ⟨K, J3, M3, k3, at3, e3, a1, a2, ⟨a3, ⟨⟨by rw [y 33 (by omega)]; exact p1, p2⟩, by rw [y 32 (by omega)]; exact p3, by rw [y 43 (by omega)]; exact p4, ⟨by rw [y 40 (by omega)]; exact p5, p6⟩, by rw [y 41 (by omega)]; exact p7, by rw [y 44 (by omega)]; exact p8, by rw [a6.1 120 (by decide)]; exact p9, by rw [a6.1 121 (by decide)]; exact p10, by rw [a6.1 122 (by decide)]; exact p11, by rw [a6.1 124 (by decide)]; exact p12⟩, by rw [a5.1 t (by omega)]; exact q1, trivial, trivial, fun c hc => absurd hc List.not_mem_nil, fun j hj => by rw [a6.1 115 (by decide), a6.1 116 (by decide), a5.1 (t + 10) (by omega)]; exact q5 j hj, q6, q7, by show cj + 0 ≤ at3; have : cj + 0 ≤ at' := q8; omega, q9, by rw [y 34 (by omega)]; exact q10, by rw [a5.1 8 (by decide)]; exact q11, q12, q13⟩, by omega, ⟨fun x _ c => a6.1 x c, fun s hs => y s (by omega), fun i _ => by rw [a6.1 120 (by decide), a6.1 121 (by decide), a6.1 122 (by decide), a6.1 123 (by decide), a6.1 124 (by decide)]; exact ⟨rfl, rfl, rfl, rfl, rfl⟩, fun i _ => by rw [a6.1 125 (by decide)], fun k _ => by rw [a6.1 115 (by decide), a6.1 116 (by decide)]; exact ⟨rfl, rfl⟩⟩, a5.pf ht, a7⟩
theorem PFx.le {J J' : HI} {b dp om cj dp' om' cj' : Nat} (h : PFx J J' b dp om cj) (h1 : dp' ≤ dp) (h2 : om' ≤ om) (h3 : cj' ≤ cj) : PFx J J' b dp' om' cj' := ⟨h.1, h.2.1, fun i hi => h.2.2.1 i (by omega), fun i hi => h.2.2.2.1 i (by omega), fun k hk => h.2.2.2.2 k (by omega)⟩
/-- a bracket opens: a frame more -/
theorem enter_R {I J : HI} {M : HL} {k at' e cj om dp o fk ph bg bs fk' : Nat} (h : PRx tp sz t b r0 I J M k at' e cj om dp o 0 fk ph bg bs []) (hf : 2000 < fu) (hk : k ≠ 0) (ho : o < 7) (hdp : dp ≤ o) (hfk' : fk' < 10) (ht : t = 67 ∨ t = 80) : ∃ K J3 M3 k3 at3 e3, f_X10_advance fu I = some (1, K) ∧ f_X12_opens fu J M (nI fk') = some (J3, M3) ∧ J3 100 8 = 0 ∧ J3 100 40 = nI (dp + 1 + 1) ∧ PRx tp sz t b r0 K (sI J3 100 44 0) M3 k3 at3 e3 cj om (dp + 1) (o + 1) 0 fk' 0 1 om [] ∧ at' < at3 ∧ PFx J (sI J3 100 44 0) b (dp + 1) om cj ∧ PFc I K t cj ∧ OnL M M3 := by
  obtain ⟨s, ⟨⟨p1, p2⟩, p3, p4, ⟨p5, p6⟩, p7, p8, p9, p10, p11, p12⟩, q1, q2, q3, q4, q5, q6, q7, q8, q9, q10, q11, q12, q13⟩ := h
  have sX : StR tp sz I (sI J 100 41 (nI (o + 1))) M k at' e := StR_m s (by rw [zs_ne (by decide)]) (fun x hx => by rw [zs_eq, zs_other (by omega)])
  obtain ⟨K, J2, M2, k3, at3, e3, a1, a2, a3, a4, a5, a6, a7⟩ := advS sX hf hk
  have hat := s.2.1.2.1.2.2 hk
  have z100 : ∀ s, s ≠ 41 → (s ≤ 2 ∨ (7 ≤ s ∧ s ≠ 12)) → J2 100 s = J 100 s := fun s s1 s2 => by rw [a6.2 s s2, zs_eq, zs_other s1]
  have z41 : J2 100 41 = nI (o + 1) := by rw [a6.2 41 (by omega), zs_eq, zs_same]
  have zx : ∀ x, x ≠ 100 → J2 x = J x := fun x hx => by rw [a6.1 x hx, zs_ne hx]
  have hop := opens_M (fu := fu) (J := J) (M := M) (op := o) (dp := dp + 1) (om := om) (J3 := J2) (M3 := M2) (v := nI fk') s.2.2.1 p7 ho a2 (by rw [z100 40 (by decide) (by omega)]; exact p5) (by omega) (by rw [z100 43 (by decide) (by omega)]; exact p4)
  obtain ⟨J3, hJ3⟩ : ∃ J3, J3 = sI (sI (sI (sI (sI J2 120 (dp + 1) (nI fk')) 121 (dp + 1) 0) 122 (dp + 1) 1) 124 (dp + 1) (nI om)) 100 40 (nI (dp + 1 + 1)) := ⟨_, rfl⟩
  rw [← hJ3] at hop
  have y100 : ∀ s, s ≠ 40 → J3 100 s = J2 100 s := fun s hs => by rw [hJ3, zs_eq, zs_other hs, zs_ne (by decide), zs_ne (by decide), zs_ne (by decide), zs_ne (by decide)]
  have y40 : J3 100 40 = nI (dp + 1 + 1) := by rw [hJ3, zs_eq, zs_same]
  have yx : ∀ x, x ≠ 100 → x ≠ 120 → x ≠ 121 → x ≠ 122 → x ≠ 124 → J3 x = J2 x := fun x b1 b2 b3 b4 b5 => by rw [hJ3, zs_ne b1, zs_ne b5, zs_ne b4, zs_ne b3, zs_ne b2]
  have y120 : ∀ i, J3 120 i = if i = dp + 1 then nI fk' else J2 120 i := fun i => by
    rw [hJ3, zs_ne (by decide), zs_ne (by decide), zs_ne (by decide), zs_ne (by decide), zs_eq]
    by_cases c : i = dp + 1
    · rw [if_pos c, c, zs_same]
    · rw [if_neg c, zs_other c]
  have y121 : ∀ i, J3 121 i = if i = dp + 1 then 0 else J2 121 i := fun i => by
    rw [hJ3, zs_ne (by decide), zs_ne (by decide), zs_ne (by decide), zs_eq]
    by_cases c : i = dp + 1
    · rw [if_pos c, c, zs_same]
    · rw [if_neg c, zs_other c, zs_ne (by decide)]
  have y122 : ∀ i, J3 122 i = if i = dp + 1 then 1 else J2 122 i := fun i => by
    rw [hJ3, zs_ne (by decide), zs_ne (by decide), zs_eq]
    by_cases c : i = dp + 1
    · rw [if_pos c, c, zs_same]
    · rw [if_neg c, zs_other c, zs_ne (by decide), zs_ne (by decide)]
  have y124 : ∀ i, J3 124 i = if i = dp + 1 then nI om else J2 124 i := fun i => by
    rw [hJ3, zs_ne (by decide), zs_eq]
    by_cases c : i = dp + 1
    · rw [if_pos c, c, zs_same]
    · rw [if_neg c, zs_other c, zs_ne (by decide), zs_ne (by decide), zs_ne (by decide)]
  have x100 : ∀ s, s ≠ 40 → s ≠ 41 → s ≠ 44 → (s ≤ 2 ∨ (7 ≤ s ∧ s ≠ 12)) → (sI J3 100 44 0) 100 s = J 100 s := fun s b1 b2 b3 b4 => by rw [zs_eq, zs_other b3, y100 s b1]; exact z100 s b2 b4
  have e3' : StR tp sz K J3 M2 k3 at3 e3 := StR_m a3 (yx 101 (by decide) (by decide) (by decide) (by decide) (by decide)) (fun x hx => y100 x (by omega))
  refine ⟨K, J3, M2, k3, at3, e3, a1, hop, e3'.2.2.1, y40, ⟨StR_m e3' (by rw [zs_ne (by decide)]) (fun x hx => by rw [zs_eq, zs_other (by omega)]), ⟨⟨by rw [x100 33 (by decide) (by decide) (by decide) (by omega)]; exact p1, p2⟩, by rw [x100 32 (by decide) (by decide) (by decide) (by omega)]; exact p3, by rw [x100 43 (by decide) (by decide) (by decide) (by omega)]; exact p4, ⟨by rw [zs_eq, zs_other (by decide)]; exact y40, by omega⟩, by rw [zs_eq, zs_other (by decide), y100 41 (by decide)]; exact z41, by rw [zs_eq, zs_same]; rfl, by rw [zs_ne (by decide), y120, if_pos rfl], by rw [zs_ne (by decide), y121, if_pos rfl]; rfl, by rw [zs_ne (by decide), y122, if_pos rfl]; rfl, by rw [zs_ne (by decide), y124, if_pos rfl]⟩, by rw [a5.1 t (by omega)]; exact q1, trivial, trivial, fun c hc => absurd hc List.not_mem_nil, fun j hj => ?_, by show om + 0 ≤ om; omega, q7, by show cj + 0 ≤ at3; have : cj + 0 ≤ at' := q8; omega, by show o + 1 + 0 ≤ 60; omega, by rw [x100 34 (by decide) (by decide) (by decide) (by omega)]; exact q10, by rw [a5.1 8 (by decide)]; exact q11, hfk', by decide⟩, by omega, ⟨fun x a c => ?_, fun s hs => x100 s (by omega) (by omega) (by omega) (by omega), fun i hi => ?_, fun i _ => by rw [zs_ne (by decide), yx 125 (by decide) (by decide) (by decide) (by decide) (by decide), zx 125 (by decide)], fun k _ => by rw [zs_ne (by decide), zs_ne (by decide), yx 115 (by decide) (by decide) (by decide) (by decide) (by decide), yx 116 (by decide) (by decide) (by decide) (by decide) (by decide), zx 115 (by decide), zx 116 (by decide)]; exact ⟨rfl, rfl⟩⟩, a5.pf ht, a7⟩
  · rw [zs_ne (by decide), zs_ne (by decide), yx 115 (by decide) (by decide) (by decide) (by decide) (by decide), yx 116 (by decide) (by decide) (by decide) (by decide) (by decide), zx 115 (by decide), zx 116 (by decide), a5.1 (t + 10) (by omega)]
    exact q5 j hj
  · rw [zs_ne c, yx x c (by omega) (by omega) (by omega) (by omega), zx x c]
  · rw [zs_ne (by decide), zs_ne (by decide), zs_ne (by decide), zs_ne (by decide), zs_ne (by decide), y120, y121, y122, y124, if_neg (by omega), if_neg (by omega), if_neg (by omega), if_neg (by omega), yx 123 (by decide) (by decide) (by decide) (by decide) (by decide), zx 120 (by decide), zx 121 (by decide), zx 122 (by decide), zx 123 (by decide), zx 124 (by decide)]
    exact ⟨rfl, rfl, rfl, rfl, rfl⟩
/-- a bracket closes: a frame less -/
theorem leave_R {I J0 J1 : HI} {M : HL} {k at' e cj om dp o fk ph bg bs fk' ph' bg' cj0 : Nat} (h : PRx tp sz t b r0 I J1 M k at' e cj om (dp + 1) (o + 1) 1 fk' ph' bg' om []) (hx : PFx J0 J1 b (dp + 1) om cj0) (j120 : J0 120 dp = nI fk) (j121 : J0 121 dp = nI ph) (j122 : J0 122 dp = nI bg) (j124 : J0 124 dp = nI bs) (hbs : bs ≤ om) (hfk : fk < 10) (hbg : bg ≤ 1) : PRx tp sz t b r0 I (sI (sI J1 100 40 (nI (dp + 1))) 100 41 (nI o)) M k at' e cj om dp o 1 fk ph bg bs [] ∧ PFm J0 (sI (sI J1 100 40 (nI (dp + 1))) 100 41 (nI o)) b dp om cj0 := by
  obtain ⟨s, ⟨⟨p1, p2⟩, p3, p4, ⟨p5, p6⟩, p7, p8, p9, p10, p11, p12⟩, q1, q2, q3, q4, q5, q6, q7, q8, q9, q10, q11, q12, q13⟩ := h
  have x100 : ∀ s, s ≠ 40 → s ≠ 41 → (sI (sI J1 100 40 (nI (dp + 1))) 100 41 (nI o)) 100 s = J1 100 s := fun s b1 b2 => by rw [zs_eq, zs_other b2, zs_eq, zs_other b1]
  have xx : ∀ x, x ≠ 100 → (sI (sI J1 100 40 (nI (dp + 1))) 100 41 (nI o)) x = J1 x := fun x hx => by rw [zs_ne hx, zs_ne hx]
  obtain ⟨f1, f2, f3, f4, f5⟩ := hx.2.2.1 dp (by omega)
  have hfin : PFx J0 (sI (sI J1 100 40 (nI (dp + 1))) 100 41 (nI o)) b (dp + 1) om cj0 := by
    refine ⟨fun x a c => by rw [xx x c]; exact hx.1 x a c, fun s hs => by rw [x100 s (by omega) (by omega)]; exact hx.2.1 s hs, fun i hi => by rw [xx 120 (by decide), xx 121 (by decide), xx 122 (by decide), xx 123 (by decide), xx 124 (by decide)]; exact hx.2.2.1 i hi, fun i hi => by rw [xx 125 (by decide)]; exact hx.2.2.2.1 i hi, fun k hk => by rw [xx 115 (by decide), xx 116 (by decide)]; exact hx.2.2.2.2 k hk⟩
  refine ⟨⟨StR_m s (xx 101 (by decide)) (fun x hx => x100 x (by omega) (by omega)), ⟨⟨by rw [x100 33 (by decide) (by decide)]; exact p1, p2⟩, by rw [x100 32 (by decide) (by decide)]; exact p3, by rw [x100 43 (by decide) (by decide)]; exact p4, ⟨by rw [zs_eq, zs_other (by decide), zs_eq, zs_same], by omega⟩, by rw [zs_eq, zs_same]; rfl, by rw [x100 44 (by decide) (by decide)]; exact p8, by rw [xx 120 (by decide), f1]; exact j120, by rw [xx 121 (by decide), f2]; exact j121, by rw [xx 122 (by decide), f3]; exact j122, by rw [xx 124 (by decide), f5]; exact j124⟩, q1, trivial, trivial, fun c hc => absurd hc List.not_mem_nil, fun j hj => by rw [xx 115 (by decide), xx 116 (by decide)]; exact q5 j hj, by show bs + 0 ≤ om; omega, q7, q8, by show o + 0 ≤ 60; have : o + 1 + 0 ≤ 60 := q9; omega, by rw [x100 34 (by decide) (by decide)]; exact q10, q11, hfk, hbg⟩, hfin.dn⟩
end
