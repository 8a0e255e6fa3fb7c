/-! the rules' reader: numbers and figures -/
section
variable {tp : Nat → Nat} {sz fu t b r0 : Nat} {R : HR}
theorem set44 {I J : HI} {M : HL} {k at' e cj om dp o opd fk ph bg bs : Nat} {lg : List Nat} (h : PRx tp sz t b r0 I J M k at' e cj om dp o opd fk ph bg bs lg) (v : Nat) : PRx tp sz t b r0 I (sI J 100 44 (nI v)) M k at' e cj om dp o v fk ph bg bs lg := by
  obtain ⟨s, ⟨⟨p1, p2⟩, p3, p4, ⟨p5, p6⟩, p7, p8, p9, p10, p11, p12⟩, q1, q2, q3, q4, q5, q6, q7, q8, q9, q10, q11, q12, q13⟩ := h
  have x100 : ∀ s, s ≠ 44 → (sI J 100 44 (nI v)) 100 s = J 100 s := fun s hs => by rw [zs_eq, zs_other hs]
  have xx : ∀ x, x ≠ 100 → (sI J 100 44 (nI v)) x = J x := fun x hx => zs_ne hx
  exact ⟨StR_m s (xx 101 (by decide)) (fun x hx => x100 x (by omega)), ⟨⟨by rw [x100 33 (by decide)]; exact p1, p2⟩, by rw [x100 32 (by decide)]; exact p3, by rw [x100 43 (by decide)]; exact p4, ⟨by rw [x100 40 (by decide)]; exact p5, p6⟩, by rw [x100 41 (by decide)]; exact p7, by rw [zs_eq, zs_same], by rw [xx 120 (by decide)]; exact p9, by rw [xx 121 (by decide)]; exact p10, by rw [xx 122 (by decide)]; exact p11, by rw [xx 124 (by decide)]; exact p12⟩, q1, OnS_congr lg om (fun i _ => by rw [xx 125 (by decide)]) q2, q3, q4, fun j hj => by rw [xx 115 (by decide), xx 116 (by decide)]; exact q5 j hj, q6, q7, q8, q9, by rw [x100 34 (by decide)]; exact q10, q11, q12, q13⟩
theorem set44_fr {J : HI} {b dp om cj : Nat} {v : Int32} : PFm J (sI J 100 44 v) b dp om cj := ⟨fun x _ c => zs_ne c, fun s hs => by rw [zs_eq, zs_other (by omega)], fun i _ => by rw [zs_ne (by decide), zs_ne (by decide), zs_ne (by decide), zs_ne (by decide), zs_ne (by decide)]; exact ⟨rfl, rfl, rfl, rfl, rfl⟩, by rw [zs_ne (by decide)], fun i _ => by rw [zs_ne (by decide)], fun k _ => by rw [zs_ne (by decide), zs_ne (by decide)]; exact ⟨rfl, rfl⟩⟩
/-- the frame's flags -/
theorem setPB {I J : HI} {M : HL} {k at' e cj om dp o opd fk ph bg bs : Nat} {lg : List Nat} (h : PRx tp sz t b r0 I J M k at' e cj om dp o opd fk ph bg bs lg) : PRx tp sz t b r0 I (sI J 122 dp 0) M k at' e cj om dp o opd fk ph 0 bs lg ∧ PRx tp sz t b r0 I (sI J 121 dp 2) M k at' e cj om dp o opd fk 2 bg bs lg := by
  obtain ⟨s, ⟨⟨p1, p2⟩, p3, p4, ⟨p5, p6⟩, p7, p8, p9, p10, p11, p12⟩, q1, q2, q3, q4, q5, q6, q7, q8, q9, q10, q11, q12, q13⟩ := h
  have xx : ∀ x, x ≠ 122 → (sI J 122 dp 0) x = J x := fun x hx => zs_ne hx
  have yy : ∀ x, x ≠ 121 → (sI J 121 dp 2) x = J x := fun x hx => zs_ne hx
  refine ⟨⟨StR_m s (xx 101 (by decide)) (fun x hx => by rw [xx 100 (by decide)]), ⟨⟨by rw [xx 100 (by decide)]; exact p1, p2⟩, by rw [xx 100 (by decide)]; exact p3, by rw [xx 100 (by decide)]; exact p4, ⟨by rw [xx 100 (by decide)]; exact p5, p6⟩, by rw [xx 100 (by decide)]; exact p7, by rw [xx 100 (by decide)]; exact p8, by rw [xx 120 (by decide)]; exact p9, by rw [xx 121 (by decide)]; exact p10, by rw [zs_eq, zs_same]; rfl, by rw [xx 124 (by decide)]; exact p12⟩, q1, OnS_congr lg om (fun i _ => by rw [xx 125 (by decide)]) q2, q3, q4, fun j hj => by rw [xx 115 (by decide), xx 116 (by decide)]; exact q5 j hj, q6, q7, q8, q9, by rw [xx 100 (by decide)]; exact q10, q11, q12, by decide⟩, ⟨StR_m s (yy 101 (by decide)) (fun x hx => by rw [yy 100 (by decide)]), ⟨⟨by rw [yy 100 (by decide)]; exact p1, p2⟩, by rw [yy 100 (by decide)]; exact p3, by rw [yy 100 (by decide)]; exact p4, ⟨by rw [yy 100 (by decide)]; exact p5, p6⟩, by rw [yy 100 (by decide)]; exact p7, by rw [yy 100 (by decide)]; exact p8, by rw [yy 120 (by decide)]; exact p9, by rw [zs_eq, zs_same]; rfl, by rw [yy 122 (by decide)]; exact p11, by rw [yy 124 (by decide)]; exact p12⟩, q1, OnS_congr lg om (fun i _ => by rw [yy 125 (by decide)]) q2, q3, q4, fun j hj => by rw [yy 115 (by decide), yy 116 (by decide)]; exact q5 j hj, q6, q7, q8, q9, by rw [yy 100 (by decide)]; exact q10, q11, q12, q13⟩⟩
theorem setPB_fr {J : HI} {b dp om cj a : Nat} {v : Int32} (ha : a = 121 ∨ a = 122) : PFm J (sI J a dp v) b dp om cj := by
  refine ⟨fun x _ c => zs_ne (by omega), fun s _ => by rw [zs_ne (by omega)], fun i hi => ?_, by rw [zs_ne (by omega)], fun i _ => by rw [zs_ne (by omega)], fun k _ => by rw [zs_ne (by omega), zs_ne (by omega)]; exact ⟨rfl, rfl⟩⟩
  have o : ∀ x, (sI J a dp v) x i = J x i := fun x => by
    by_cases c : x = a
    · rw [c, zs_eq, zs_other (by omega)]
    · rw [zs_ne c]
  exact ⟨o _, o _, o _, o _, o _⟩
/-- a code more on both sides; the reference's first, then both step on -/
theorem lit_R {I J : HI} {M : HL} {k at' e cj om dp o opd fk ph bg bs : Nat} {v s x : Int32} (h : PRx tp sz t b r0 I J M k at' e cj om dp o opd fk ph bg bs []) (hf : 2000 < fu) (hk : k ≠ 0) (ht : t = 67 ∨ t = 80) (hv : CR v s x) : ∃ K1 K J1 J3 M3 k3 at3 e3, f_X2_emit I t v = some (1, K1) ∧ f_X10_advance fu K1 = some (1, K) ∧ f_X12_add J s x = some J1 ∧ f_X12_ahead fu J1 M = some (J3, M3) ∧ J3 100 8 = 0 ∧ PRx tp sz t b r0 K J3 M3 k3 at3 e3 (cj + 1) om dp o opd fk ph bg bs [] ∧ at' < at3 ∧ PFm J J3 b dp om cj ∧ PFc I K t cj ∧ OnL M M3 ∧ K (t + 10) cj = v := by
  obtain ⟨st, ⟨⟨p1, p2⟩, p3, p4, ⟨p5, p6⟩, p7, p8, p9, p10, p11, p12⟩, q1, q2, q3, q4, q5, q6, q7, q8, q9, q10, q11, q12, q13⟩ := h
  have hat := st.2.1.2.1.2.2 hk
  have hes := st.2.1.2.1.2.1
  have hsz := st.2.2.2
  have hca : cj ≤ at' := q8
  have q1' : I t 16 = nI cj := q1
  have hem := emit_C (I := I) (v := v) q1' (by omega)
  have had := add_M (J := J) (s := s) (v := x) p1 p2 p3 (by omega)
  obtain ⟨K1, hK1⟩ : ∃ K1, K1 = sI (sI I (t + 10) cj v) t 16 (nI (cj + 1)) := ⟨_, rfl⟩
  obtain ⟨J1, hJ1⟩ : ∃ J1, J1 = sI (sI (sI J 115 (1600 * b + cj) s) 116 (1600 * b + cj) x) 100 32 (nI (cj + 1)) := ⟨_, rfl⟩
  rw [← hK1] at hem
  rw [← hJ1] at had
  have x100 : ∀ s, s ≠ 32 → J1 100 s = J 100 s := fun s' hs => by rw [hJ1, zs_eq, zs_other hs, zs_ne (by decide), zs_ne (by decide)]
  have x32 : J1 100 32 = nI (cj + 1) := by rw [hJ1, zs_eq, zs_same]
  have xx : ∀ x', x' ≠ 100 → x' ≠ 115 → x' ≠ 116 → J1 x' = J x' := fun x' b1 b2 b3 => by rw [hJ1, zs_ne b1, zs_ne b3, zs_ne b2]
  have x115 : ∀ i, i ≠ 1600 * b + cj → J1 115 i = J 115 i ∧ J1 116 i = J 116 i := fun i hi => by
    rw [hJ1, zs_ne (by decide), zs_ne (by decide), zs_eq, zs_other hi, zs_ne (by decide), zs_eq, zs_other hi, zs_ne (by decide)]
    exact ⟨rfl, rfl⟩
  have x115e : J1 115 (1600 * b + cj) = s ∧ J1 116 (1600 * b + cj) = x := by
    rw [hJ1, zs_ne (by decide), zs_ne (by decide), zs_eq, zs_same, zs_ne (by decide), zs_eq, zs_same]
    exact ⟨rfl, rfl⟩
  have sJ : StR tp sz I J1 M k at' e := StR_m st (xx 101 (by decide) (by decide) (by decide)) (fun x' hx => x100 x' (by omega))
  have sK : StR tp sz K1 J1 M k at' e := StR_tk sJ (fun x' hx => by rw [hK1, zs_ne (by omega), zs_ne (by omega)])
  obtain ⟨K, J3, M3, k3, at3, e3, a1, a2, a3, a4, a5, a6, a7⟩ := advS sK hf hk
  have kx : ∀ x', x' ≠ 7 → x' ≠ t → x' ≠ t + 10 → K x' = I x' := fun x' g1 g2 g3 => by rw [a5.1 x' g1, hK1, zs_ne g2, zs_ne g3]
  have kt : ∀ s', s' ≠ 16 → K t s' = I t s' := fun s' hs => by rw [a5.1 t (by omega), hK1, zs_eq, zs_other hs, zs_ne (by omega)]
  have kt16 : K t 16 = nI (cj + 1) := by rw [a5.1 t (by omega), hK1, zs_eq, zs_same]
  have k7 : ∀ s', s' = 1 ∨ 7 ≤ s' → K 7 s' = I 7 s' := fun s' hs => by rw [a5.2 s' hs, hK1, zs_ne (by omega), zs_ne (by omega)]
  have kc : ∀ j, j ≠ cj → K (t + 10) j = I (t + 10) j := fun j hj => by rw [a5.1 (t + 10) (by omega), hK1, zs_ne (by omega), zs_eq, zs_other hj]
  have kce : K (t + 10) cj = v := by rw [a5.1 (t + 10) (by omega), hK1, zs_ne (by omega), zs_eq, zs_same]
  have y100 : ∀ s, (s ≤ 2 ∨ (7 ≤ s ∧ s ≠ 12)) → J3 100 s = J1 100 s := a6.2
  refine ⟨K1, K, J1, J3, M3, k3, at3, e3, hem, a1, had, a2, a3.2.2.1, ⟨a3, ⟨⟨by rw [y100 33 (by omega), x100 33 (by decide)]; exact p1, p2⟩, by rw [y100 32 (by omega)]; exact x32, by rw [y100 43 (by omega), x100 43 (by decide)]; exact p4, ⟨by rw [y100 40 (by omega), x100 40 (by decide)]; exact p5, p6⟩, by rw [y100 41 (by omega), x100 41 (by decide)]; exact p7, by rw [y100 44 (by omega), x100 44 (by decide)]; exact p8, by rw [a6.1 120 (by decide), xx 120 (by decide) (by decide) (by decide)]; exact p9, by rw [a6.1 121 (by decide), xx 121 (by decide) (by decide) (by decide)]; exact p10, by rw [a6.1 122 (by decide), xx 122 (by decide) (by decide) (by decide)]; exact p11, by rw [a6.1 124 (by decide), xx 124 (by decide) (by decide) (by decide)]; exact p12⟩, kt16, trivial, trivial, fun c hc => absurd hc List.not_mem_nil, fun j hj => ?_, q6, q7, by show cj + 1 + 0 ≤ at3; omega, q9, by rw [y100 34 (by omega), x100 34 (by decide)]; exact q10, by rw [kx 8 (by decide) (by omega) (by omega)]; exact q11, q12, q13⟩, by omega, ⟨fun x' a c => by rw [a6.1 x' c, xx x' c (by omega) (by omega)], fun s' hs => by rw [y100 s' (by omega), x100 s' (by omega)], fun i _ => by rw [a6.1 120 (by decide), a6.1 121 (by decide), a6.1 122 (by decide), a6.1 123 (by decide), a6.1 124 (by decide), xx 120 (by decide) (by decide) (by decide), xx 121 (by decide) (by decide) (by decide), xx 122 (by decide) (by decide) (by decide), xx 123 (by decide) (by decide) (by decide), xx 124 (by decide) (by decide) (by decide)]; exact ⟨rfl, rfl, rfl, rfl, rfl⟩, by rw [a6.1 123 (by decide), xx 123 (by decide) (by decide) (by decide)], fun i _ => by rw [a6.1 125 (by decide), xx 125 (by decide) (by decide) (by decide)], fun k' hk' => by rw [a6.1 115 (by decide), a6.1 116 (by decide)]; exact x115 k' (by omega)⟩, ⟨kx, kt, k7, fun j hj => kc j (by omega)⟩, a7, kce⟩
  rw [a6.1 115 (by decide), a6.1 116 (by decide)]
  by_cases cj' : j = cj
  · rw [cj', kce, x115e.1, x115e.2]
    exact hv
  · rw [kc j cj', (x115 _ (by omega)).1, (x115 _ (by omega)).2]
    exact q5 j (by omega)
/-- a code more on both sides; the class steps on first -/
theorem lit2_R {I J : HI} {M : HL} {k at' e cj om dp o opd fk ph bg bs : Nat} {v s x : Int32} (h : PRx tp sz t b r0 I J M k at' e cj om dp o opd fk ph bg bs []) (hf : 2000 < fu) (hk : k ≠ 0) (ht : t = 67 ∨ t = 80) (hv : CR v s x) : ∃ K1 K J1 J3 M3 k3 at3 e3, f_X10_advance fu I = some (1, K1) ∧ f_X2_emit K1 t v = some (1, K) ∧ f_X12_add J s x = some J1 ∧ f_X12_ahead fu J1 M = some (J3, M3) ∧ J3 100 8 = 0 ∧ PRx tp sz t b r0 K J3 M3 k3 at3 e3 (cj + 1) om dp o opd fk ph bg bs [] ∧ at' < at3 ∧ PFm J J3 b dp om cj ∧ PFc I K t cj ∧ OnL M M3 ∧ K (t + 10) cj = v := by
  obtain ⟨st, ⟨⟨p1, p2⟩, p3, p4, ⟨p5, p6⟩, p7, p8, p9, p10, p11, p12⟩, q1, q2, q3, q4, q5, q6, q7, q8, q9, q10, q11, q12, q13⟩ := h
  have hat := st.2.1.2.1.2.2 hk
  have hes := st.2.1.2.1.2.1
  have hsz := st.2.2.2
  have hca : cj ≤ at' := q8
  have q1' : I t 16 = nI cj := q1
  have had := add_M (J := J) (s := s) (v := x) p1 p2 p3 (by omega)
  obtain ⟨J1, hJ1⟩ : ∃ J1, J1 = sI (sI (sI J 115 (1600 * b + cj) s) 116 (1600 * b + cj) x) 100 32 (nI (cj + 1)) := ⟨_, rfl⟩
  rw [← hJ1] at had
  have x100 : ∀ s, s ≠ 32 → J1 100 s = J 100 s := fun s' hs => by rw [hJ1, zs_eq, zs_other hs, zs_ne (by decide), zs_ne (by decide)]
  have x32 : J1 100 32 = nI (cj + 1) := by rw [hJ1, zs_eq, zs_same]
  have xx : ∀ x', x' ≠ 100 → x' ≠ 115 → x' ≠ 116 → J1 x' = J x' := fun x' b1 b2 b3 => by rw [hJ1, zs_ne b1, zs_ne b3, zs_ne b2]
  have x115 : ∀ i, i ≠ 1600 * b + cj → J1 115 i = J 115 i ∧ J1 116 i = J 116 i := fun i hi => by
    rw [hJ1, zs_ne (by decide), zs_ne (by decide), zs_eq, zs_other hi, zs_ne (by decide), zs_eq, zs_other hi, zs_ne (by decide)]
    exact ⟨rfl, rfl⟩
  have x115e : J1 115 (1600 * b + cj) = s ∧ J1 116 (1600 * b + cj) = x := by
    rw [hJ1, zs_ne (by decide), zs_ne (by decide), zs_eq, zs_same, zs_ne (by decide), zs_eq, zs_same]
    exact ⟨rfl, rfl⟩
  have sJ : StR tp sz I J1 M k at' e := StR_m st (xx 101 (by decide) (by decide) (by decide)) (fun x' hx => x100 x' (by omega))
  obtain ⟨K1, J3, M3, k3, at3, e3, a1, a2, a3', a4, a5', a6, a7⟩ := advS sJ hf hk
  have hem := emit_C (I := K1) (v := v) (show K1 t 16 = nI cj by rw [a5'.1 t (by omega)]; exact q1') (by omega)
  obtain ⟨K, hK⟩ : ∃ K, K = sI (sI K1 (t + 10) cj v) t 16 (nI (cj + 1)) := ⟨_, rfl⟩
  rw [← hK] at hem
  have a3 : StR tp sz K J3 M3 k3 at3 e3 := StR_tk a3' (fun x' hx => by rw [hK, zs_ne (by omega), zs_ne (by omega)])
  have kx : ∀ x', x' ≠ 7 → x' ≠ t → x' ≠ t + 10 → K x' = I x' := fun x' g1 g2 g3 => by rw [hK, zs_ne g2, zs_ne g3, a5'.1 x' g1]
  have kt : ∀ s', s' ≠ 16 → K t s' = I t s' := fun s' hs => by rw [hK, zs_eq, zs_other hs, zs_ne (by omega), a5'.1 t (by omega)]
  have kt16 : K t 16 = nI (cj + 1) := by rw [hK, zs_eq, zs_same]
  have k7 : ∀ s', s' = 1 ∨ 7 ≤ s' → K 7 s' = I 7 s' := fun s' hs => by rw [hK, zs_ne (by omega), zs_ne (by omega)]; exact a5'.2 s' hs
  have kc : ∀ j, j ≠ cj → K (t + 10) j = I (t + 10) j := fun j hj => by rw [hK, zs_ne (by omega), zs_eq, zs_other hj, a5'.1 (t + 10) (by omega)]
  have kce : K (t + 10) cj = v := by rw [hK, zs_ne (by omega), zs_eq, zs_same]
  have y100 : ∀ s, (s ≤ 2 ∨ (7 ≤ s ∧ s ≠ 12)) → J3 100 s = J1 100 s := a6.2
  refine ⟨K1, K, J1, J3, M3, k3, at3, e3, a1, hem, had, a2, a3.2.2.1, ⟨a3, ⟨⟨by rw [y100 33 (by omega), x100 33 (by decide)]; exact p1, p2⟩, by rw [y100 32 (by omega)]; exact x32, by rw [y100 43 (by omega), x100 43 (by decide)]; exact p4, ⟨by rw [y100 40 (by omega), x100 40 (by decide)]; exact p5, p6⟩, by rw [y100 41 (by omega), x100 41 (by decide)]; exact p7, by rw [y100 44 (by omega), x100 44 (by decide)]; exact p8, by rw [a6.1 120 (by decide), xx 120 (by decide) (by decide) (by decide)]; exact p9, by rw [a6.1 121 (by decide), xx 121 (by decide) (by decide) (by decide)]; exact p10, by rw [a6.1 122 (by decide), xx 122 (by decide) (by decide) (by decide)]; exact p11, by rw [a6.1 124 (by decide), xx 124 (by decide) (by decide) (by decide)]; exact p12⟩, kt16, trivial, trivial, fun c hc => absurd hc List.not_mem_nil, fun j hj => ?_, q6, q7, by show cj + 1 + 0 ≤ at3; omega, q9, by rw [y100 34 (by omega), x100 34 (by decide)]; exact q10, by rw [kx 8 (by decide) (by omega) (by omega)]; exact q11, q12, q13⟩, by omega, ⟨fun x' a c => by rw [a6.1 x' c, xx x' c (by omega) (by omega)], fun s' hs => by rw [y100 s' (by omega), x100 s' (by omega)], fun i _ => by rw [a6.1 120 (by decide), a6.1 121 (by decide), a6.1 122 (by decide), a6.1 123 (by decide), a6.1 124 (by decide), xx 120 (by decide) (by decide) (by decide), xx 121 (by decide) (by decide) (by decide), xx 122 (by decide) (by decide) (by decide), xx 123 (by decide) (by decide) (by decide), xx 124 (by decide) (by decide) (by decide)]; exact ⟨rfl, rfl, rfl, rfl, rfl⟩, by rw [a6.1 123 (by decide), xx 123 (by decide) (by decide) (by decide)], fun i _ => by rw [a6.1 125 (by decide), xx 125 (by decide) (by decide) (by decide)], fun k' hk' => by rw [a6.1 115 (by decide), a6.1 116 (by decide)]; exact x115 k' (by omega)⟩, ⟨kx, kt, k7, fun j hj => kc j (by omega)⟩, a7, kce⟩
  rw [a6.1 115 (by decide), a6.1 116 (by decide)]
  by_cases cj' : j = cj
  · rw [cj', kce, x115e.1, x115e.2]
    exact hv
  · rw [kc j cj', (x115 _ (by omega)).1, (x115 _ (by omega)).2]
    exact q5 j (by omega)
end
