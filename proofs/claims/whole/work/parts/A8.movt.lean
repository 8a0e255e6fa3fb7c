/-! moves: a shift, the table of what was seen -/
section
variable {I0 D : HI} {R : HR} {t nh no nl fu : Nat} {tg : Nat → Nat}
theorem shift_C (hM : MVC I0 D R t nh no nl tg) {K : HI} {p : Nat → Nat} (h : MN I0 D nh nl K p) (hp : goodP D (sc I0 58) nh nl p) {l g : Nat} (hl : stS (sc I0 58) nl l = true) (hg : g < nh) (hne : g ≠ p l) (hp' : goodP D (sc I0 58) nh nl (upP p l g)) : ∃ K', f_X4_shift K R (nI l) (nI (p l)) (nI g) = some K' ∧ MN I0 D nh nl K' (upP p l g) ∧ K' 46 = K 46 := by
  obtain ⟨g0, g1, g2, g3, g4, g5, g6, g7, g8, g9⟩ := id hM.1
  have hSW := hM.2.2.2.2.1
  have hD := hM.2.2.2.2.2.1
  have e42 := hM.2.1
  obtain ⟨l1, l2⟩ := stS_iff.mp hl
  obtain ⟨a, ha⟩ : ∃ a, a = p l := ⟨_, rfl⟩
  have ha8 : a < nh := by rw [ha]; exact hp.1 l hl
  obtain ⟨x, hx⟩ : ∃ x, x = xbS (sc I0 58) l := ⟨_, rfl⟩
  have hx9 : x ≤ 999 := by rw [hx]; exact (xb_of hSW (by omega)).2
  have e59 : K 59 l = nI x := by
    rw [h.1 59 (by decide) (by decide) (by decide) (by decide) (by decide), hx]
    exact (xb_of hSW (by omega)).1
  obtain ⟨a1, a2⟩ := h.2.2 a ha8
  obtain ⟨b1, b2⟩ := h.2.2 g hg
  have r1 := rsP_up (S := sc I0 58) (p := p) (h := g) (t := a) hl
  have r2 := rsP_up (S := sc I0 58) (p := p) (h := g) (t := g) hl
  have s1 := ctP_up (S := sc I0 58) (p := p) (h := g) (t := a) hl
  have s2 := ctP_up (S := sc I0 58) (p := p) (h := g) (t := g) hl
  rw [← ha] at hne r1 r2 s1 s2 ⊢
  rw [if_pos rfl, if_neg hne] at r1 s1
  rw [if_pos rfl, if_neg (fun w => hne w.symm)] at r2 s2
  rw [← hx] at r1 r2
  have k1 := hp.2.2 a ha8
  have k2 := hp'.2.2 g hg
  obtain ⟨ra, hra⟩ : ∃ ra, ra = rmP D (sc I0 58) nl p a := ⟨_, rfl⟩
  obtain ⟨rb, hrb⟩ : ∃ rb, rb = rmP D (sc I0 58) nl p g := ⟨_, rfl⟩
  obtain ⟨ca, hca⟩ : ∃ ca, ca = ctP (sc I0 58) nl p a := ⟨_, rfl⟩
  obtain ⟨cb, hcb⟩ : ∃ cb, cb = ctP (sc I0 58) nl p g := ⟨_, rfl⟩
  rw [← hra] at a1
  rw [← hrb] at b1
  rw [← hca] at a2 s1
  rw [← hcb] at b2 s2
  have ua : rmP D (sc I0 58) nl (upP p l g) a = ra + x := by
    rw [hra]
    unfold rmP
    omega
  have ub : rmP D (sc I0 58) nl (upP p l g) g = rb - x := by
    rw [hrb]
    unfold rmP
    omega
  have hxb : x ≤ rb := by
    rw [hrb]
    unfold rmP
    omega
  obtain ⟨K', hK'⟩ : ∃ K', K' = sI (sI (sI (sI (sI K 60 l (nI g)) 44 a (nI (ra + x))) 45 a (nI (ca - 1))) 44 g (nI (rb - x))) 45 g (nI (cb + 1)) := ⟨_, rfl⟩
  refine ⟨K', ?_, ⟨fun z z1 z2 z3 z4 z5 => ?_, fun k => ?_, fun t' ht' => ?_⟩, ?_⟩
  · have l44 : ∀ kk : Int32 → Option HI, ldI ((sI K 60 l (nI g)) 44) 8 (nI a) kk = kk (nI ra) := fun kk => by rw [ldI_ok (by omega), zs_ne (by decide), a1]
    have l59 : ∀ kk : Int32 → Option HI, ldI ((sI K 60 l (nI g)) 59) 8 (nI l) kk = kk (nI x) := fun kk => by rw [ldI_ok (by omega), zs_ne (by decide), e59]
    have l45 : ∀ kk : Int32 → Option HI, ldI ((sI (sI K 60 l (nI g)) 44 a (nI (ra + x))) 45) 8 (nI a) kk = kk (nI ca) := fun kk => by rw [ldI_ok (by omega), zs_ne (by decide), zs_ne (by decide), a2]
    have m44 : ∀ kk : Int32 → Option HI, ldI ((sI (sI (sI K 60 l (nI g)) 44 a (nI (ra + x))) 45 a (nI (ca - 1))) 44) 8 (nI g) kk = kk (nI rb) := fun kk => by rw [ldI_ok (by omega), zs_ne (by decide), zs_eq, zs_other hne, zs_ne (by decide), b1]
    have m59 : ∀ kk : Int32 → Option HI, ldI ((sI (sI (sI K 60 l (nI g)) 44 a (nI (ra + x))) 45 a (nI (ca - 1))) 59) 8 (nI l) kk = kk (nI x) := fun kk => by rw [ldI_ok (by omega), zs_ne (by decide), zs_ne (by decide), zs_ne (by decide), e59]
    have m45 : ∀ kk : Int32 → Option HI, ldI ((sI (sI (sI (sI K 60 l (nI g)) 44 a (nI (ra + x))) 45 a (nI (ca - 1))) 44 g (nI (rb - x))) 45) 8 (nI g) kk = kk (nI cb) := fun kk => by rw [ldI_ok (by omega), zs_ne (by decide), zs_eq, zs_other hne, zs_ne (by decide), zs_ne (by decide), b2]
    have il : ∀ kk : Option HI, inb 8 (nI l) kk = kk := fun kk => by rw [inb_ok (by omega)]
    have ia : ∀ kk : Option HI, inb 8 (nI a) kk = kk := fun kk => by rw [inb_ok (by omega)]
    have ig : ∀ kk : Option HI, inb 8 (nI g) kk = kk := fun kk => by rw [inb_ok (by omega)]
    have tl : (nI l).toNatClampNeg = l := nI_clamp (by omega)
    have ta : (nI a).toNatClampNeg = a := nI_clamp (by omega)
    have tg' : (nI g).toNatClampNeg = g := nI_clamp (by omega)
    have v1 : nI ra + nI x = nI (ra + x) := nI_add ra x
    have v2 : nI ca - 1 = nI (ca - 1) := by rw [zq1, pk_sub (by omega)]
    have v3 : nI rb - nI x = nI (rb - x) := pk_sub hxb
    have v4 : nI cb + 1 = nI (cb + 1) := nI_1 cb
    unfold f_X4_shift
    simp only [e42, zg_ok okS, il, bnd, tl, l44, l59, ia, ta, v1, l45, v2, m44, m59, ig, tg', v3, m45, v4, hK']
  · rw [hK', zs_ne z2, zs_ne z1, zs_ne z2, zs_ne z1, zs_ne z4]
    exact h.1 z z1 z2 z3 z4 z5
  · rw [hK', zs_ne (by decide), zs_ne (by decide), zs_ne (by decide), zs_ne (by decide), zs_eq]
    by_cases ck : k = l
    · rw [ck, zs_same, scP_st hl, upP_eq]
    · rw [zs_other ck, h.2.1 k]
      unfold scP
      rw [upP_ne ck]
  · obtain ⟨c1, c2⟩ := h.2.2 t' ht'
    by_cases d1 : t' = g
    · subst d1
      rw [ub, hK', zs_eq, zs_same, zs_ne (by decide), zs_eq, zs_same]
      exact ⟨rfl, by congr 1; omega⟩
    · by_cases d2 : t' = a
      · subst d2
        rw [ua]
        refine ⟨?_, ?_⟩
        · rw [hK', zs_ne (by decide), zs_eq, zs_other d1, zs_ne (by decide), zs_eq, zs_same]
        · rw [hK', zs_eq, zs_other d1, zs_ne (by decide), zs_eq, zs_same]
          congr 1
          omega
      · have r3 := rsP_up (S := sc I0 58) (p := p) (h := g) (t := t') hl
        have s3 := ctP_up (S := sc I0 58) (p := p) (h := g) (t := t') hl
        rw [← ha, if_neg (fun w => d2 w.symm), if_neg (fun w => d1 w.symm), Nat.add_zero, Nat.add_zero] at r3 s3
        have u3 : rmP D (sc I0 58) nl (upP p l g) t' = rmP D (sc I0 58) nl p t' := by
          unfold rmP
          rw [r3]
        rw [u3, s3]
        refine ⟨?_, ?_⟩
        · rw [hK', zs_ne (by decide), zs_eq, zs_other d1, zs_ne (by decide), zs_eq, zs_other d2, zs_ne (by decide)]
          exact c1
        · rw [hK', zs_eq, zs_other d1, zs_ne (by decide), zs_eq, zs_other d2, zs_ne (by decide), zs_ne (by decide)]
          exact c2
  · rw [hK', zs_ne (by decide), zs_ne (by decide), zs_ne (by decide), zs_ne (by decide), zs_ne (by decide)]
theorem hash_ok (x : Int32) : ∃ w, w < 2048 ∧ (x.toUInt32 >>> ((21 : Int32).toUInt32 &&& Int32.toUInt32 31)).toInt32 = nI w := by
  have hlt := x.toBitVec.isLt
  have h2 : x.toBitVec.toNat / 2 ^ 21 < 2048 := by omega
  refine ⟨x.toBitVec.toNat / 2 ^ 21, h2, ?_⟩
  apply Int32.toBitVec_inj.mp
  apply BitVec.eq_of_toNat_eq
  rw [pk_ushr _ _ 21 (by decide), pk_tn (by omega)]
theorem probe_C {K : HI} {key : Nat} : ∀ (q i w n : Nat), i + q = 2048 → q < n → w < 2048 → (∃ j, j < 2048 ∧ K 46 j = nI key ∧ f_X4_wasSeen_L53 n K (nI key) (nI w) (nI i) = some (.inl (1, K))) ∨ (∃ j, j < 2048 ∧ f_X4_wasSeen_L53 n K (nI key) (nI w) (nI i) = some (.inl (0, sI K 46 j (nI key)))) ∨ f_X4_wasSeen_L53 n K (nI key) (nI w) (nI i) = some (.inr ()) := by
  intro q
  induction q with
  | zero =>
    intro i w n e1 e2 e3
    obtain ⟨n, rfl⟩ : ∃ z, n = z + 1 := ⟨n - 1, by omega⟩
    have ei : i = 2048 := by omega
    subst ei
    have c1 : (2048 : Int32) ≤ nI 2048 := by decide
    right; right
    simp only [f_X4_wasSeen_L53, if_pos c1]
  | succ q ih =>
    intro i w n e1 e2 e3
    obtain ⟨n, rfl⟩ : ∃ z, n = z + 1 := ⟨n - 1, by omega⟩
    have c1 : ¬ (2048 : Int32) ≤ nI i := nI_ge (b := 2048) (by omega) (by decide)
    have A1 : nI i + 1 = nI (i + 1) := nI_1 i
    have A2 : nI w + 1 = nI (w + 1) := nI_1 w
    have l1 : ∀ kk : Int32 → Option ((Int32 × HI) ⊕ Unit), ldI (K 46) 2048 (nI w) kk = kk (K 46 w) := fun kk => by rw [ldI_ok (by omega)]
    by_cases c2 : K 46 w = nI key
    · left
      refine ⟨w, e3, c2, ?_⟩
      simp only [f_X4_wasSeen_L53, if_neg c1, l1, if_pos c2, gz_1]
    · by_cases c3 : K 46 w = 0
      · right; left
        refine ⟨w, e3, ?_⟩
        simp (disch := omega) only [f_X4_wasSeen_L53, if_neg c1, l1, if_neg c2, if_pos c3, inb_ok, bnd, nI_clamp, gz_0]
      · have st : f_X4_wasSeen_L53 (n + 1) K (nI key) (nI w) (nI i) = f_X4_wasSeen_L53 n K (nI key) (nI ((w + 1) % 2048)) (nI (i + 1)) := by
          have dv : ∀ kk : Option ((Int32 × HI) ⊕ Unit), dvI 2048 kk = kk := fun kk => by rw [zq2048, dv_ok ⟨by decide, by decide⟩]
          have er : nI (w + 1) - nI (w + 1) / 2048 * 2048 = nI ((w + 1) % 2048) := by rw [zq2048, rem_ok ⟨by omega, by decide, by decide⟩]
          simp only [f_X4_wasSeen_L53, if_neg c1, l1, if_neg c2, if_neg c3, dv, A2, er, bnd, A1]
        rw [st]
        exact ih (i + 1) ((w + 1) % 2048) n (by omega) (by omega) (Nat.mod_lt _ (by decide))
theorem wasSeen_C (hM : MVC I0 D R t nh no nl tg) (hf : 10000 < fu) {K : HI} {p : Nat → Nat} (h : MN I0 D nh nl K p) (hp : goodP D (sc I0 58) nh nl p) : ∃ y K', f_X4_wasSeen fu K R = some (y, K') ∧ MN I0 D nh nl K' p ∧ ((y = 1 ∧ K' = K ∧ ∃ j, j < 2048 ∧ K 46 j = nI (keyP p nl)) ∨ (y = 0 ∧ ∀ j, j < 2048 → K' 46 j = K 46 j ∨ K' 46 j = nI (keyP p nl))) := by
  obtain ⟨g0, g1, g2, g3, g4, g5, g6, g7, g8, g9⟩ := MN_CL hM h
  have e42 := hM.2.1
  have hSW := hM.2.2.2.2.1
  have p8 := good8 g7 hp
  have hl : f_X4_wasSeen_L4 fu K R 1 0 = some (nI (keyP p nl)) := by
    refine loopCf (fun n a i => f_X4_wasSeen_L4 n K R a i) (fun i => nI (keyP p i)) _ nl fu ?_ ?_ (by omega)
    · intro n i hi
      have c1 : ¬ nI nl ≤ nI i := nI_ge hi (by omega)
      have A1 : nI i + 1 = nI (i + 1) := nI_1 i
      have mx : f_J9_max_7cf53 0 (K 60 i) = some (nI (p i)) := by
        rw [h.2.1 i]
        by_cases c : stS (sc I0 58) nl i = true
        · have := p8 i
          rw [scP_st c]
          have m := max_ok (a := 0) (b := p i) (by decide) (by omega)
          rw [show max 0 (p i) = p i by omega] at m
          exact m
        · rw [scP_no c, (no_of hSW g9 (by omega) c).1, hp.2.1 i c]
          decide
      have ea : nI (keyP p i) * 8 + nI (p i) = nI (keyP p i * 8 + p i) := by rw [zq8, pk_mul, nI_add]
      show f_X4_wasSeen_L4 (n + 1) K R (nI (keyP p i)) (nI i) = f_X4_wasSeen_L4 n K R (nI (keyP p i * 8 + p i)) (nI (i + 1))
      simp (disch := omega) only [f_X4_wasSeen_L4, e42, zg_ok okS, g1, zg_ok g0, g6, if_neg c1, ldI_ok, mx, Option.bind_some, ea, bnd, A1]
    · intro n
      have c1 : nI nl ≤ nI nl := Int32.le_refl _
      simp (disch := omega) only [f_X4_wasSeen_L4, e42, zg_ok okS, g1, zg_ok g0, g6, if_pos c1]
  obtain ⟨w, w1, w2⟩ := hash_ok (nI (keyP p nl) * (-1640531535))
  have fr : ∀ K' : HI, (∀ x, x ≠ 46 → K' x = K x) → MN I0 D nh nl K' p := fun K' hK' => ⟨fun x x1 x2 x3 x4 x5 => by rw [hK' x x3]; exact h.1 x x1 x2 x3 x4 x5, fun k => by rw [hK' 60 (by decide)]; exact h.2.1 k, fun h' hh' => by rw [hK' 44 (by decide), hK' 45 (by decide)]; exact h.2.2 h' hh'⟩
  unfold f_X4_wasSeen
  rw [hl]
  simp only [Option.bind_some, bnd, w2]
  rw [show (0 : Int32) = nI 0 from rfl]
  rcases probe_C (K := K) (key := keyP p nl) 2048 0 w fu (by omega) (by omega) w1 with ⟨j, j1, j2, j3⟩ | ⟨j, j1, j2⟩ | j3
  · rw [j3]
    exact ⟨1, K, rfl, h, Or.inl ⟨rfl, rfl, j, j1, j2⟩⟩
  · rw [j2]
    refine ⟨0, sI K 46 j (nI (keyP p nl)), rfl, fr _ (fun x hx => zs_ne hx), Or.inr ⟨rfl, fun i hi => ?_⟩⟩
    rw [zs_eq]
    by_cases c : i = j
    · rw [c, zs_same]; exact Or.inr rfl
    · rw [zs_other c]; exact Or.inl rfl
  · rw [j3]
    refine ⟨0, K, ?_, h, Or.inr ⟨rfl, fun i hi => Or.inl rfl⟩⟩
    show gz (nI 0) (some (nI 0, K)) = some (0, K)
    exact gz_0
theorem helps_C (hM : MVC I0 D R t nh no nl tg) (hf : 8 < fu) {K : HI} {p : Nat → Nat} (h : MN I0 D nh nl K p) (hp : goodP D (sc I0 58) nh nl p) {l g : Nat} (hl : stS (sc I0 58) nl l = true) (hg : g < 8) : f_X4_helpsLast fu K R (nI l) (nI g) = some 1 ∨ (f_X4_helpsLast fu K R (nI l) (nI g) = some 0 ∧ ¬ sgP tg p l = true ∧ (¬ ∃ u, u < nl ∧ tg u = g ∧ p u ≠ g) ∧ ¬ ∃ u, u < nl ∧ tg u = p l ∧ p u ≠ p l) := by
  obtain ⟨g0, g1, g2, g3, g4, g5, g6, g7, g8, g9⟩ := MN_CL hM h
  have e42 := hM.2.1
  have l8 : l < 8 := by have := (stS_iff.mp hl).1; omega
  have ha := astrayAt_C hM h hp (l := l) l8
  have e60 : K 60 l = nI (p l) := by rw [h.2.1 l, scP_st hl]
  have l1 : ∀ kk : Int32 → Option Int32, ldI (K (58 + 2)) 8 (nI l) kk = kk (K 60 l) := fun kk => by rw [ldI_ok (by omega)]
  have n3 : ¬ (1 : Int32) = 0 := by decide
  unfold f_X4_helpsLast
  by_cases c : sgP tg p l = true
  · left
    rw [if_pos c] at ha
    simp only [e42, zg_ok okS, l1, ha, Option.bind_some, if_neg n3, gz_1]
  · rw [if_neg c] at ha
    rcases isAwaited_C hM hf h hp hg with ⟨w1, _⟩ | ⟨w1, w2⟩
    · left
      simp only [e42, zg_ok okS, l1, ha, Option.bind_some, if_true, w1, jnt, if_neg n3, gz_1]
    · rcases isAwaited_C hM hf h hp (good8 g7 hp l) with ⟨v1, _⟩ | ⟨v1, v2⟩
      · left
        rw [← e60] at v1
        simp only [e42, zg_ok okS, l1, ha, Option.bind_some, if_true, w1, jnt, v1, if_neg n3, gz_1]
      · right
        refine ⟨?_, c, w2, v2⟩
        rw [← e60] at v1
        simp only [e42, zg_ok okS, l1, ha, Option.bind_some, if_true, w1, jnt, v1, gz_0]
end
