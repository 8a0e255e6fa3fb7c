/-! how a scene begins; the start -/
theorem begL {s : Nat} (hs : s = 49 ∨ s = 58) {I : HI} {nl : Nat} (hn : nl ≤ 8) : ∀ (q i n : Nat) (K : HI), i + q = 8 → q < n → nl ≤ i → (∀ x, x < s + 1 ∨ s + 4 ≤ x → K x = I x) → (∀ k, k < 8 → K (s + 1) k = (if nl ≤ k ∧ k < i then nI 0 else I (s + 1) k) ∧ K (s + 2) k = (if nl ≤ k ∧ k < i then mI 1 else I (s + 2) k) ∧ K (s + 3) k = (if nl ≤ k ∧ k < i then mI 1 else I (s + 3) k)) →
    ∃ K', f_X9_begin_L90 n K s (nI i) = some K' ∧ (∀ x, x < s + 1 ∨ s + 4 ≤ x → K' x = I x) ∧ ∀ k, k < 8 → K' (s + 1) k = (if nl ≤ k then nI 0 else I (s + 1) k) ∧ K' (s + 2) k = (if nl ≤ k then mI 1 else I (s + 2) k) ∧ K' (s + 3) k = (if nl ≤ k then mI 1 else I (s + 3) k) := by
  intro q
  induction q with
  | zero =>
    intro i n K e1 e2 e3 k1 k2
    obtain ⟨n, rfl⟩ : ∃ z, n = z + 1 := ⟨n - 1, by omega⟩
    have : i = 8 := by omega
    subst this
    have c1 : (8 : Int32) ≤ nI 8 := by decide
    refine ⟨K, ?_, k1, fun k hk => ?_⟩
    · simp only [f_X9_begin_L90, if_pos c1]
    · obtain ⟨a, b, c⟩ := k2 k hk
      by_cases d : nl ≤ k
      · rw [if_pos ⟨d, hk⟩] at a b c
        rw [if_pos d, if_pos d, if_pos d]
        exact ⟨a, b, c⟩
      · rw [if_neg (fun w => d w.1)] at a b c
        rw [if_neg d, if_neg d, if_neg d]
        exact ⟨a, b, c⟩
  | succ q ih =>
    intro i n K e1 e2 e3 k1 k2
    obtain ⟨n, rfl⟩ : ∃ z, n = z + 1 := ⟨n - 1, by omega⟩
    have c1 : ¬ (8 : Int32) ≤ nI i := nI_ge (b := 8) (by omega) (by decide)
    have sb := setBarrels_C (s := s) (K := K) (j := i) (x := 0) (by omega) (by decide)
    rw [if_pos rfl] at sb
    have sb' : f_X9_setBarrels K s (nI i) 0 = _ := sb
    have A1 : nI i + 1 = nI (i + 1) := nI_1 i
    obtain ⟨K', b1, b2⟩ := ih (i + 1) n (sI (sI (sI K (s + 1) i (nI 0)) (s + 2) i (mI 1)) (s + 3) i (mI 1)) (by omega) (by omega) (by omega) (fun x hx => by rw [zs_ne (by omega), zs_ne (by omega), zs_ne (by omega)]; exact k1 x hx) (fun k hk => by
      obtain ⟨a, b, c⟩ := k2 k hk
      by_cases ck : k = i
      · subst ck
        rw [if_pos ⟨e3, by omega⟩, if_pos ⟨e3, by omega⟩, if_pos ⟨e3, by omega⟩]
        simp (disch := omega) only [bnd, jnt, zg_ok, gz_0, gz_1, gz_n0, gz_n1, zs_eq, zs_ne, zs_same, zs_other, zA_eq, zA_ne, Option.bind_some, Option.bind_none]
        exact ⟨trivial, trivial, trivial⟩
      · have e : (nl ≤ k ∧ k < i + 1) ↔ (nl ≤ k ∧ k < i) := by omega
        simp (disch := omega) only [bnd, jnt, zg_ok, gz_0, gz_1, gz_n0, gz_n1, zs_eq, zs_ne, zs_same, zs_other, zA_eq, zA_ne, Option.bind_some, Option.bind_none, e]
        exact ⟨a, b, c⟩)
    refine ⟨K', ?_, b2⟩
    rw [← b1]
    simp only [f_X9_begin_L90, if_neg c1, sb', Option.bind_some, A1]
theorem begin_C {I : HI} {R : HR} {s t nl fu : Nat} (hf : 8 < fu) (ho : okLd t = true) (ht : t = 67 ∨ t = 80) (hs : s = 49 ∨ s = 58) (h3 : I t 3 = nI nl) (hn : nl ≤ 8) : ∃ I', f_X9_begin fu I R s t = some (I', sR R s 0 t) ∧ (∀ x, x < s ∨ s + 5 ≤ x → I' x = I x) ∧ I' s 1 = nI 0 ∧ (∀ k, k < 8 → I' (s + 1) k = (if nl ≤ k then nI 0 else I (t + 6) k) ∧ I' (s + 2) k = (if nl ≤ k then mI 1 else I (t + 7) k) ∧ I' (s + 3) k = (if nl ≤ k then mI 1 else I (t + 8) k)) ∧ ∀ k, k < 36 → I' (s + 4) k = I (t + 9) k := by
  have t0 : (0 : Int32).toNatClampNeg = 0 := by decide
  have t8 : (8 : Int32).toNatClampNeg = 8 := by decide
  have t36 : (36 : Int32).toNatClampNeg = 36 := by decide
  have hb : ∃ V : HI, (∀ x, x < s ∨ s + 5 ≤ x → V x = I x) ∧ V s 1 = 0 ∧ (∀ k, k < 8 → V (s + 1) k = I (t + 6) k ∧ V (s + 2) k = I (t + 7) k ∧ V (s + 3) k = I (t + 8) k) ∧ (∀ k, k < 36 → V (s + 4) k = I (t + 9) k) ∧ f_X9_begin fu I R s t = (f_X9_begin_L90 fu V s (V t 3)).bind fun x11 => some (x11, sR R s 0 t) := by
    refine ⟨_, ?_, ?_, ?_, ?_, by unfold f_X9_begin; simp only [bnd, zR_eq, zg_ok ho, t0, t8, t36]; rfl⟩
    · intro x hx
      simp (disch := omega) only [zA_ne, zs_ne]
    · simp (disch := omega) only [zA_ne, zs_eq, zs_same]
    · intro k hk
      simp (disch := omega) only [zA_ne, zA_eq, zs_ne, pk_cpy_in, Nat.sub_zero, Nat.zero_add]
      exact ⟨trivial, trivial, trivial⟩
    · intro k hk
      simp (disch := omega) only [zA_ne, zA_eq, zs_ne, pk_cpy_in, Nat.sub_zero, Nat.zero_add]
  obtain ⟨V, v1, v2, v3, v4, v5⟩ := hb
  have e3 : V t 3 = nI nl := by rw [v1 t (by omega)]; exact h3
  obtain ⟨K, k1, k2, k3⟩ := begL hs (I := V) hn (8 - nl) nl fu V (by omega) (by omega) (Nat.le_refl nl) (fun _ _ => rfl) (fun k hk => by
    have : ¬ (nl ≤ k ∧ k < nl) := by omega
    rw [if_neg this, if_neg this, if_neg this]
    exact ⟨rfl, rfl, rfl⟩)
  refine ⟨K, by rw [v5, e3, k1]; rfl, fun x hx => by rw [k2 x (by omega), v1 x hx], by rw [k2 s (by omega), v2]; rfl, fun k hk => ?_, fun k hk => by rw [k2 (s + 4) (by omega), v4 k hk]⟩
  obtain ⟨a, b, c⟩ := k3 k hk
  obtain ⟨a', b', c'⟩ := v3 k hk
  rw [a, b, c, a', b', c']
  exact ⟨rfl, rfl, rfl⟩
theorem start_I : (∀ x, x < 49 ∨ 54 ≤ x → x < 58 ∨ 63 ≤ x → IX1 x = IX0 x) ∧ IX1 49 1 = nI 0 ∧ (∀ k, k < 8 → IX1 50 k = nI 0 ∧ IX1 51 k = mI 1 ∧ IX1 52 k = mI 1) ∧ (∀ k, k < 36 → IX1 53 k = nI 0) := by
  obtain ⟨I1, a1, a2, a3, a4, a5⟩ := begin_C (I := IX0) (R := RR0) (s := 49) (t := 67) (nl := 0) (fu := 20) (by decide) rfl (by decide) (by decide) rfl (by decide)
  have b1 : beg1 = some (I1, sR RR0 49 0 67) := a1
  have e1 : beg1.get beg1_s = (I1, sR RR0 49 0 67) := Option.some.inj ((Option.some_get beg1_s).trans b1)
  have h3 : I1 67 3 = nI 0 := by rw [a2 67 (by decide)]; rfl
  obtain ⟨I2, c1, c2, c3, c4, c5⟩ := begin_C (I := I1) (R := sR RR0 49 0 67) (s := 58) (t := 67) (nl := 0) (fu := 20) (by decide) rfl (by decide) (by decide) h3 (by decide)
  have b2 : beg2 = some (I2, sR (sR RR0 49 0 67) 58 0 67) := by
    show f_X9_begin 20 (beg1.get beg1_s).1 (beg1.get beg1_s).2 58 67 = _
    rw [e1]
    exact c1
  have e2 : beg2.get beg2_s = (I2, sR (sR RR0 49 0 67) 58 0 67) := Option.some.inj ((Option.some_get beg2_s).trans b2)
  have eI : IX1 = I2 := by
    show (beg2.get beg2_s).1 = I2
    rw [e2]
  rw [eI]
  refine ⟨fun x x1 x2 => by rw [c2 x (by omega), a2 x (by omega)], by rw [c2 49 (by decide)]; exact a3, fun k hk => ?_, fun k hk => ?_⟩
  · rw [c2 50 (by decide), c2 51 (by decide), c2 52 (by decide)]
    obtain ⟨y1, y2, y3⟩ := a4 k hk
    rw [if_pos (Nat.zero_le k)] at y1 y2 y3
    exact ⟨y1, y2, y3⟩
  · rw [c2 53 (by decide)]
    exact a5 k hk
theorem start_gen {I : HI} {R : HR} {J : HI} {M : HL} (z : ∀ x k, x < 49 ∨ 54 ≤ x → x < 58 ∨ 63 ≤ x → x ≠ 1 → x ≠ 67 → x ≠ 80 → I x k = nI 0) (a1 : I 1 1 = nI 0) (a5 : I 1 5 = nI 0) (a6 : I 1 6 = -1) (a16 : I 1 16 = nI 0) (a17 : I 1 17 = nI 1) (b1 : I 67 1 = nI 0) (b2 : I 67 2 = nI 0) (b3 : I 67 3 = nI 0) (b4 : I 67 4 = nI 0) (b5 : I 67 5 = nI 999) (h1 : I 49 1 = nI 0) (h2 : ∀ k, k < 8 → I 50 k = nI 0 ∧ I 51 k = mI 1 ∧ I 52 k = mI 1) (h3 : ∀ k, k < 36 → I 53 k = nI 0)
    (zm : ∀ x k, x ≠ 100 → x ≠ 113 → J x k = nI 0) (c1 : J 100 1 = nI 0) (c10 : J 100 10 = nI 0) (c11 : J 100 11 = -1) (c13 : J 100 13 = nI 0) (c53 : J 100 53 = nI 0) (c54 : J 100 54 = nI 0) (c66 : J 100 66 = nI 0) (c70 : J 100 70 = nI 0) (c113 : ∀ r, r < 3 → J 113 r = mI 1) (hM : M 100 55 = lN 1) (r2 : R 1 2 = 67) (r3 : R 1 3 = 80) (r49 : R 49 0 = 67) : Rel 0 I R J M := by
  have vz : ∀ a k, 1 ≤ a → a < 13 → vw I 67 a k = nI 0 := fun a k a1 a2 => by
    unfold vw
    rw [if_pos a2]
    exact z _ k (by omega) (by omega) (by omega) (by omega) (by omega)
  have v0 : ∀ k, vw I 67 0 k = I 67 k := fun k => by
    unfold vw
    rw [if_pos (by decide)]
  have hrt : ∀ r, ¬ rt (vw I 67) r = true := fun r => by
    unfold rt
    rw [vz 11 r (by decide) (by decide), vz 12 r (by decide) (by decide)]
    decide
  refine ⟨67, 0, 0, 0, 0, ⟨0, by decide, a1, c1, fun k _ => ⟨?_, 0, by decide, ?_⟩⟩, ⟨by rw [a5, c10], by rw [a6, c11]⟩, fun k _ => ?_, ⟨1, by decide, a17, hM⟩, ⟨0, by decide, a16, c66, fun k hk => absurd hk (Nat.not_lt_zero k)⟩, ⟨0, by decide, ?_, c70, fun k hk => absurd hk (Nat.not_lt_zero k)⟩, ⟨r2, r3, ?_, ?_, ?_, ?_, ⟨fun k hk => absurd hk (Nat.not_lt_zero k), fun k hk => absurd hk (Nat.not_lt_zero k), fun k hk => absurd hk (Nat.not_lt_zero k)⟩⟩, ⟨?_, ?_⟩, ⟨0, 0, 0, fun _ => 0, ?_⟩⟩
  · rw [z 2 k (by decide) (by decide) (by decide) (by decide) (by decide), zm 101 k (by decide) (by decide)]
  · exact z 2 k (by decide) (by decide) (by decide) (by decide) (by decide)
  · rw [z 5 k (by decide) (by decide) (by decide) (by decide) (by decide), zm 126 k (by decide) (by decide)]
  · exact z 47 1 (by decide) (by decide) (by decide) (by decide) (by decide)
  · exact ⟨rfl, r49, by decide, by decide, b1, b2, b3, by decide, by decide, by decide⟩
  · intro r hr
    exact ⟨0, 0, ⟨vz 11 r (by decide) (by decide), vz 12 r (by decide) (by decide), by decide⟩, fun w => absurd w (by decide)⟩
  · refine ⟨⟨c13, by decide⟩, zm 102 0 (by decide) (by decide), zm 105 0 (by decide) (by decide), zm 106 0 (by decide) (by decide), by decide, by decide, by decide, fun h hh => absurd hh (Nat.not_lt_zero h), ⟨by rw [v0, b4]; exact zm 111 0 (by decide) (by decide), fun w => absurd w (by decide)⟩, fun r hr => ⟨fun w => absurd w (hrt r), fun _ => ?_⟩⟩
    have e : 3 * 0 + r = r := by omega
    rw [e]
    exact c113 r hr
  · exact ⟨⟨999, by decide, by rw [v0]; exact b5⟩, ⟨0, by decide, by rw [v0]; exact b4⟩, fun h hh => absurd hh (Nat.not_lt_zero h)⟩
  · refine ⟨?_, fun k hk => absurd hk (by omega), fun k hk => ?_, fun k hk => ?_⟩
    · show I 49 1 = J 127 0
      rw [h1, zm 127 0 (by decide) (by decide)]
    · show I 53 k = J 131 (36 * 0 + k)
      rw [h3 k hk, zm 131 _ (by decide) (by decide)]
    · show I 50 k = J 128 (8 * 0 + k)
      rw [(h2 k hk).1, zm 128 _ (by decide) (by decide)]
  · exact ⟨⟨0, by decide, h1⟩, fun l hl => ⟨0, by decide, (h2 l hl).1, fun _ => ⟨(h2 l hl).2.1, (h2 l hl).2.2⟩, fun w => absurd w (by decide)⟩, fun k hk => ⟨0, by decide, h3 k hk⟩, fun h hh => absurd hh (Nat.not_lt_zero h)⟩
  · exact ⟨by decide, by decide, by decide, z 9 2 (by decide) (by decide) (by decide) (by decide) (by decide), z 9 3 (by decide) (by decide) (by decide) (by decide) (by decide), c53, c54, z 32 1 (by decide) (by decide) (by decide) (by decide) (by decide), Nat.le_refl 0, fun j k _ _ => ⟨Nat.le_refl 0, Nat.zero_le _⟩, ⟨zm 132 0 (by decide) (by decide), fun k c hk => absurd hk (Nat.not_lt_zero k)⟩, fun k hk => absurd hk (Nat.not_lt_zero k)⟩
theorem start_rel : Rel 0 IX1 RR1 IM0 LM0 := by
  obtain ⟨h0, h1, h2, h3⟩ := start_I
  have q1 : IX1 1 = IX0 1 := h0 1 (by decide) (by decide)
  have q67 : IX1 67 = IX0 67 := h0 67 (by decide) (by decide)
  have z : ∀ x k, x < 49 ∨ 54 ≤ x → x < 58 ∨ 63 ≤ x → x ≠ 1 → x ≠ 67 → x ≠ 80 → IX1 x k = nI 0 := fun x k x1 x2 x3 x4 x5 => by
    rw [h0 x x1 x2]
    unfold IX0
    rw [if_neg x3, if_neg x4, if_neg x5]
    rfl
  have zm : ∀ x k, x ≠ 100 → x ≠ 113 → IM0 x k = nI 0 := fun x k x1 x2 => by
    unfold IM0
    rw [if_neg x1, if_neg x2]
    rfl
  have c113 : ∀ r, r < 3 → IM0 113 r = mI 1 := by decide
  exact start_gen z (by rw [q1]; rfl) (by rw [q1]; rfl) (by rw [q1]; rfl) (by rw [q1]; rfl) (by rw [q1]; rfl) (by rw [q67]; rfl) (by rw [q67]; rfl) (by rw [q67]; rfl) (by rw [q67]; rfl) (by rw [q67]; rfl) h1 h2 h3 zm rfl rfl rfl rfl rfl rfl rfl rfl c113 rfl (by rw [RR1_eq]; rfl) (by rw [RR1_eq]; rfl) (by rw [RR1_eq]; rfl)
