section
variable {I : HI} {R : HR} {J : HI} {t b nh no nl fu : Nat} {D : HI}
theorem OS.debt {K V : HI} (h : OS I J K V nh no nl) {k x : Nat} (hk : k < 36) (hx : x ≤ 9999) : OS I J (sI K 62 k (nI x)) (sI V 131 (36 + k) (nI x)) nh no nl := by
  obtain ⟨a1, a2, a3, a4, a5, a6, a7⟩ := h
  have es : sc (sI K 62 k (nI x)) 58 = sI (sc K 58) 4 k (nI x) := sc_put (s := 58) (a := 4) (by decide)
  refine ⟨fun z hz => by rw [zs_ne (by omega)]; exact a1 z hz, fun z hz => by rw [zs_ne (by omega)]; exact a2 z hz, fun v hv => by rw [zs_ne (by decide)]; exact a3 v hv, fun j hj => by rw [zs_ne (by decide), zs_ne (by decide), zs_ne (by decide)]; exact a4 j hj, fun j hj => by rw [zs_eq, zs_other (by omega)]; exact a5 j hj, ?_, ?_⟩
  · rw [es]
    obtain ⟨h1, h2, h3, h4⟩ := a6
    refine ⟨?_, fun j hj => ?_, fun j hj => ?_, fun j hj => by
      rw [zs_ne (show 1 ≠ 4 by decide)]
      show sc K 58 1 j = sI V 131 (36 + k) (nI x) 128 (8 * 1 + j)
      rw [zs_ne (by decide)]
      exact h4 j hj⟩
    · rw [zs_ne (by decide)]
      show sc K 58 0 1 = sI V 131 (36 + k) (nI x) 127 1
      rw [zs_ne (by decide)]
      exact h1
    · rw [zs_ne (show 1 ≠ 4 by decide), zs_ne (show 2 ≠ 4 by decide), zs_ne (show 3 ≠ 4 by decide)]
      show sc K 58 1 j = sI V 131 (36 + k) (nI x) 128 (8 * 1 + j) ∧ sc K 58 2 j = sI V 131 (36 + k) (nI x) 129 (8 * 1 + j) ∧ sc K 58 3 j = sI V 131 (36 + k) (nI x) 130 (8 * 1 + j)
      rw [zs_ne (by decide), zs_ne (by decide), zs_ne (by decide)]
      exact h2 j hj
    · rw [zs_eq]
      show upd (sc K 58 4) k (nI x) j = sI V 131 (36 + k) (nI x) 131 (36 * 1 + j)
      rw [zs_eq, Nat.mul_one]
      by_cases c : j = k
      · subst c; rw [zs_same, zs_same]
      · rw [zs_other c, zs_other (by omega), h3 j hj]
        show V 131 (36 * 1 + j) = _
        rw [Nat.mul_one]
  · rw [es]
    refine ⟨by rw [zs_ne (by decide)]; exact a7.1, by rw [zs_ne (by decide), zs_ne (by decide), zs_ne (by decide)]; exact a7.2.1, fun j hj => ?_⟩
    rw [zs_eq]
    by_cases c : j = k
    · subst c; rw [zs_same]; exact ⟨x, hx, rfl⟩
    · rw [zs_other c]; exact a7.2.2 j hj
theorem debts2_O (hC : CL I R 58 t nh no nl) (hM : ML J b nh no nl D) {o : Nat → Nat} (ho : ∀ k, k < 1600 → o k < 256 ∧ I 2 k = nI (o k) ∧ J 101 k = nI (o k)) {a : Nat} (ha : a < no) : ∀ (q i n : Nat) (K V : HI), i + q = no → q < n → OS I J K V nh no nl → (∃ K' V', f_X6_restoresDebts_L21 n K R 2 1600 58 (nI (2 + 4 * nl + 2 * (no * a + i))) (nI a) (nI i) = some (.inl (0, K')) ∧ f_X12_comesOn_L216 n V (nI (2 + 4 * nl)) (nI no) (nI a) (nI i) = some (.inl (0, V')) ∧ SX t I K' ∧ SM J V') ∨ (∃ K' V', f_X6_restoresDebts_L21 n K R 2 1600 58 (nI (2 + 4 * nl + 2 * (no * a + i))) (nI a) (nI i) = some (.inr (nI (2 + 4 * nl + 2 * (no * (a + 1))), K')) ∧ f_X12_comesOn_L216 n V (nI (2 + 4 * nl)) (nI no) (nI a) (nI i) = some (.inr V') ∧ OS I J K' V' nh no nl ∧ ∀ x, x ≠ 62 → K' x = K x) := by
  have h8 := hC.2.2.2.2.2.2.2.2.1
  have h9 := hC.2.2.2.2.2.2.2.2.2
  have ht := hC.2.2.1
  have hmul : no * (a + 1) ≤ 6 * 6 := Nat.mul_le_mul h8 (by omega)
  have hms : no * (a + 1) = no * a + no := Nat.mul_succ _ _
  intro q
  induction q with
  | zero =>
    intro i n K V e1 e2 h
    obtain ⟨n, rfl⟩ : ∃ q, n = q + 1 := ⟨n - 1, by omega⟩
    have : i = no := by omega
    subst this
    obtain ⟨g0, g1, g2, g3, g4, g5, g6, g7, g8, g9⟩ := h.CL hC
    right
    refine ⟨K, V, ?_, ?_, h, fun _ _ => rfl⟩
    · rw [hms]
      simp (disch := omega) only [f_X6_restoresDebts_L21, sdm, ↓zm1, ↓zm2, ↓zm3, ↓zm4, ↓zm5, ↓zm6, ↓zm7, ↓zm8, ↓zm9, ↓zm10, ↓zm11, ↓zm12, ↓zm13, ↓zm14, ↓zm15, ↓zm16, ↓zm17, ↓zm18, ↓zm19, ↓zm20, ↓zm1000000000, zq0, zq1, zq2, zq3, zq4, zq5, zq6, zq7, zq8, zq9, zq10, zq11, zq12, zq13, zq14, zq15, zq16, zq17, zq18, zq19, zq20, zq21, zq22, zq23, zq24, zq25, zq26, zq30, zq31, zq32, zq33, zq34, zq35, zq36, zq37, zq38, zq39, zq40, zq41, zq42, zq43, zq44, zq45, zq47, zq48, zq57, zq59, zq60, zq61, zq62, zq80, zq91, zq93, zq97, zq99, zq100, zq107, zq110, zq120, zq122, zq128, zq149, zq160, zq208, zq240, zq251, zq255, zq256, zq500, zq936, zq999, zq1600, zq1800, zq2048, zq3200, zq4160, zq9999, zq12345, zq1000000, zq1048576, zq100000000, bnd, jnt, zg_ok, gz_0, gz_1, gz_n0, gz_n1, zs_eq, zs_ne, zs_same, zs_other, zA_eq, zA_ne, Option.bind_some, Option.bind_none, nI_add, pk_mul, nI_clamp, nI_leI, nI_ltI, nI_eq, pk_sub, nI_mI, nI_eq_mI, mI_eq_nI, nI_lt_m, ldI_ok, inb_ok, if_pos, if_neg, dv_ok, rem_ok, div_ok, if_true, if_false, zg_ok g0, g1, g5]
    · simp (disch := omega) only [f_X12_comesOn_L216, sdm, ↓zm1, ↓zm2, ↓zm3, ↓zm4, ↓zm5, ↓zm6, ↓zm7, ↓zm8, ↓zm9, ↓zm10, ↓zm11, ↓zm12, ↓zm13, ↓zm14, ↓zm15, ↓zm16, ↓zm17, ↓zm18, ↓zm19, ↓zm20, ↓zm1000000000, zq0, zq1, zq2, zq3, zq4, zq5, zq6, zq7, zq8, zq9, zq10, zq11, zq12, zq13, zq14, zq15, zq16, zq17, zq18, zq19, zq20, zq21, zq22, zq23, zq24, zq25, zq26, zq30, zq31, zq32, zq33, zq34, zq35, zq36, zq37, zq38, zq39, zq40, zq41, zq42, zq43, zq44, zq45, zq47, zq48, zq57, zq59, zq60, zq61, zq62, zq80, zq91, zq93, zq97, zq99, zq100, zq107, zq110, zq120, zq122, zq128, zq149, zq160, zq208, zq240, zq251, zq255, zq256, zq500, zq936, zq999, zq1600, zq1800, zq2048, zq3200, zq4160, zq9999, zq12345, zq1000000, zq1048576, zq100000000, bnd, jnt, zg_ok, gz_0, gz_1, gz_n0, gz_n1, zs_eq, zs_ne, zs_same, zs_other, zA_eq, zA_ne, Option.bind_some, Option.bind_none, nI_add, pk_mul, nI_clamp, nI_leI, nI_ltI, nI_eq, pk_sub, nI_mI, nI_eq_mI, mI_eq_nI, nI_lt_m, ldI_ok, inb_ok, if_pos, if_neg, dv_ok, rem_ok, div_ok, if_true, if_false]
  | succ q ih =>
    intro i n K V e1 e2 h
    obtain ⟨n, rfl⟩ : ∃ q, n = q + 1 := ⟨n - 1, by omega⟩
    obtain ⟨g0, g1, g2, g3, g4, g5, g6, g7, g8, g9⟩ := h.CL hC
    have k2 : K 2 = I 2 := h.1 2 (by omega)
    have v101 : V 101 = J 101 := h.2.1 101 (by decide)
    obtain ⟨at0, hat⟩ : ∃ at0, at0 = 2 + 4 * nl + 2 * (no * a + i) := ⟨_, rfl⟩
    have hat2 : at0 + 1 < 1600 := by omega
    obtain ⟨p1, p2, p3⟩ := ho at0 (by omega)
    obtain ⟨r1, r2, r3⟩ := ho (at0 + 1) (by omega)
    rw [← k2] at p2 r2
    rw [← v101] at p3 r3
    have tM := two_M (J := V) (k := at0) (by omega) p3 r3 p1 r1
    obtain ⟨x, hx⟩ : ∃ x, x = o at0 * 256 + o (at0 + 1) := ⟨_, rfl⟩
    rw [← hx] at tM
    have tC : f_X6_pair K 2 1600 (nI at0) = some (nI x) := by
      unfold f_X6_pair
      simp (disch := omega) only [sdm, ↓zm1, ↓zm2, ↓zm3, ↓zm4, ↓zm5, ↓zm6, ↓zm7, ↓zm8, ↓zm9, ↓zm10, ↓zm11, ↓zm12, ↓zm13, ↓zm14, ↓zm15, ↓zm16, ↓zm17, ↓zm18, ↓zm19, ↓zm20, ↓zm1000000000, zq0, zq1, zq2, zq3, zq4, zq5, zq6, zq7, zq8, zq9, zq10, zq11, zq12, zq13, zq14, zq15, zq16, zq17, zq18, zq19, zq20, zq21, zq22, zq23, zq24, zq25, zq26, zq30, zq31, zq32, zq33, zq34, zq35, zq36, zq37, zq38, zq39, zq40, zq41, zq42, zq43, zq44, zq45, zq47, zq48, zq57, zq59, zq60, zq61, zq62, zq80, zq91, zq93, zq97, zq99, zq100, zq107, zq110, zq120, zq122, zq128, zq149, zq160, zq208, zq240, zq251, zq255, zq256, zq500, zq936, zq999, zq1600, zq1800, zq2048, zq3200, zq4160, zq9999, zq12345, zq1000000, zq1048576, zq100000000, bnd, jnt, zg_ok, gz_0, gz_1, gz_n0, gz_n1, zs_eq, zs_ne, zs_same, zs_other, zA_eq, zA_ne, Option.bind_some, Option.bind_none, nI_add, pk_mul, nI_clamp, nI_leI, nI_ltI, nI_eq, pk_sub, nI_mI, nI_eq_mI, mI_eq_nI, nI_lt_m, ldI_ok, inb_ok, if_pos, if_neg, dv_ok, rem_ok, div_ok, if_true, if_false, p2, r2, ← hx]
    have eM : nI (2 + 4 * nl) + nI 2 * (nI no * nI a + nI i) = nI at0 := by
      rw [pk_mul, nI_add, pk_mul, nI_add, hat]
    have tM' : f_X12_twoBytes V (nI (2 + 4 * nl + 2 * (no * a + i))) = some (nI x) := by rw [← hat]; exact tM
    rw [← hat]
    have hxl : x < 65536 := by omega
    by_cases c : x ≤ 9999 ∧ (a = i → x = 0)
    · have hO := h.debt (k := 6 * a + i) (x := x) (by omega) c.1
      have sC : f_X6_restoresDebts_L21 (n + 1) K R 2 1600 58 (nI at0) (nI a) (nI i) = f_X6_restoresDebts_L21 n (sI K 62 (6 * a + i) (nI x)) R 2 1600 58 (nI (2 + 4 * nl + 2 * (no * a + (i + 1)))) (nI a) (nI (i + 1)) := by
        rw [show 2 + 4 * nl + 2 * (no * a + (i + 1)) = at0 + 2 by omega]
        by_cases ca : a = i
        · have cx := c.2 ca
          simp (disch := omega) only [f_X6_restoresDebts_L21, sdm, ↓zm1, ↓zm2, ↓zm3, ↓zm4, ↓zm5, ↓zm6, ↓zm7, ↓zm8, ↓zm9, ↓zm10, ↓zm11, ↓zm12, ↓zm13, ↓zm14, ↓zm15, ↓zm16, ↓zm17, ↓zm18, ↓zm19, ↓zm20, ↓zm1000000000, zq0, zq1, zq2, zq3, zq4, zq5, zq6, zq7, zq8, zq9, zq10, zq11, zq12, zq13, zq14, zq15, zq16, zq17, zq18, zq19, zq20, zq21, zq22, zq23, zq24, zq25, zq26, zq30, zq31, zq32, zq33, zq34, zq35, zq36, zq37, zq38, zq39, zq40, zq41, zq42, zq43, zq44, zq45, zq47, zq48, zq57, zq59, zq60, zq61, zq62, zq80, zq91, zq93, zq97, zq99, zq100, zq107, zq110, zq120, zq122, zq128, zq149, zq160, zq208, zq240, zq251, zq255, zq256, zq500, zq936, zq999, zq1600, zq1800, zq2048, zq3200, zq4160, zq9999, zq12345, zq1000000, zq1048576, zq100000000, bnd, jnt, zg_ok, gz_0, gz_1, gz_n0, gz_n1, zs_eq, zs_ne, zs_same, zs_other, zA_eq, zA_ne, Option.bind_some, Option.bind_none, nI_add, pk_mul, nI_clamp, nI_leI, nI_ltI, nI_eq, pk_sub, nI_mI, nI_eq_mI, mI_eq_nI, nI_lt_m, ldI_ok, inb_ok, if_pos, if_neg, dv_ok, rem_ok, div_ok, if_true, if_false, zg_ok g0, g1, g5, tC, Nat.mul_comm a 6]
        · simp (disch := omega) only [f_X6_restoresDebts_L21, sdm, ↓zm1, ↓zm2, ↓zm3, ↓zm4, ↓zm5, ↓zm6, ↓zm7, ↓zm8, ↓zm9, ↓zm10, ↓zm11, ↓zm12, ↓zm13, ↓zm14, ↓zm15, ↓zm16, ↓zm17, ↓zm18, ↓zm19, ↓zm20, ↓zm1000000000, zq0, zq1, zq2, zq3, zq4, zq5, zq6, zq7, zq8, zq9, zq10, zq11, zq12, zq13, zq14, zq15, zq16, zq17, zq18, zq19, zq20, zq21, zq22, zq23, zq24, zq25, zq26, zq30, zq31, zq32, zq33, zq34, zq35, zq36, zq37, zq38, zq39, zq40, zq41, zq42, zq43, zq44, zq45, zq47, zq48, zq57, zq59, zq60, zq61, zq62, zq80, zq91, zq93, zq97, zq99, zq100, zq107, zq110, zq120, zq122, zq128, zq149, zq160, zq208, zq240, zq251, zq255, zq256, zq500, zq936, zq999, zq1600, zq1800, zq2048, zq3200, zq4160, zq9999, zq12345, zq1000000, zq1048576, zq100000000, bnd, jnt, zg_ok, gz_0, gz_1, gz_n0, gz_n1, zs_eq, zs_ne, zs_same, zs_other, zA_eq, zA_ne, Option.bind_some, Option.bind_none, nI_add, pk_mul, nI_clamp, nI_leI, nI_ltI, nI_eq, pk_sub, nI_mI, nI_eq_mI, mI_eq_nI, nI_lt_m, ldI_ok, inb_ok, if_pos, if_neg, dv_ok, rem_ok, div_ok, if_true, if_false, zg_ok g0, g1, g5, tC, Nat.mul_comm a 6]
      have sM : f_X12_comesOn_L216 (n + 1) V (nI (2 + 4 * nl)) (nI no) (nI a) (nI i) = f_X12_comesOn_L216 n (sI V 131 (36 + (6 * a + i)) (nI x)) (nI (2 + 4 * nl)) (nI no) (nI a) (nI (i + 1)) := by
        have e36 : 36 + 6 * a + i = 36 + (6 * a + i) := by omega
        by_cases ca : a = i
        · have cx := c.2 ca
          have c1 : ¬ nI no ≤ nI i := nI_ge (by omega) (by omega)
          have c2 : ¬ nI 9999 < nI x := nI_nlt (by omega) (by omega)
          have c3 : nI a = nI i := by rw [ca]
          have c4 : nI x ≤ nI 0 := nI_le (by omega) (by decide)
          simp (disch := omega) only [f_X12_comesOn_L216, zq2, zq9999, zq36, zq6, zq1, zq0, if_neg c1, tM', Option.bind_some, if_neg c2, jnt, if_pos c3, if_pos c4, pk_mul, nI_add, e36, inb_ok, bnd, nI_clamp]
        · have c1 : ¬ nI no ≤ nI i := nI_ge (by omega) (by omega)
          have c2 : ¬ nI 9999 < nI x := nI_nlt (by omega) (by omega)
          have c3 : ¬ nI a = nI i := fun z => ca ((nI_eq (by omega) (by omega)).mp z)
          simp (disch := omega) only [f_X12_comesOn_L216, zq2, zq9999, zq36, zq6, zq1, zq0, if_neg c1, tM', Option.bind_some, if_neg c2, jnt, if_neg c3, pk_mul, nI_add, e36, inb_ok, bnd, nI_clamp]
      rw [sC, sM]
      rcases ih (i + 1) n _ _ (by omega) (by omega) hO with z | ⟨K', V', z1, z2, z3, z4⟩
      · exact Or.inl z
      · exact Or.inr ⟨K', V', z1, z2, z3, fun y hy => by rw [z4 y hy, zs_ne hy]⟩
    · left
      have c1 : ¬ nI no ≤ nI i := nI_ge (by omega) (by omega)
      by_cases cx : x ≤ 9999
      · have ca : a = i := Decidable.byContradiction (fun z => c ⟨cx, fun w => absurd w z⟩)
        have cx0 : ¬ x = 0 := fun z => c ⟨cx, fun _ => z⟩
        have c2 : ¬ nI 9999 < nI x := nI_nlt (by omega) (by omega)
        have c3 : nI a = nI i := by rw [ca]
        have c4 : ¬ nI x ≤ nI 0 := nI_ge (by omega) (by omega)
        refine ⟨K, V, ?_, ?_, h.SX ht, h.SM⟩
        · simp (disch := omega) only [f_X6_restoresDebts_L21, zg_ok g0, g1, g5, if_neg c1, tC, Option.bind_some, zq9999, zq0, if_neg c2, jnt, if_pos c3, if_neg c4, gz_n0, pk_mul, nI_add]
        · simp (disch := omega) only [f_X12_comesOn_L216, zq2, zq9999, zq36, zq6, zq1, zq0, if_neg c1, tM', Option.bind_some, if_neg c2, jnt, if_pos c3, if_neg c4, gz_n0, pk_mul, nI_add]
      · have c2 : nI 9999 < nI x := nI_lt (by omega) (by omega)
        refine ⟨K, V, ?_, ?_, h.SX ht, h.SM⟩
        · simp (disch := omega) only [f_X6_restoresDebts_L21, zg_ok g0, g1, g5, if_neg c1, tC, Option.bind_some, zq9999, zq0, if_pos c2, gz_n0, pk_mul, nI_add]
        · simp (disch := omega) only [f_X12_comesOn_L216, zq2, zq9999, zq36, zq6, zq1, zq0, if_neg c1, tM', Option.bind_some, if_pos c2, gz_n0, pk_mul, nI_add]
theorem debts_O (hC : CL I R 58 t nh no nl) (hM : ML J b nh no nl D) {o : Nat → Nat} (ho : ∀ k, k < 1600 → o k < 256 ∧ I 2 k = nI (o k) ∧ J 101 k = nI (o k)) (hf : 8 < fu) : ∀ (q i n : Nat) (K V : HI), i + q = no → q < n → OS I J K V nh no nl → (∃ K' V', f_X6_restoresDebts_L6 fu n K R 2 1600 58 (nI (2 + 4 * nl + 2 * (no * i))) (nI i) = some (.inl (0, K')) ∧ f_X12_comesOn_L207 fu n V (nI (2 + 4 * nl)) (nI no) (nI i) = some (.inl (0, V')) ∧ SX t I K' ∧ SM J V') ∨ (∃ K' V', f_X6_restoresDebts_L6 fu n K R 2 1600 58 (nI (2 + 4 * nl + 2 * (no * i))) (nI i) = some (.inr K') ∧ f_X12_comesOn_L207 fu n V (nI (2 + 4 * nl)) (nI no) (nI i) = some (.inr V') ∧ OS I J K' V' nh no nl ∧ ∀ x, x ≠ 62 → K' x = K x) := by
  have h8 := hC.2.2.2.2.2.2.2.2.1
  intro q
  induction q with
  | zero =>
    intro i n K V e1 e2 h
    obtain ⟨n, rfl⟩ : ∃ q, n = q + 1 := ⟨n - 1, by omega⟩
    have : i = no := by omega
    subst this
    obtain ⟨g0, g1, g2, g3, g4, g5, g6, g7, g8, g9⟩ := h.CL hC
    right
    refine ⟨K, V, ?_, ?_, h, fun _ _ => rfl⟩
    · simp (disch := omega) only [f_X6_restoresDebts_L6, zg_ok g0, g1, g5, nI_leI, if_pos, Nat.le_refl, if_true]
    · simp (disch := omega) only [f_X12_comesOn_L207, nI_leI, if_pos, Nat.le_refl, if_true]
  | succ q ih =>
    intro i n K V e1 e2 h
    obtain ⟨n, rfl⟩ : ∃ q, n = q + 1 := ⟨n - 1, by omega⟩
    obtain ⟨g0, g1, g2, g3, g4, g5, g6, g7, g8, g9⟩ := h.CL hC
    have c1 : ¬ nI no ≤ nI i := nI_ge (by omega) (by omega)
    rcases debts2_O hC hM ho (a := i) (by omega) no 0 fu K V (by omega) (by omega) h with ⟨K', V', a1, a2, a3, a4⟩ | ⟨K', V', a1, a2, a3, a4⟩
    · left
      rw [Nat.add_zero] at a1
      have a1' : f_X6_restoresDebts_L21 fu K R 2 1600 58 (nI (2 + 4 * nl + 2 * (no * i))) (nI i) 0 = _ := a1
      have a2' : f_X12_comesOn_L216 fu V (nI (2 + 4 * nl)) (nI no) (nI i) 0 = _ := a2
      refine ⟨K', V', ?_, ?_, a3, a4⟩
      · simp only [f_X6_restoresDebts_L6, zg_ok g0, g1, g5, if_neg c1, a1', Option.bind_some, Sum.elim_inl]
      · simp only [f_X12_comesOn_L207, if_neg c1, a2', Option.bind_some, Sum.elim_inl]
    · rw [Nat.add_zero] at a1
      have a1' : f_X6_restoresDebts_L21 fu K R 2 1600 58 (nI (2 + 4 * nl + 2 * (no * i))) (nI i) 0 = _ := a1
      have a2' : f_X12_comesOn_L216 fu V (nI (2 + 4 * nl)) (nI no) (nI i) 0 = _ := a2
      have sC : f_X6_restoresDebts_L6 fu (n + 1) K R 2 1600 58 (nI (2 + 4 * nl + 2 * (no * i))) (nI i) = f_X6_restoresDebts_L6 fu n K' R 2 1600 58 (nI (2 + 4 * nl + 2 * (no * (i + 1)))) (nI (i + 1)) := by
        simp only [f_X6_restoresDebts_L6, zg_ok g0, g1, g5, if_neg c1, a1', Option.bind_some, Sum.elim_inr, zq1, nI_add]
      have sM : f_X12_comesOn_L207 fu (n + 1) V (nI (2 + 4 * nl)) (nI no) (nI i) = f_X12_comesOn_L207 fu n V' (nI (2 + 4 * nl)) (nI no) (nI (i + 1)) := by
        simp only [f_X12_comesOn_L207, if_neg c1, a2', Option.bind_some, Sum.elim_inr, zq1, nI_add]
      rw [sC, sM]
      rcases ih (i + 1) n K' V' (by omega) (by omega) a3 with z | ⟨K'', V'', z1, z2, z3, z4⟩
      · exact Or.inl z
      · exact Or.inr ⟨K'', V'', z1, z2, z3, fun y hy => by rw [z4 y hy, a4 y hy]⟩
end
theorem rmI_c {D S S' : HI} {h : Nat} (h1 : S 1 = S' 1) (h2 : S 2 = S' 2) : ∀ n, rmI D S h n = rmI D S' h n := by
  intro n
  induction n with
  | zero => rfl
  | succ n ih =>
    show rmI D S h n - (if S 2 n = nI h then S 1 n else 0) = rmI D S' h n - (if S' 2 n = nI h then S' 1 n else 0)
    rw [ih, h1, h2]
theorem check_O {I J : HI} {z : Nat} (hz : z + 1 ≤ 107) {o : Nat → Nat} (ho : ∀ k, k < 1600 → o k < 256 ∧ I 2 k = nI (o k) ∧ J 101 k = nI (o k)) : ∀ (q i n c : Nat), i + q = z → q < n → c < 251 → ∃ c', c' < 251 ∧ f_X6_check_L6 n I 2 1600 (nI z) (nI c) (nI i) = some (nI c') ∧ f_X12_comesOn_L58 n J (nI (z + 1)) (nI c) (nI i) = some (nI c') := by
  have ez : nI (z + 1) - nI 1 = nI z := by rw [pk_sub (by omega)]; rfl
  intro q
  induction q with
  | zero =>
    intro i n c e1 e2 hc
    obtain ⟨n, rfl⟩ : ∃ q, n = q + 1 := ⟨n - 1, by omega⟩
    have : i = z := by omega
    subst this
    refine ⟨c, hc, ?_, ?_⟩
    · simp (disch := omega) only [f_X6_check_L6, sdm, ↓zm1, ↓zm2, ↓zm3, ↓zm4, ↓zm5, ↓zm6, ↓zm7, ↓zm8, ↓zm9, ↓zm10, ↓zm11, ↓zm12, ↓zm13, ↓zm14, ↓zm15, ↓zm16, ↓zm17, ↓zm18, ↓zm19, ↓zm20, ↓zm1000000000, zq0, zq1, zq2, zq3, zq4, zq5, zq6, zq7, zq8, zq9, zq10, zq11, zq12, zq13, zq14, zq15, zq16, zq17, zq18, zq19, zq20, zq21, zq22, zq23, zq24, zq25, zq26, zq30, zq31, zq32, zq33, zq34, zq35, zq36, zq37, zq38, zq39, zq40, zq41, zq42, zq43, zq44, zq45, zq47, zq48, zq57, zq59, zq60, zq61, zq62, zq80, zq91, zq93, zq97, zq99, zq100, zq107, zq110, zq120, zq122, zq128, zq149, zq160, zq208, zq240, zq251, zq255, zq256, zq500, zq936, zq999, zq1600, zq1800, zq2048, zq3200, zq4160, zq9999, zq12345, zq1000000, zq1048576, zq100000000, bnd, jnt, zg_ok, gz_0, gz_1, gz_n0, gz_n1, zs_eq, zs_ne, zs_same, zs_other, zA_eq, zA_ne, Option.bind_some, Option.bind_none, nI_add, pk_mul, nI_clamp, nI_leI, nI_ltI, nI_eq, pk_sub, nI_mI, nI_eq_mI, mI_eq_nI, nI_lt_m, ldI_ok, inb_ok, if_pos, if_neg, dv_ok, rem_ok, div_ok, if_true, if_false]
    · simp (disch := omega) only [f_X12_comesOn_L58, zq1, ez, nI_leI, if_pos, Nat.le_refl, if_true]
  | succ q ih =>
    intro i n c e1 e2 hc
    obtain ⟨n, rfl⟩ : ∃ q, n = q + 1 := ⟨n - 1, by omega⟩
    obtain ⟨x1, x2, x3⟩ := ho i (by omega)
    obtain ⟨c', c1, c2, c3⟩ := ih (i + 1) n ((5 * c + o i) % 251) (by omega) (by omega) (by omega)
    refine ⟨c', c1, ?_, ?_⟩
    · rw [← c2]
      simp (disch := omega) only [f_X6_check_L6, sdm, ↓zm1, ↓zm2, ↓zm3, ↓zm4, ↓zm5, ↓zm6, ↓zm7, ↓zm8, ↓zm9, ↓zm10, ↓zm11, ↓zm12, ↓zm13, ↓zm14, ↓zm15, ↓zm16, ↓zm17, ↓zm18, ↓zm19, ↓zm20, ↓zm1000000000, zq0, zq1, zq2, zq3, zq4, zq5, zq6, zq7, zq8, zq9, zq10, zq11, zq12, zq13, zq14, zq15, zq16, zq17, zq18, zq19, zq20, zq21, zq22, zq23, zq24, zq25, zq26, zq30, zq31, zq32, zq33, zq34, zq35, zq36, zq37, zq38, zq39, zq40, zq41, zq42, zq43, zq44, zq45, zq47, zq48, zq57, zq59, zq60, zq61, zq62, zq80, zq91, zq93, zq97, zq99, zq100, zq107, zq110, zq120, zq122, zq128, zq149, zq160, zq208, zq240, zq251, zq255, zq256, zq500, zq936, zq999, zq1600, zq1800, zq2048, zq3200, zq4160, zq9999, zq12345, zq1000000, zq1048576, zq100000000, bnd, jnt, zg_ok, gz_0, gz_1, gz_n0, gz_n1, zs_eq, zs_ne, zs_same, zs_other, zA_eq, zA_ne, Option.bind_some, Option.bind_none, nI_add, pk_mul, nI_clamp, nI_leI, nI_ltI, nI_eq, pk_sub, nI_mI, nI_eq_mI, mI_eq_nI, nI_lt_m, ldI_ok, inb_ok, if_pos, if_neg, dv_ok, rem_ok, div_ok, if_true, if_false, x2]
    · rw [← c3]
      have k1 : ¬ nI z ≤ nI i := nI_ge (by omega) (by omega)
      simp (disch := omega) only [f_X12_comesOn_L58, zq1, ez, if_neg k1, zq251, zq5, ldI_ok, x3, dv_ok, pk_mul, nI_add, rem_ok, bnd]
theorem eq_on : Eq_on Rel := by
  intro n I R J M hn hR
  obtain ⟨t, b, nh, no, nl, h⟩ := hR
  obtain ⟨T, T1, T2, T3, o, ho⟩ := h.tape
  have h0 := Rel_tape h (T := 0) (by omega)
  obtain ⟨I1, hI1⟩ : ∃ I1, I1 = sI I 1 1 (nI 0) := ⟨_, rfl⟩
  obtain ⟨J1, hJ1⟩ : ∃ J1, J1 = sI J 100 1 (nI 0) := ⟨_, rfl⟩
  rw [← hI1, ← hJ1] at h0
  have tk : f_X11_takeTape I = some (nI T, I1) := by
    unfold f_X11_takeTape
    rw [T2, hI1]
    rfl
  have hJ0 : sI J 100 1 0 = J1 := by rw [hJ1]; rfl
  have o1 : ∀ k, k < 1600 → o k < 256 ∧ I1 2 k = nI (o k) ∧ J1 101 k = nI (o k) := fun k hk => by
    rw [hI1, hJ1, zs_ne (by decide), zs_ne (by decide)]
    exact ho k hk
  obtain ⟨hC, hL, hM, hE, hS, hB, hB', h1⟩ := h0.get
  have h7 := hC.2.2.2.2.2.2.2.1
  have h8 := hC.2.2.2.2.2.2.2.2.1
  have h9 := hC.2.2.2.2.2.2.2.2.2
  have ht := hC.2.2.1
  have hfu := FU_big.1
  have n3 : ¬ (1 : Int32) = 0 := by decide
  obtain ⟨I2, J2, q1, q2, q3, q4, q5, q6, q7, q8⟩ := ahead_R (fu := FU) h0 FU_big.1
  obtain ⟨R2, hR2⟩ : ∃ R2, R2 = sR R 58 0 (R 49 0) := ⟨_, rfl⟩
  rw [← hR2] at q1 q3 q6
  have hC2 := q3.1
  obtain ⟨g0, g1, g2, g3, g4, g5, g6, g7, g8, g9⟩ := id hC2
  obtain ⟨⟨m0, m1⟩, m2, m3, m4, m5, m6, m7, m8, m9, m10⟩ := id hM
  have hmul : no * no ≤ 6 * 6 := Nat.mul_le_mul h8 h8
  have fail : ∀ K V, SX t I1 K → SM J1 V → ∃ (r : Int32) (I' : HI) (R' : HR) (J' : HI), ((f_X11_refuse K 5).bind fun x4 => gz 0 (some ((0 : Int32), x4.2, R2))) = some (r, I', R') ∧ ((f_X12_refuses V 5).bind fun x3 => if x3.1 < 0 then gz 0 (some ((0 : Int32), x3.2)) else gz 1 (some (1, x3.2))) = some (r, J') ∧ Rel (n + 6) I' R' J' M := by
    intro K V z1 z2
    have r1 : f_X11_refuse K 5 = _ := refuse_C (I := K) (k := 5) (by decide)
    have r2 : f_X12_refuses V 5 = _ := refuses_M (J := V) (k := 5) (by decide)
    exact ⟨0, _, R2, _, by rw [r1]; rfl, by rw [r2]; rfl, (Rel_ref (Rel_same h0 (by omega) z1 q6 z2 SL.refl) (k := 5) (by decide)).rel⟩
  have e3 : (2 * nI no) * nI no = nI (2 * (no * no)) := by
    rw [zq2, pk_mul, pk_mul, Nat.mul_assoc]
  have esz : f_X6_sizeFor I2 t = some (nI (2 + 4 * nl + 2 * (no * no) + 1)) := by
    unfold f_X6_sizeFor
    rw [g5, g6, e3, zq2, zq4, zq1, pk_mul, nI_add, nI_add, nI_add]
  obtain ⟨z, hz⟩ : ∃ z, z = 2 + 4 * nl + 2 * (no * no) := ⟨_, rfl⟩
  rw [← hz] at esz
  have k2 : I2 2 = I1 2 := q8 2 (by omega)
  have o2 : ∀ k, k < 1600 → o k < 256 ∧ I2 2 k = nI (o k) ∧ J1 101 k = nI (o k) := fun k hk => by rw [k2]; exact o1 k hk
  have eszM : (2 + (4 * nI nl)) + ((2 * nI no) * nI no) + 1 = nI (z + 1) := by
    rw [e3, zq2, zq4, zq1, pk_mul, nI_add, nI_add, nI_add, hz]
  have e2nl : (2 : Int32) + 4 * nI nl = nI (2 + 4 * nl) := by
    rw [zq2, zq4, pk_mul, nI_add]
  unfold f_X11_on f_X12_on f_X6_restores f_X12_comesOn
  rw [tk, T3, hJ0]
  simp (disch := omega) only [Option.bind_some, q1, g1, zg_ok g0, esz, bnd, m0, ldI_ok, m3, m4, eszM]
  by_cases cT : T = z + 1
  · have cT' : nI T = nI (z + 1) := by rw [cT]
    obtain ⟨c', cc1, cc2, cc3⟩ := check_O (I := I2) (J := J1) (z := z) (by omega) o2 z 0 FU 149 (by omega) (by omega) (by decide)
    have cc2' : f_X6_check_L6 FU I2 2 1600 (nI z) 149 0 = _ := cc2
    have cc3' : f_X12_comesOn_L58 FU J1 (nI (z + 1)) 149 0 = _ := cc3
    have ez : nI (z + 1) - 1 = nI z := nI_pred z
    obtain ⟨y1, y2, y3⟩ := o2 z (by omega)
    obtain ⟨a1, a2, a3⟩ := o2 0 (by omega)
    obtain ⟨b1, b2, b3⟩ := o2 1 (by omega)
    have tC : f_X6_pair I2 2 1600 0 = some (nI (o 0 * 256 + o 1)) := by
      unfold f_X6_pair
      simp (disch := omega) only [sdm, ↓zm1, ↓zm2, ↓zm3, ↓zm4, ↓zm5, ↓zm6, ↓zm7, ↓zm8, ↓zm9, ↓zm10, ↓zm11, ↓zm12, ↓zm13, ↓zm14, ↓zm15, ↓zm16, ↓zm17, ↓zm18, ↓zm19, ↓zm20, ↓zm1000000000, zq0, zq1, zq2, zq3, zq4, zq5, zq6, zq7, zq8, zq9, zq10, zq11, zq12, zq13, zq14, zq15, zq16, zq17, zq18, zq19, zq20, zq21, zq22, zq23, zq24, zq25, zq26, zq30, zq31, zq32, zq33, zq34, zq35, zq36, zq37, zq38, zq39, zq40, zq41, zq42, zq43, zq44, zq45, zq47, zq48, zq57, zq59, zq60, zq61, zq62, zq80, zq91, zq93, zq97, zq99, zq100, zq107, zq110, zq120, zq122, zq128, zq149, zq160, zq208, zq240, zq251, zq255, zq256, zq500, zq936, zq999, zq1600, zq1800, zq2048, zq3200, zq4160, zq9999, zq12345, zq1000000, zq1048576, zq100000000, bnd, jnt, zg_ok, gz_0, gz_1, gz_n0, gz_n1, zs_eq, zs_ne, zs_same, zs_other, zA_eq, zA_ne, Option.bind_some, Option.bind_none, nI_add, pk_mul, nI_clamp, nI_leI, nI_ltI, nI_eq, pk_sub, nI_mI, nI_eq_mI, mI_eq_nI, nI_lt_m, ldI_ok, inb_ok, if_pos, if_neg, dv_ok, rem_ok, div_ok, if_true, if_false, a2, b2]
    have tM : f_X12_twoBytes J1 0 = some (nI (o 0 * 256 + o 1)) := two_M (J := J1) (k := 0) (by decide) a3 b3 a1 b1
    obtain ⟨x, hx⟩ : ∃ x, x = o 0 * 256 + o 1 := ⟨_, rfl⟩
    rw [← hx] at tC tM
    have s58 : sI I2 58 1 (nI x) 58 1 = nI x := by rw [zs_eq, zs_same]
    have st3 : sI I2 58 1 (nI x) t 3 = nI nl := by rw [zs_ne (by omega)]; exact g6
    have J101 : J2 101 = J1 101 := q5.2.1 101 (by decide)
    have tM2 : f_X12_twoBytes J2 0 = some (nI x) := by
      rw [hx]
      exact two_M (J := J2) (k := 0) (by decide) (by rw [J101]; exact a3) (by rw [J101]; exact b3) a1 b1
    unfold f_X6_check
    simp (disch := omega) only [cT', if_true, ez, ldI_ok, y2, y3, cc2', cc3', tC, tM, Option.bind_some, s58, st3]
    by_cases cs : nI (o z) = nI c'
    · simp only [if_pos cs]
      by_cases cx : x ≤ 9999
      · have cx1 : ¬ (9999 : Int32) < nI x := Int32.not_lt.mpr (nI_le (b := 9999) cx (by decide))
        have cx2 : nI x ≤ 9999 := nI_le (b := 9999) cx (by decide)
        have i1 : ∀ k : Option (Int32 × HI), inb 26 1 k = k := fun k => by rw [zq1, inb_ok (by decide)]
        have t1 : (1 : Int32).toNatClampNeg = 1 := by decide
        simp only [if_neg cx1, if_pos cx2, q2, Option.bind_some, tM2, i1, t1]
        obtain ⟨K0, hK0⟩ : ∃ K0, K0 = sI I2 58 1 (nI x) := ⟨_, rfl⟩
        obtain ⟨V0, hV0⟩ : ∃ V0, V0 = sI (sI J2 127 1 (nI x)) 132 1 0 := ⟨_, rfl⟩
        rw [← hK0, ← hV0]
        have hO0 : OS K0 V0 K0 V0 nh no nl := by
          refine ⟨fun _ _ => rfl, fun _ _ => rfl, fun _ _ => rfl, fun _ _ => ⟨rfl, rfl, rfl⟩, fun _ _ => rfl, ?_, ?_⟩
          · obtain ⟨u1, u2, u3, u4⟩ := q3.2.2.2.1
            rw [hK0, hV0]
            refine ⟨?_, fun k hk => ?_, fun k hk => ?_, fun k hk => by
              have := u4 k hk
              show sI I2 58 1 (nI x) 59 k = sI (sI J2 127 1 (nI x)) 132 1 0 128 (8 * 1 + k)
              simp (disch := omega) only [zs_ne]
              exact this⟩
            · show sI I2 58 1 (nI x) 58 1 = sI (sI J2 127 1 (nI x)) 132 1 0 127 1
              rw [zs_ne (show 127 ≠ 132 by decide), zs_eq, zs_eq, zs_same, zs_same]
            · have := u2 k hk
              show sI I2 58 1 (nI x) 59 k = sI (sI J2 127 1 (nI x)) 132 1 0 128 (8 * 1 + k) ∧ sI I2 58 1 (nI x) 60 k = sI (sI J2 127 1 (nI x)) 132 1 0 129 (8 * 1 + k) ∧ sI I2 58 1 (nI x) 61 k = sI (sI J2 127 1 (nI x)) 132 1 0 130 (8 * 1 + k)
              simp (disch := omega) only [zs_ne]
              exact this
            · have := u3 k hk
              show sI I2 58 1 (nI x) 62 k = sI (sI J2 127 1 (nI x)) 132 1 0 131 (36 * 1 + k)
              simp (disch := omega) only [zs_ne]
              exact this
          · obtain ⟨v1, v2, v3, v4⟩ := hS.se h9 q7
            rw [hK0]
            refine ⟨⟨x, cx, s58⟩, fun l hl => ?_, fun k hk => ?_⟩
            · have := v2 l hl
              show ∃ x_1, x_1 ≤ 999 ∧ sI I2 58 1 (nI x) 59 l = nI x_1 ∧ (x_1 = 0 → sI I2 58 1 (nI x) 60 l = mI 1 ∧ sI I2 58 1 (nI x) 61 l = mI 1) ∧ (0 < x_1 → l < nl ∧ (∃ h, h < nh ∧ sI I2 58 1 (nI x) 60 l = nI h) ∧ ∃ o, o < no ∧ sI I2 58 1 (nI x) 61 l = nI o)
              simp (disch := omega) only [zs_ne]
              exact this
            · have := v3 k hk
              show ∃ x_1, x_1 ≤ 9999 ∧ sI I2 58 1 (nI x) 62 k = nI x_1
              simp (disch := omega) only [zs_ne]
              exact this
        have hx0 : SX t I1 K0 := SX.trans q4 (fun y hy => by rw [hK0]; exact zs_ne (by omega))
        have hm0 : SM J1 V0 := by
          refine SM.trans q5 ⟨fun k _ => ?_, fun y hy => ?_, fun v hv => ⟨?_, ?_⟩, fun k _ => ⟨?_, ?_, ?_⟩, fun k _ => ?_, fun k _ => ?_⟩
          · rw [hV0]; simp (disch := omega) only [zs_ne]
          · rw [hV0]; simp (disch := omega) only [zs_ne]
          · rw [hV0, zs_ne (by decide), zs_eq, zs_other (by omega)]
          · rw [hV0, zs_eq, zs_other (by omega), zs_ne (by decide)]
          · rw [hV0]; simp (disch := omega) only [zs_ne]
          · rw [hV0]; simp (disch := omega) only [zs_ne]
          · rw [hV0]; simp (disch := omega) only [zs_ne]
          · rw [hV0]; simp (disch := omega) only [zs_ne]
          · rw [hV0]; simp (disch := omega) only [zs_ne]
        have hCK : CL K0 R2 58 t nh no nl := by
          have et : K0 t = I2 t := by rw [hK0]; exact zs_ne (by omega)
          exact ⟨g0, g1, g2, g3, by rw [et]; exact g4, by rw [et]; exact g5, by rw [et]; exact g6, g7, g8, g9⟩
        have evK : vw K0 t = vw I2 t := vw_congr (fun a ha => by rw [hK0]; exact zs_ne (by omega))
        have hMV : ML V0 b nh no nl (vw K0 t) := by
          rw [evK]
          exact ML_congr (by rw [hV0]; simp (disch := omega) only [zs_ne]) (fun y y1 y2 => by rw [hV0]; simp (disch := omega) only [zs_ne]) q3.2.2.1
        have oK : ∀ k, k < 1600 → o k < 256 ∧ K0 2 k = nI (o k) ∧ V0 101 k = nI (o k) := fun k hk => by
          rw [hK0, hV0, zs_ne (by decide), zs_ne (by decide), zs_ne (by decide), J101]
          exact o2 k hk
        unfold f_X6_restoresLakes
        rcases lakes_O hCK hMV oK nl 0 FU K0 V0 (by omega) (by omega) hO0 with ⟨K, V, w1, w2, w3, w4⟩ | ⟨K, V, w1, w2, w3⟩
        · have w1' : f_X6_restoresLakes_L2 FU K0 R2 2 1600 58 0 = _ := w1
          have w2' : f_X12_comesOn_L132 FU V0 0 = _ := w2
          simp only [w1', w2', Option.bind_some, Sum.elim_inl, if_true, gz_0]
          exact fail K V (hx0.trans w3) (hm0.trans w4)
        · have w1' : f_X6_restoresLakes_L2 FU K0 R2 2 1600 58 0 = _ := w1
          have w2' : f_X12_comesOn_L132 FU V0 0 = _ := w2
          have evK1 : vw K t = vw K0 t := vw_congr (fun a ha => w3.1 _ (by omega))
          simp only [w1', w2', Option.bind_some, Sum.elim_inr]
          rcases rooms_O (fu := FU) (w3.CL hCK) (by rw [evK1]; exact w3.ML hMV) w3.2.2.2.2.2.1 FU_big.2 nh 0 FU (by omega) (by omega) with ⟨r1, r2⟩ | ⟨r1, r2, r3⟩
          · have r1' : f_X6_restoresLakes_L90 FU FU K R2 58 0 = _ := r1
            have r2' : f_X12_comesOn_L172 FU FU V 0 = _ := r2
            simp only [r1', r2', Option.bind_some, Sum.elim_inl, if_true, gz_0]
            exact fail K V (hx0.trans (w3.SX ht)) (hm0.trans w3.SM)
          · have r1' : f_X6_restoresLakes_L90 FU FU K R2 58 0 = _ := r1
            have r2' : f_X12_comesOn_L172 FU FU V 0 = _ := r2
            simp only [r1', r2', Option.bind_some, Sum.elim_inr, gz_1, if_neg n3]
            unfold f_X6_restoresDebts
            rcases debts_O (fu := FU) hCK hMV oK FU_big.2 no 0 FU K V (by omega) (by omega) w3 with ⟨K', V', d1, d2, d3, d4⟩ | ⟨K', V', d1, d2, d3, d4⟩
            · rw [Nat.mul_zero, Nat.mul_zero, Nat.add_zero] at d1
              have d1' : f_X6_restoresDebts_L6 FU FU K R2 2 1600 58 (2 + 4 * nI nl) 0 = some (.inl (0, K')) := by rw [e2nl]; exact d1
              have d2' : f_X12_comesOn_L207 FU FU V (2 + 4 * nI nl) (nI no) 0 = some (.inl (0, V')) := by rw [e2nl]; exact d2
              simp only [d1', d2', Option.bind_some, Sum.elim_inl, if_true, gz_0]
              exact fail K' V' (hx0.trans d3) (hm0.trans d4)
            · rw [Nat.mul_zero, Nat.mul_zero, Nat.add_zero] at d1
              have d1' : f_X6_restoresDebts_L6 FU FU K R2 2 1600 58 (2 + 4 * nI nl) 0 = some (.inr K') := by rw [e2nl]; exact d1
              have d2' : f_X12_comesOn_L207 FU FU V (2 + 4 * nI nl) (nI no) 0 = some (.inr V') := by rw [e2nl]; exact d2
              simp only [d1', d2', Option.bind_some, Sum.elim_inr, gz_1, if_neg n3]
              have hok : okLd (R2 58 0) = true := by rw [g1]; exact g0
              obtain ⟨I5, s1, s2, s3⟩ := copyFrom_C (I := K') (R := R2) (s := 58) (s' := 49) hok (by decide)
              have v132 : V' 132 1 = nI 0 := by
                rw [d3.2.1 132 (by decide), hV0, zs_eq, zs_same]
                rfl
              obtain ⟨J5, u1, u2⟩ := copies_M (J := V') (to := 0) (fr := 1) FU_big.1 (by decide) (by decide) (by decide) v132 (by decide)
              have u1' : f_X12_copies FU V' 0 1 = some J5 := u1
              refine ⟨1, sI (sI I5 9 3 (nI 0)) 32 1 (nI 0), sR R2 49 0 (R2 58 0), sI J5 100 54 (nI 0), ?_, ?_, ?_⟩
              · unfold f_X11_forgetActs f_X1_forget
                simp only [s1, Option.bind_some, bnd, gz_1]
                rfl
              · simp only [u1', Option.bind_some, bnd, gz_1]
                rfl
              · have uL := u2.lvE
                obtain ⟨c0, c1, c2, c3, c4, c5, c6, c7⟩ := u2
                obtain ⟨I6, hI6⟩ : ∃ I6, I6 = sI (sI I5 9 3 (nI 0)) 32 1 (nI 0) := ⟨_, rfl⟩
                obtain ⟨J6, hJ6⟩ : ∃ J6, J6 = sI J5 100 54 (nI 0) := ⟨_, rfl⟩
                rw [← hI6, ← hJ6]
                have kI : ∀ y, y ≠ 9 → y ≠ 32 → (y < 49 ∨ 54 ≤ y) → (y < 58 ∨ 63 ≤ y) → I6 y = I1 y := fun y y1 y2 y3 y4 => by
                  rw [hI6, zs_ne y2, zs_ne y1, s3 y y3, d3.1 y y4, hK0, zs_ne (by omega)]
                  exact q8 y (by omega)
                have kI9 : I6 9 2 = I1 9 2 := by
                  rw [hI6, zs_ne (by decide), zs_eq, zs_other (by decide), s3 9 (by decide), d3.1 9 (by decide), hK0, zs_ne (by decide), q8 9 (by decide)]
                have kJ : ∀ y, (y < 127 ∨ 134 ≤ y) → y ≠ 100 → J6 y = J2 y := fun y y1 y2 => by
                  rw [hJ6, zs_ne y2, c0 y y1, d3.2.1 y (by omega), hV0, zs_ne (by omega), zs_ne (by omega)]
                have kJ1 : ∀ k, k ≠ 54 → J6 100 k = J2 100 k := fun k hk => by
                  rw [hJ6, zs_eq, zs_other hk, c0 100 (by decide), d3.2.1 100 (by decide), hV0, zs_ne (by omega), zs_ne (by omega)]
                obtain ⟨x1, x2, x3, x4, x5, x6, x7, x8, x9⟩ := h0
                have ev : vw I6 t = vw I1 t := vw_congr (fun a ha => kI _ (by omega) (by omega) (by omega) (by omega))
                have evK2 : vw I2 t = vw I1 t := vw_congr (fun a ha => q8 _ (by omega))
                have es : sc I6 49 = sc I5 49 := by
                  rw [hI6]
                  exact sc_congr (fun a ha => by rw [zs_ne (by omega), zs_ne (by omega)])
                have hSW : SW (vw I1 t) (sc K' 58) nh no nl := by
                  refine ⟨d3.2.2.2.2.2.2.1, d3.2.2.2.2.2.2.2.1, d3.2.2.2.2.2.2.2.2, fun h' hh' => ?_⟩
                  obtain ⟨⟨H, H1, H2⟩, -⟩ := x7.2.2.2.2.2.1.2.2 h' hh'
                  have hb : ∀ l, l < 8 → ∃ y, y ≤ 999 ∧ sc K' 58 1 l = nI y := fun l hl => by
                    obtain ⟨y, y1, y2, _⟩ := d3.2.2.2.2.2.2.2.1 l hl
                    exact ⟨y, y1, y2⟩
                  have hrm : rmI (vw I1 t) (sc K' 58) h' nl = rmI (vw K t) (sc K 58) h' nl := by
                    rw [evK1, evK, evK2]
                    exact rmI_c (show K' 59 = K 59 from d4 59 (by decide)) (show K' 60 = K 60 from d4 60 (by decide)) nl
                  obtain ⟨z1, z2⟩ := rmZ hb H2 H1 nl h9
                  have z3 := r3 h' (by omega) hh'
                  rw [← hrm, Int32.le_iff_toInt_le, z1, zt0] at z3
                  exact ⟨_, by omega, room_mk hb h9 H2 H1 (by omega)⟩
                refine ⟨t, b, nh, no, nl, RTp_c x1 (by rw [kI 1 (by decide) (by decide) (by decide) (by decide)]) (kI 2 (by decide) (by decide) (by decide) (by decide)) (by rw [kJ1 1 (by decide), q5.1 1 (by decide)]) (by rw [kJ 101 (by decide) (by decide), q5.2.1 101 (by decide)]), RFl_c x2 (by rw [kI 1 (by decide) (by decide) (by decide) (by decide)]) (by rw [kI 1 (by decide) (by decide) (by decide) (by decide)]) (by rw [kJ1 10 (by decide), q5.1 10 (by decide)]) (by rw [kJ1 11 (by decide), q5.1 11 (by decide)]), RRf_c x3 (kI 5 (by decide) (by decide) (by decide) (by decide)) (by rw [kJ 126 (by decide) (by decide), q5.2.1 126 (by decide)]), RLt_c x4 (by rw [kI 1 (by decide) (by decide) (by decide) (by decide)]) rfl, RSt_c x5 (by rw [kI 1 (by decide) (by decide) (by decide) (by decide)]) (by rw [kJ1 66 (by decide), q5.1 66 (by decide)]) (kI 3 (by decide) (by decide) (by decide) (by decide)) (kI 4 (by decide) (by decide) (by decide) (by decide)) (by rw [kJ 144 (by decide) (by decide), q5.2.1 144 (by decide)]) (by rw [kJ 145 (by decide) (by decide), q5.2.1 145 (by decide)]), RIm_c x6 (by rw [kI 47 (by decide) (by decide) (by decide) (by decide)]) (by rw [kJ1 70 (by decide), q5.1 70 (by decide)]) (kI 48 (by decide) (by decide) (by decide) (by decide)) (by rw [kJ 146 (by decide) (by decide), q5.2.1 146 (by decide)]), RLd_c x7 (fun y y1 y2 => kI y (by omega) (by omega) (by omega) (by omega)) ⟨by rw [zR_ne (by decide), q6.1], by rw [zR_ne (by decide), q6.2.1], by rw [zR_eq, g1]; exact hC.2.1.symm⟩ (by rw [kJ1 13 (by decide), q5.1 13 (by decide)]) (fun y y1 y2 => by rw [kJ y (by omega) (by omega), q5.2.1 y (by omega)]) ⟨rfl, rfl, rfl⟩, ⟨?_, ?_⟩, ?_⟩
                · rw [es, hJ6]
                  have e : lv (sI J5 100 54 (nI 0)) 0 = lv J5 0 := by
                    funext a k
                    unfold lv
                    rw [zs_ne (by decide), zs_ne (by decide), zs_ne (by decide), zs_ne (by decide), zs_ne (by decide)]
                  rw [e]
                  exact SEp.lr s2.symm d3.2.2.2.2.2.1 uL
                · rw [es, ev]
                  exact hSW.se h9 s2
                · obtain ⟨nx, dp, f, tt, hh⟩ := x9
                  obtain ⟨p1, p2, p3, p4, p5, p6, p7, p8, p9, p10, p11, p12⟩ := hh
                  refine ⟨nx, 0, f, fun _ => 0, p1, by omega, p3, by rw [kI9]; exact p4, ?_, ?_, ?_, ?_, Nat.zero_le _, fun j k _ _ => ⟨Nat.le_refl 0, Nat.zero_le _⟩, ⟨?_, fun k c hk => absurd hk (Nat.not_lt_zero k)⟩, fun k hk => absurd hk (Nat.not_lt_zero k)⟩
                  · rw [hI6, zs_ne (by decide), zs_eq, zs_same]
                  · rw [kJ1 53 (by decide), q5.1 53 (by decide)]; exact p6
                  · rw [hJ6, zs_eq, zs_same]
                  · rw [hI6, zs_eq, zs_same]
                  · show J6 132 0 = nI 0
                    rw [hJ6, zs_ne (by decide), c6, zs_same, v132]
      · have cx1 : (9999 : Int32) < nI x := nI_lt (a := 9999) (by omega) (by omega)
        have cx2 : ¬ nI x ≤ 9999 := nI_ge (a := 9999) (by omega) (by omega)
        simp only [if_pos cx1, if_neg cx2, Option.bind_some, gz_0, if_true]
        exact fail _ J1 (SX.trans q4 (fun y hy => zs_ne (by omega))) SM.refl
    · simp only [if_neg cs, gz_0, Option.bind_some, if_true]
      by_cases cx2 : nI x ≤ 9999
      · simp only [if_pos cx2, gz_0, Option.bind_some, if_true]
        exact fail I2 J1 q4 SM.refl
      · simp only [if_neg cx2, gz_0, Option.bind_some, if_true]
        exact fail I2 J1 q4 SM.refl
  · have cT' : ¬ nI T = nI (z + 1) := fun q => cT ((nI_eq (by omega) (by omega)).mp q)
    simp only [if_neg cT', gz_0, Option.bind_some, if_true]
    exact fail I2 J1 q4 SM.refl
