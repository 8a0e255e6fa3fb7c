/-! strike -/
section
variable {I : HI} {R : HR} {J : HI} {t b nh no nl T : Nat} {D : HI}
theorem bit_or {B o : Nat} (hB : B < 2 ^ 31) (ho : o < 31) : (B ||| 2 ^ o).testBit o = true := by
  rw [Nat.testBit_or, Nat.testBit_two_pow_self, Bool.or_true]
theorem ring_loop (hC : CL I R 49 t nh no nl) (hM : ML J b nh no nl D) (hT : T ≤ 6) {o : Nat → Nat} (ho : ∀ j, j < T → o j < 256 ∧ I 2 j = nI (o j) ∧ J 101 j = nI (o j)) : ∀ (q i n B : Nat), i + q = T → q + 1 < n → B < 256 → (∀ j, j < i → o j < no ∧ B.testBit (o j) = true) → (∀ j j', j < i → j' < j → o j' ≠ o j) →
    (f_X11_isRing_L17 n I R (nI T) (nI B) (nI i) = some (.inl 0) ∧ f_X12_strike_L23 n J (nI T) 1 (nI B) (nI i) = some 0) ∨ (f_X11_isRing_L17 n I R (nI T) (nI B) (nI i) = some (.inr ()) ∧ f_X12_strike_L23 n J (nI T) 1 (nI B) (nI i) = some 1 ∧ (∀ j, j < T → o j < no) ∧ (∀ j j', j < T → j' < j → o j' ≠ o j)) := by
  have h8 := hC.2.2.2.2.2.2.2.2.1
  have n3 : ¬ (1 : Int32) = 0 := by decide
  have n4 : ¬ nI 1 = nI 0 := by decide
  intro q
  induction q with
  | zero =>
    intro i n B e1 e2 hB h1 h2
    obtain ⟨n, rfl⟩ : ∃ q, n = q + 1 := ⟨n - 1, by omega⟩
    have : i = T := by omega
    subst this
    right
    refine ⟨?_, ?_, fun j hj => (h1 j hj).1, h2⟩
    · simp (disch := omega) only [f_X11_isRing_L17, nI_leI, if_pos, Nat.le_refl, if_true]
    · simp (disch := omega) only [f_X12_strike_L23, nI_leI, if_pos, Nat.le_refl, if_true]
  | succ q ih =>
    intro i n B e1 e2 hB h1 h2
    obtain ⟨n, rfl⟩ : ∃ q, n = q + 1 := ⟨n - 1, by omega⟩
    obtain ⟨o1, o2, o3⟩ := ho i (by omega)
    have c1 : ¬ nI T ≤ nI i := nI_ge (by omega) (by omega)
    have iC := isOwner_C hC (nI (o i))
    have iM := isOwner_M hM (nI (o i))
    have zero : ∀ (v : Int32), f_X12_strike_L23 n J (nI T) 0 v (nI (i + 1)) = some 0 := by
      intro v
      obtain ⟨n, rfl⟩ : ∃ q, n = q + 1 := ⟨n - 1, by omega⟩
      by_cases c : nI T ≤ nI (i + 1)
      · simp only [f_X12_strike_L23, if_pos c]
      · simp only [f_X12_strike_L23, if_neg c, if_true]
    by_cases co : o i < no
    · have c2 : 0 ≤ nI (o i) ∧ nI (o i) < nI no := ⟨nI_pos' (by omega), nI_lt co (by omega)⟩
      rw [if_pos c2] at iC iM
      have hb := has2_ok (x := B) (i := o i) (by omega) (by omega)
      by_cases cb : B.testBit (o i) = true
      · left
        rw [if_pos cb] at hb
        have c3 : ¬ nI (B &&& 2 ^ (o i)) = nI 0 := fun q => (and_bit (by omega) (by omega)).mp q cb
        refine ⟨?_, ?_⟩
        · simp (disch := omega) only [f_X11_isRing_L17, if_neg c1, ldI_ok, o2, iC, Option.bind_some, zq0, zq1, zq31, if_neg n4, sh_ok, andb_ok, if_neg c3, gz_n0]
        · simp (disch := omega) only [f_X12_strike_L23, if_neg c1, if_neg n3, ldI_ok, o3, iM, Option.bind_some, jnt, hb, bnd, if_true, zq0, zq1, nI_add]
          simp only [if_neg n4]
          exact zero _
      · rw [if_neg cb] at hb
        have c3 : nI (B &&& 2 ^ (o i)) = nI 0 := (and_bit (by omega) (by omega)).mpr cb
        have hB2 : B ||| 2 ^ (o i) < 256 := by
          have h8' : (256 : Nat) = 2 ^ 8 := by decide
          rw [h8']
          exact Nat.or_lt_two_pow (by omega) (Nat.pow_lt_pow_right (by decide) (by omega))
        have sC : f_X11_isRing_L17 (n + 1) I R (nI T) (nI B) (nI i) = f_X11_isRing_L17 n I R (nI T) (nI (B ||| 2 ^ (o i))) (nI (i + 1)) := by
          simp (disch := omega) only [f_X11_isRing_L17, if_neg c1, ldI_ok, o2, iC, Option.bind_some, zq0, zq1, zq31, if_neg n4, sh_ok, andb_ok, if_pos c3, bnd, or_ok, nI_add]
        have sM : f_X12_strike_L23 (n + 1) J (nI T) 1 (nI B) (nI i) = f_X12_strike_L23 n J (nI T) 1 (nI (B ||| 2 ^ (o i))) (nI (i + 1)) := by
          simp (disch := omega) only [f_X12_strike_L23, if_neg c1, ldI_ok, o3, iM, Option.bind_some, jnt, hb, bnd, zq0, zq1, zq31, if_neg n4, if_true, sh_ok, or_ok, nI_add]
        rw [sC, sM]
        refine ih (i + 1) n (B ||| 2 ^ (o i)) (by omega) (by omega) hB2 (fun j hj => ?_) (fun j j' hj hj' => ?_)
        · by_cases cj : j = i
          · subst cj
            exact ⟨co, bit_or (by omega) (by omega)⟩
          · obtain ⟨z1, z2⟩ := h1 j (by omega)
            exact ⟨z1, by rw [Nat.testBit_or, z2, Bool.true_or]⟩
        · by_cases cj : j = i
          · subst cj
            intro q
            obtain ⟨z1, z2⟩ := h1 j' (by omega)
            rw [q] at z2
            exact cb z2
          · exact h2 j j' (by omega) hj'
    · left
      have c2 : ¬ (0 ≤ nI (o i) ∧ nI (o i) < nI no) := fun q => co ((nI_ltI (by omega) (by omega)).mp q.2)
      rw [if_neg c2] at iC iM
      refine ⟨?_, ?_⟩
      · simp (disch := omega) only [f_X11_isRing_L17, if_neg c1, ldI_ok, o2, iC, Option.bind_some, if_true, gz_0]
      · simp (disch := omega) only [f_X12_strike_L23, if_neg c1, if_neg n3, ldI_ok, o3, iM, Option.bind_some, jnt, bnd, if_true, zq1, nI_add]
        exact zero _
theorem debtInRing_C {o : Nat → Nat} (hT : T ≤ 6) {i : Nat} (hi : i < T) (ho : ∀ j, j < T → o j < 6 ∧ I 2 j = nI (o j)) : f_X11_debtInRing I (nI i) (nI T) = some (nI (6 * o i + o ((i + 1) % T))) := by
  obtain ⟨a1, a2⟩ := ho i hi
  unfold f_X11_debtInRing
  by_cases c : T ≤ i + 1
  · have e : (i + 1) % T = 0 := by
      rw [show i + 1 = T by omega, Nat.mod_self]
    obtain ⟨b1, b2⟩ := ho 0 (by omega)
    rw [e, Nat.mul_comm 6]
    simp (disch := omega) only [sdm, ↓zm1, ↓zm2, ↓zm3, ↓zm4, ↓zm5, ↓zm6, ↓zm7, ↓zm8, ↓zm9, ↓zm10, ↓zm11, ↓zm12, ↓zm13, ↓zm14, ↓zm15, ↓zm16, ↓zm17, ↓zm18, ↓zm19, ↓zm20, ↓zm1000000000, zq0, zq1, zq2, zq3, zq4, zq5, zq6, zq7, zq8, zq9, zq10, zq11, zq12, zq13, zq14, zq15, zq16, zq17, zq18, zq19, zq20, zq21, zq22, zq23, zq24, zq25, zq26, zq30, zq31, zq32, zq33, zq34, zq35, zq36, zq37, zq38, zq39, zq40, zq41, zq42, zq43, zq44, zq45, zq47, zq48, zq57, zq59, zq60, zq61, zq62, zq80, zq91, zq93, zq97, zq99, zq100, zq107, zq110, zq120, zq122, zq128, zq149, zq160, zq208, zq240, zq251, zq255, zq256, zq500, zq936, zq999, zq1600, zq1800, zq2048, zq3200, zq4160, zq9999, zq12345, zq1000000, zq1048576, zq100000000, bnd, jnt, zg_ok, gz_0, gz_1, gz_n0, gz_n1, zs_eq, zs_ne, zs_same, zs_other, zA_eq, zA_ne, Option.bind_some, Option.bind_none, nI_add, pk_mul, nI_clamp, nI_leI, nI_ltI, nI_eq, pk_sub, nI_mI, nI_eq_mI, mI_eq_nI, nI_lt_m, ldI_ok, inb_ok, if_pos, if_neg, dv_ok, rem_ok, div_ok, if_true, if_false, a2, b2]
  · have e : (i + 1) % T = i + 1 := Nat.mod_eq_of_lt (by omega)
    obtain ⟨b1, b2⟩ := ho (i + 1) (by omega)
    rw [e, Nat.mul_comm 6]
    simp (disch := omega) only [sdm, ↓zm1, ↓zm2, ↓zm3, ↓zm4, ↓zm5, ↓zm6, ↓zm7, ↓zm8, ↓zm9, ↓zm10, ↓zm11, ↓zm12, ↓zm13, ↓zm14, ↓zm15, ↓zm16, ↓zm17, ↓zm18, ↓zm19, ↓zm20, ↓zm1000000000, zq0, zq1, zq2, zq3, zq4, zq5, zq6, zq7, zq8, zq9, zq10, zq11, zq12, zq13, zq14, zq15, zq16, zq17, zq18, zq19, zq20, zq21, zq22, zq23, zq24, zq25, zq26, zq30, zq31, zq32, zq33, zq34, zq35, zq36, zq37, zq38, zq39, zq40, zq41, zq42, zq43, zq44, zq45, zq47, zq48, zq57, zq59, zq60, zq61, zq62, zq80, zq91, zq93, zq97, zq99, zq100, zq107, zq110, zq120, zq122, zq128, zq149, zq160, zq208, zq240, zq251, zq255, zq256, zq500, zq936, zq999, zq1600, zq1800, zq2048, zq3200, zq4160, zq9999, zq12345, zq1000000, zq1048576, zq100000000, bnd, jnt, zg_ok, gz_0, gz_1, gz_n0, gz_n1, zs_eq, zs_ne, zs_same, zs_other, zA_eq, zA_ne, Option.bind_some, Option.bind_none, nI_add, pk_mul, nI_clamp, nI_leI, nI_ltI, nI_eq, pk_sub, nI_mI, nI_eq_mI, mI_eq_nI, nI_lt_m, ldI_ok, inb_ok, if_pos, if_neg, dv_ok, rem_ok, div_ok, if_true, if_false, a2, b2]
theorem least_loop {o d : Nat → Nat} (hT : T ≤ 6) (hT2 : 2 ≤ T) (ho : ∀ j, j < T → o j < 6 ∧ I 2 j = nI (o j) ∧ J 101 j = nI (o j)) (hd : ∀ k, k < 36 → d k ≤ 9999 ∧ I 53 k = nI (d k) ∧ J 131 k = nI (d k)) : ∀ (q i n a : Nat), i + q = T → q < n → a ≤ 100000000 → (0 < i → a ≤ 9999) → (∀ j, j < i → a ≤ d (6 * o j + o ((j + 1) % T))) → ∃ m, f_X11_strike_L25 n I (nI T) (nI (min 9999 a)) (nI i) = some (nI m) ∧ f_X12_strike_L103 n J (nI T) 1 (nI a) (nI i) = some (nI m) ∧ m ≤ 9999 ∧ ∀ j, j < T → m ≤ d (6 * o j + o ((j + 1) % T)) := by
  intro q
  induction q with
  | zero =>
    intro i n a e1 e2 h1 h2 h3
    obtain ⟨n, rfl⟩ : ∃ q, n = q + 1 := ⟨n - 1, by omega⟩
    have : i = T := by omega
    subst this
    have ha := h2 (by omega)
    refine ⟨a, ?_, ?_, ha, h3⟩
    · rw [show min 9999 a = a by omega]
      simp (disch := omega) only [f_X11_strike_L25, nI_leI, if_pos, Nat.le_refl, if_true]
    · simp (disch := omega) only [f_X12_strike_L103, nI_leI, if_pos, Nat.le_refl, if_true]
  | succ q ih =>
    intro i n a e1 e2 h1 h2 h3
    obtain ⟨n, rfl⟩ : ∃ q, n = q + 1 := ⟨n - 1, by omega⟩
    obtain ⟨o1, o2, o3⟩ := ho i (by omega)
    have hm : (i + 1) % T < T := Nat.mod_lt _ (by omega)
    obtain ⟨p1, p2, p3⟩ := ho ((i + 1) % T) hm
    obtain ⟨d1, d2, d3⟩ := hd (6 * o i + o ((i + 1) % T)) (by omega)
    have dC := debtInRing_C (I := I) (o := o) hT (show i < T by omega) (fun j hj => ⟨(ho j hj).1, (ho j hj).2.1⟩)
    obtain ⟨x, hx⟩ : ∃ x, x = d (6 * o i + o ((i + 1) % T)) := ⟨_, rfl⟩
    rw [← hx] at d1 d2 d3
    have c1 : ¬ nI T ≤ nI i := nI_ge (by omega) (by omega)
    have n4 : ¬ nI 1 = nI 0 := by decide
    obtain ⟨m, m1, m2, m3, m4⟩ := ih (i + 1) n (min a x) (by omega) (by omega) (by omega) (by omega) (fun j hj => by
      by_cases cj : j = i
      · subst cj; omega
      · have := h3 j (by omega); omega)
    refine ⟨m, ?_, ?_, m3, m4⟩
    · rw [← m1]
      have em : f_J9_min_7cf53 (nI (min 9999 a)) (nI x) = some (nI (min 9999 (min a x))) := by
        unfold f_J9_min_7cf53
        by_cases c : x < min 9999 a
        · rw [if_pos (nI_lt c (by omega)), show min 9999 (min a x) = x by omega]
        · rw [if_neg (nI_nlt (by omega) (by omega)), show min 9999 (min a x) = min 9999 a by omega]
      simp (disch := omega) only [f_X11_strike_L25, if_neg c1, dC, Option.bind_some, ldI_ok, d2, em, zq1, nI_add]
    · rw [← m2]
      have hmx : min a x = if a ≤ x then a else x := by split <;> omega
      have er : nI (i + 1) - nI (i + 1) / nI T * nI T = nI ((i + 1) % T) := rem_ok (by omega)
      by_cases c : a ≤ x
      · rw [show min a x = a by omega]
        simp (disch := omega) only [f_X12_strike_L103, zq1, zq0, zq6, if_neg n4, ldI_ok, o3, dv_ok, nI_add, er, p3, f_X12_debt, pk_mul, d3, Option.bind_some, jnt, nI_leI, if_neg, if_pos c]
      · rw [show min a x = x by omega]
        simp (disch := omega) only [f_X12_strike_L103, zq1, zq0, zq6, if_neg n4, ldI_ok, o3, dv_ok, nI_add, er, p3, f_X12_debt, pk_mul, d3, Option.bind_some, jnt, nI_leI, if_neg]
theorem sub_loop {o : Nat → Nat} (hT : T ≤ 6) (hT2 : 2 ≤ T) (ho : ∀ j, j < T → o j < 6 ∧ I 2 j = nI (o j) ∧ J 101 j = nI (o j)) (hne : ∀ j j', j < T → j' < j → o j' ≠ o j) {m : Nat} : ∀ (q i n : Nat) (K V : HI) (d : Nat → Nat), i + q = T → q < n → (∀ x, x ≠ 53 → K x = I x) → (∀ x, x ≠ 131 → V x = J x) → (∀ k, 36 ≤ k → V 131 k = J 131 k) → (∀ k, k < 36 → d k ≤ 9999 ∧ K 53 k = nI (d k) ∧ V 131 k = nI (d k)) → (∀ j, i ≤ j → j < T → m ≤ d (6 * o j + o ((j + 1) % T))) →
    ∃ K' V', f_X11_strike_L71 n K (nI T) (nI m) (nI i) = some K' ∧ f_X12_strike_L181 n V (nI T) (nI m) (nI i) = some V' ∧ (∀ x, x ≠ 53 → K' x = I x) ∧ (∀ x, x ≠ 131 → V' x = J x) ∧ (∀ k, 36 ≤ k → V' 131 k = J 131 k) ∧ ∀ k, k < 36 → ∃ y, y ≤ 9999 ∧ K' 53 k = nI y ∧ V' 131 k = nI y := by
  intro q
  induction q with
  | zero =>
    intro i n K V d e1 e2 h1 h2 h3 h4 h5
    obtain ⟨n, rfl⟩ : ∃ q, n = q + 1 := ⟨n - 1, by omega⟩
    have : i = T := by omega
    subst this
    refine ⟨K, V, ?_, ?_, h1, h2, h3, fun k hk => ⟨d k, h4 k hk⟩⟩
    · simp (disch := omega) only [f_X11_strike_L71, nI_leI, if_pos, Nat.le_refl, if_true]
    · simp (disch := omega) only [f_X12_strike_L181, nI_leI, if_pos, Nat.le_refl, if_true]
  | succ q ih =>
    intro i n K V d e1 e2 h1 h2 h3 h4 h5
    obtain ⟨n, rfl⟩ : ∃ q, n = q + 1 := ⟨n - 1, by omega⟩
    obtain ⟨o1, o2, o3⟩ := ho i (by omega)
    have hm : (i + 1) % T < T := Nat.mod_lt _ (by omega)
    obtain ⟨p1, p2, p3⟩ := ho ((i + 1) % T) hm
    have hmle := h5 i (by omega) (by omega)
    obtain ⟨c, hc⟩ : ∃ c, c = 6 * o i + o ((i + 1) % T) := ⟨_, rfl⟩
    rw [← hc] at hmle
    have hc36 : c < 36 := by omega
    obtain ⟨d1, d2, d3⟩ := h4 c hc36
    have dC := debtInRing_C (I := K) (o := o) hT (show i < T by omega) (fun j hj => ⟨(ho j hj).1, by rw [h1 2 (by decide)]; exact (ho j hj).2.1⟩)
    rw [← hc] at dC
    have c1 : ¬ nI T ≤ nI i := nI_ge (by omega) (by omega)
    have v1 : V 101 i = nI (o i) := by rw [h2 101 (by decide)]; exact o3
    have v2 : V 101 ((i + 1) % T) = nI (o ((i + 1) % T)) := by rw [h2 101 (by decide)]; exact p3
    have er : nI (i + 1) - nI (i + 1) / nI T * nI T = nI ((i + 1) % T) := rem_ok (by omega)
    obtain ⟨K', V', b1, b2, b3, b4, b5, b6⟩ := ih (i + 1) n (sI K 53 c (nI (d c - m))) (sI V 131 c (nI (d c - m))) (fun k => if k = c then d c - m else d k) (by omega) (by omega) (fun x hx => by rw [zs_ne hx]; exact h1 x hx) (fun x hx => by rw [zs_ne hx]; exact h2 x hx) (fun k hk => by rw [zs_eq, zs_other (by omega)]; exact h3 k hk) (fun k hk => by
      rw [zs_eq, zs_eq]
      by_cases ck : k = c
      · subst ck
        rw [if_pos rfl, zs_same, zs_same]
        exact ⟨by omega, rfl, rfl⟩
      · rw [if_neg ck, zs_other ck, zs_other ck]
        exact h4 k hk) (fun j hj1 hj2 => by
      have hx := hne j i hj2 (by omega)
      have ha := (ho j hj2).1
      have hb := (ho ((j + 1) % T) (Nat.mod_lt _ (by omega))).1
      have : ¬ 6 * o j + o ((j + 1) % T) = c := by omega
      show m ≤ if 6 * o j + o ((j + 1) % T) = c then d c - m else d (6 * o j + o ((j + 1) % T))
      rw [if_neg this]
      exact h5 j (by omega) hj2)
    refine ⟨K', V', ?_, ?_, b3, b4, b5, b6⟩
    · rw [← b1]
      simp (disch := omega) only [f_X11_strike_L71, if_neg c1, dC, Option.bind_some, ldI_ok, inb_ok, d2, pk_sub, bnd, nI_clamp, zq1, nI_add]
    · rw [← b2]
      simp (disch := omega) only [f_X12_strike_L181, zq1, zq6, if_neg c1, ldI_ok, v1, dv_ok, nI_add, er, v2, pk_mul, ← hc, d3, inb_ok, pk_sub, bnd, nI_clamp]
end
theorem RelB.tape {n : Nat} {I : HI} {R : HR} {J : HI} {M : HL} {t b nh no nl : Nat} (h : RelB n I R J M t b nh no nl) : ∃ T, T ≤ 1600 ∧ I 1 1 = nI T ∧ J 100 1 = nI T ∧ ∃ o : Nat → Nat, ∀ k, k < 1600 → o k < 256 ∧ I 2 k = nI (o k) ∧ J 101 k = nI (o k) := by
  obtain ⟨T, t1, t2, t3, t4⟩ := h.1
  refine ⟨T, t1, t2, t3, fun k => (I 2 k).toNatClampNeg, fun k hk => ?_⟩
  obtain ⟨e, x, x1, x2⟩ := t4 k hk
  show (I 2 k).toNatClampNeg < 256 ∧ I 2 k = nI (I 2 k).toNatClampNeg ∧ J 101 k = nI (I 2 k).toNatClampNeg
  rw [← e, x2, nI_clamp (by omega)]
  exact ⟨x1, rfl, rfl⟩
theorem eq_strike : Eq_strike Rel := by
  intro n I R J M hn hR
  obtain ⟨t, b, nh, no, nl, h⟩ := hR
  obtain ⟨T, T1, T2, T3, o, ho⟩ := h.tape
  have h0 := Rel_tape h (T := 0) (by omega)
  have eI : sI I 1 1 (nI 0) = sI I 1 1 0 := rfl
  obtain ⟨I1, hI1⟩ : ∃ I1, I1 = sI I 1 1 (nI 0) := ⟨_, rfl⟩
  obtain ⟨J1, hJ1⟩ : ∃ J1, J1 = sI J 100 1 (nI 0) := ⟨_, rfl⟩
  rw [← hI1, ← hJ1] at h0
  have tk : f_X11_takeTape I = some (nI T, I1) := by
    unfold f_X11_takeTape
    rw [T2, hI1]
    rfl
  have o' : ∀ k, k < 1600 → o k < 256 ∧ I1 2 k = nI (o k) ∧ J1 101 k = nI (o k) := fun k hk => by
    rw [hI1, hJ1, zs_ne (by decide), zs_ne (by decide)]
    exact ho k hk
  obtain ⟨hC, hL, hM, hE, hS, hB, hB', h1⟩ := h0.get
  have h8 := hC.2.2.2.2.2.2.2.2.1
  have h9 := hC.2.2.2.2.2.2.2.2.2
  have ht := hC.2.2.1
  have hD : LWf (vw I1 t) nh := h0.2.2.2.2.2.2.1.2.2.2.2.2.1
  have n3 : ¬ (1 : Int32) = 0 := by decide
  have r1 : f_X11_refuse I1 3 = _ := refuse_C (I := I1) (k := 3) (by decide)
  have r2 : f_X12_refuses J1 3 = _ := refuses_M (J := J1) (k := 3) (by decide)
  have fail : ∃ (r : Int32) (I' : HI) (J' : HI), ((f_X11_refuse I1 3).bind fun x2 => some (x2.1, x2.2)) = some (r, I') ∧ ((f_X12_refuses J1 3).bind fun x28 => some (x28.1, x28.2)) = some (r, J') ∧ Rel (n + 6) I' R J' M := ⟨-1, _, _, by rw [r1]; rfl, by rw [r2]; rfl, (Rel_ref h0.up (k := 3) (by decide)).rel⟩
  have hJ0 : sI J 100 1 0 = J1 := by rw [hJ1]; rfl
  have L0 : ∀ (x : Int32), f_X12_strike_L103 FU J1 (nI T) 0 x 0 = some x := by
    intro x
    have hfu := FU_big.1
    obtain ⟨F, hF⟩ : ∃ q, FU = q + 1 := ⟨FU - 1, by omega⟩
    rw [hF]
    by_cases c : nI T ≤ 0
    · simp only [f_X12_strike_L103, if_pos c]
    · simp only [f_X12_strike_L103, if_neg c, if_true]
  unfold f_X11_strike f_X12_strike f_X11_isRing f_X12_is
  rw [tk, T3, hJ0]
  simp only [Option.bind_some, bnd, jnt]
  by_cases c : 2 ≤ T ∧ T ≤ 6
  · have k1 : ¬ nI T < 2 := Int32.not_lt.mpr (nI_le (a := 2) c.1 (by omega))
    have k2 : nI T ≤ 6 := nI_le (b := 6) c.2 (by decide)
    have k3 : ¬ 6 < nI T := Int32.not_lt.mpr k2
    simp only [if_neg k1, if_pos k2, if_neg k3, gz_1, Option.bind_some]
    have hfu := FU_big.1
    rcases ring_loop (T := T) hC hM c.2 (fun j hj => o' j (by omega)) T 0 FU 0 (by omega) (by omega) (by decide) (fun j hj => absurd hj (by omega)) (fun j j' hj => absurd hj (by omega)) with ⟨a1, a2⟩ | ⟨a1, a2, a3, a4⟩
    · have a1' : f_X11_isRing_L17 FU I1 R (nI T) 0 0 = _ := a1
      have a2' : f_X12_strike_L23 FU J1 (nI T) 1 0 0 = _ := a2
      simp only [a1', a2', Option.bind_some, Sum.elim_inl, L0, if_true]
      exact fail
    · have a1' : f_X11_isRing_L17 FU I1 R (nI T) 0 0 = _ := a1
      have a2' : f_X12_strike_L23 FU J1 (nI T) 1 0 0 = _ := a2
      have hd : ∀ k, k < 36 → (I1 53 k).toNatClampNeg ≤ 9999 ∧ I1 53 k = nI (I1 53 k).toNatClampNeg ∧ J1 131 k = nI (I1 53 k).toNatClampNeg := fun k hk => by
        obtain ⟨x, z1, z2⟩ := hS.2.2.1 k hk
        have z2' : I1 53 k = nI x := z2
        have z3 : I1 53 k = J1 131 k := h0.LC.2.2.2.2.2.2 k hk
        rw [← z3, z2', nI_clamp (by omega)]
        exact ⟨z1, rfl, rfl⟩
      have ho6 : ∀ j, j < T → o j < 6 ∧ I1 2 j = nI (o j) ∧ J1 101 j = nI (o j) := fun j hj => ⟨by have := a3 j hj; omega, (o' j (by omega)).2.1, (o' j (by omega)).2.2⟩
      obtain ⟨m, m1, m2, m3, m4⟩ := least_loop (I := I1) (J := J1) (o := o) (d := fun k => (I1 53 k).toNatClampNeg) c.2 c.1 ho6 hd T 0 FU 100000000 (by omega) (by omega) (by omega) (by omega) (fun j hj => absurd hj (by omega))
      have m1' : f_X11_strike_L25 FU I1 (nI T) 9999 0 = _ := m1
      have m2' : f_X12_strike_L103 FU J1 (nI T) 1 100000000 0 = _ := m2
      simp only [a1', a2', Option.bind_some, Sum.elim_inr, gz_1, if_neg n3, m1', m2']
      by_cases cm : m = 0
      · subst cm
        have : nI 0 = 0 := rfl
        simp only [if_pos this]
        exact fail
      · have cm' : ¬ nI m = 0 := nI_ne0 (by omega) (by omega)
        obtain ⟨I2, J2, q1, q2, q3, q4, q5, q6, q7, q8, q9, q10, q11⟩ := push_R (fu := FU) h0 FU_big.1
        have es : sc I2 49 = sc I1 49 := sc_congr (fun a ha => q5 _ (by omega))
        have ev : vw I2 t = vw I1 t := vw_congr (fun a ha => q5 _ (by omega))
        obtain ⟨K, V, s1, s2, s3, s4, s5, s6⟩ := sub_loop (I := I2) (J := J2) (o := o) (m := m) c.2 c.1 (fun j hj => by rw [q5 2 (by omega), q6 101 (by decide) (by decide)]; exact ho6 j hj) a4 T 0 FU I2 J2 (fun k => (I1 53 k).toNatClampNeg) (by omega) (by omega) (fun _ _ => rfl) (fun _ _ => rfl) (fun _ _ => rfl) (fun k hk => by rw [q5 53 (by omega), q9 k hk]; exact hd k hk) (fun j _ hj => m4 j hj)
        have s1' : f_X11_strike_L71 FU I2 (nI T) (nI m) 0 = _ := s1
        have s2' : f_X12_strike_L181 FU J2 (nI T) (nI m) 0 = _ := s2
        simp only [if_neg cm', q1, q2, Option.bind_some, s1', s2']
        have hE2 := q3.get.2.2.2.1
        refine ⟨nI m, K, V, rfl, rfl, (Rel_act (n' := n + 6) q3 (by omega) (fun x _ hx => s3 x (by omega)) (fun k _ => by rw [s3 1 (by decide)]) ⟨fun x hx => s4 x (by omega), fun w _ => by rw [s4 127 (by decide)], fun j _ => by rw [s4 128 (by decide), s4 129 (by decide), s4 130 (by decide)]; exact ⟨rfl, rfl, rfl⟩, s5⟩ (RLt_c q3.2.2.2.1 (by rw [s3 1 (by decide)]) rfl) (fun _ _ => rfl) ?_ ?_).rel⟩
        · refine ⟨?_, fun k hk => ?_, fun k hk => ?_, fun k hk => by
            show K 50 k = V 128 (8 * 0 + k)
            rw [s3 50 (by decide), s4 128 (by decide)]
            exact hE2.2.2.2 k hk⟩
          · show K 49 1 = V 127 0
            rw [s3 49 (by decide), s4 127 (by decide)]
            exact hE2.1
          · show K 50 k = V 128 (8 * 0 + k) ∧ K 51 k = V 129 (8 * 0 + k) ∧ K 52 k = V 130 (8 * 0 + k)
            rw [s3 50 (by decide), s3 51 (by decide), s3 52 (by decide), s4 128 (by decide), s4 129 (by decide), s4 130 (by decide)]
            exact hE2.2.1 k hk
          · show K 53 k = V 131 (36 * 0 + k)
            obtain ⟨y, y1, y2, y3⟩ := s6 k hk
            rw [Nat.mul_zero, Nat.zero_add, y2, y3]
        · rw [ev]
          have e : ∀ a, a < 4 → sc K 49 a = sc I1 49 a := fun a ha => by
            rw [← es]
            unfold sc
            rw [if_pos (by omega), if_pos (by omega), s3 _ (by omega)]
          refine SW.mk' ⟨by rw [e 0 (by decide)]; exact hS.1, fun l hl => by rw [e 1 (by decide), e 2 (by decide), e 3 (by decide)]; exact hS.2.1 l hl, fun k hk => ?_⟩ hS hD h9 (fun h' H' hh' e3 e4 e5 => ?_)
          · obtain ⟨y, y1, y2, y3⟩ := s6 k hk
            exact ⟨y, y1, y2⟩
          · unfold rs at *
            rw [e 1 (by decide), e 2 (by decide)]
            exact e5
  · have L17 : f_X12_strike_L23 FU J1 (nI T) 0 0 0 = some 0 := by
      have hfu := FU_big.1
      obtain ⟨F, hF⟩ : ∃ q, FU = q + 1 := ⟨FU - 1, by omega⟩
      rw [hF]
      by_cases c : nI T ≤ 0
      · simp only [f_X12_strike_L23, if_pos c]
      · simp only [f_X12_strike_L23, if_neg c, if_true]
    by_cases k1 : nI T < 2
    · simp only [if_pos k1, gz_0, Option.bind_some, if_true, L17, L0]
      exact fail
    · have k2 : ¬ nI T ≤ 6 := by
        have : ¬ T < 2 := fun q => k1 (nI_lt (b := 2) q (by decide))
        exact nI_ge (a := 6) (by omega) (by omega)
      have k3 : 6 < nI T := Int32.not_le.mp k2
      simp only [if_neg k1, if_neg k2, if_pos k3, gz_0, Option.bind_some, if_true, L17, L0]
      exact fail
