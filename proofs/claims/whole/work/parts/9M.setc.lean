/-! settling: the class -/
theorem xor_ok (x y : Nat) : nI x ^^^ nI y = nI (x ^^^ y) := by
  apply Int32.toBitVec.inj
  exact (BitVec.ofNat_xor).symm
theorem SU_add {v : Nat → Int32} {n x b : Nat} (hx : x < 2 ^ b) (hb : b < n) : SU v n (x + 2 ^ b) = SU v n x + v b := by
  have e : x ^^^ (x + 2 ^ b) = 2 ^ b := by
    apply Nat.eq_of_testBit_eq
    intro l
    rw [Nat.testBit_xor, add_bit hx, Nat.testBit_two_pow]
    cases hl : x.testBit l
    · simp
    · have : ¬ b = l := fun q => by
        have := Nat.ge_two_pow_of_testBit hl
        rw [← q] at this
        omega
      rw [decide_eq_false this]
      rfl
  have hs : sb x (x + 2 ^ b) := fun l hl => by rw [add_bit hx, hl]; rfl
  rw [SU_split hs, Nat.xor_comm, e]
  congr 1
  have key : ∀ k, (b < k → SU v k (2 ^ b) = v b) ∧ (k ≤ b → SU v k (2 ^ b) = 0) := by
    intro k
    induction k with
    | zero => exact ⟨fun h => absurd h (by omega), fun _ => rfl⟩
    | succ k ih =>
      have es : SU v (k + 1) (2 ^ b) = SU v k (2 ^ b) + (if (2 ^ b).testBit k = true then v k else 0) := rfl
      rw [es, Nat.testBit_two_pow]
      by_cases c : b = k
      · rw [decide_eq_true c, if_pos rfl, ih.2 (by omega), Int32.zero_add, c]
        exact ⟨fun _ => rfl, fun h => absurd h (by omega)⟩
      · rw [decide_eq_false c, if_neg (by decide), Int32.add_zero]
        exact ⟨fun h => ih.1 (by omega), fun h => ih.2 (by omega)⟩
  exact (key n).1 hb
theorem SSI_su {m : Nat → Nat} {n s : Nat} {v w : Nat → Int32} : ∀ c, inc m c → (∀ j, j < c → m j < n ∧ w j = v (m j)) → SSI w s c = SU v n (exM m s c) := by
  intro c
  induction c with
  | zero => intro _ _; exact SU_0.symm
  | succ c ih =>
    intro hi hv
    have hi' : inc m c := fun j k hj hk => hi j k hj (by omega)
    have hlt := exM_lt (m := m) (s := s) c (m c) hi' (fun j hj => hi j c hj (by omega))
    have ih := ih hi' (fun j hj => hv j (by omega))
    show SSI w s c + (if s.testBit c = true then w c else 0) = SU v n (exM m s c + (if s.testBit c = true then 2 ^ m c else 0))
    obtain ⟨h1, h2⟩ := hv c (by omega)
    by_cases cb : s.testBit c = true
    · rw [if_pos cb, if_pos cb, SU_add hlt h1, ih, h2]
    · rw [if_neg cb, if_neg cb, Nat.add_zero, ih, Int32.add_zero]
def ntI (d : Nat → Int32) (no o : Nat) : Int32 := sm (fun p => d (p * 6 + o)) no - sm (fun p => d (o * 6 + p)) no
theorem netOf_C {I : HI} {R : HR} {t nh no nl fu o : Nat} (hC : CL I R 49 t nh no nl) (hf : 8 < fu) (ho : o < 6) : f_X9_netOf fu I R 49 (nI o) = some (ntI (I 53) no o) := by
  unfold f_X9_netOf
  rw [owedTo_C hC hf ho, owedBy_C hC hf ho]
  rfl
def qN (d : Nat → Int32) (no o : Nat) : Bool := decide (¬ ntI d no o = 0)
theorem nets_C {I : HI} {R : HR} {t nh no nl fu : Nat} (hC : CL I R 49 t nh no nl) (hf : 8 < fu) : ∃ K, f_X0_payments_L7 fu fu (sI I 34 2 (nI 0)) R 49 0 = some K ∧ (∀ x, x ≠ 34 → x ≠ 36 → K x = I x) ∧ K 34 2 = nI (cnt (qN (I 53) no) no) ∧ ∀ k, k < cnt (qN (I 53) no) no → K 36 k = ntI (I 53) no (nth (qN (I 53) no) k no) := by
  have hC' := hC
  obtain ⟨h0, h1, h2, h3, h4, h5, h6, h7, h8, h9⟩ := hC'
  refine loopP (fun n (a : HI) i => f_X0_payments_L7 fu n a R 49 i) (fun i K => (∀ x, x ≠ 34 → x ≠ 36 → K x = I x) ∧ K 34 2 = nI (cnt (qN (I 53) no) i) ∧ ∀ k, k < cnt (qN (I 53) no) i → K 36 k = ntI (I 53) no (nth (qN (I 53) no) k no)) (fun K => (∀ x, x ≠ 34 → x ≠ 36 → K x = I x) ∧ K 34 2 = nI (cnt (qN (I 53) no) no) ∧ ∀ k, k < cnt (qN (I 53) no) no → K 36 k = ntI (I 53) no (nth (qN (I 53) no) k no)) no fu _ ⟨fun x x1 _ => zs_ne x1, by rw [zs_eq, zs_same]; rfl, fun k hk => absurd hk (by show ¬ k < 0; omega)⟩ ?_ ?_ (by omega)
  · intro n i K hi ha
    obtain ⟨a1, a2, a3⟩ := ha
    have e5 : K t 2 = nI no := by rw [a1 t (by omega) (by omega)]; exact h5
    have hCK : CL K R 49 t nh no nl := CLx hC (a1 t (by omega) (by omega))
    have hn := netOf_C (fu := fu) hCK hf (show i < 6 by omega)
    rw [a1 53 (by decide) (by decide)] at hn
    have hle := cnt_le (p := qN (I 53) no) i
    by_cases c : ntI (I 53) no i = 0
    · have hq : ¬ qN (I 53) no i = true := fun w => (of_decide_eq_true w) c
      have c' : ntI (I 53) no i = nI 0 := c
      refine ⟨K, ?_, a1, by rw [cnt_f hq]; exact a2, by rw [cnt_f hq]; exact a3⟩
      simp (disch := omega) only [f_X0_payments_L7, sdm, ↓zm1, ↓zm2, ↓zm3, ↓zm4, ↓zm5, ↓zm6, ↓zm7, ↓zm8, ↓zm9, ↓zm10, ↓zm11, ↓zm12, ↓zm13, ↓zm14, ↓zm15, ↓zm16, ↓zm17, ↓zm18, ↓zm19, ↓zm20, ↓zm1000000000, zq0, zq1, zq2, zq3, zq4, zq5, zq6, zq7, zq8, zq9, zq10, zq11, zq12, zq13, zq14, zq15, zq16, zq17, zq18, zq19, zq20, zq21, zq22, zq23, zq24, zq25, zq26, zq30, zq31, zq32, zq33, zq34, zq35, zq36, zq37, zq38, zq39, zq40, zq41, zq42, zq43, zq44, zq45, zq47, zq48, zq57, zq59, zq60, zq61, zq62, zq80, zq91, zq93, zq97, zq99, zq100, zq107, zq110, zq120, zq122, zq128, zq149, zq160, zq208, zq240, zq251, zq255, zq256, zq500, zq936, zq999, zq1600, zq1800, zq2048, zq3200, zq4160, zq9999, zq12345, zq1000000, zq1048576, zq100000000, bnd, jnt, zg_ok, gz_0, gz_1, gz_n0, gz_n1, zs_eq, zs_ne, zs_same, zs_other, zA_eq, zA_ne, Option.bind_some, Option.bind_none, nI_add, pk_mul, nI_clamp, nI_leI, nI_ltI, nI_eq, pk_sub, nI_mI, nI_eq_mI, mI_eq_nI, nI_lt_m, ldI_ok, inb_ok, if_pos, if_neg, dv_ok, rem_ok, div_ok, if_true, if_false, zg_ok h0, h1, e5, hn, if_pos c']
    · have hq : qN (I 53) no i = true := decide_eq_true c
      have c' : ¬ ntI (I 53) no i = nI 0 := c
      obtain ⟨cc, hcc⟩ : ∃ cc, cc = cnt (qN (I 53) no) i := ⟨_, rfl⟩
      have hn1 := nth_1 hi hq
      rw [← hcc] at a2 a3 hle hn1
      refine ⟨sI (sI K 36 cc (ntI (I 53) no i)) 34 2 (nI (cc + 1)), ?_, ?_, ?_, ?_⟩
      · simp (disch := omega) only [f_X0_payments_L7, sdm, ↓zm1, ↓zm2, ↓zm3, ↓zm4, ↓zm5, ↓zm6, ↓zm7, ↓zm8, ↓zm9, ↓zm10, ↓zm11, ↓zm12, ↓zm13, ↓zm14, ↓zm15, ↓zm16, ↓zm17, ↓zm18, ↓zm19, ↓zm20, ↓zm1000000000, zq0, zq1, zq2, zq3, zq4, zq5, zq6, zq7, zq8, zq9, zq10, zq11, zq12, zq13, zq14, zq15, zq16, zq17, zq18, zq19, zq20, zq21, zq22, zq23, zq24, zq25, zq26, zq30, zq31, zq32, zq33, zq34, zq35, zq36, zq37, zq38, zq39, zq40, zq41, zq42, zq43, zq44, zq45, zq47, zq48, zq57, zq59, zq60, zq61, zq62, zq80, zq91, zq93, zq97, zq99, zq100, zq107, zq110, zq120, zq122, zq128, zq149, zq160, zq208, zq240, zq251, zq255, zq256, zq500, zq936, zq999, zq1600, zq1800, zq2048, zq3200, zq4160, zq9999, zq12345, zq1000000, zq1048576, zq100000000, bnd, jnt, zg_ok, gz_0, gz_1, gz_n0, gz_n1, zs_eq, zs_ne, zs_same, zs_other, zA_eq, zA_ne, Option.bind_some, Option.bind_none, nI_add, pk_mul, nI_clamp, nI_leI, nI_ltI, nI_eq, pk_sub, nI_mI, nI_eq_mI, mI_eq_nI, nI_lt_m, ldI_ok, inb_ok, if_pos, if_neg, dv_ok, rem_ok, div_ok, if_true, if_false, zg_ok h0, h1, e5, hn, if_neg c', a2]
      · intro x x1 x2
        rw [zs_ne x1, zs_ne x2, a1 x x1 x2]
      · rw [zs_eq, zs_same, cnt_t hq, ← hcc]
      · intro k hk
        rw [cnt_t hq, ← hcc] at hk
        rw [zs_ne (by decide), zs_eq]
        by_cases ck : k = cc
        · subst ck
          rw [zs_same, hn1]
        · rw [zs_other ck]
          exact a3 k (by omega)
  · intro n K ha
    have e5 : K t 2 = nI no := by rw [ha.1 t (by omega) (by omega)]; exact h5
    refine ⟨K, ?_, ha⟩
    simp (disch := omega) only [f_X0_payments_L7, sdm, ↓zm1, ↓zm2, ↓zm3, ↓zm4, ↓zm5, ↓zm6, ↓zm7, ↓zm8, ↓zm9, ↓zm10, ↓zm11, ↓zm12, ↓zm13, ↓zm14, ↓zm15, ↓zm16, ↓zm17, ↓zm18, ↓zm19, ↓zm20, ↓zm1000000000, zq0, zq1, zq2, zq3, zq4, zq5, zq6, zq7, zq8, zq9, zq10, zq11, zq12, zq13, zq14, zq15, zq16, zq17, zq18, zq19, zq20, zq21, zq22, zq23, zq24, zq25, zq26, zq30, zq31, zq32, zq33, zq34, zq35, zq36, zq37, zq38, zq39, zq40, zq41, zq42, zq43, zq44, zq45, zq47, zq48, zq57, zq59, zq60, zq61, zq62, zq80, zq91, zq93, zq97, zq99, zq100, zq107, zq110, zq120, zq122, zq128, zq149, zq160, zq208, zq240, zq251, zq255, zq256, zq500, zq936, zq999, zq1600, zq1800, zq2048, zq3200, zq4160, zq9999, zq12345, zq1000000, zq1048576, zq100000000, bnd, jnt, zg_ok, gz_0, gz_1, gz_n0, gz_n1, zs_eq, zs_ne, zs_same, zs_other, zA_eq, zA_ne, Option.bind_some, Option.bind_none, nI_add, pk_mul, nI_clamp, nI_leI, nI_ltI, nI_eq, pk_sub, nI_mI, nI_eq_mI, mI_eq_nI, nI_lt_m, ldI_ok, inb_ok, if_pos, if_neg, dv_ok, rem_ok, div_ok, if_true, if_false, zg_ok h0, h1, e5]
def zz (K : HI) (s : Nat) : Nat := (K 38 s).toNatClampNeg
theorem most_C {K : HI} {fu c s : Nat} (hc : c ≤ 8) (hf : 8 < fu) (h1 : K 34 2 = nI c) (hs : s < 2 ^ c) (hz : ∀ s', s' < s → K 38 s' = nI (zz K s') ∧ zz K s' ≤ s') : ∃ g, g < s + 1 ∧ (0 < s → g < s) ∧ f_X0_mostGroups fu K (nI s) = some (nI g) ∧ (∀ k, k < c → s.testBit k = true → zz K (s ^^^ 2 ^ k) ≤ g) ∧ (g = 0 ∨ ∃ k, k < c ∧ s.testBit k = true ∧ g = zz K (s ^^^ 2 ^ k)) := by
  have hp8 : 2 ^ c ≤ 2 ^ 8 := Nat.pow_le_pow_right (by decide) hc
  have key : ∃ r : Int32, f_X0_mostGroups_L4 fu K (nI s) 0 0 = some r ∧ ∃ g, r = nI g ∧ g < s + 1 ∧ (0 < s → g < s) ∧ (∀ k, k < c → s.testBit k = true → zz K (s ^^^ 2 ^ k) ≤ g) ∧ (g = 0 ∨ ∃ k, k < c ∧ s.testBit k = true ∧ g = zz K (s ^^^ 2 ^ k)) := by
    refine loopP (fun n (a : Int32) i => f_X0_mostGroups_L4 n K (nI s) a i) (fun i a => ∃ g, a = nI g ∧ g < s + 1 ∧ (0 < s → g < s) ∧ (∀ k, k < i → s.testBit k = true → zz K (s ^^^ 2 ^ k) ≤ g) ∧ (g = 0 ∨ ∃ k, k < i ∧ s.testBit k = true ∧ g = zz K (s ^^^ 2 ^ k))) (fun a => ∃ g, a = nI g ∧ g < s + 1 ∧ (0 < s → g < s) ∧ (∀ k, k < c → s.testBit k = true → zz K (s ^^^ 2 ^ k) ≤ g) ∧ (g = 0 ∨ ∃ k, k < c ∧ s.testBit k = true ∧ g = zz K (s ^^^ 2 ^ k))) c fu 0 ⟨0, rfl, by omega, fun h => h, fun k hk => absurd hk (by omega), Or.inl rfl⟩ ?_ ?_ (by omega)
    · intro n i a hi ha
      obtain ⟨g, g1, g2, g2', g3, g4⟩ := ha
      subst g1
      by_cases cb : s.testBit i = true
      · have c3 : ¬ nI (s &&& 2 ^ i) = nI 0 := fun q => (and_bit (by omega) (by omega)).mp q cb
        have hlt := xor_lt (bit_sb cb) (pow_pos' (k := i))
        obtain ⟨z1, z2⟩ := hz _ hlt
        obtain ⟨y, hy⟩ : ∃ y, y = zz K (s ^^^ 2 ^ i) := ⟨_, rfl⟩
        rw [← hy] at z1 z2
        have em : f_J9_max_7cf53 (nI g) (nI y) = some (nI (max g y)) := by
          unfold f_J9_max_7cf53
          by_cases cg : g < y
          · rw [if_pos (nI_lt cg (by omega)), show max g y = y by omega]
          · rw [if_neg (nI_nlt (by omega) (by omega)), show max g y = g by omega]
        refine ⟨nI (max g y), ?_, max g y, rfl, by omega, fun h => by have := g2' h; omega, fun k hk hb => ?_, ?_⟩
        · simp (disch := omega) only [f_X0_mostGroups_L4, sdm, ↓zm1, ↓zm2, ↓zm3, ↓zm4, ↓zm5, ↓zm6, ↓zm7, ↓zm8, ↓zm9, ↓zm10, ↓zm11, ↓zm12, ↓zm13, ↓zm14, ↓zm15, ↓zm16, ↓zm17, ↓zm18, ↓zm19, ↓zm20, ↓zm1000000000, zq0, zq1, zq2, zq3, zq4, zq5, zq6, zq7, zq8, zq9, zq10, zq11, zq12, zq13, zq14, zq15, zq16, zq17, zq18, zq19, zq20, zq21, zq22, zq23, zq24, zq25, zq26, zq30, zq31, zq32, zq33, zq34, zq35, zq36, zq37, zq38, zq39, zq40, zq41, zq42, zq43, zq44, zq45, zq47, zq48, zq57, zq59, zq60, zq61, zq62, zq80, zq91, zq93, zq97, zq99, zq100, zq107, zq110, zq120, zq122, zq128, zq149, zq160, zq208, zq240, zq251, zq255, zq256, zq500, zq936, zq999, zq1600, zq1800, zq2048, zq3200, zq4160, zq9999, zq12345, zq1000000, zq1048576, zq100000000, bnd, jnt, zg_ok, gz_0, gz_1, gz_n0, gz_n1, zs_eq, zs_ne, zs_same, zs_other, zA_eq, zA_ne, Option.bind_some, Option.bind_none, nI_add, pk_mul, nI_clamp, nI_leI, nI_ltI, nI_eq, pk_sub, nI_mI, nI_eq_mI, mI_eq_nI, nI_lt_m, ldI_ok, inb_ok, if_pos, if_neg, dv_ok, rem_ok, div_ok, if_true, if_false, h1, sh_ok, andb_ok, if_neg c3, xor_ok, z1, em]
        · by_cases ck : k = i
          · subst ck; rw [← hy]; omega
          · have := g3 k (by omega) hb; omega
        · by_cases cg : g < y
          · right
            exact ⟨i, by omega, cb, by rw [← hy]; omega⟩
          · rw [show max g y = g by omega]
            rcases g4 with q | ⟨k, k1, k2, k3⟩
            · exact Or.inl q
            · exact Or.inr ⟨k, by omega, k2, k3⟩
      · have c3 : nI (s &&& 2 ^ i) = nI 0 := (and_bit (by omega) (by omega)).mpr cb
        refine ⟨nI g, ?_, g, rfl, g2, g2', fun k hk hb => ?_, ?_⟩
        · simp (disch := omega) only [f_X0_mostGroups_L4, sdm, ↓zm1, ↓zm2, ↓zm3, ↓zm4, ↓zm5, ↓zm6, ↓zm7, ↓zm8, ↓zm9, ↓zm10, ↓zm11, ↓zm12, ↓zm13, ↓zm14, ↓zm15, ↓zm16, ↓zm17, ↓zm18, ↓zm19, ↓zm20, ↓zm1000000000, zq0, zq1, zq2, zq3, zq4, zq5, zq6, zq7, zq8, zq9, zq10, zq11, zq12, zq13, zq14, zq15, zq16, zq17, zq18, zq19, zq20, zq21, zq22, zq23, zq24, zq25, zq26, zq30, zq31, zq32, zq33, zq34, zq35, zq36, zq37, zq38, zq39, zq40, zq41, zq42, zq43, zq44, zq45, zq47, zq48, zq57, zq59, zq60, zq61, zq62, zq80, zq91, zq93, zq97, zq99, zq100, zq107, zq110, zq120, zq122, zq128, zq149, zq160, zq208, zq240, zq251, zq255, zq256, zq500, zq936, zq999, zq1600, zq1800, zq2048, zq3200, zq4160, zq9999, zq12345, zq1000000, zq1048576, zq100000000, bnd, jnt, zg_ok, gz_0, gz_1, gz_n0, gz_n1, zs_eq, zs_ne, zs_same, zs_other, zA_eq, zA_ne, Option.bind_some, Option.bind_none, nI_add, pk_mul, nI_clamp, nI_leI, nI_ltI, nI_eq, pk_sub, nI_mI, nI_eq_mI, mI_eq_nI, nI_lt_m, ldI_ok, inb_ok, if_pos, if_neg, dv_ok, rem_ok, div_ok, if_true, if_false, h1, sh_ok, andb_ok, if_pos c3]
        · by_cases ck : k = i
          · subst ck; exact absurd hb cb
          · exact g3 k (by omega) hb
        · rcases g4 with q | ⟨k, k1, k2, k3⟩
          · exact Or.inl q
          · exact Or.inr ⟨k, by omega, k2, k3⟩
    · intro n a ha
      refine ⟨a, ?_, ha⟩
      simp (disch := omega) only [f_X0_mostGroups_L4, sdm, ↓zm1, ↓zm2, ↓zm3, ↓zm4, ↓zm5, ↓zm6, ↓zm7, ↓zm8, ↓zm9, ↓zm10, ↓zm11, ↓zm12, ↓zm13, ↓zm14, ↓zm15, ↓zm16, ↓zm17, ↓zm18, ↓zm19, ↓zm20, ↓zm1000000000, zq0, zq1, zq2, zq3, zq4, zq5, zq6, zq7, zq8, zq9, zq10, zq11, zq12, zq13, zq14, zq15, zq16, zq17, zq18, zq19, zq20, zq21, zq22, zq23, zq24, zq25, zq26, zq30, zq31, zq32, zq33, zq34, zq35, zq36, zq37, zq38, zq39, zq40, zq41, zq42, zq43, zq44, zq45, zq47, zq48, zq57, zq59, zq60, zq61, zq62, zq80, zq91, zq93, zq97, zq99, zq100, zq107, zq110, zq120, zq122, zq128, zq149, zq160, zq208, zq240, zq251, zq255, zq256, zq500, zq936, zq999, zq1600, zq1800, zq2048, zq3200, zq4160, zq9999, zq12345, zq1000000, zq1048576, zq100000000, bnd, jnt, zg_ok, gz_0, gz_1, gz_n0, gz_n1, zs_eq, zs_ne, zs_same, zs_other, zA_eq, zA_ne, Option.bind_some, Option.bind_none, nI_add, pk_mul, nI_clamp, nI_leI, nI_ltI, nI_eq, pk_sub, nI_mI, nI_eq_mI, mI_eq_nI, nI_lt_m, ldI_ok, inb_ok, if_pos, if_neg, dv_ok, rem_ok, div_ok, if_true, if_false, h1]
  obtain ⟨r, r1, g, g1, g2, g3, g4, g5⟩ := key
  refine ⟨g, g2, g3, ?_, g4, g5⟩
  unfold f_X0_mostGroups
  rw [r1, g1]
  rfl
theorem groups_C {I : HI} {fu c : Nat} {su : Nat → Int32} (hc : c ≤ 8) (hf : 1600 < fu) (h1 : I 34 2 = nI c) (hs : ∀ s, s < 2 ^ c → I 37 s = su s) : ∀ (q i n : Nat) (K : HI), i + q = 2 ^ c → q < n → 0 < i → (∀ x, x ≠ 38 → K x = I x) → (∀ s, s < i → K 38 s = nI (zz K s) ∧ zz K s ≤ s) → (∀ s, 0 < s → s < i → ∃ g, (∀ k, k < c → s.testBit k = true → zz K (s ^^^ 2 ^ k) ≤ g) ∧ (g = 0 ∨ ∃ k, k < c ∧ s.testBit k = true ∧ g = zz K (s ^^^ 2 ^ k)) ∧ zz K s = g + (if su s = 0 then 1 else 0)) →
    ∃ K', f_X0_payments_L69 fu n K (nI i) = some K' ∧ (∀ x, x ≠ 38 → K' x = I x) ∧ (∀ s, s < 2 ^ c → K' 38 s = nI (zz K' s) ∧ zz K' s ≤ s) ∧ ZT c su (zz K') := by
  have hp8 : 2 ^ c ≤ 2 ^ 8 := Nat.pow_le_pow_right (by decide) hc
  have hpos : 0 < 2 ^ c := pow_pos'
  intro q
  induction q with
  | zero =>
    intro i n K e1 e2 hi k1 k2 k3
    obtain ⟨n, rfl⟩ : ∃ z, n = z + 1 := ⟨n - 1, by omega⟩
    have : i = 2 ^ c := by omega
    subst this
    have e : K 34 2 = nI c := by rw [k1 34 (by decide)]; exact h1
    have c1 : (1 : Int32) <<< (nI c &&& 31) ≤ nI (2 ^ c) := by
      rw [zq1, zq31, sh_ok (by omega)]
      exact Int32.le_refl _
    refine ⟨K, ?_, k1, k2, ?_, k3⟩
    · simp only [f_X0_payments_L69, e, if_pos c1]
    · have := (k2 0 hpos).2
      omega
  | succ q ih =>
    intro i n K e1 e2 hi k1 k2 k3
    obtain ⟨n, rfl⟩ : ∃ z, n = z + 1 := ⟨n - 1, by omega⟩
    have e : K 34 2 = nI c := by rw [k1 34 (by decide)]; exact h1
    have c1 : ¬ (1 : Int32) <<< (nI c &&& 31) ≤ nI i := by
      rw [zq1, zq31, sh_ok (by omega)]
      exact nI_ge (by omega) (by omega)
    obtain ⟨g, g1, g2, g3, g4, g5⟩ := most_C (K := K) (fu := fu) hc (by omega) e (show i < 2 ^ c by omega) k2
    have g2 := g2 hi
    have e37 : K 37 i = su i := by rw [k1 37 (by decide)]; exact hs i (by omega)
    obtain ⟨zn, hzn⟩ : ∃ zn, zn = g + (if su i = 0 then 1 else 0) := ⟨_, rfl⟩
    have hzle : zn ≤ i := by rw [hzn]; split <;> omega
    have zo : ∀ s, s ≠ i → zz (sI K 38 i (nI zn)) s = zz K s := fun s hs => by
      unfold zz
      rw [zs_eq, zs_other hs]
    have zi : zz (sI K 38 i (nI zn)) i = zn := by
      unfold zz
      rw [zs_eq, zs_same, nI_clamp (by omega)]
    obtain ⟨K', b1, b2⟩ := ih (i + 1) n (sI K 38 i (nI zn)) (by omega) (by omega) (by omega) (fun x hx => by rw [zs_ne hx]; exact k1 x hx) (fun s hs => by
      by_cases cs : s = i
      · subst cs
        rw [zi, zs_eq, zs_same]
        exact ⟨rfl, hzle⟩
      · rw [zo s cs, zs_eq, zs_other cs]
        exact k2 s (by omega)) (fun s s1 s2 => by
      by_cases cs : s = i
      · subst cs
        refine ⟨g, fun k hk hb => ?_, ?_, by rw [zi]; exact hzn⟩
        · have hlt := xor_lt (bit_sb hb) (pow_pos' (k := k))
          rw [zo _ (by omega)]
          exact g4 k hk hb
        · rcases g5 with w | ⟨k, w1, w2, w3⟩
          · exact Or.inl w
          · have hlt := xor_lt (bit_sb w2) (pow_pos' (k := k))
            exact Or.inr ⟨k, w1, w2, by rw [zo _ (by omega)]; exact w3⟩
      · obtain ⟨g', y1, y2, y3⟩ := k3 s s1 (by omega)
        refine ⟨g', fun k hk hb => ?_, ?_, by rw [zo s cs]; exact y3⟩
        · have hlt := xor_lt (bit_sb hb) (pow_pos' (k := k))
          rw [zo _ (by omega)]
          exact y1 k hk hb
        · rcases y2 with w | ⟨k, w1, w2, w3⟩
          · exact Or.inl w
          · have hlt := xor_lt (bit_sb w2) (pow_pos' (k := k))
            exact Or.inr ⟨k, w1, w2, by rw [zo _ (by omega)]; exact w3⟩)
    refine ⟨K', ?_, b2⟩
    rw [← b1]
    have A1 : nI i + 1 = nI (i + 1) := nI_1 i
    simp only [f_X0_payments_L69, e, if_neg c1, g3, Option.bind_some, A1, jnt, bnd]
    rw [ldI_ok (by omega), e37]
    by_cases cs : su i = 0
    · rw [if_pos cs, Nat.add_comm] at hzn
      rw [if_pos cs, inb_ok (by omega), nI_clamp (by omega), zq1, nI_add, hzn, Nat.add_comm]
    · rw [if_neg cs, Nat.add_zero] at hzn
      rw [if_neg cs, inb_ok (by omega), nI_clamp (by omega), Int32.add_zero, hzn]
theorem payments_C {I : HI} {R : HR} {t nh no nl fu : Nat} (hC : CL I R 49 t nh no nl) (hf : 1600 < fu) {c : Nat} (hcc : c = cnt (qN (I 53) no) no) {m : Nat → Nat} (hm : m = fun k => nth (qN (I 53) no) k no) : ∃ z K, f_X0_payments fu I R 49 = some (nI c - nI (z (2 ^ c - 1)), K) ∧ (∀ x, x < 34 ∨ 39 ≤ x → K x = I x) ∧ ZT c (fun s => SU (ntI (I 53) no) no (exM m s c)) z ∧ z (2 ^ c - 1) < 256 := by
  have h8 := hC.2.2.2.2.2.2.2.2.1
  have hc6 : c ≤ 6 := by rw [hcc]; exact Nat.le_trans (cnt_le no) h8
  have hp8 : 2 ^ c ≤ 2 ^ 8 := Nat.pow_le_pow_right (by decide) (by omega)
  have hpos : 0 < 2 ^ c := pow_pos'
  obtain ⟨K1, a1, a2, a3, a4⟩ := nets_C (fu := fu) hC (by omega)
  rw [← hcc] at a3 a4
  have a1' : f_X0_payments_L7 fu fu (sI I 34 2 0) R 49 0 = some K1 := a1
  obtain ⟨K2, b1, b2, b3⟩ := sumUp_C (fu := fu) (I := K1) (c := c) (v := fun k => ntI (I 53) no (m k)) hf (by omega) a3 (fun k hk => by rw [a4 k hk, hm])
  have hinc : inc m c := fun j k hj hk => by
    rw [hm]
    exact nth_lt hj (by rw [← hcc]; exact hk)
  have hm1 : ∀ k, k < c → m k < no := fun k hk => by
    rw [hm]
    exact (nth_2 (p := qN (I 53) no) (k := k) no (by rw [← hcc]; exact hk)).1
  have hsu : ∀ s, s < 2 ^ c → K2 37 s = SU (ntI (I 53) no) no (exM m s c) := fun s hs => by
    rw [b3 s hs]
    exact SSI_su c hinc (fun j hj => ⟨hm1 j hj, rfl⟩)
  obtain ⟨K3, c1, c2, c3, c4⟩ := groups_C (I := sI K2 38 0 (nI 0)) (fu := fu) (c := c) (su := fun s => SU (ntI (I 53) no) no (exM m s c)) (by omega) hf (by rw [zs_ne (by decide), b2 34 (by decide)]; exact a3) (fun s hs => by rw [zs_ne (by decide)]; exact hsu s hs) (2 ^ c - 1) 1 fu (sI K2 38 0 (nI 0)) (by omega) (by omega) (by decide) (fun _ _ => rfl) (fun s hs => by
    have : s = 0 := by omega
    subst this
    unfold zz
    rw [zs_eq, zs_same]
    exact ⟨rfl, Nat.le_refl 0⟩) (fun s s1 s2 => absurd s2 (by omega))
  have c1' : f_X0_payments_L69 fu fu (sI K2 38 0 0) 1 = some K3 := c1
  have e34 : K3 34 2 = nI c := by rw [c2 34 (by decide), zs_ne (by decide), b2 34 (by decide)]; exact a3
  have esh : (1 : Int32) <<< (nI c &&& 31) - 1 = nI (2 ^ c - 1) := by
    rw [zq1, zq31, sh_ok (by omega), pk_sub (by omega)]
  obtain ⟨d1, d2⟩ := c3 (2 ^ c - 1) (by omega)
  refine ⟨zz K3, K3, ?_, ?_, c4, by omega⟩
  · unfold f_X0_payments
    have t0 : (0 : Int32).toNatClampNeg = 0 := by decide
    have i0 : ∀ k : Option (Int32 × HI), inb 256 0 k = k := fun k => by rw [zq0, inb_ok (by decide)]
    simp only [bnd, a1', b1, Option.bind_some, i0, t0, c1', e34, esh]
    rw [ldI_ok (by omega), d1]
  · intro x hx
    rw [c2 x (by omega), zs_ne (by omega), b2 x (by omega), a2 x (by omega) (by omega)]
