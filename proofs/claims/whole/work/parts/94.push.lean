/-! acts: what is remembered -/
theorem sdm {a d : Nat} : a - a / d * d = a % d := by
  have := Nat.div_add_mod' a d
  omega
theorem push_C {I : HI} {nx dp : Nat} (h1 : I 9 2 = nI nx) (h2 : I 9 3 = nI dp) (hnx : nx < 20) (hdp : dp ≤ 20) : ∃ I', f_X11_remember I = some I' ∧ (∀ x, x ≠ 9 → x ≠ 11 → x ≠ 12 + nx → I' x = I x) ∧ I' 9 2 = nI ((nx + 1) % 20) ∧ I' 9 3 = nI (min 20 (dp + 1)) ∧ I' 11 = upd (I 11) nx (I 32 1) ∧ SE (sc I 49) (rwv (I' (12 + nx))) := by
  have t0 : (0 : Int32).toNatClampNeg = 0 := by decide
  have t1 : (1 : Int32).toNatClampNeg = 1 := by decide
  have t8 : (8 : Int32).toNatClampNeg = 8 := by decide
  have t9 : (9 : Int32).toNatClampNeg = 9 := by decide
  have t17 : (17 : Int32).toNatClampNeg = 17 := by decide
  have t25 : (25 : Int32).toNatClampNeg = 25 := by decide
  have t36 : (36 : Int32).toNatClampNeg = 36 := by decide
  have hw : ∃ K, f_X9_writeTo I 49 (12 + nx) = some K ∧ (∀ x, x ≠ 12 + nx → K x = I x) ∧ SE (sc I 49) (rwv (K (12 + nx))) := by
    refine ⟨_, by unfold f_X9_writeTo; simp only [show (0 : Int32) = nI 0 from rfl, inb_ok (show 0 < 61 ∧ 61 < 2 ^ 31 by decide), bnd]; rfl, ?_, ?_⟩
    · intro x hx
      simp (disch := omega) only [zA_ne, zs_ne]
    · simp only [t0, t1, t8, t9, t17, t25, t36, nI_0]
      refine ⟨?_, fun k hk => ⟨?_, ?_, ?_⟩, fun k hk => ?_⟩
      · simp (disch := omega) only [sc, rwv, Nat.reduceLT, if_true, Nat.add_zero, zA_ne, zA_eq, zs_eq, zs_ne, zs_same, pk_cpy_in, pk_cpy_out]
      · simp (disch := omega) only [sc, rwv, Nat.reduceLT, Nat.reduceEqDiff, if_true, if_false, zA_ne, zA_eq, zs_ne, pk_cpy_in, pk_cpy_out, Nat.zero_add, Nat.add_sub_cancel_left]
      · simp (disch := omega) only [sc, rwv, Nat.reduceLT, Nat.reduceEqDiff, if_true, if_false, zA_ne, zA_eq, zs_ne, pk_cpy_in, pk_cpy_out, Nat.zero_add, Nat.add_sub_cancel_left]
      · simp (disch := omega) only [sc, rwv, Nat.reduceLT, Nat.reduceEqDiff, if_true, if_false, zA_ne, zA_eq, zs_ne, pk_cpy_in, pk_cpy_out, Nat.zero_add, Nat.add_sub_cancel_left]
      · simp (disch := omega) only [sc, rwv, Nat.reduceLT, Nat.reduceEqDiff, if_true, if_false, zA_ne, zA_eq, zs_ne, pk_cpy_in, pk_cpy_out, Nat.zero_add, Nat.add_sub_cancel_left]
  obtain ⟨K, k1, k2, k3⟩ := hw
  have e1 : K 9 2 = nI nx := by rw [k2 9 (by omega)]; exact h1
  have e2 : K 9 3 = nI dp := by rw [k2 9 (by omega)]; exact h2
  have em : f_J9_min_7cf53 (nI 20) (nI (dp + 1)) = some (nI (min 20 (dp + 1))) := by
    unfold f_J9_min_7cf53
    by_cases c : 20 < dp + 1
    · rw [show min 20 (dp + 1) = 20 by omega]
      simp (disch := omega) only [sdm, ↓zm1, ↓zm2, ↓zm3, ↓zm4, ↓zm5, ↓zm6, ↓zm7, ↓zm8, ↓zm9, ↓zm10, ↓zm11, ↓zm12, ↓zm13, ↓zm14, ↓zm15, ↓zm16, ↓zm17, ↓zm18, ↓zm19, ↓zm20, ↓zm1000000000, zq0, zq1, zq2, zq3, zq4, zq5, zq6, zq7, zq8, zq9, zq10, zq11, zq12, zq13, zq14, zq15, zq16, zq17, zq18, zq19, zq20, zq21, zq22, zq23, zq24, zq25, zq26, zq30, zq31, zq32, zq33, zq34, zq35, zq36, zq37, zq38, zq39, zq40, zq41, zq42, zq43, zq44, zq45, zq47, zq48, zq57, zq59, zq60, zq61, zq62, zq80, zq91, zq93, zq97, zq99, zq100, zq107, zq110, zq120, zq122, zq128, zq149, zq160, zq208, zq240, zq251, zq255, zq256, zq500, zq936, zq999, zq1600, zq1800, zq2048, zq3200, zq4160, zq9999, zq12345, zq1000000, zq1048576, zq100000000, bnd, jnt, zg_ok, gz_0, gz_1, gz_n0, gz_n1, zs_eq, zs_ne, zs_same, zs_other, zA_eq, zA_ne, Option.bind_some, Option.bind_none, nI_add, pk_mul, nI_clamp, nI_leI, nI_ltI, nI_eq, pk_sub, nI_mI, nI_eq_mI, mI_eq_nI, nI_lt_m, ldI_ok, inb_ok, if_pos, if_neg, dv_ok, rem_ok, div_ok, if_true, if_false]
    · rw [show min 20 (dp + 1) = dp + 1 by omega]
      by_cases c2 : dp + 1 = 20
      · rw [c2]
        simp (disch := omega) only [sdm, ↓zm1, ↓zm2, ↓zm3, ↓zm4, ↓zm5, ↓zm6, ↓zm7, ↓zm8, ↓zm9, ↓zm10, ↓zm11, ↓zm12, ↓zm13, ↓zm14, ↓zm15, ↓zm16, ↓zm17, ↓zm18, ↓zm19, ↓zm20, ↓zm1000000000, zq0, zq1, zq2, zq3, zq4, zq5, zq6, zq7, zq8, zq9, zq10, zq11, zq12, zq13, zq14, zq15, zq16, zq17, zq18, zq19, zq20, zq21, zq22, zq23, zq24, zq25, zq26, zq30, zq31, zq32, zq33, zq34, zq35, zq36, zq37, zq38, zq39, zq40, zq41, zq42, zq43, zq44, zq45, zq47, zq48, zq57, zq59, zq60, zq61, zq62, zq80, zq91, zq93, zq97, zq99, zq100, zq107, zq110, zq120, zq122, zq128, zq149, zq160, zq208, zq240, zq251, zq255, zq256, zq500, zq936, zq999, zq1600, zq1800, zq2048, zq3200, zq4160, zq9999, zq12345, zq1000000, zq1048576, zq100000000, bnd, jnt, zg_ok, gz_0, gz_1, gz_n0, gz_n1, zs_eq, zs_ne, zs_same, zs_other, zA_eq, zA_ne, Option.bind_some, Option.bind_none, nI_add, pk_mul, nI_clamp, nI_leI, nI_ltI, nI_eq, pk_sub, nI_mI, nI_eq_mI, mI_eq_nI, nI_lt_m, ldI_ok, inb_ok, if_pos, if_neg, dv_ok, rem_ok, div_ok, if_true, if_false]
      · simp (disch := omega) only [sdm, ↓zm1, ↓zm2, ↓zm3, ↓zm4, ↓zm5, ↓zm6, ↓zm7, ↓zm8, ↓zm9, ↓zm10, ↓zm11, ↓zm12, ↓zm13, ↓zm14, ↓zm15, ↓zm16, ↓zm17, ↓zm18, ↓zm19, ↓zm20, ↓zm1000000000, zq0, zq1, zq2, zq3, zq4, zq5, zq6, zq7, zq8, zq9, zq10, zq11, zq12, zq13, zq14, zq15, zq16, zq17, zq18, zq19, zq20, zq21, zq22, zq23, zq24, zq25, zq26, zq30, zq31, zq32, zq33, zq34, zq35, zq36, zq37, zq38, zq39, zq40, zq41, zq42, zq43, zq44, zq45, zq47, zq48, zq57, zq59, zq60, zq61, zq62, zq80, zq91, zq93, zq97, zq99, zq100, zq107, zq110, zq120, zq122, zq128, zq149, zq160, zq208, zq240, zq251, zq255, zq256, zq500, zq936, zq999, zq1600, zq1800, zq2048, zq3200, zq4160, zq9999, zq12345, zq1000000, zq1048576, zq100000000, bnd, jnt, zg_ok, gz_0, gz_1, gz_n0, gz_n1, zs_eq, zs_ne, zs_same, zs_other, zA_eq, zA_ne, Option.bind_some, Option.bind_none, nI_add, pk_mul, nI_clamp, nI_leI, nI_ltI, nI_eq, pk_sub, nI_mI, nI_eq_mI, mI_eq_nI, nI_lt_m, ldI_ok, inb_ok, if_pos, if_neg, dv_ok, rem_ok, div_ok, if_true, if_false]
  refine ⟨sI (sI (sI K 11 nx (I 32 1)) 9 2 (nI ((nx + 1) % 20))) 9 3 (nI (min 20 (dp + 1))), ?_, ?_, ?_, ?_, ?_, ?_⟩
  · unfold f_X11_remember f_X1_push
    simp (disch := omega) only [sdm, ↓zm1, ↓zm2, ↓zm3, ↓zm4, ↓zm5, ↓zm6, ↓zm7, ↓zm8, ↓zm9, ↓zm10, ↓zm11, ↓zm12, ↓zm13, ↓zm14, ↓zm15, ↓zm16, ↓zm17, ↓zm18, ↓zm19, ↓zm20, ↓zm1000000000, zq0, zq1, zq2, zq3, zq4, zq5, zq6, zq7, zq8, zq9, zq10, zq11, zq12, zq13, zq14, zq15, zq16, zq17, zq18, zq19, zq20, zq21, zq22, zq23, zq24, zq25, zq26, zq30, zq31, zq32, zq33, zq34, zq35, zq36, zq37, zq38, zq39, zq40, zq41, zq42, zq43, zq44, zq45, zq47, zq48, zq57, zq59, zq60, zq61, zq62, zq80, zq91, zq93, zq97, zq99, zq100, zq107, zq110, zq120, zq122, zq128, zq149, zq160, zq208, zq240, zq251, zq255, zq256, zq500, zq936, zq999, zq1600, zq1800, zq2048, zq3200, zq4160, zq9999, zq12345, zq1000000, zq1048576, zq100000000, bnd, jnt, zg_ok, gz_0, gz_1, gz_n0, gz_n1, zs_eq, zs_ne, zs_same, zs_other, zA_eq, zA_ne, Option.bind_some, Option.bind_none, nI_add, pk_mul, nI_clamp, nI_leI, nI_ltI, nI_eq, pk_sub, nI_mI, nI_eq_mI, mI_eq_nI, nI_lt_m, ldI_ok, inb_ok, if_pos, if_neg, dv_ok, rem_ok, div_ok, if_true, if_false, h1, rowAt, k1, e1, e2, em]
  · intro x q1 q2 q3
    rw [zs_ne q1, zs_ne q1, zs_ne q2, k2 x q3]
  · simp (disch := omega) only [bnd, jnt, zg_ok, gz_0, gz_1, gz_n0, gz_n1, zs_eq, zs_ne, zs_same, zs_other, zA_eq, zA_ne, Option.bind_some, Option.bind_none]
  · simp (disch := omega) only [bnd, jnt, zg_ok, gz_0, gz_1, gz_n0, gz_n1, zs_eq, zs_ne, zs_same, zs_other, zA_eq, zA_ne, Option.bind_some, Option.bind_none]
  · simp (disch := omega) only [bnd, jnt, zg_ok, gz_0, gz_1, gz_n0, gz_n1, zs_eq, zs_ne, zs_same, zs_other, zA_eq, zA_ne, Option.bind_some, Option.bind_none]
    rw [k2 11 (by omega)]
  · rw [zs_ne (by omega), zs_ne (by omega), zs_ne (by omega)]
    exact k3
theorem keeps_M {J : HI} {fu f dp m : Nat} (hf : 1600 < fu) (h1 : J 100 53 = nI f) (h2 : J 100 54 = nI dp) (hf2 : f < 20) (hdp : dp ≤ 20) (hm : J 132 0 = nI m) (hm2 : m ≤ 40) {e : Nat} (he : e = if dp = 20 then 1 else 0) : ∃ J', f_X12_keeps fu J = some J' ∧ J' 100 53 = nI ((f + e) % 20) ∧ J' 100 54 = nI (dp - e + 1) ∧ (∀ k, k ≠ 53 → k ≠ 54 → J' 100 k = J 100 k) ∧ (∀ x, x < 127 ∨ 134 ≤ x → x ≠ 100 → J' x = J x) ∧
    (∃ K, CO (6 + ((f + e) % 20 + (dp - e)) % 20) 0 m K J' ∧ ∀ x, 127 ≤ x → x ≤ 133 → K x = J x) := by
  have key : ∀ K : HI, ∀ g q : Nat, K 100 53 = nI g → K 100 54 = nI q → g < 20 → q < 20 → K 132 0 = nI m → ∃ J', ((f_X12_slot K (K 100 54)).bind fun x6 => (f_X12_copies fu K x6 0).bind fun x7 => some (sI x7 100 54 ((x7 100 54) + 1))) = some J' ∧ J' 100 53 = nI g ∧ J' 100 54 = nI (q + 1) ∧ (∀ k, k ≠ 54 → J' 100 k = K 100 k) ∧ (∀ x, x < 127 ∨ 134 ≤ x → x ≠ 100 → J' x = K x) ∧ (∃ V, CO (6 + (g + q) % 20) 0 m V J' ∧ ∀ x, 127 ≤ x → x ≤ 133 → V x = K x) := by
    intro K g q a1 a2 a3 a4 a5
    obtain ⟨J1, b1, b2⟩ := copies_M (J := K) (to := 6 + (g + q) % 20) (fr := 0) hf (by omega) (by decide) (by omega) a5 hm2
    have es : f_X12_slot K (nI q) = some (nI (6 + (g + q) % 20)) := by
      unfold f_X12_slot
      simp (disch := omega) only [sdm, ↓zm1, ↓zm2, ↓zm3, ↓zm4, ↓zm5, ↓zm6, ↓zm7, ↓zm8, ↓zm9, ↓zm10, ↓zm11, ↓zm12, ↓zm13, ↓zm14, ↓zm15, ↓zm16, ↓zm17, ↓zm18, ↓zm19, ↓zm20, ↓zm1000000000, zq0, zq1, zq2, zq3, zq4, zq5, zq6, zq7, zq8, zq9, zq10, zq11, zq12, zq13, zq14, zq15, zq16, zq17, zq18, zq19, zq20, zq21, zq22, zq23, zq24, zq25, zq26, zq30, zq31, zq32, zq33, zq34, zq35, zq36, zq37, zq38, zq39, zq40, zq41, zq42, zq43, zq44, zq45, zq47, zq48, zq57, zq59, zq60, zq61, zq62, zq80, zq91, zq93, zq97, zq99, zq100, zq107, zq110, zq120, zq122, zq128, zq149, zq160, zq208, zq240, zq251, zq255, zq256, zq500, zq936, zq999, zq1600, zq1800, zq2048, zq3200, zq4160, zq9999, zq12345, zq1000000, zq1048576, zq100000000, bnd, jnt, zg_ok, gz_0, gz_1, gz_n0, gz_n1, zs_eq, zs_ne, zs_same, zs_other, zA_eq, zA_ne, Option.bind_some, Option.bind_none, nI_add, pk_mul, nI_clamp, nI_leI, nI_ltI, nI_eq, pk_sub, nI_mI, nI_eq_mI, mI_eq_nI, nI_lt_m, ldI_ok, inb_ok, if_pos, if_neg, dv_ok, rem_ok, div_ok, if_true, if_false, a1]
    have b1' : f_X12_copies fu K (nI (6 + (g + q) % 20)) 0 = some J1 := b1
    have e1 : nI q + 1 = nI (q + 1) := nI_1 q
    have e100 : J1 100 = K 100 := b2.1 100 (by decide)
    refine ⟨sI J1 100 54 (nI (q + 1)), ?_, ?_, ?_, ?_, ?_, ?_⟩
    · simp only [a2, es, Option.bind_some, b1', e100, e1]
    · rw [zs_eq, zs_other (by decide), e100, a1]
    · rw [zs_eq, zs_same]
    · intro k hk
      rw [zs_eq, zs_other hk, e100]
    · intro x hx hx2
      rw [zs_ne hx2]
      exact b2.1 x hx
    · refine ⟨sI K 100 54 (nI (q + 1)), ?_, fun x q1 q2 => zs_ne (by omega)⟩
      obtain ⟨c0, c1, c2, c3, c4, c5, c6, c7⟩ := b2
      refine ⟨fun x hx => ?_, ?_, ?_, ?_, ?_, ?_, ?_, ?_⟩
      · by_cases c : x = 100
        · subst c
          rw [zs_eq, zs_eq, c0 100 (by decide)]
        · rw [zs_ne c, zs_ne c]
          exact c0 x hx
      · rw [zs_ne (by decide), zs_ne (by decide)]; exact c1
      · rw [zs_ne (by decide), zs_ne (by decide)]; exact c2
      · rw [zs_ne (by decide), zs_ne (by decide)]; exact c3
      · rw [zs_ne (by decide), zs_ne (by decide)]; exact c4
      · rw [zs_ne (by decide), zs_ne (by decide)]; exact c5
      · rw [zs_ne (by decide), zs_ne (by decide)]; exact c6
      · rw [zs_ne (by decide), zs_ne (by decide)]; exact c7
  by_cases c : dp = 20
  · rw [if_pos c] at he
    subst he
    subst c
    obtain ⟨J', a1, a2, a3, a4, a5, V, a6, a7⟩ := key (sI (sI J 100 53 (nI ((f + 1) % 20))) 100 54 (nI 19)) ((f + 1) % 20) 19 (by simp (disch := omega) only [bnd, jnt, zg_ok, gz_0, gz_1, gz_n0, gz_n1, zs_eq, zs_ne, zs_same, zs_other, zA_eq, zA_ne, Option.bind_some, Option.bind_none]) (by simp (disch := omega) only [bnd, jnt, zg_ok, gz_0, gz_1, gz_n0, gz_n1, zs_eq, zs_ne, zs_same, zs_other, zA_eq, zA_ne, Option.bind_some, Option.bind_none]) (by omega) (by omega) (by simp (disch := omega) only [bnd, jnt, zg_ok, gz_0, gz_1, gz_n0, gz_n1, zs_eq, zs_ne, zs_same, zs_other, zA_eq, zA_ne, Option.bind_some, Option.bind_none]; exact hm)
    refine ⟨J', ?_, a2, a3, ?_, ?_, V, a6, ?_⟩
    · unfold f_X12_keeps
      have e20 : J 100 54 = 20 := by rw [h2]; rfl
      have d20 : ∀ k : Option HI, dvI 20 k = k := fun k => by rw [zq20, dv_ok (by decide)]
      have e53 : (J 100 53 + 1) - (J 100 53 + 1) / 20 * 20 = nI ((f + 1) % 20) := by rw [h1, zq1, zq20, nI_add, rem_ok (by omega)]
      have e54 : sI J 100 53 (nI ((f + 1) % 20)) 100 54 - 1 = nI 19 := by rw [zs_eq, zs_other (by decide), h2]; decide
      simp only [jnt, if_pos e20, bnd, d20, e53, e54]
      exact a1
    · intro k q1 q2
      rw [a4 k q2, zs_eq, zs_other q2, zs_eq, zs_other q1]
    · intro x q1 q2
      rw [a5 x q1 q2, zs_ne q2, zs_ne q2]
    · intro x q1 q2
      rw [a7 x q1 q2, zs_ne (by omega), zs_ne (by omega)]
  · rw [if_neg c] at he
    subst he
    obtain ⟨J', a1, a2, a3, a4, a5, V, a6, a7⟩ := key J f dp h1 h2 hf2 (by omega) hm
    refine ⟨J', ?_, ?_, a3, fun k q1 q2 => a4 k q2, a5, V, ?_, a7⟩
    · unfold f_X12_keeps
      have n1 : ¬ J 100 54 = 20 := by
        rw [h2, zq20]
        exact fun q => c ((nI_eq (by omega) (by decide)).mp q)
      simp only [jnt, if_neg n1, bnd]
      exact a1
    · rw [a2, Nat.add_zero, Nat.mod_eq_of_lt hf2]
    · rw [Nat.add_zero, Nat.mod_eq_of_lt hf2]
      exact a6
/-- the newest of what is remembered is of now -/
def RHf (n : Nat) (I J D : HI) (nh no nl : Nat) : Prop := ∃ nx dp f : Nat, ∃ tt : Nat → Nat, RHx n I J D nh no nl nx (dp + 1) f tt ∧ tt (dp + 1) = tt dp
theorem RHf.rhs {n : Nat} {I J D : HI} {nh no nl : Nat} (h : RHf n I J D nh no nl) : RHs n I J D nh no nl := by
  obtain ⟨nx, dp, f, tt, a, _⟩ := h
  exact ⟨nx, dp + 1, f, tt, a⟩
theorem SW.se {D S S' : HI} {nh no nl : Nat} (h : SW D S nh no nl) (hn : nl ≤ 8) (hE : SE S S') : SW D S' nh no nl := by
  obtain ⟨⟨n, n1, n2⟩, a, b, c⟩ := h
  refine ⟨⟨n, n1, by rw [← hE.1]; exact n2⟩, fun l hl => ?_, fun k hk => ?_, fun h hh => ?_⟩
  · obtain ⟨x, x1, x2, x3, x4⟩ := a l hl
    obtain ⟨e1, e2, e3⟩ := hE.2.1 l hl
    exact ⟨x, x1, by rw [← e1]; exact x2, by rw [← e2, ← e3]; exact x3, by rw [← e2, ← e3]; exact x4⟩
  · obtain ⟨x, x1, x2⟩ := b k hk
    exact ⟨x, x1, by rw [← hE.2.2 k hk]; exact x2⟩
  · obtain ⟨x, x1, x2⟩ := c h hh
    exact ⟨x, x1, by rw [← hE.rmE nl hn]; exact x2⟩
theorem ix1 {nx d : Nat} (h : nx < 20) (hd : d < 20) : ((nx + 1) % 20 + 20 - (d + 1) + d) % 20 = nx := by omega
theorem ix2 {nx dp e k d : Nat} (h : nx < 20) (h1 : dp ≤ 20) (h2 : e ≤ dp) (h3 : d = dp - e) (h4 : d < 20) (hk : k < d) : ((nx + 1) % 20 + 20 - (d + 1) + k) % 20 = (nx + 20 - dp + (k + e)) % 20 := by omega
theorem ix2n {nx dp e k d : Nat} (h : nx < 20) (h1 : dp ≤ 20) (h2 : e ≤ dp) (h3 : d = dp - e) (h4 : d < 20) (hk : k < d) : (nx + 20 - dp + (k + e)) % 20 ≠ nx := by omega
theorem ix3 {f e k : Nat} : ((f + e) % 20 + k) % 20 = (f + (k + e)) % 20 := by omega
theorem ix3n {f e k d : Nat} (hk : k < d) (hd : d < 20) : (f + (k + e)) % 20 ≠ ((f + e) % 20 + d) % 20 := by omega
theorem push_H {n : Nat} {I I' J J' D : HI} {nh no nl nx dp f e d to : Nat} {tt : Nat → Nat} (hh : RHx n I J D nh no nl nx dp f tt) (he1 : e ≤ 1) (he2 : e ≤ dp) (hd : d = dp - e) (hd2 : d < 20) (hto : 6 + ((f + e) % 20 + d) % 20 = to) (h9 : nl ≤ 8) (hE : SEp nl (sc I 49) (lv J 0)) (hW : SW D (sc I 49) nh no nl)
    (hI : ∀ x, x ≤ 8 ∨ 32 ≤ x → I' x = I x) (a2 : ∀ x, x ≠ 9 → x ≠ 11 → x ≠ 12 + nx → I' x = I x) (a3 : I' 9 2 = nI ((nx + 1) % 20)) (a4 : I' 9 3 = nI (d + 1)) (a5 : I' 11 = upd (I 11) nx (I 32 1)) (a6 : SE (sc I 49) (rwv (I' (12 + nx)))) (b2 : J' 100 53 = nI ((f + e) % 20)) (b3 : J' 100 54 = nI (d + 1))
    (o127 : ∀ v, v ≠ to → J' 127 v = J 127 v) (o132 : ∀ v, v ≠ to → J' 132 v = J 132 v) (o8 : ∀ k, k < 8 * to ∨ 8 * to + 8 ≤ k → J' 128 k = J 128 k ∧ J' 129 k = J 129 k ∧ J' 130 k = J 130 k) (o36 : ∀ k, k < 36 * to ∨ 36 * to + 36 ≤ k → J' 131 k = J 131 k) (o160 : ∀ k, k < 160 * to ∨ 160 * to + 160 ≤ k → J' 133 k = J 133 k)
    (hL : SE (lv J 0) (lv J' to)) (c6 : J' 132 to = J 132 0) (c7 : ∀ j, j < 4 * min 40 (tt dp) → J' 133 (160 * to + j) = J 133 j) : RHx n I' J' D nh no nl ((nx + 1) % 20) (d + 1) ((f + e) % 20) (fun k => tt (min dp (k + e))) := by
  obtain ⟨p1, p2, p3, p4, p5, p6, p7, p8, p9, p10, p11, p12⟩ := hh
  have hto6 : 6 ≤ to ∧ to < 26 := by clear p9 p10; omega
  have m1 : min dp (d + 1 + e) = dp := by clear hto p9 p10; omega
  have m2 : min dp (d + e) = dp := by clear hto p9 p10; omega
  have q1 : (nx + 1) % 20 < 20 := Nat.mod_lt _ (by decide)
  have q2 : (f + e) % 20 < 20 := Nat.mod_lt _ (by decide)
  refine ⟨q1, by clear hto p9; omega, q2, a3, a4, b2, b3, ?_, ?_, ?_, ?_, ?_⟩
  · show I' 32 1 = nI (tt (min dp (d + 1 + e)))
    rw [hI 32 (Or.inr (by decide)), m1]
    exact p8
  · show tt (min dp (d + 1 + e)) ≤ n
    rw [m1]
    exact p9
  · intro j k hjk hk
    have z1 : min dp (j + e) ≤ min dp (k + e) ∧ min dp (k + e) ≤ dp ∧ min dp (k + e) - min dp (j + e) ≤ k - j := by clear hto p9 q1 q2 m1 m2; omega
    have := p10 (min dp (j + e)) (min dp (k + e)) z1.1 z1.2.1
    show tt (min dp (j + e)) ≤ tt (min dp (k + e)) ∧ tt (min dp (k + e)) ≤ tt (min dp (j + e)) + (k - j)
    exact ⟨this.1, Nat.le_trans this.2 (Nat.add_le_add_left z1.2.2 _)⟩
  · show PR I' J' (tt (min dp (d + 1 + e))) 0
    rw [m1]
    exact PR_congr p11 (o132 0 (by clear hto p9; omega)) (fun k h1 h2 => o160 k (by clear hto p9; omega)) (fun k _ => by rw [hI 33 (Or.inr (by decide))])
  · intro k hk
    by_cases ck : k = d
    · subst ck
      show I' 11 (((nx + 1) % 20 + 20 - (k + 1) + k) % 20) = nI (tt (min dp (k + e))) ∧ SEp nl (rwv (I' (12 + ((nx + 1) % 20 + 20 - (k + 1) + k) % 20))) (lv J' (6 + ((f + e) % 20 + k) % 20)) ∧ SW D (rwv (I' (12 + ((nx + 1) % 20 + 20 - (k + 1) + k) % 20))) nh no nl ∧ PR I' J' (tt (min dp (k + e))) (6 + ((f + e) % 20 + k) % 20)
      rw [ix1 p1 hd2, hto, m2]
      refine ⟨by rw [a5, zs_same]; exact p8, SEp.lr a6.symm hE hL, hW.se h9 a6, by rw [c6]; exact p11.1, ?_⟩
      intro j c hj hc
      rw [c7 (4 * j + c) (by clear hto p9; omega), hI 33 (Or.inr (by decide))]
      have := p11.2 j c hj hc
      rw [Nat.mul_zero, Nat.zero_add] at this
      exact this
    · have hkd : k < d := by clear hto p9 q1 q2; omega
      have i3 : min dp (k + e) = k + e := by clear hto p9 q1 q2; omega
      have i4 := ix2n p1 p2 he2 hd hd2 hkd
      have i5 : 6 + (f + (k + e)) % 20 ≠ to := by
        rw [← hto]
        have := ix3n (f := f) (e := e) hkd hd2
        clear hto p9 q1 q2 i4
        omega
      obtain ⟨z1, z2, z3, z4⟩ := p12 (k + e) (by clear hto p9 q1 q2; omega)
      show I' 11 (((nx + 1) % 20 + 20 - (d + 1) + k) % 20) = nI (tt (min dp (k + e))) ∧ SEp nl (rwv (I' (12 + ((nx + 1) % 20 + 20 - (d + 1) + k) % 20))) (lv J' (6 + ((f + e) % 20 + k) % 20)) ∧ SW D (rwv (I' (12 + ((nx + 1) % 20 + 20 - (d + 1) + k) % 20))) nh no nl ∧ PR I' J' (tt (min dp (k + e))) (6 + ((f + e) % 20 + k) % 20)
      rw [ix2 p1 p2 he2 hd hd2 hkd, ix3, i3]
      obtain ⟨r, hr⟩ : ∃ r, r = (nx + 20 - dp + (k + e)) % 20 := ⟨_, rfl⟩
      obtain ⟨w, hw⟩ : ∃ w, w = 6 + (f + (k + e)) % 20 := ⟨_, rfl⟩
      rw [← hr] at z1 z2 z3 i4 ⊢
      rw [← hw] at z2 z4 i5 ⊢
      have hr2 : r < 20 := by rw [hr]; exact Nat.mod_lt _ (by decide)
      clear hr hw hto p9 q1 q2 m1 m2 i3
      have er : I' (12 + r) = I (12 + r) := a2 _ (by omega) (by omega) (by omega)
      rw [er]
      refine ⟨by rw [a5, zs_other i4]; exact z1, SE_lv z2 (o127 _ i5) (fun k h1 h2 => o8 k (by omega)) (fun k h1 h2 => o36 k (by omega)), z3, PR_congr z4 (o132 _ i5) (fun k h1 h2 => o160 k (by omega)) (fun k _ => by rw [hI 33 (Or.inr (by decide))])⟩
theorem push_R {n : Nat} {I : HI} {R : HR} {J : HI} {M : HL} {t b nh no nl fu : Nat} (h : RelB n I R J M t b nh no nl) (hf : 1600 < fu) : ∃ I' J', f_X11_remember I = some I' ∧ f_X12_keeps fu J = some J' ∧ RelB n I' R J' M t b nh no nl ∧ RHf n I' J' (vw I t) nh no nl ∧ (∀ x, x ≤ 8 ∨ 32 ≤ x → I' x = I x) ∧ (∀ x, x < 127 ∨ 134 ≤ x → x ≠ 100 → J' x = J x) ∧ (∀ k, k ≠ 53 → k ≠ 54 → J' 100 k = J 100 k) ∧ (∀ k, k < 8 → J' 128 k = J 128 k ∧ J' 129 k = J 129 k ∧ J' 130 k = J 130 k) ∧ (∀ k, k < 36 → J' 131 k = J 131 k) ∧ J' 127 0 = J 127 0 ∧ J' 132 0 = J 132 0 := by
  obtain ⟨g1, g2, g3, g4, g5, g6, g7, g8, ⟨nx, dp, f, tt, hh⟩⟩ := h
  have hh' := hh
  obtain ⟨p1, p2, p3, p4, p5, p6, p7, p8, p9, p10, p11, p12⟩ := hh'
  clear p9 p10 p12
  have ht := g7.2.2.1.2.2.1
  have h9 := g7.2.2.1.2.2.2.2.2.2.2.2.2
  obtain ⟨e, he⟩ : ∃ e, e = if dp = 20 then 1 else 0 := ⟨_, rfl⟩
  have he1 : e ≤ 1 := by split at he <;> omega
  have he2 : e ≤ dp := by split at he <;> omega
  have he3 : dp - e < 20 := by split at he <;> omega
  have he4 : min 20 (dp + 1) = dp - e + 1 := by split at he <;> omega
  obtain ⟨I', a1, a2, a3, a4, a5, a6⟩ := push_C p4 p5 p1 p2
  obtain ⟨J', b1, b2, b3, b4, b5, V, b6, b7⟩ := keeps_M hf p6 p7 p3 p2 p11.1 (Nat.min_le_left _ _) he
  clear he
  rw [he4] at a4
  clear he4
  obtain ⟨d1, hd1⟩ : ∃ d1, d1 = dp - e := ⟨_, rfl⟩
  rw [← hd1] at a4 b3 b6 he3
  have b6L := b6.lvE
  obtain ⟨c0, c1, c2, c3, c4, c5, c6, c7⟩ := b6
  obtain ⟨to, hto⟩ : ∃ to, 6 + ((f + e) % 20 + d1) % 20 = to := ⟨_, rfl⟩
  rw [hto] at c1 c2 c3 c4 c5 c6 c7 b6L
  have hto2 : 6 ≤ to ∧ to < 26 := by clear hd1; omega
  rw [b7 127 (by decide) (by decide)] at c1
  rw [b7 128 (by decide) (by decide)] at c2
  rw [b7 129 (by decide) (by decide)] at c3
  rw [b7 130 (by decide) (by decide)] at c4
  rw [b7 131 (by decide) (by decide)] at c5
  rw [b7 132 (by decide) (by decide)] at c6
  rw [b7 133 (by decide) (by decide)] at c7
  have hmin : min 40 (tt dp) ≤ 40 := Nat.min_le_left _ _
  have lvV : lv V 0 = lv J 0 := by
    funext a k
    unfold lv
    rw [b7 127 (by decide) (by decide), b7 128 (by decide) (by decide), b7 129 (by decide) (by decide), b7 130 (by decide) (by decide), b7 131 (by decide) (by decide)]
  rw [lvV] at b6L
  have hI : ∀ x, x ≤ 8 ∨ 32 ≤ x → I' x = I x := fun x hx => a2 x (by clear hto; omega) (by clear hto; omega) (by clear hto; omega)
  have o127 : ∀ v, v ≠ to → J' 127 v = J 127 v := fun v hv => by rw [c1, zs_other hv]
  have o132 : ∀ v, v ≠ to → J' 132 v = J 132 v := fun v hv => by rw [c6, zs_other hv]
  have o8 : ∀ k, k < 8 * to ∨ 8 * to + 8 ≤ k → J' 128 k = J 128 k ∧ J' 129 k = J 129 k ∧ J' 130 k = J 130 k := fun k hk => ⟨by rw [c2, cpy_out hk], by rw [c3, cpy_out hk], by rw [c4, cpy_out hk]⟩
  have o36 : ∀ k, k < 36 * to ∨ 36 * to + 36 ≤ k → J' 131 k = J 131 k := fun k hk => by rw [c5, cpy_out hk]
  have o160 : ∀ k, k < 160 * to ∨ 160 * to + 160 ≤ k → J' 133 k = J 133 k := fun k hk => by rw [c7, cpy_out (by clear hto; omega)]
  have hx := push_H (e := e) (d := d1) (to := to) hh he1 he2 hd1 he3 hto h9 g8.1 g8.2 hI a2 a3 a4 a5 a6 b2 b3 o127 o132 o8 o36 o160 b6L (by rw [c6, zs_same]) (fun j hj => by
    have := cpy_in (f := J 133) (s := 160 * 0) (d := 160 * to) (i := 4 * min 40 (tt dp)) (k := j) hj
    rw [c7, this, Nat.mul_zero, Nat.zero_add])
  have hfr : RHf n I' J' (vw I t) nh no nl := ⟨_, d1, _, _, hx, by
    show tt (min dp (d1 + 1 + e)) = tt (min dp (d1 + e))
    have z1 : min dp (d1 + 1 + e) = dp := by clear hto; omega
    have z2 : min dp (d1 + e) = dp := by clear hto; omega
    rw [z1, z2]⟩
  clear hto hx hh
  have ev : vw I' t = vw I t := vw_congr (fun a ha => hI _ (by omega))
  refine ⟨I', J', a1, b1, ⟨RTp_c g1 (by rw [hI 1 (Or.inl (by decide))]) (hI 2 (Or.inl (by decide))) (b4 1 (by decide) (by decide)) (b5 101 (by decide) (by decide)), RFl_c g2 (by rw [hI 1 (Or.inl (by decide))]) (by rw [hI 1 (Or.inl (by decide))]) (b4 10 (by decide) (by decide)) (b4 11 (by decide) (by decide)), RRf_c g3 (hI 5 (Or.inl (by decide))) (b5 126 (by decide) (by decide)), RLt_c g4 (by rw [hI 1 (Or.inl (by decide))]) rfl, RSt_c g5 (by rw [hI 1 (Or.inl (by decide))]) (b4 66 (by decide) (by decide)) (hI 3 (Or.inl (by decide))) (hI 4 (Or.inl (by decide))) (b5 144 (by decide) (by decide)) (b5 145 (by decide) (by decide)), RIm_c g6 (by rw [hI 47 (Or.inr (by decide))]) (b4 70 (by decide) (by decide)) (hI 48 (Or.inr (by decide))) (b5 146 (by decide) (by decide)), RLd_c g7 (fun x q1 q2 => hI x (by omega)) ⟨rfl, rfl, rfl⟩ (b4 13 (by decide) (by decide)) (fun x q1 q2 => b5 x (by omega) (by omega)) ⟨rfl, rfl, rfl⟩, ?_, ?_⟩, hfr, hI, b5, b4, fun k hk => o8 k (by omega), fun k hk => o36 k (by omega), o127 0 (by omega), o132 0 (by omega)⟩
  · rw [ev]
    exact RSc_c g8 (fun x q1 q2 => hI x (by omega)) (o127 0 (by omega)) (fun k hk => o8 k (by omega)) (fun k hk => o36 k (by omega))
  · rw [ev]
    exact hfr.rhs
/-- an act changes the scene of now, and what lies beside it -/
def AC (J J' : HI) : Prop := (∀ x, x < 127 ∨ x = 132 ∨ x = 133 ∨ 137 ≤ x → J' x = J x) ∧ (∀ v, v ≠ 0 → J' 127 v = J 127 v) ∧ (∀ k, 8 ≤ k → J' 128 k = J 128 k ∧ J' 129 k = J 129 k ∧ J' 130 k = J 130 k) ∧ ∀ k, 36 ≤ k → J' 131 k = J 131 k
theorem AC.refl {J : HI} : AC J J := ⟨fun _ _ => rfl, fun _ _ => rfl, fun _ _ => ⟨rfl, rfl, rfl⟩, fun _ _ => rfl⟩
theorem AC.trans {J J' J'' : HI} (h : AC J J') (h' : AC J' J'') : AC J J'' := ⟨fun x hx => (h'.1 x hx).trans (h.1 x hx), fun v hv => (h'.2.1 v hv).trans (h.2.1 v hv), fun k hk => ⟨(h'.2.2.1 k hk).1.trans (h.2.2.1 k hk).1, (h'.2.2.1 k hk).2.1.trans (h.2.2.1 k hk).2.1, (h'.2.2.1 k hk).2.2.trans (h.2.2.1 k hk).2.2⟩, fun k hk => (h'.2.2.2 k hk).trans (h.2.2.2 k hk)⟩
theorem PO.AC {J J' : HI} (h : PO 0 J J') : AC J J' := ⟨fun x hx => h.1 x (by omega), fun v hv => h.2.2 v hv, fun k hk => h.2.1 k (by omega), fun k _ => by rw [h.1 131 (by decide)]⟩
theorem RHx_act {n n' : Nat} {I I' J J' D : HI} {nh no nl nx dp f : Nat} {tt : Nat → Nat} (h : RHx n I J D nh no nl nx dp f tt) (hn : n ≤ n') (hx : ∀ x, 9 ≤ x → x ≤ 33 → I' x = I x) (hj : AC J J') : RHx n' I' J' D nh no nl nx dp f tt := by
  obtain ⟨a1, a2, a3, a4, a5, a6, a7, a8, a9, a10, a11, a12⟩ := h
  obtain ⟨j1, j2, j3, j4⟩ := hj
  have e100 : J' 100 = J 100 := j1 100 (by decide)
  have e132 : J' 132 = J 132 := j1 132 (by decide)
  have e133 : J' 133 = J 133 := j1 133 (by decide)
  refine ⟨a1, a2, a3, by rw [hx 9 (by decide) (by decide)]; exact a4, by rw [hx 9 (by decide) (by decide)]; exact a5, by rw [e100]; exact a6, by rw [e100]; exact a7, by rw [hx 32 (by decide) (by decide)]; exact a8, by omega, a10, PR_congr a11 (by rw [e132]) (fun k h1 h2 => by rw [e133]) (fun k _ => by rw [hx 33 (by decide) (by decide)]), fun k hk => ?_⟩
  obtain ⟨b1, b2, b3, b4⟩ := a12 k hk
  have e : I' (12 + (nx + 20 - dp + k) % 20) = I (12 + (nx + 20 - dp + k) % 20) := hx _ (by omega) (by omega)
  refine ⟨by rw [hx 11 (by decide) (by decide)]; exact b1, ?_, by rw [e]; exact b3, PR_congr b4 (by rw [e132]) (fun k h1 h2 => by rw [e133]) (fun k _ => by rw [hx 33 (by decide) (by decide)])⟩
  rw [e]
  exact SE_lv b2 (j2 _ (by omega)) (fun k h1 h2 => j3 k (by omega)) (fun k h1 h2 => j4 k (by omega))
theorem Rel_act {n n' : Nat} {I I' : HI} {R : HR} {J J' : HI} {M M' : HL} {t b nh no nl : Nat} (h : RelB n I R J M t b nh no nl) (hn : n ≤ n') (hx : ∀ x, x ≠ 1 → x < 49 ∨ 58 ≤ x → I' x = I x) (hx1 : ∀ k, k ≠ 17 → I' 1 k = I 1 k) (hj : AC J J') (hlt : RLt I' M') (hl : ∀ x, x = 117 ∨ x = 118 ∨ x = 119 → M' x = M x) (hE : SEp nl (sc I' 49) (lv J' 0)) (hW : SW (vw I t) (sc I' 49) nh no nl) : RelB n' I' R J' M' t b nh no nl := by
  obtain ⟨g1, g2, g3, g4, g5, g6, g7, g8, ⟨nx, dp, f, tt, hh⟩⟩ := h
  have ht := g7.2.2.1.2.2.1
  have ev : vw I' t = vw I t := vw_congr (fun a ha => hx _ (by omega) (by omega))
  have hh' := RHx_act hh hn (fun x q1 q2 => hx x (by omega) (by omega)) hj
  obtain ⟨j1, j2, j3, j4⟩ := hj
  have e100 : J' 100 = J 100 := j1 100 (by decide)
  refine ⟨RTp_c g1 (hx1 1 (by decide)) (hx 2 (by decide) (by decide)) (by rw [e100]) (j1 101 (by decide)), RFl_c g2 (hx1 5 (by decide)) (hx1 6 (by decide)) (by rw [e100]) (by rw [e100]), RRf_c g3 (hx 5 (by decide) (by decide)) (j1 126 (by decide)), hlt, RSt_c g5 (hx1 16 (by decide)) (by rw [e100]) (hx 3 (by decide) (by decide)) (hx 4 (by decide) (by decide)) (j1 144 (by decide)) (j1 145 (by decide)), RIm_c g6 (by rw [hx 47 (by decide) (by decide)]) (by rw [e100]) (hx 48 (by decide) (by decide)) (j1 146 (by decide)), RLd_c g7 (fun x q1 q2 => hx x (by omega) (by omega)) ⟨rfl, rfl, rfl⟩ (by rw [e100]) (fun x q1 q2 => j1 x (by omega)) ⟨hl 117 (by decide), hl 118 (by decide), hl 119 (by decide)⟩, ⟨hE, by rw [ev]; exact hW⟩, ⟨nx, dp, f, tt, by rw [ev]; exact hh'⟩⟩
