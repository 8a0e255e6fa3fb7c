/-! stood -/
section
variable {I : HI} {R : HR} {J : HI} {t b nh no nl r : Nat} {D : HI}
theorem tells_loop (hC : CL I R 49 t nh no nl) (hM : ML J b nh no nl D) (hr : r ≤ 8) {o : Nat → Nat} (ho : ∀ k, k < 1600 → o k < 256 ∧ I 2 k = nI (o k) ∧ J 101 k = nI (o k)) : ∀ (q i n : Nat), i + q = r → q + 1 < n →
    (f_X11_tellsStood_L21 n I R (nI (3 * r)) (nI (3 * i)) = some (.inl 0) ∧ f_X12_stood_L34 n J (nI (3 * r)) 1 (nI (3 * i)) = some 0) ∨ (f_X11_tellsStood_L21 n I R (nI (3 * r)) (nI (3 * i)) = some (.inr ()) ∧ f_X12_stood_L34 n J (nI (3 * r)) 1 (nI (3 * i)) = some 1 ∧ ∀ k, i ≤ k → k < r → o (3 * k) < nl ∧ o (3 * k + 1) * 256 + o (3 * k + 2) ≤ 999) := by
  have h9 := hC.2.2.2.2.2.2.2.2.2
  have n3 : ¬ (1 : Int32) = 0 := by decide
  have n4 : ¬ nI 1 = nI 0 := by decide
  intro q
  induction q with
  | zero =>
    intro i n e1 e2
    obtain ⟨n, rfl⟩ : ∃ q, n = q + 1 := ⟨n - 1, by omega⟩
    have : i = r := by omega
    subst this
    right
    refine ⟨?_, ?_, fun k h1 h2 => absurd h1 (by omega)⟩
    · simp (disch := omega) only [f_X11_tellsStood_L21, nI_leI, if_pos, Nat.le_refl, if_true]
    · simp (disch := omega) only [f_X12_stood_L34, nI_leI, if_pos, Nat.le_refl, if_true]
  | succ q ih =>
    intro i n e1 e2
    obtain ⟨n, rfl⟩ : ∃ q, n = q + 1 := ⟨n - 1, by omega⟩
    obtain ⟨o1, o2, o3⟩ := ho (3 * i) (by omega)
    obtain ⟨p1, p2, p3⟩ := ho (3 * i + 1) (by omega)
    obtain ⟨q1, q2, q3⟩ := ho (3 * i + 2) (by omega)
    have c1 : ¬ nI (3 * r) ≤ nI (3 * i) := nI_ge (by omega) (by omega)
    have iC := isLake_C hC (nI (o (3 * i)))
    have iM := isLake_M hM (nI (o (3 * i)))
    have t2 := two_M (J := J) (k := 3 * i + 1) (by omega) p3 q3 p1 q1
    have A1 : nI (3 * i) + 1 = nI (3 * i + 1) := nI_1 _
    have A2 : nI (3 * i) + 2 = nI (3 * i + 2) := by rw [zq2, nI_add]
    have A3 : nI (3 * i) + 3 = nI (3 * (i + 1)) := by rw [zq3, nI_add]; rfl
    have zero : f_X12_stood_L34 n J (nI (3 * r)) 0 (nI (3 * (i + 1))) = some 0 := by
      obtain ⟨n, rfl⟩ : ∃ q, n = q + 1 := ⟨n - 1, by omega⟩
      by_cases c : nI (3 * r) ≤ nI (3 * (i + 1))
      · simp only [f_X12_stood_L34, if_pos c]
      · simp only [f_X12_stood_L34, if_neg c, if_true]
    by_cases co : o (3 * i) < nl
    · have c2 : 0 ≤ nI (o (3 * i)) ∧ nI (o (3 * i)) < nI nl := ⟨nI_pos' (by omega), nI_lt co (by omega)⟩
      rw [if_pos c2] at iC iM
      have A5 : nI (o (3 * i + 1)) * 256 + nI (o (3 * i + 2)) = nI (o (3 * i + 1) * 256 + o (3 * i + 2)) := by rw [zq256, pk_mul, nI_add]
      by_cases cx : o (3 * i + 1) * 256 + o (3 * i + 2) ≤ 999
      · have c3 : nI (o (3 * i + 1) * 256 + o (3 * i + 2)) ≤ 999 := nI_le (b := 999) cx (by decide)
        have c4 : ¬ 999 < nI (o (3 * i + 1) * 256 + o (3 * i + 2)) := Int32.not_lt.mpr c3
        have sC : f_X11_tellsStood_L21 (n + 1) I R (nI (3 * r)) (nI (3 * i)) = f_X11_tellsStood_L21 n I R (nI (3 * r)) (nI (3 * (i + 1))) := by
          simp (disch := omega) only [f_X11_tellsStood_L21, if_neg c1, ldI_ok, o2, iC, Option.bind_some, if_neg n3, A1, A2, A3, p2, q2, A5, if_pos c3]
        have sM : f_X12_stood_L34 (n + 1) J (nI (3 * r)) 1 (nI (3 * i)) = f_X12_stood_L34 n J (nI (3 * r)) 1 (nI (3 * (i + 1))) := by
          simp (disch := omega) only [f_X12_stood_L34, if_neg c1, if_neg n3, ldI_ok, o3, iM, Option.bind_some, jnt, A1, A3, t2, if_neg c4]
        rw [sC, sM]
        rcases ih (i + 1) n (by omega) (by omega) with z | ⟨z1, z2, z3⟩
        · exact Or.inl z
        · exact Or.inr ⟨z1, z2, fun k h1 h2 => by
            by_cases ck : k = i
            · subst ck; exact ⟨co, cx⟩
            · exact z3 k (by omega) h2⟩
      · left
        have c3 : ¬ nI (o (3 * i + 1) * 256 + o (3 * i + 2)) ≤ 999 := nI_ge (a := 999) (by omega) (by omega)
        have c4 : 999 < nI (o (3 * i + 1) * 256 + o (3 * i + 2)) := Int32.not_le.mp c3
        refine ⟨?_, ?_⟩
        · simp (disch := omega) only [f_X11_tellsStood_L21, if_neg c1, ldI_ok, o2, iC, Option.bind_some, if_neg n3, A1, A2, A3, p2, q2, A5, if_neg c3, gz_0]
        · simp (disch := omega) only [f_X12_stood_L34, if_neg c1, if_neg n3, ldI_ok, o3, iM, Option.bind_some, jnt, A1, A3, t2, if_pos c4, zero]
    · left
      have c2 : ¬ (0 ≤ nI (o (3 * i)) ∧ nI (o (3 * i)) < nI nl) := fun q => co ((nI_ltI (by omega) (by omega)).mp q.2)
      rw [if_neg c2] at iC iM
      refine ⟨?_, ?_⟩
      · simp (disch := omega) only [f_X11_tellsStood_L21, if_neg c1, ldI_ok, o2, iC, Option.bind_some, if_true, gz_0]
      · simp (disch := omega) only [f_X12_stood_L34, if_neg c1, if_neg n3, ldI_ok, o3, iM, Option.bind_some, jnt, if_true, A3, zero]
theorem fillS_C {fu : Nat} (hr : r ≤ 8) (hf : 8 < fu) {o : Nat → Nat} (ho : ∀ k, k < 24 → I 2 k = nI (o k)) (h1 : I 1 16 = nI r) : ∃ K, f_X11_stood_L28 fu I 0 = some K ∧ (∀ x, x ≠ 3 → x ≠ 4 → K x = I x) ∧ ∀ k, k < r → K 3 k = nI (o (3 * k)) ∧ K 4 k = nI (o (3 * k + 1) * 256 + o (3 * k + 2)) := by
  refine loopP (fun n (a : HI) i => f_X11_stood_L28 n a i) (fun i K => (∀ x, x ≠ 3 → x ≠ 4 → K x = I x) ∧ ∀ k, k < i → K 3 k = nI (o (3 * k)) ∧ K 4 k = nI (o (3 * k + 1) * 256 + o (3 * k + 2))) (fun K => (∀ x, x ≠ 3 → x ≠ 4 → K x = I x) ∧ ∀ k, k < r → K 3 k = nI (o (3 * k)) ∧ K 4 k = nI (o (3 * k + 1) * 256 + o (3 * k + 2))) r fu I ⟨fun _ _ _ => rfl, fun k hk => absurd hk (by omega)⟩ ?_ ?_ (by omega)
  · intro n i K hi ha
    obtain ⟨a1, a2⟩ := ha
    have e1 : K 1 16 = nI r := by rw [a1 1 (by decide) (by decide)]; exact h1
    have e2 : ∀ k, k < 24 → K 2 k = nI (o k) := fun k hk => by rw [a1 2 (by decide) (by decide)]; exact ho k hk
    have m3 : i * 3 = 3 * i := Nat.mul_comm _ _
    refine ⟨sI (sI K 3 i (nI (o (3 * i)))) 4 i (nI (o (3 * i + 1) * 256 + o (3 * i + 2))), ?_, ?_, ?_⟩
    · simp (disch := omega) only [f_X11_stood_L28, sdm, ↓zm1, ↓zm2, ↓zm3, ↓zm4, ↓zm5, ↓zm6, ↓zm7, ↓zm8, ↓zm9, ↓zm10, ↓zm11, ↓zm12, ↓zm13, ↓zm14, ↓zm15, ↓zm16, ↓zm17, ↓zm18, ↓zm19, ↓zm20, ↓zm1000000000, zq0, zq1, zq2, zq3, zq4, zq5, zq6, zq7, zq8, zq9, zq10, zq11, zq12, zq13, zq14, zq15, zq16, zq17, zq18, zq19, zq20, zq21, zq22, zq23, zq24, zq25, zq26, zq30, zq31, zq32, zq33, zq34, zq35, zq36, zq37, zq38, zq39, zq40, zq41, zq42, zq43, zq44, zq45, zq47, zq48, zq57, zq59, zq60, zq61, zq62, zq80, zq91, zq93, zq97, zq99, zq100, zq107, zq110, zq120, zq122, zq128, zq149, zq160, zq208, zq240, zq251, zq255, zq256, zq500, zq936, zq999, zq1600, zq1800, zq2048, zq3200, zq4160, zq9999, zq12345, zq1000000, zq1048576, zq100000000, bnd, jnt, zg_ok, gz_0, gz_1, gz_n0, gz_n1, zs_eq, zs_ne, zs_same, zs_other, zA_eq, zA_ne, Option.bind_some, Option.bind_none, nI_add, pk_mul, nI_clamp, nI_leI, nI_ltI, nI_eq, pk_sub, nI_mI, nI_eq_mI, mI_eq_nI, nI_lt_m, ldI_ok, inb_ok, if_pos, if_neg, dv_ok, rem_ok, div_ok, if_true, if_false, e1, m3, e2]
    · intro x x1 x2
      rw [zs_ne x2, zs_ne x1, a1 x x1 x2]
    · intro k hk
      by_cases c : k = i
      · subst c
        simp (disch := omega) only [bnd, jnt, zg_ok, gz_0, gz_1, gz_n0, gz_n1, zs_eq, zs_ne, zs_same, zs_other, zA_eq, zA_ne, Option.bind_some, Option.bind_none]
        exact ⟨trivial, trivial⟩
      · simp (disch := omega) only [bnd, jnt, zg_ok, gz_0, gz_1, gz_n0, gz_n1, zs_eq, zs_ne, zs_same, zs_other, zA_eq, zA_ne, Option.bind_some, Option.bind_none]
        exact a2 k (by omega)
  · intro n K ha
    have e1 : K 1 16 = nI r := by rw [ha.1 1 (by decide) (by decide)]; exact h1
    refine ⟨K, ?_, ha⟩
    simp (disch := omega) only [f_X11_stood_L28, sdm, ↓zm1, ↓zm2, ↓zm3, ↓zm4, ↓zm5, ↓zm6, ↓zm7, ↓zm8, ↓zm9, ↓zm10, ↓zm11, ↓zm12, ↓zm13, ↓zm14, ↓zm15, ↓zm16, ↓zm17, ↓zm18, ↓zm19, ↓zm20, ↓zm1000000000, zq0, zq1, zq2, zq3, zq4, zq5, zq6, zq7, zq8, zq9, zq10, zq11, zq12, zq13, zq14, zq15, zq16, zq17, zq18, zq19, zq20, zq21, zq22, zq23, zq24, zq25, zq26, zq30, zq31, zq32, zq33, zq34, zq35, zq36, zq37, zq38, zq39, zq40, zq41, zq42, zq43, zq44, zq45, zq47, zq48, zq57, zq59, zq60, zq61, zq62, zq80, zq91, zq93, zq97, zq99, zq100, zq107, zq110, zq120, zq122, zq128, zq149, zq160, zq208, zq240, zq251, zq255, zq256, zq500, zq936, zq999, zq1600, zq1800, zq2048, zq3200, zq4160, zq9999, zq12345, zq1000000, zq1048576, zq100000000, bnd, jnt, zg_ok, gz_0, gz_1, gz_n0, gz_n1, zs_eq, zs_ne, zs_same, zs_other, zA_eq, zA_ne, Option.bind_some, Option.bind_none, nI_add, pk_mul, nI_clamp, nI_leI, nI_ltI, nI_eq, pk_sub, nI_mI, nI_eq_mI, mI_eq_nI, nI_lt_m, ldI_ok, inb_ok, if_pos, if_neg, dv_ok, rem_ok, div_ok, if_true, if_false, e1]
theorem fillS_M {fu : Nat} (hr : r ≤ 8) (hf : 8 < fu) {o : Nat → Nat} (ho : ∀ k, k < 24 → o k < 256 ∧ J 101 k = nI (o k)) (h1 : J 100 66 = nI r) : ∃ K, f_X12_stood_L100 fu J 0 = some K ∧ (∀ x, x ≠ 144 → x ≠ 145 → K x = J x) ∧ ∀ k, k < r → K 144 k = nI (o (3 * k)) ∧ K 145 k = nI (o (3 * k + 1) * 256 + o (3 * k + 2)) := by
  refine loopP (fun n (a : HI) i => f_X12_stood_L100 n a i) (fun i K => (∀ x, x ≠ 144 → x ≠ 145 → K x = J x) ∧ ∀ k, k < i → K 144 k = nI (o (3 * k)) ∧ K 145 k = nI (o (3 * k + 1) * 256 + o (3 * k + 2))) (fun K => (∀ x, x ≠ 144 → x ≠ 145 → K x = J x) ∧ ∀ k, k < r → K 144 k = nI (o (3 * k)) ∧ K 145 k = nI (o (3 * k + 1) * 256 + o (3 * k + 2))) r fu J ⟨fun _ _ _ => rfl, fun k hk => absurd hk (by omega)⟩ ?_ ?_ (by omega)
  · intro n i K hi ha
    obtain ⟨a1, a2⟩ := ha
    have e1 : K 100 66 = nI r := by rw [a1 100 (by decide) (by decide)]; exact h1
    have e2 : ∀ k, k < 24 → K 101 k = nI (o k) := fun k hk => by rw [a1 101 (by decide) (by decide)]; exact (ho k hk).2
    have t2 := two_M (J := sI K 144 i (nI (o (3 * i)))) (k := 3 * i + 1) (by omega) (by rw [zs_ne (by decide)]; exact e2 _ (by omega)) (by rw [zs_ne (by decide)]; exact e2 _ (by omega)) (ho (3 * i + 1) (by omega)).1 (ho (3 * i + 1 + 1) (by omega)).1
    refine ⟨sI (sI K 144 i (nI (o (3 * i)))) 145 i (nI (o (3 * i + 1) * 256 + o (3 * i + 2))), ?_, ?_, ?_⟩
    · simp (disch := omega) only [f_X12_stood_L100, sdm, ↓zm1, ↓zm2, ↓zm3, ↓zm4, ↓zm5, ↓zm6, ↓zm7, ↓zm8, ↓zm9, ↓zm10, ↓zm11, ↓zm12, ↓zm13, ↓zm14, ↓zm15, ↓zm16, ↓zm17, ↓zm18, ↓zm19, ↓zm20, ↓zm1000000000, zq0, zq1, zq2, zq3, zq4, zq5, zq6, zq7, zq8, zq9, zq10, zq11, zq12, zq13, zq14, zq15, zq16, zq17, zq18, zq19, zq20, zq21, zq22, zq23, zq24, zq25, zq26, zq30, zq31, zq32, zq33, zq34, zq35, zq36, zq37, zq38, zq39, zq40, zq41, zq42, zq43, zq44, zq45, zq47, zq48, zq57, zq59, zq60, zq61, zq62, zq80, zq91, zq93, zq97, zq99, zq100, zq107, zq110, zq120, zq122, zq128, zq149, zq160, zq208, zq240, zq251, zq255, zq256, zq500, zq936, zq999, zq1600, zq1800, zq2048, zq3200, zq4160, zq9999, zq12345, zq1000000, zq1048576, zq100000000, bnd, jnt, zg_ok, gz_0, gz_1, gz_n0, gz_n1, zs_eq, zs_ne, zs_same, zs_other, zA_eq, zA_ne, Option.bind_some, Option.bind_none, nI_add, pk_mul, nI_clamp, nI_leI, nI_ltI, nI_eq, pk_sub, nI_mI, nI_eq_mI, mI_eq_nI, nI_lt_m, ldI_ok, inb_ok, if_pos, if_neg, dv_ok, rem_ok, div_ok, if_true, if_false, e1, e2, t2]
    · intro x x1 x2
      rw [zs_ne x2, zs_ne x1, a1 x x1 x2]
    · intro k hk
      by_cases c : k = i
      · subst c
        simp (disch := omega) only [bnd, jnt, zg_ok, gz_0, gz_1, gz_n0, gz_n1, zs_eq, zs_ne, zs_same, zs_other, zA_eq, zA_ne, Option.bind_some, Option.bind_none]
        exact ⟨trivial, trivial⟩
      · simp (disch := omega) only [bnd, jnt, zg_ok, gz_0, gz_1, gz_n0, gz_n1, zs_eq, zs_ne, zs_same, zs_other, zA_eq, zA_ne, Option.bind_some, Option.bind_none]
        exact a2 k (by omega)
  · intro n K ha
    have e1 : K 100 66 = nI r := by rw [ha.1 100 (by decide) (by decide)]; exact h1
    refine ⟨K, ?_, ha⟩
    simp (disch := omega) only [f_X12_stood_L100, sdm, ↓zm1, ↓zm2, ↓zm3, ↓zm4, ↓zm5, ↓zm6, ↓zm7, ↓zm8, ↓zm9, ↓zm10, ↓zm11, ↓zm12, ↓zm13, ↓zm14, ↓zm15, ↓zm16, ↓zm17, ↓zm18, ↓zm19, ↓zm20, ↓zm1000000000, zq0, zq1, zq2, zq3, zq4, zq5, zq6, zq7, zq8, zq9, zq10, zq11, zq12, zq13, zq14, zq15, zq16, zq17, zq18, zq19, zq20, zq21, zq22, zq23, zq24, zq25, zq26, zq30, zq31, zq32, zq33, zq34, zq35, zq36, zq37, zq38, zq39, zq40, zq41, zq42, zq43, zq44, zq45, zq47, zq48, zq57, zq59, zq60, zq61, zq62, zq80, zq91, zq93, zq97, zq99, zq100, zq107, zq110, zq120, zq122, zq128, zq149, zq160, zq208, zq240, zq251, zq255, zq256, zq500, zq936, zq999, zq1600, zq1800, zq2048, zq3200, zq4160, zq9999, zq12345, zq1000000, zq1048576, zq100000000, bnd, jnt, zg_ok, gz_0, gz_1, gz_n0, gz_n1, zs_eq, zs_ne, zs_same, zs_other, zA_eq, zA_ne, Option.bind_some, Option.bind_none, nI_add, pk_mul, nI_clamp, nI_leI, nI_ltI, nI_eq, pk_sub, nI_mI, nI_eq_mI, mI_eq_nI, nI_lt_m, ldI_ok, inb_ok, if_pos, if_neg, dv_ok, rem_ok, div_ok, if_true, if_false, e1]
end
theorem eq_stood : Eq_stood Rel := by
  intro n I R J M hn hR
  obtain ⟨t, b, nh, no, nl, h⟩ := hR
  obtain ⟨T, T1, T2, T3, o, ho⟩ := h.tape
  have h0 := Rel_tape h (T := 0) (by omega)
  obtain ⟨I1, hI1⟩ : ∃ I1, I1 = sI I 1 1 (nI 0) := ⟨_, rfl⟩
  obtain ⟨J1, hJ1⟩ : ∃ J1, J1 = sI J 100 1 (nI 0) := ⟨_, rfl⟩
  rw [← hI1, ← hJ1] at h0
  have tk : f_X11_takeTape I = some (nI T, I1) := by
    unfold f_X11_takeTape
    rw [T2, hI1]
    rfl
  have hJ0 : sI J 100 1 0 = J1 := by rw [hJ1]; rfl
  have o1 : ∀ k, k < 1600 → o k < 256 ∧ I1 2 k = nI (o k) ∧ J1 101 k = nI (o k) := fun k hk => by
    rw [hI1, hJ1, zs_ne (by decide), zs_ne (by decide)]
    exact ho k hk
  obtain ⟨hC, hL, hM, hE, hS, hB, hB', h1⟩ := h0.get
  have ht := hC.2.2.1
  have hfu := FU_big.1
  have n3 : ¬ (1 : Int32) = 0 := by decide
  have r1 : f_X11_refuse I1 5 = _ := refuse_C (I := I1) (k := 5) (by decide)
  have r2 : f_X12_refuses J1 5 = _ := refuses_M (J := J1) (k := 5) (by decide)
  have fail : ∃ (r : Int32) (I' : HI) (J' : HI), ((f_X11_refuse I1 5).bind fun x3 => some (x3.1, x3.2)) = some (r, I') ∧ ((f_X12_refuses J1 5).bind fun x21 => some (x21.1, x21.2)) = some (r, J') ∧ Rel (n + 6) I' R J' M := ⟨-1, _, _, by rw [r1]; rfl, by rw [r2]; rfl, (Rel_ref h0.up (k := 5) (by decide)).rel⟩
  have d3 : ∀ {α : Type} (k : Option α), dvI 3 k = k := fun k => by rw [zq3, dv_ok (by decide)]
  have L0 : f_X12_stood_L34 FU J1 (nI T) 0 0 = some 0 := by
    obtain ⟨F, hF⟩ : ∃ q, FU = q + 1 := ⟨FU - 1, by omega⟩
    rw [hF]
    by_cases c : nI T ≤ 0
    · simp only [f_X12_stood_L34, if_pos c]
    · simp only [f_X12_stood_L34, if_neg c, if_true]
  have er : nI T - nI T / 3 * 3 = nI (T % 3) := by rw [zq3, rem_ok (by omega)]
  have ed : nI T / 3 = nI (T / 3) := by rw [zq3, div_ok (by omega)]
  rw [ed] at er
  unfold f_X11_stood f_X12_stood f_X11_tellsStood
  rw [tk, T3, hJ0]
  simp only [Option.bind_some, bnd, jnt, d3, er, ed]
  by_cases cr : T % 3 = 0
  · have cr' : nI (T % 3) = 0 := by rw [cr]; rfl
    by_cases c24 : T ≤ 24
    · have k2 : ¬ 24 < nI T := Int32.not_lt.mpr (nI_le (b := 24) c24 (by decide))
      by_cases c0 : T = 0
      · have k1 : nI T < 3 := by rw [c0]; decide
        have k0 : nI T ≤ 0 := by rw [c0]; decide
        simp only [if_pos k1, if_pos k0, gz_0, Option.bind_some, L0, if_true]
        exact fail
      · have k1 : ¬ nI T < 3 := Int32.not_lt.mpr (nI_le (a := 3) (by omega) (by omega))
        have k0 : ¬ nI T ≤ 0 := nI_nle (by omega) (by omega)
        simp only [if_neg k1, if_neg k0, if_neg k2, if_pos cr']
        obtain ⟨r, hr⟩ : ∃ r, r = T / 3 := ⟨_, rfl⟩
        have hT : T = 3 * r := by omega
        rw [← hr]
        rcases tells_loop (r := r) hC hM (by omega) o1 r 0 FU (by omega) (by omega) with ⟨a1, a2⟩ | ⟨a1, a2, a3⟩
        · have a1' : f_X11_tellsStood_L21 FU I1 R (nI T) 0 = some (.inl 0) := by rw [hT]; exact a1
          have a2' : f_X12_stood_L34 FU J1 (nI T) 1 0 = some 0 := by rw [hT]; exact a2
          simp only [a1', a2', Option.bind_some, Sum.elim_inl, if_true]
          exact fail
        · have a1' : f_X11_tellsStood_L21 FU I1 R (nI T) 0 = some (.inr ()) := by rw [hT]; exact a1
          have a2' : f_X12_stood_L34 FU J1 (nI T) 1 0 = some 1 := by rw [hT]; exact a2
          obtain ⟨K, k1, k2, k3⟩ := fillS_C (I := sI I1 1 16 (nI r)) (fu := FU) (o := o) (r := r) (by omega) FU_big.2 (fun k hk => by rw [zs_ne (by decide)]; exact (o1 k (by omega)).2.1) (by rw [zs_eq, zs_same])
          obtain ⟨V, v1, v2, v3⟩ := fillS_M (J := sI J1 100 66 (nI r)) (fu := FU) (o := o) (r := r) (by omega) FU_big.2 (fun k hk => by rw [zs_ne (by decide)]; exact ⟨(o1 k (by omega)).1, (o1 k (by omega)).2.2⟩) (by rw [zs_eq, zs_same])
          have k1' : f_X11_stood_L28 FU (sI I1 1 16 (nI r)) 0 = some K := k1
          have v1' : f_X12_stood_L100 FU (sI J1 100 66 (nI r)) 0 = some V := v1
          have kr : K 1 16 = nI r := by rw [k2 1 (by decide) (by decide), zs_eq, zs_same]
          have vr : V 100 66 = nI r := by rw [v2 100 (by decide) (by decide), zs_eq, zs_same]
          refine ⟨nI r, K, V, ?_, ?_, ?_⟩
          · simp only [a1', Option.bind_some, Sum.elim_inr, gz_1, if_neg n3, k1', kr]
          · simp only [a2', Option.bind_some, if_neg n3, v1', vr]
          · obtain ⟨g1, g2, g3, g4, g5, g6, g7, g8, g9⟩ := h0
            have kI : ∀ x, x ≠ 1 → x ≠ 3 → x ≠ 4 → K x = I1 x := fun x x1 x2 x3 => by rw [k2 x x2 x3, zs_ne x1]
            have kI1 : ∀ k, k ≠ 16 → K 1 k = I1 1 k := fun k hk => by rw [k2 1 (by decide) (by decide), zs_eq, zs_other hk]
            have vJ : ∀ x, x ≠ 100 → x ≠ 144 → x ≠ 145 → V x = J1 x := fun x x1 x2 x3 => by rw [v2 x x2 x3, zs_ne x1]
            have vJ1 : ∀ k, k ≠ 66 → V 100 k = J1 100 k := fun k hk => by rw [v2 100 (by decide) (by decide), zs_eq, zs_other hk]
            have ev : vw K t = vw I1 t := vw_congr (fun a ha => kI _ (by omega) (by omega) (by omega))
            refine ⟨t, b, nh, no, nl, RTp_c g1 (kI1 1 (by decide)) (kI 2 (by decide) (by decide) (by decide)) (vJ1 1 (by decide)) (vJ 101 (by decide) (by decide) (by decide)), RFl_c g2 (kI1 5 (by decide)) (kI1 6 (by decide)) (vJ1 10 (by decide)) (vJ1 11 (by decide)), RRf_c g3 (kI 5 (by decide) (by decide) (by decide)) (vJ 126 (by decide) (by decide) (by decide)), RLt_c g4 (kI1 17 (by decide)) rfl, ⟨r, by omega, kr, vr, fun k hk => ?_⟩, RIm_c g6 (by rw [kI 47 (by decide) (by decide) (by decide)]) (vJ1 70 (by decide)) (kI 48 (by decide) (by decide) (by decide)) (vJ 146 (by decide) (by decide) (by decide)), RLd_c g7 (fun x q1 q2 => kI x (by omega) (by omega) (by omega)) ⟨rfl, rfl, rfl⟩ (vJ1 13 (by decide)) (fun x q1 q2 => vJ x (by omega) (by omega) (by omega)) ⟨rfl, rfl, rfl⟩, ?_, ?_⟩
            · obtain ⟨z1, z2⟩ := a3 k (by omega) hk
              obtain ⟨k3a, k3b⟩ := k3 k hk
              obtain ⟨v3a, v3b⟩ := v3 k hk
              rw [k3a, k3b, v3a, v3b]
              exact ⟨⟨_, z1, rfl⟩, rfl, ⟨_, z2, rfl⟩, rfl⟩
            · rw [ev]
              exact RSc_c g8 (fun x q1 q2 => kI x (by omega) (by omega) (by omega)) (by rw [vJ 127 (by decide) (by decide) (by decide)]) (fun k hk => by rw [vJ 128 (by decide) (by decide) (by decide), vJ 129 (by decide) (by decide) (by decide), vJ 130 (by decide) (by decide) (by decide)]; exact ⟨rfl, rfl, rfl⟩) (fun k hk => by rw [vJ 131 (by decide) (by decide) (by decide)])
            · rw [ev]
              exact RHs_c g9 (by omega) (fun x q1 q2 => kI x (by omega) (by omega) (by omega)) ⟨vJ1 53 (by decide), vJ1 54 (by decide)⟩ (fun v _ => by rw [vJ 127 (by decide) (by decide) (by decide), vJ 132 (by decide) (by decide) (by decide)]; exact ⟨rfl, rfl⟩) (fun k _ => by rw [vJ 128 (by decide) (by decide) (by decide), vJ 129 (by decide) (by decide) (by decide), vJ 130 (by decide) (by decide) (by decide)]; exact ⟨rfl, rfl, rfl⟩) (fun k _ => by rw [vJ 131 (by decide) (by decide) (by decide)]) (fun k _ => by rw [vJ 133 (by decide) (by decide) (by decide)])
    · have k2 : 24 < nI T := nI_lt (a := 24) (by omega) (by omega)
      have k1 : ¬ nI T < 3 := Int32.not_lt.mpr (nI_le (a := 3) (by omega) (by omega))
      have k0 : ¬ nI T ≤ 0 := nI_nle (by omega) (by omega)
      simp only [if_neg k1, if_neg k0, if_pos k2, if_pos cr', gz_0, Option.bind_some, L0, if_true]
      exact fail
  · have cr' : ¬ nI (T % 3) = 0 := nI_ne0 (by omega) (by omega)
    have hT0 : ¬ nI T ≤ 0 := nI_nle (by omega) (by omega)
    simp only [if_neg cr', if_neg hT0, gz_0, ite_self, Option.bind_some, L0, if_true]
    exact fail
