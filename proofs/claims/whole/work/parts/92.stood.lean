/-! stood, robbed -/
def allB (p : Nat → Bool) : Nat → Bool
  | 0 => true
  | n + 1 => allB p n && p n
theorem allB_congr {p q : Nat → Bool} {n : Nat} (h : ∀ i, i < n → p i = q i) : allB p n = allB q n := by
  induction n with
  | zero => rfl
  | succ n ih =>
    show (allB p n && p n) = (allB q n && q n)
    rw [ih (fun i hi => h i (by omega)), h n (by omega)]
theorem allB_iff {p : Nat → Bool} : ∀ n, allB p n = true ↔ ∀ i, i < n → p i = true := by
  intro n
  induction n with
  | zero => exact ⟨fun _ i hi => absurd hi (by omega), fun _ => rfl⟩
  | succ n ih =>
    show (allB p n && p n) = true ↔ _
    rw [Bool.and_eq_true, ih]
    constructor
    · rintro ⟨a, b⟩ i hi
      by_cases c : i = n
      · subst c; exact b
      · exact a i (by omega)
    · intro h
      exact ⟨fun i hi => h i (by omega), h n (by omega)⟩
theorem loopAll {ρ : Type} (L : Nat → Int32 → Option (ρ ⊕ Unit)) (p : Nat → Bool) (r0 : ρ) (N fu : Nat)
    (hs : ∀ n i, i < N → p i = true → L (n + 1) (nI i) = L n (nI (i + 1)))
    (hx : ∀ n i, i < N → p i = false → L (n + 1) (nI i) = some (.inl r0))
    (he : ∀ n, L (n + 1) (nI N) = some (.inr ())) (hf : N < fu) : L fu (nI 0) = some (if allB p N = true then .inr () else .inl r0) := by
  have key : ∀ k i m, i + k = N → k < m → (∀ j, j < i → p j = true) → L m (nI i) = some (if allB p N = true then .inr () else .inl r0) := by
    intro k
    induction k with
    | zero =>
      intro i m h1 h2 h3
      obtain ⟨m, rfl⟩ : ∃ q, m = q + 1 := ⟨m - 1, by omega⟩
      have : i = N := by omega
      subst this
      rw [he, if_pos ((allB_iff i).mpr h3)]
    | succ k ih =>
      intro i m h1 h2 h3
      obtain ⟨m, rfl⟩ : ∃ q, m = q + 1 := ⟨m - 1, by omega⟩
      cases hp : p i with
      | true =>
        rw [hs m i (by omega) hp]
        refine ih (i + 1) m (by omega) (by omega) (fun j hj => ?_)
        by_cases c : j = i
        · subst c; exact hp
        · exact h3 j (by omega)
      | false =>
        rw [hx m i (by omega) hp, if_neg]
        intro q
        rw [(allB_iff N).mp q i (by omega)] at hp
        cases hp
  exact key N 0 fu (by omega) hf (fun j hj => absurd hj (by omega))
section
variable {n : Nat} {I : HI} {R : HR} {J : HI} {M : HL} {t b nh no nl fu : Nat}
theorem asStood_C {r : Nat} {x y : Int32} {β : Nat → Int32} (hr : r ≤ 8) (e : I 1 16 = nI r) (hs : ∀ k, k < r → ∃ l, l < 8 ∧ I 3 k = nI l) (hf : 8 < fu) (hβ : ∀ l, l < 8 → (if nI l = x then (if 0 < I 59 l - y then I 59 l - y else 0) else I 59 l) = β l) : f_X11_stoodIfTaken fu I x y = some (if allB (fun k => decide (β (I 3 k).toNatClampNeg = I 4 k)) r = true then 1 else 0) := by
  have hl : f_X11_stoodIfTaken_L2 fu I x y 0 = some (if allB (fun k => decide (β (I 3 k).toNatClampNeg = I 4 k)) r = true then .inr () else .inl 0) := by
    refine loopAll (fun n i => f_X11_stoodIfTaken_L2 n I x y i) _ 0 r fu ?_ ?_ ?_ (by omega)
    · intro n i hi hp
      obtain ⟨l, hl, el⟩ := hs i hi
      have hp := of_decide_eq_true hp
      rw [el, nI_clamp (by omega), ← hβ l hl] at hp
      by_cases c : nI l = x
      · rw [if_pos c] at hp
        simp (disch := omega) only [f_X11_stoodIfTaken_L2, f_J9_max_7cf53, zq0, zq1, e, nI_leI, if_neg, ldI_ok, el, jnt]
        by_cases c2 : nI 0 < I 59 l - y
        · rw [if_pos (show (0 : Int32) < I 59 l - y from c2)] at hp
          simp only [if_pos c, c2, if_true, Option.bind_some]
          rw [if_pos hp, nI_add]
        · rw [if_neg (show ¬ (0 : Int32) < I 59 l - y from c2)] at hp
          have hp' : nI 0 = I 4 i := hp
          simp only [if_pos c, c2, if_false, Option.bind_some]
          rw [if_pos hp', nI_add]
      · rw [if_neg c] at hp
        simp (disch := omega) only [f_X11_stoodIfTaken_L2, f_J9_max_7cf53, zq0, zq1, e, nI_leI, if_neg, ldI_ok, el, jnt, if_neg c, if_pos hp, nI_add]
    · intro n i hi hp
      obtain ⟨l, hl, el⟩ := hs i hi
      have hp := of_decide_eq_false hp
      rw [el, nI_clamp (by omega), ← hβ l hl] at hp
      by_cases c : nI l = x
      · rw [if_pos c] at hp
        simp (disch := omega) only [f_X11_stoodIfTaken_L2, f_J9_max_7cf53, zq0, zq1, e, nI_leI, if_neg, ldI_ok, el, jnt]
        by_cases c2 : nI 0 < I 59 l - y
        · rw [if_pos (show (0 : Int32) < I 59 l - y from c2)] at hp
          simp only [if_pos c, c2, if_true, Option.bind_some, hp, if_false, gz_n0]
        · rw [if_neg (show ¬ (0 : Int32) < I 59 l - y from c2)] at hp
          have hp' : ¬ nI 0 = I 4 i := hp
          simp only [if_pos c, c2, if_false, Option.bind_some, hp', gz_n0]
      · rw [if_neg c] at hp
        simp (disch := omega) only [f_X11_stoodIfTaken_L2, f_J9_max_7cf53, zq0, zq1, e, nI_leI, if_neg, ldI_ok, el, jnt, if_neg c, if_neg hp, gz_n0]
    · intro n
      simp (disch := omega) only [f_X11_stoodIfTaken_L2, ↓zm1, ↓zm2, ↓zm3, ↓zm4, ↓zm5, ↓zm6, ↓zm7, ↓zm8, ↓zm9, ↓zm10, ↓zm11, ↓zm12, ↓zm13, ↓zm14, ↓zm15, ↓zm16, ↓zm17, ↓zm18, ↓zm19, ↓zm20, ↓zm1000000000, zq0, zq1, zq2, zq3, zq4, zq5, zq6, zq7, zq8, zq9, zq10, zq11, zq12, zq13, zq14, zq15, zq16, zq17, zq18, zq19, zq20, zq21, zq22, zq23, zq24, zq25, zq26, zq30, zq31, zq32, zq33, zq34, zq35, zq36, zq37, zq38, zq39, zq40, zq41, zq42, zq43, zq44, zq45, zq47, zq48, zq57, zq59, zq60, zq61, zq62, zq80, zq91, zq93, zq97, zq99, zq100, zq107, zq110, zq120, zq122, zq128, zq149, zq160, zq208, zq240, zq251, zq255, zq256, zq500, zq936, zq999, zq1600, zq1800, zq2048, zq3200, zq4160, zq9999, zq12345, zq1000000, zq1048576, zq100000000, bnd, jnt, zg_ok, gz_0, gz_1, gz_n0, gz_n1, zs_eq, zs_ne, zs_same, zs_other, zA_eq, zA_ne, Option.bind_some, Option.bind_none, nI_add, pk_mul, nI_clamp, nI_leI, nI_ltI, nI_eq, pk_sub, nI_mI, nI_eq_mI, mI_eq_nI, nI_lt_m, ldI_ok, inb_ok, if_pos, if_neg, dv_ok, rem_ok, div_ok, if_true, if_false, e]
  unfold f_X11_stoodIfTaken
  rw [hl]
  split <;> rfl
theorem asStood_M {r : Nat} (hr : r ≤ 8) (e : J 100 66 = nI r) (hs : ∀ k, k < r → ∃ l, l < 8 ∧ J 144 k = nI l) (hf : 8 < fu) : f_X12_isAsStood fu J = some (if allB (fun k => decide (lv J 1 1 (J 144 k).toNatClampNeg = J 145 k)) r = true then 1 else 0) := by
  have hl : f_X12_isAsStood_L2 fu J 0 = some (if allB (fun k => decide (lv J 1 1 (J 144 k).toNatClampNeg = J 145 k)) r = true then .inr () else .inl 0) := by
    refine loopAll (fun n i => f_X12_isAsStood_L2 n J i) _ 0 r fu ?_ ?_ ?_ (by omega)
    · intro n i hi hp
      obtain ⟨l, hl, el⟩ := hs i hi
      have hp := of_decide_eq_true hp
      rw [el, nI_clamp (by omega)] at hp
      have hq : f_X12_fill J (nI 1) (nI l) = _ := fill_M (J := J) (v := 1) (l := l) (by decide) hl
      simp (disch := omega) only [f_X12_isAsStood_L2, ↓zm1, ↓zm2, ↓zm3, ↓zm4, ↓zm5, ↓zm6, ↓zm7, ↓zm8, ↓zm9, ↓zm10, ↓zm11, ↓zm12, ↓zm13, ↓zm14, ↓zm15, ↓zm16, ↓zm17, ↓zm18, ↓zm19, ↓zm20, ↓zm1000000000, zq0, zq1, zq2, zq3, zq4, zq5, zq6, zq7, zq8, zq9, zq10, zq11, zq12, zq13, zq14, zq15, zq16, zq17, zq18, zq19, zq20, zq21, zq22, zq23, zq24, zq25, zq26, zq30, zq31, zq32, zq33, zq34, zq35, zq36, zq37, zq38, zq39, zq40, zq41, zq42, zq43, zq44, zq45, zq47, zq48, zq57, zq59, zq60, zq61, zq62, zq80, zq91, zq93, zq97, zq99, zq100, zq107, zq110, zq120, zq122, zq128, zq149, zq160, zq208, zq240, zq251, zq255, zq256, zq500, zq936, zq999, zq1600, zq1800, zq2048, zq3200, zq4160, zq9999, zq12345, zq1000000, zq1048576, zq100000000, bnd, jnt, zg_ok, gz_0, gz_1, gz_n0, gz_n1, zs_eq, zs_ne, zs_same, zs_other, zA_eq, zA_ne, Option.bind_some, Option.bind_none, nI_add, pk_mul, nI_clamp, nI_leI, nI_ltI, nI_eq, pk_sub, nI_mI, nI_eq_mI, mI_eq_nI, nI_lt_m, ldI_ok, inb_ok, if_pos, if_neg, dv_ok, rem_ok, div_ok, if_true, if_false, e, el, hq, if_pos hp]
    · intro n i hi hp
      obtain ⟨l, hl, el⟩ := hs i hi
      have hp := of_decide_eq_false hp
      rw [el, nI_clamp (by omega)] at hp
      have hq : f_X12_fill J (nI 1) (nI l) = _ := fill_M (J := J) (v := 1) (l := l) (by decide) hl
      simp (disch := omega) only [f_X12_isAsStood_L2, ↓zm1, ↓zm2, ↓zm3, ↓zm4, ↓zm5, ↓zm6, ↓zm7, ↓zm8, ↓zm9, ↓zm10, ↓zm11, ↓zm12, ↓zm13, ↓zm14, ↓zm15, ↓zm16, ↓zm17, ↓zm18, ↓zm19, ↓zm20, ↓zm1000000000, zq0, zq1, zq2, zq3, zq4, zq5, zq6, zq7, zq8, zq9, zq10, zq11, zq12, zq13, zq14, zq15, zq16, zq17, zq18, zq19, zq20, zq21, zq22, zq23, zq24, zq25, zq26, zq30, zq31, zq32, zq33, zq34, zq35, zq36, zq37, zq38, zq39, zq40, zq41, zq42, zq43, zq44, zq45, zq47, zq48, zq57, zq59, zq60, zq61, zq62, zq80, zq91, zq93, zq97, zq99, zq100, zq107, zq110, zq120, zq122, zq128, zq149, zq160, zq208, zq240, zq251, zq255, zq256, zq500, zq936, zq999, zq1600, zq1800, zq2048, zq3200, zq4160, zq9999, zq12345, zq1000000, zq1048576, zq100000000, bnd, jnt, zg_ok, gz_0, gz_1, gz_n0, gz_n1, zs_eq, zs_ne, zs_same, zs_other, zA_eq, zA_ne, Option.bind_some, Option.bind_none, nI_add, pk_mul, nI_clamp, nI_leI, nI_ltI, nI_eq, pk_sub, nI_mI, nI_eq_mI, mI_eq_nI, nI_lt_m, ldI_ok, inb_ok, if_pos, if_neg, dv_ok, rem_ok, div_ok, if_true, if_false, e, el, hq, if_neg hp]
    · intro n
      simp (disch := omega) only [f_X12_isAsStood_L2, ↓zm1, ↓zm2, ↓zm3, ↓zm4, ↓zm5, ↓zm6, ↓zm7, ↓zm8, ↓zm9, ↓zm10, ↓zm11, ↓zm12, ↓zm13, ↓zm14, ↓zm15, ↓zm16, ↓zm17, ↓zm18, ↓zm19, ↓zm20, ↓zm1000000000, zq0, zq1, zq2, zq3, zq4, zq5, zq6, zq7, zq8, zq9, zq10, zq11, zq12, zq13, zq14, zq15, zq16, zq17, zq18, zq19, zq20, zq21, zq22, zq23, zq24, zq25, zq26, zq30, zq31, zq32, zq33, zq34, zq35, zq36, zq37, zq38, zq39, zq40, zq41, zq42, zq43, zq44, zq45, zq47, zq48, zq57, zq59, zq60, zq61, zq62, zq80, zq91, zq93, zq97, zq99, zq100, zq107, zq110, zq120, zq122, zq128, zq149, zq160, zq208, zq240, zq251, zq255, zq256, zq500, zq936, zq999, zq1600, zq1800, zq2048, zq3200, zq4160, zq9999, zq12345, zq1000000, zq1048576, zq100000000, bnd, jnt, zg_ok, gz_0, gz_1, gz_n0, gz_n1, zs_eq, zs_ne, zs_same, zs_other, zA_eq, zA_ne, Option.bind_some, Option.bind_none, nI_add, pk_mul, nI_clamp, nI_leI, nI_ltI, nI_eq, pk_sub, nI_mI, nI_eq_mI, mI_eq_nI, nI_lt_m, ldI_ok, inb_ok, if_pos, if_neg, dv_ok, rem_ok, div_ok, if_true, if_false, e]
  unfold f_X12_isAsStood
  rw [hl]
  split <;> rfl
end
theorem robbed_loop {fu t b nh no nl r g : Nat} {I J : HI} {R : HR} (hf : 8 < fu) (hC : CL I R 58 t nh no nl) (hM : ML J b nh no nl (vw I t)) (hr : r ≤ 8) (hg : 1 ≤ g ∧ g ≤ 999) (hβ : ∀ l, l < 8 → ∃ x, x ≤ 999 ∧ I 59 l = nI x) (hL : ∀ k, k < r → ∃ l, l < 8 ∧ I 3 k = nI l) (hIr : I 1 16 = nI r) (hR1 : R 1 2 = t) (hJ : ∀ l, l < 8 → J 128 (8 + l) = I 59 l) (hJ3 : ∀ k, k < r → I 3 k = J 144 k ∧ I 4 k = J 145 k) (hJr : J 100 66 = nI r) :
    ∀ (k n i : Nat) (K : HI) (x : Int32), i + k = nl → k < n → (∀ y, y ≠ 128 → K y = J y) → (∀ j, K 128 j = J 128 j) → ∃ w K', f_X11_robbed_L60 fu n I R (nI g) x (nI i) = some w ∧ f_X12_robbed_L50 fu n K (nI g) x (nI i) = some (w, K') ∧ (∀ y, y ≠ 128 → K' y = J y) ∧ (∀ j, K' 128 j = J 128 j) := by
  have hC' := hC
  obtain ⟨c0, c1, c2, c3, c4, c5, c6, c7, c8, c9⟩ := hC'
  obtain ⟨⟨m0, m1⟩, m2, m3, m4, m5, m6, m7, m8, m9, m10⟩ := id hM
  intro k
  induction k with
  | zero =>
    intro n i K x hi hn k1 k2
    obtain ⟨n, rfl⟩ : ∃ q, n = q + 1 := ⟨n - 1, by omega⟩
    have e1 : K 100 13 = nI b := by rw [k1 100 (by decide)]; exact m0
    have e2 : K 106 b = nI nl := by rw [k1 106 (by decide)]; exact m4
    refine ⟨x, K, ?_, ?_, k1, k2⟩
    · simp (disch := omega) only [f_X11_robbed_L60, ↓zm1, ↓zm2, ↓zm3, ↓zm4, ↓zm5, ↓zm6, ↓zm7, ↓zm8, ↓zm9, ↓zm10, ↓zm11, ↓zm12, ↓zm13, ↓zm14, ↓zm15, ↓zm16, ↓zm17, ↓zm18, ↓zm19, ↓zm20, ↓zm1000000000, zq0, zq1, zq2, zq3, zq4, zq5, zq6, zq7, zq8, zq9, zq10, zq11, zq12, zq13, zq14, zq15, zq16, zq17, zq18, zq19, zq20, zq21, zq22, zq23, zq24, zq25, zq26, zq30, zq31, zq32, zq33, zq34, zq35, zq36, zq37, zq38, zq39, zq40, zq41, zq42, zq43, zq44, zq45, zq47, zq48, zq57, zq59, zq60, zq61, zq62, zq80, zq91, zq93, zq97, zq99, zq100, zq107, zq110, zq120, zq122, zq128, zq149, zq160, zq208, zq240, zq251, zq255, zq256, zq500, zq936, zq999, zq1600, zq1800, zq2048, zq3200, zq4160, zq9999, zq12345, zq1000000, zq1048576, zq100000000, bnd, jnt, zg_ok, gz_0, gz_1, gz_n0, gz_n1, zs_eq, zs_ne, zs_same, zs_other, zA_eq, zA_ne, Option.bind_some, Option.bind_none, nI_add, pk_mul, nI_clamp, nI_leI, nI_ltI, nI_eq, pk_sub, nI_mI, nI_eq_mI, mI_eq_nI, nI_lt_m, ldI_ok, inb_ok, if_pos, if_neg, dv_ok, rem_ok, div_ok, if_true, if_false, hR1, zg_ok c0, c6]
    · simp (disch := omega) only [f_X12_robbed_L50, ↓zm1, ↓zm2, ↓zm3, ↓zm4, ↓zm5, ↓zm6, ↓zm7, ↓zm8, ↓zm9, ↓zm10, ↓zm11, ↓zm12, ↓zm13, ↓zm14, ↓zm15, ↓zm16, ↓zm17, ↓zm18, ↓zm19, ↓zm20, ↓zm1000000000, zq0, zq1, zq2, zq3, zq4, zq5, zq6, zq7, zq8, zq9, zq10, zq11, zq12, zq13, zq14, zq15, zq16, zq17, zq18, zq19, zq20, zq21, zq22, zq23, zq24, zq25, zq26, zq30, zq31, zq32, zq33, zq34, zq35, zq36, zq37, zq38, zq39, zq40, zq41, zq42, zq43, zq44, zq45, zq47, zq48, zq57, zq59, zq60, zq61, zq62, zq80, zq91, zq93, zq97, zq99, zq100, zq107, zq110, zq120, zq122, zq128, zq149, zq160, zq208, zq240, zq251, zq255, zq256, zq500, zq936, zq999, zq1600, zq1800, zq2048, zq3200, zq4160, zq9999, zq12345, zq1000000, zq1048576, zq100000000, bnd, jnt, zg_ok, gz_0, gz_1, gz_n0, gz_n1, zs_eq, zs_ne, zs_same, zs_other, zA_eq, zA_ne, Option.bind_some, Option.bind_none, nI_add, pk_mul, nI_clamp, nI_leI, nI_ltI, nI_eq, pk_sub, nI_mI, nI_eq_mI, mI_eq_nI, nI_lt_m, ldI_ok, inb_ok, if_pos, if_neg, dv_ok, rem_ok, div_ok, if_true, if_false, e1, e2]
  | succ k ih =>
    intro n i K x hi hn k1 k2
    obtain ⟨n, rfl⟩ : ∃ q, n = q + 1 := ⟨n - 1, by omega⟩
    have e1 : K 100 13 = nI b := by rw [k1 100 (by decide)]; exact m0
    have e2 : K 106 b = nI nl := by rw [k1 106 (by decide)]; exact m4
    obtain ⟨y, hy, ey⟩ := hβ i (by omega)
    have ef : f_X12_fill K (nI 1) (nI i) = some (nI y) := by
      rw [fill_M (J := K) (v := 1) (l := i) (by decide) (by omega)]
      show some (K 128 (8 * 1 + i)) = _
      rw [k2, Nat.mul_one, hJ i (by omega), ey]
    have es := stands_Cn hC (show i < nl by omega)
    have ey' : I (58 + 1) i = nI y := ey
    rw [ey'] at es
    by_cases cy : y = 0
    · subst cy
      obtain ⟨w, K', g1, g2, g3, g4⟩ := ih n (i + 1) K x (by omega) (by omega) k1 k2
      rw [if_pos (by decide)] at es
      refine ⟨w, K', Eq.trans ?_ g1, Eq.trans ?_ g2, g3, g4⟩
      · simp (disch := omega) only [f_X11_robbed_L60, ↓zm1, ↓zm2, ↓zm3, ↓zm4, ↓zm5, ↓zm6, ↓zm7, ↓zm8, ↓zm9, ↓zm10, ↓zm11, ↓zm12, ↓zm13, ↓zm14, ↓zm15, ↓zm16, ↓zm17, ↓zm18, ↓zm19, ↓zm20, ↓zm1000000000, zq0, zq1, zq2, zq3, zq4, zq5, zq6, zq7, zq8, zq9, zq10, zq11, zq12, zq13, zq14, zq15, zq16, zq17, zq18, zq19, zq20, zq21, zq22, zq23, zq24, zq25, zq26, zq30, zq31, zq32, zq33, zq34, zq35, zq36, zq37, zq38, zq39, zq40, zq41, zq42, zq43, zq44, zq45, zq47, zq48, zq57, zq59, zq60, zq61, zq62, zq80, zq91, zq93, zq97, zq99, zq100, zq107, zq110, zq120, zq122, zq128, zq149, zq160, zq208, zq240, zq251, zq255, zq256, zq500, zq936, zq999, zq1600, zq1800, zq2048, zq3200, zq4160, zq9999, zq12345, zq1000000, zq1048576, zq100000000, bnd, jnt, zg_ok, gz_0, gz_1, gz_n0, gz_n1, zs_eq, zs_ne, zs_same, zs_other, zA_eq, zA_ne, Option.bind_some, Option.bind_none, nI_add, pk_mul, nI_clamp, nI_leI, nI_ltI, nI_eq, pk_sub, nI_mI, nI_eq_mI, mI_eq_nI, nI_lt_m, ldI_ok, inb_ok, if_pos, if_neg, dv_ok, rem_ok, div_ok, if_true, if_false, hR1, zg_ok c0, c6, es]
      · simp (disch := omega) only [f_X12_robbed_L50, ↓zm1, ↓zm2, ↓zm3, ↓zm4, ↓zm5, ↓zm6, ↓zm7, ↓zm8, ↓zm9, ↓zm10, ↓zm11, ↓zm12, ↓zm13, ↓zm14, ↓zm15, ↓zm16, ↓zm17, ↓zm18, ↓zm19, ↓zm20, ↓zm1000000000, zq0, zq1, zq2, zq3, zq4, zq5, zq6, zq7, zq8, zq9, zq10, zq11, zq12, zq13, zq14, zq15, zq16, zq17, zq18, zq19, zq20, zq21, zq22, zq23, zq24, zq25, zq26, zq30, zq31, zq32, zq33, zq34, zq35, zq36, zq37, zq38, zq39, zq40, zq41, zq42, zq43, zq44, zq45, zq47, zq48, zq57, zq59, zq60, zq61, zq62, zq80, zq91, zq93, zq97, zq99, zq100, zq107, zq110, zq120, zq122, zq128, zq149, zq160, zq208, zq240, zq251, zq255, zq256, zq500, zq936, zq999, zq1600, zq1800, zq2048, zq3200, zq4160, zq9999, zq12345, zq1000000, zq1048576, zq100000000, bnd, jnt, zg_ok, gz_0, gz_1, gz_n0, gz_n1, zs_eq, zs_ne, zs_same, zs_other, zA_eq, zA_ne, Option.bind_some, Option.bind_none, nI_add, pk_mul, nI_clamp, nI_leI, nI_ltI, nI_eq, pk_sub, nI_mI, nI_eq_mI, mI_eq_nI, nI_lt_m, ldI_ok, inb_ok, if_pos, if_neg, dv_ok, rem_ok, div_ok, if_true, if_false, e1, e2, ef]
    · have x1 : ¬ nI y ≤ 0 := nI_nle (by omega) (by omega)
      have x2 : ¬ nI y = nI 0 := nI_ne0 (by omega) (by omega)
      rw [if_neg x1] at es
      obtain ⟨z, hz⟩ : ∃ z, z = y - g := ⟨_, rfl⟩
      have hstC := asStood_C (fu := fu) (I := I) (x := nI i) (y := nI g) (β := fun l => if l = i then nI z else I 59 l) hr hIr hL hf (fun l hl => by
        by_cases c : l = i
        · subst c
          rw [if_pos rfl, if_pos rfl, ey]
          by_cases c2 : g ≤ y
          · rw [pk_sub c2, ← hz]
            by_cases c3 : z = 0
            · subst c3; rfl
            · rw [if_pos (show (0 : Int32) < nI z from nI_lt (a := 0) (by omega) (by omega))]
          · rw [if_neg, show z = 0 by omega]
            · rfl
            · intro q
              have := pk_sneg (a := y) (b := g) (by omega) (by omega)
              exact absurd q (Int32.not_lt.mpr (Int32.le_of_lt this))
        · rw [if_neg (fun q => c ((nI_eq (by omega) (by omega)).mp q)), if_neg c])
      have hstM := asStood_M (fu := fu) (J := sI K 128 (8 + i) (nI z)) hr (by rw [zs_ne (by decide), k1 100 (by decide)]; exact hJr) (fun k hk => by
        rw [zs_ne (by decide), k1 144 (by decide), ← (hJ3 k hk).1]
        exact hL k hk) hf
      have hall : allB (fun k => decide (lv (sI K 128 (8 + i) (nI z)) 1 1 (sI K 128 (8 + i) (nI z) 144 k).toNatClampNeg = sI K 128 (8 + i) (nI z) 145 k)) r = allB (fun k => decide ((if (I 3 k).toNatClampNeg = i then nI z else I 59 (I 3 k).toNatClampNeg) = I 4 k)) r := allB_congr (fun k hk => by
        obtain ⟨l, hl, el⟩ := hL k hk
        rw [zs_ne (by decide), zs_ne (by decide), k1 144 (by decide), k1 145 (by decide), ← (hJ3 k hk).1, ← (hJ3 k hk).2, el, nI_clamp (by omega)]
        have q : lv (sI K 128 (8 + i) (nI z)) 1 1 l = if l = i then nI z else I 59 l := by
          show sI K 128 (8 + i) (nI z) 128 (8 * 1 + l) = _
          rw [zs_eq]
          by_cases c : l = i
          · subst c
            rw [if_pos rfl, Nat.mul_one, zs_same]
          · rw [if_neg c, zs_other (by omega), k2, Nat.mul_one, hJ l hl]
        rw [q])
      rw [hall] at hstM
      have hstC : f_X11_stoodIfTaken fu I (nI i) (nI g) = some (if allB (fun k => decide ((if (I 3 k).toNatClampNeg = i then nI z else I 59 (I 3 k).toNatClampNeg) = I 4 k)) r = true then 1 else 0) := hstC
      have k3 : ∀ q, q ≠ 128 → sI (sI K 128 (8 + i) (nI z)) 128 (8 + i) (nI y) q = J q := fun q hq => by rw [zs_ne hq, zs_ne hq, k1 q hq]
      have k4 : ∀ j, sI (sI K 128 (8 + i) (nI z)) 128 (8 + i) (nI y) 128 j = J 128 j := fun j => by
        rw [zs_eq, zs_eq]
        by_cases c : j = 8 + i
        · subst c
          rw [zs_same, hJ i (by omega), ey]
        · rw [zs_other c, zs_other c, k2]
      have stM : ∀ v : Int32, ∀ u, f_X12_isAsStood fu (sI K 128 (8 + i) (nI z)) = some u → f_X12_robbed_L50 fu (n + 1) K (nI g) x (nI i) = f_X12_robbed_L50 fu n (sI (sI K 128 (8 + i) (nI z)) 128 (8 + i) (nI y)) (nI g) (x ||| (if u = nI 0 then nI 0 else nI (2 ^ i))) (nI (i + 1)) := by
        intro _ u hu
        by_cases cg : g ≤ y
        · have hz' : y - g = z := hz.symm
          by_cases cu : u = nI 0
          · simp (disch := omega) only [f_X12_robbed_L50, ↓zm1, ↓zm2, ↓zm3, ↓zm4, ↓zm5, ↓zm6, ↓zm7, ↓zm8, ↓zm9, ↓zm10, ↓zm11, ↓zm12, ↓zm13, ↓zm14, ↓zm15, ↓zm16, ↓zm17, ↓zm18, ↓zm19, ↓zm20, ↓zm1000000000, zq0, zq1, zq2, zq3, zq4, zq5, zq6, zq7, zq8, zq9, zq10, zq11, zq12, zq13, zq14, zq15, zq16, zq17, zq18, zq19, zq20, zq21, zq22, zq23, zq24, zq25, zq26, zq30, zq31, zq32, zq33, zq34, zq35, zq36, zq37, zq38, zq39, zq40, zq41, zq42, zq43, zq44, zq45, zq47, zq48, zq57, zq59, zq60, zq61, zq62, zq80, zq91, zq93, zq97, zq99, zq100, zq107, zq110, zq120, zq122, zq128, zq149, zq160, zq208, zq240, zq251, zq255, zq256, zq500, zq936, zq999, zq1600, zq1800, zq2048, zq3200, zq4160, zq9999, zq12345, zq1000000, zq1048576, zq100000000, bnd, jnt, zg_ok, gz_0, gz_1, gz_n0, gz_n1, zs_eq, zs_ne, zs_same, zs_other, zA_eq, zA_ne, Option.bind_some, Option.bind_none, nI_add, pk_mul, nI_clamp, nI_leI, nI_ltI, nI_eq, pk_sub, nI_mI, nI_eq_mI, mI_eq_nI, nI_lt_m, ldI_ok, inb_ok, if_pos, if_neg, dv_ok, rem_ok, div_ok, if_true, if_false, e1, e2, ef, x2, hz', hu, cu]
          · simp (disch := omega) only [f_X12_robbed_L50, ↓zm1, ↓zm2, ↓zm3, ↓zm4, ↓zm5, ↓zm6, ↓zm7, ↓zm8, ↓zm9, ↓zm10, ↓zm11, ↓zm12, ↓zm13, ↓zm14, ↓zm15, ↓zm16, ↓zm17, ↓zm18, ↓zm19, ↓zm20, ↓zm1000000000, zq0, zq1, zq2, zq3, zq4, zq5, zq6, zq7, zq8, zq9, zq10, zq11, zq12, zq13, zq14, zq15, zq16, zq17, zq18, zq19, zq20, zq21, zq22, zq23, zq24, zq25, zq26, zq30, zq31, zq32, zq33, zq34, zq35, zq36, zq37, zq38, zq39, zq40, zq41, zq42, zq43, zq44, zq45, zq47, zq48, zq57, zq59, zq60, zq61, zq62, zq80, zq91, zq93, zq97, zq99, zq100, zq107, zq110, zq120, zq122, zq128, zq149, zq160, zq208, zq240, zq251, zq255, zq256, zq500, zq936, zq999, zq1600, zq1800, zq2048, zq3200, zq4160, zq9999, zq12345, zq1000000, zq1048576, zq100000000, bnd, jnt, zg_ok, gz_0, gz_1, gz_n0, gz_n1, zs_eq, zs_ne, zs_same, zs_other, zA_eq, zA_ne, Option.bind_some, Option.bind_none, nI_add, pk_mul, nI_clamp, nI_leI, nI_ltI, nI_eq, pk_sub, nI_mI, nI_eq_mI, mI_eq_nI, nI_lt_m, ldI_ok, inb_ok, if_pos, if_neg, dv_ok, rem_ok, div_ok, if_true, if_false, e1, e2, ef, x2, hz', hu, cu, sh_ok]
        · have hz' : z = 0 := by omega
          subst hz'
          by_cases cu : u = nI 0
          · simp (disch := omega) only [f_X12_robbed_L50, ↓zm1, ↓zm2, ↓zm3, ↓zm4, ↓zm5, ↓zm6, ↓zm7, ↓zm8, ↓zm9, ↓zm10, ↓zm11, ↓zm12, ↓zm13, ↓zm14, ↓zm15, ↓zm16, ↓zm17, ↓zm18, ↓zm19, ↓zm20, ↓zm1000000000, zq0, zq1, zq2, zq3, zq4, zq5, zq6, zq7, zq8, zq9, zq10, zq11, zq12, zq13, zq14, zq15, zq16, zq17, zq18, zq19, zq20, zq21, zq22, zq23, zq24, zq25, zq26, zq30, zq31, zq32, zq33, zq34, zq35, zq36, zq37, zq38, zq39, zq40, zq41, zq42, zq43, zq44, zq45, zq47, zq48, zq57, zq59, zq60, zq61, zq62, zq80, zq91, zq93, zq97, zq99, zq100, zq107, zq110, zq120, zq122, zq128, zq149, zq160, zq208, zq240, zq251, zq255, zq256, zq500, zq936, zq999, zq1600, zq1800, zq2048, zq3200, zq4160, zq9999, zq12345, zq1000000, zq1048576, zq100000000, bnd, jnt, zg_ok, gz_0, gz_1, gz_n0, gz_n1, zs_eq, zs_ne, zs_same, zs_other, zA_eq, zA_ne, Option.bind_some, Option.bind_none, nI_add, pk_mul, nI_clamp, nI_leI, nI_ltI, nI_eq, pk_sub, nI_mI, nI_eq_mI, mI_eq_nI, nI_lt_m, ldI_ok, inb_ok, if_pos, if_neg, dv_ok, rem_ok, div_ok, if_true, if_false, e1, e2, ef, x2, hu, cu]
          · simp (disch := omega) only [f_X12_robbed_L50, ↓zm1, ↓zm2, ↓zm3, ↓zm4, ↓zm5, ↓zm6, ↓zm7, ↓zm8, ↓zm9, ↓zm10, ↓zm11, ↓zm12, ↓zm13, ↓zm14, ↓zm15, ↓zm16, ↓zm17, ↓zm18, ↓zm19, ↓zm20, ↓zm1000000000, zq0, zq1, zq2, zq3, zq4, zq5, zq6, zq7, zq8, zq9, zq10, zq11, zq12, zq13, zq14, zq15, zq16, zq17, zq18, zq19, zq20, zq21, zq22, zq23, zq24, zq25, zq26, zq30, zq31, zq32, zq33, zq34, zq35, zq36, zq37, zq38, zq39, zq40, zq41, zq42, zq43, zq44, zq45, zq47, zq48, zq57, zq59, zq60, zq61, zq62, zq80, zq91, zq93, zq97, zq99, zq100, zq107, zq110, zq120, zq122, zq128, zq149, zq160, zq208, zq240, zq251, zq255, zq256, zq500, zq936, zq999, zq1600, zq1800, zq2048, zq3200, zq4160, zq9999, zq12345, zq1000000, zq1048576, zq100000000, bnd, jnt, zg_ok, gz_0, gz_1, gz_n0, gz_n1, zs_eq, zs_ne, zs_same, zs_other, zA_eq, zA_ne, Option.bind_some, Option.bind_none, nI_add, pk_mul, nI_clamp, nI_leI, nI_ltI, nI_eq, pk_sub, nI_mI, nI_eq_mI, mI_eq_nI, nI_lt_m, ldI_ok, inb_ok, if_pos, if_neg, dv_ok, rem_ok, div_ok, if_true, if_false, e1, e2, ef, x2, hu, cu, sh_ok]
      have u1 : ¬ (1 : Int32) = nI 0 := by decide
      by_cases ca : allB (fun k => decide ((if (I 3 k).toNatClampNeg = i then nI z else I 59 (I 3 k).toNatClampNeg) = I 4 k)) r = true
      · rw [if_pos ca] at hstC hstM
        obtain ⟨w, K', g1, g2, g3, g4⟩ := ih n (i + 1) (sI (sI K 128 (8 + i) (nI z)) 128 (8 + i) (nI y)) (x ||| nI (2 ^ i)) (by omega) (by omega) k3 k4
        have hM1 := stM 0 1 hstM
        rw [if_neg u1] at hM1
        refine ⟨w, K', Eq.trans ?_ g1, hM1.trans g2, g3, g4⟩
        simp (disch := omega) only [f_X11_robbed_L60, ↓zm1, ↓zm2, ↓zm3, ↓zm4, ↓zm5, ↓zm6, ↓zm7, ↓zm8, ↓zm9, ↓zm10, ↓zm11, ↓zm12, ↓zm13, ↓zm14, ↓zm15, ↓zm16, ↓zm17, ↓zm18, ↓zm19, ↓zm20, ↓zm1000000000, zq0, zq1, zq2, zq3, zq4, zq5, zq6, zq7, zq8, zq9, zq10, zq11, zq12, zq13, zq14, zq15, zq16, zq17, zq18, zq19, zq20, zq21, zq22, zq23, zq24, zq25, zq26, zq30, zq31, zq32, zq33, zq34, zq35, zq36, zq37, zq38, zq39, zq40, zq41, zq42, zq43, zq44, zq45, zq47, zq48, zq57, zq59, zq60, zq61, zq62, zq80, zq91, zq93, zq97, zq99, zq100, zq107, zq110, zq120, zq122, zq128, zq149, zq160, zq208, zq240, zq251, zq255, zq256, zq500, zq936, zq999, zq1600, zq1800, zq2048, zq3200, zq4160, zq9999, zq12345, zq1000000, zq1048576, zq100000000, bnd, jnt, zg_ok, gz_0, gz_1, gz_n0, gz_n1, zs_eq, zs_ne, zs_same, zs_other, zA_eq, zA_ne, Option.bind_some, Option.bind_none, nI_add, pk_mul, nI_clamp, nI_leI, nI_ltI, nI_eq, pk_sub, nI_mI, nI_eq_mI, mI_eq_nI, nI_lt_m, ldI_ok, inb_ok, if_pos, if_neg, dv_ok, rem_ok, div_ok, if_true, if_false, hR1, zg_ok c0, c6, es, hstC, sh_ok]
      · rw [if_neg ca] at hstC hstM
        obtain ⟨w, K', g1, g2, g3, g4⟩ := ih n (i + 1) (sI (sI K 128 (8 + i) (nI z)) 128 (8 + i) (nI y)) x (by omega) (by omega) k3 k4
        have hM1 := stM 0 0 hstM
        rw [if_pos (show (0 : Int32) = nI 0 from rfl), show x ||| nI 0 = x from Int32.or_zero] at hM1
        refine ⟨w, K', Eq.trans ?_ g1, hM1.trans g2, g3, g4⟩
        simp (disch := omega) only [f_X11_robbed_L60, ↓zm1, ↓zm2, ↓zm3, ↓zm4, ↓zm5, ↓zm6, ↓zm7, ↓zm8, ↓zm9, ↓zm10, ↓zm11, ↓zm12, ↓zm13, ↓zm14, ↓zm15, ↓zm16, ↓zm17, ↓zm18, ↓zm19, ↓zm20, ↓zm1000000000, zq0, zq1, zq2, zq3, zq4, zq5, zq6, zq7, zq8, zq9, zq10, zq11, zq12, zq13, zq14, zq15, zq16, zq17, zq18, zq19, zq20, zq21, zq22, zq23, zq24, zq25, zq26, zq30, zq31, zq32, zq33, zq34, zq35, zq36, zq37, zq38, zq39, zq40, zq41, zq42, zq43, zq44, zq45, zq47, zq48, zq57, zq59, zq60, zq61, zq62, zq80, zq91, zq93, zq97, zq99, zq100, zq107, zq110, zq120, zq122, zq128, zq149, zq160, zq208, zq240, zq251, zq255, zq256, zq500, zq936, zq999, zq1600, zq1800, zq2048, zq3200, zq4160, zq9999, zq12345, zq1000000, zq1048576, zq100000000, bnd, jnt, zg_ok, gz_0, gz_1, gz_n0, gz_n1, zs_eq, zs_ne, zs_same, zs_other, zA_eq, zA_ne, Option.bind_some, Option.bind_none, nI_add, pk_mul, nI_clamp, nI_leI, nI_ltI, nI_eq, pk_sub, nI_mI, nI_eq_mI, mI_eq_nI, nI_lt_m, ldI_ok, inb_ok, if_pos, if_neg, dv_ok, rem_ok, div_ok, if_true, if_false, hR1, zg_ok c0, c6, es, hstC]
