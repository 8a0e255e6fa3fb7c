/-! the reader: one word, number or sign, on both sides -/
/-- the tape, on both sides -/
def TPc (I J : HI) (tp : Nat → Nat) : Prop := ∀ k, k < 1600 → tp k < 256 ∧ I 2 k = nI (tp k) ∧ J 101 k = nI (tp k)
section
variable {tp : Nat → Nat} {sz : Nat}
/-- only the place behind moves -/
def OnN (I K : HI) : Prop := (∀ x, x ≠ 7 → K x = I x) ∧ ∀ s, s ≠ 2 → K 7 s = I 7 s
theorem skip_C {I : HI} (hz : sz ≤ 1600) (ht : ∀ k, k < 1600 → tp k < 256 ∧ I 2 k = nI (tp k)) (h1 : I 7 1 = nI sz) : ∀ (q i n : Nat) (K : HI), i + q = sz → q < n → OnN I K → K 7 2 = nI i → ∃ K', f_X10_advance_L10 n K = some K' ∧ OnN I K' ∧ K' 7 2 = nI (rn (fun k => byB (tp k)) sz i) := by
  intro q
  induction q with
  | zero =>
    intro i n K e1 e2 o k2
    obtain ⟨n, rfl⟩ : ∃ z, n = z + 1 := ⟨n - 1, by omega⟩
    have k1 : K 7 1 = nI sz := by rw [o.2 1 (by decide)]; exact h1
    have c1 : nI sz ≤ nI i := nI_le (by omega) (by omega)
    refine ⟨K, ?_, o, by rw [rn_end (fun w => by omega)]; exact k2⟩
    simp only [f_X10_advance_L10, k1, k2, if_pos c1]
  | succ q ih =>
    intro i n K e1 e2 o k2
    obtain ⟨n, rfl⟩ : ∃ z, n = z + 1 := ⟨n - 1, by omega⟩
    have k1 : K 7 1 = nI sz := by rw [o.2 1 (by decide)]; exact h1
    have c1 : ¬ nI sz ≤ nI i := nI_ge (by omega) (by omega)
    obtain ⟨t1, t2⟩ := ht i (by omega)
    have ld : ∀ k : Int32 → Option HI, ldI (K 2) 1600 (nI i) k = k (nI (tp i)) := fun k => by rw [ldI_ok (by omega), o.1 2 (by decide), t2]
    have A1 : nI i + 1 = nI (i + 1) := nI_1 i
    by_cases c : byB (tp i) = true
    · obtain ⟨K', r1, r2, r3⟩ := ih (i + 1) n (sI K 7 2 (nI (i + 1))) (by omega) (by omega) ⟨fun x hx => by rw [zs_ne hx]; exact o.1 x hx, fun s hs => by rw [zs_eq, zs_other hs]; exact o.2 s hs⟩ (by rw [zs_eq, zs_same])
      refine ⟨K', ?_, r2, by rw [rn_go (P := fun k => byB (tp k)) (show i < sz by omega) c]; exact r3⟩
      rw [← r1]
      rcases byB_iff.mp c with w | w
      · have z : nI (tp i) = 32 := by rw [w]; rfl
        simp only [f_X10_advance_L10, k1, k2, if_neg c1, ld, jnt, if_pos z, bnd, A1]
      · have z : ¬ nI (tp i) = 32 := by rw [w]; decide
        have z2 : nI (tp i) = 10 := by rw [w]; rfl
        simp only [f_X10_advance_L10, k1, k2, if_neg c1, ld, jnt, if_neg z, if_pos z2, bnd, A1]
    · have z : ¬ nI (tp i) = 32 := fun w => c (byB_iff.mpr (Or.inl ((nI_eq (b := 32) (by omega) (by decide)).mp w)))
      have z2 : ¬ nI (tp i) = 10 := fun w => c (byB_iff.mpr (Or.inr ((nI_eq (b := 10) (by omega) (by decide)).mp w)))
      refine ⟨K, ?_, o, by rw [rn_end (P := fun k => byB (tp k)) (fun w => c w.2)]; exact k2⟩
      simp only [f_X10_advance_L10, k1, k2, if_neg c1, ld, jnt, if_neg z, if_neg z2]
theorem skip_M {J : HI} (hz : sz ≤ 1600) (ht : ∀ k, k < 1600 → tp k < 256 ∧ J 101 k = nI (tp k)) (h1 : J 100 2 = nI sz) : ∀ (q i n : Nat), i + q = sz → q < n → f_X12_ahead_L5 n J (nI i) = some (nI (rn (fun k => byB (tp k)) sz i)) := by
  intro q
  induction q with
  | zero =>
    intro i n e1 e2
    obtain ⟨n, rfl⟩ : ∃ z, n = z + 1 := ⟨n - 1, by omega⟩
    have c1 : nI sz ≤ nI i := nI_le (by omega) (by omega)
    rw [rn_end (fun w => by omega)]
    simp only [f_X12_ahead_L5, h1, if_pos c1]
  | succ q ih =>
    intro i n e1 e2
    obtain ⟨n, rfl⟩ : ∃ z, n = z + 1 := ⟨n - 1, by omega⟩
    have c1 : ¬ nI sz ≤ nI i := nI_ge (by omega) (by omega)
    obtain ⟨t1, t2⟩ := ht i (by omega)
    have ld : ∀ k : Int32 → Option Int32, ldI (J 101) 1800 (nI i) k = k (nI (tp i)) := fun k => by rw [ldI_ok (by omega), t2]
    have A1 : nI i + 1 = nI (i + 1) := nI_1 i
    by_cases c : byB (tp i) = true
    · rw [rn_go (P := fun k => byB (tp k)) (show i < sz by omega) c, ← ih (i + 1) n (by omega) (by omega)]
      rcases byB_iff.mp c with w | w
      · have z : nI (tp i) = 32 := by rw [w]; rfl
        simp only [f_X12_ahead_L5, h1, if_neg c1, ld, jnt, if_pos z, A1]
      · have z : ¬ nI (tp i) = 32 := by rw [w]; decide
        have z2 : nI (tp i) = 10 := by rw [w]; rfl
        simp only [f_X12_ahead_L5, h1, if_neg c1, ld, jnt, if_neg z, if_pos z2, A1]
    · have z : ¬ nI (tp i) = 32 := fun w => c (byB_iff.mpr (Or.inl ((nI_eq (b := 32) (by omega) (by decide)).mp w)))
      have z2 : ¬ nI (tp i) = 10 := fun w => c (byB_iff.mpr (Or.inr ((nI_eq (b := 10) (by omega) (by decide)).mp w)))
      rw [rn_end (P := fun k => byB (tp k)) (fun w => c w.2)]
      simp only [f_X12_ahead_L5, h1, if_neg c1, ld, jnt, if_neg z, if_neg z2]
theorem letters_C {I : HI} (hz : sz ≤ 1600) (ht : ∀ k, k < 1600 → tp k < 256 ∧ I 2 k = nI (tp k)) (h1 : I 7 1 = nI sz) : ∀ (q i n : Nat) (K : HI), i + q = sz → q < n → OnN I K → K 7 2 = nI i → ∃ K', f_X10_readWord_L0 n K = some K' ∧ OnN I K' ∧ K' 7 2 = nI (rn (fun k => byL (tp k)) sz i) := by
  intro q
  induction q with
  | zero =>
    intro i n K e1 e2 o k2
    obtain ⟨n, rfl⟩ : ∃ z, n = z + 1 := ⟨n - 1, by omega⟩
    have k1 : K 7 1 = nI sz := by rw [o.2 1 (by decide)]; exact h1
    have c1 : nI sz ≤ nI i := nI_le (by omega) (by omega)
    refine ⟨K, ?_, o, by rw [rn_end (fun w => by omega)]; exact k2⟩
    simp only [f_X10_readWord_L0, k1, k2, if_pos c1]
  | succ q ih =>
    intro i n K e1 e2 o k2
    obtain ⟨n, rfl⟩ : ∃ z, n = z + 1 := ⟨n - 1, by omega⟩
    have k1 : K 7 1 = nI sz := by rw [o.2 1 (by decide)]; exact h1
    have c1 : ¬ nI sz ≤ nI i := nI_ge (by omega) (by omega)
    obtain ⟨t1, t2⟩ := ht i (by omega)
    have ld : ∀ k : Int32 → Option HI, ldI (K 2) 1600 (nI i) k = k (nI (tp i)) := fun k => by rw [ldI_ok (by omega), o.1 2 (by decide), t2]
    have A1 : nI i + 1 = nI (i + 1) := nI_1 i
    have n3 : ¬ (1 : Int32) = 0 := by decide
    have hl := (letter_C t1).1
    by_cases c : byL (tp i) = true
    · rw [if_pos c] at hl
      obtain ⟨K', r1, r2, r3⟩ := ih (i + 1) n (sI K 7 2 (nI (i + 1))) (by omega) (by omega) ⟨fun x hx => by rw [zs_ne hx]; exact o.1 x hx, fun s hs => by rw [zs_eq, zs_other hs]; exact o.2 s hs⟩ (by rw [zs_eq, zs_same])
      refine ⟨K', ?_, r2, by rw [rn_go (P := fun k => byL (tp k)) (show i < sz by omega) c]; exact r3⟩
      rw [← r1]
      simp only [f_X10_readWord_L0, k1, k2, if_neg c1, ld, hl, Option.bind_some, if_neg n3, bnd, A1]
    · rw [if_neg c] at hl
      refine ⟨K, ?_, o, by rw [rn_end (P := fun k => byL (tp k)) (fun w => c w.2)]; exact k2⟩
      simp only [f_X10_readWord_L0, k1, k2, if_neg c1, ld, hl, Option.bind_some, if_true]
/-- a number: its first four digits -/
def dgN (g : Nat → Nat) : Nat → Nat
  | 0 => 0
  | k + 1 => if k < 4 then 10 * dgN g k + (g k - 48) else dgN g k
theorem dgN_le {g : Nat → Nat} (hg : ∀ k, g k ≤ 57) : ∀ k, dgN g k ≤ 9999 ∧ (k = 0 → dgN g k = 0) ∧ (k ≤ 1 → dgN g k ≤ 9) ∧ (k ≤ 2 → dgN g k ≤ 99) ∧ (k ≤ 3 → dgN g k ≤ 999) := by
  intro k
  induction k with
  | zero => exact ⟨by show 0 ≤ 9999; omega, fun _ => rfl, fun _ => by show 0 ≤ 9; omega, fun _ => by show 0 ≤ 99; omega, fun _ => by show 0 ≤ 999; omega⟩
  | succ k ih =>
    have h1 := hg k
    show (if k < 4 then 10 * dgN g k + (g k - 48) else dgN g k) ≤ 9999 ∧ (k + 1 = 0 → (if k < 4 then 10 * dgN g k + (g k - 48) else dgN g k) = 0) ∧ (k + 1 ≤ 1 → (if k < 4 then 10 * dgN g k + (g k - 48) else dgN g k) ≤ 9) ∧ (k + 1 ≤ 2 → (if k < 4 then 10 * dgN g k + (g k - 48) else dgN g k) ≤ 99) ∧ (k + 1 ≤ 3 → (if k < 4 then 10 * dgN g k + (g k - 48) else dgN g k) ≤ 999)
    obtain ⟨i1, i2, i3, i4, i5⟩ := ih
    by_cases c : k < 4
    · rw [if_pos c]
      refine ⟨?_, fun w => by omega, fun w => ?_, fun w => ?_, fun w => ?_⟩
      · have := i5 (by omega); omega
      · have := i2 (by omega); omega
      · have := i3 (by omega); omega
      · have := i4 (by omega); omega
    · rw [if_neg c]
      exact ⟨i1, fun w => by omega, fun w => by omega, fun w => by omega, fun w => by omega⟩
theorem digits_C {I : HI} {at' : Nat} (hz : sz ≤ 1600) (ht : ∀ k, k < 1600 → tp k < 256 ∧ I 2 k = nI (tp k)) (h1 : I 7 1 = nI sz) (h4 : I 7 4 = nI at') (hd : ∀ j, at' ≤ j → j < rn (fun k => byD (tp k)) sz at' → byD (tp j) = true) : ∀ (q i n : Nat) (K : HI), at' ≤ i → i + q = sz → q < n → OnN I K → K 7 2 = nI i → rn (fun k => byD (tp k)) sz i = rn (fun k => byD (tp k)) sz at' → i ≤ rn (fun k => byD (tp k)) sz at' → ∃ K', f_X10_readNumber_L2 n K (nI (dgN (fun k => min (tp (at' + k)) 57) (i - at'))) = some (nI (dgN (fun k => min (tp (at' + k)) 57) (rn (fun k => byD (tp k)) sz at' - at')), K') ∧ OnN I K' ∧ K' 7 2 = nI (rn (fun k => byD (tp k)) sz at') := by
  intro q
  induction q with
  | zero =>
    intro i n K e0 e1 e2 o k2 er el
    obtain ⟨n, rfl⟩ : ∃ z, n = z + 1 := ⟨n - 1, by omega⟩
    have k1 : K 7 1 = nI sz := by rw [o.2 1 (by decide)]; exact h1
    have c1 : nI sz ≤ nI i := nI_le (by omega) (by omega)
    rw [rn_end (i := i) (fun w => by omega)] at er
    rw [← er]
    refine ⟨K, ?_, o, k2⟩
    simp only [f_X10_readNumber_L2, k1, k2, if_pos c1]
  | succ q ih =>
    intro i n K e0 e1 e2 o k2 er el
    obtain ⟨n, rfl⟩ : ∃ z, n = z + 1 := ⟨n - 1, by omega⟩
    have k1 : K 7 1 = nI sz := by rw [o.2 1 (by decide)]; exact h1
    have k4 : K 7 4 = nI at' := by rw [o.2 4 (by decide)]; exact h4
    have c1 : ¬ nI sz ≤ nI i := nI_ge (by omega) (by omega)
    obtain ⟨t1, t2⟩ := ht i (by omega)
    have ld : ∀ k : Int32 → Option (Int32 × HI), ldI (K 2) 1600 (nI i) k = k (nI (tp i)) := fun k => by rw [ldI_ok (by omega), o.1 2 (by decide), t2]
    have A1 : nI i + 1 = nI (i + 1) := nI_1 i
    have n3 : ¬ (1 : Int32) = 0 := by decide
    have hl := (digit_C t1).1
    by_cases c : byD (tp i) = true
    · rw [if_pos c] at hl
      have er' : rn (fun k => byD (tp k)) sz (i + 1) = rn (fun k => byD (tp k)) sz at' := by rw [← er]; exact (rn_go (P := fun k => byD (tp k)) (show i < sz by omega) c).symm
      have hp := (rn_prop (P := fun k => byD (tp k)) (sz := sz) (sz - (i + 1)) (i + 1) (by omega)).1
      obtain ⟨K', r1, r2, r3⟩ := ih (i + 1) n (sI K 7 2 (nI (i + 1))) (by omega) (by omega) (by omega) ⟨fun x hx => by rw [zs_ne hx]; exact o.1 x hx, fun s hs => by rw [zs_eq, zs_other hs]; exact o.2 s hs⟩ (by rw [zs_eq, zs_same]) er' (by omega)
      refine ⟨K', ?_, r2, r3⟩
      rw [← r1]
      have es : nI i - nI at' = nI (i - at') := pk_sub (by omega)
      have hb := byD_iff.mp c
      have ed : dgN (fun k => min (tp (at' + k)) 57) (i + 1 - at') = if i - at' < 4 then 10 * dgN (fun k => min (tp (at' + k)) 57) (i - at') + (min (tp i) 57 - 48) else dgN (fun k => min (tp (at' + k)) 57) (i - at') := by
        rw [show i + 1 - at' = (i - at') + 1 by omega]
        show (if i - at' < 4 then 10 * dgN (fun k => min (tp (at' + k)) 57) (i - at') + (min (tp (at' + (i - at'))) 57 - 48) else dgN (fun k => min (tp (at' + k)) 57) (i - at')) = _
        rw [show at' + (i - at') = i by omega]
      rw [ed]
      obtain ⟨x, hx⟩ : ∃ x, x = dgN (fun k => min (tp (at' + k)) 57) (i - at') := ⟨_, rfl⟩
      rw [← hx]
      by_cases c4 : i - at' < 4
      · have c4' : ¬ (4 : Int32) ≤ nI (i - at') := nI_ge (b := 4) c4 (by decide)
        have ev : nI x * 10 + nI (tp i) - 48 = nI (10 * x + (min (tp i) 57 - 48)) := by
          rw [zq10, pk_mul, nI_add, zq48, pk_sub (by omega)]
          congr 1
          omega
        rw [if_pos c4]
        simp only [f_X10_readNumber_L2, k1, k2, if_neg c1, ld, hl, Option.bind_some, if_neg n3, jnt, k4, es, if_neg c4', ev, bnd, A1]
      · have c4' : (4 : Int32) ≤ nI (i - at') := nI_le (a := 4) (by omega) (by omega)
        rw [if_neg c4]
        simp only [f_X10_readNumber_L2, k1, k2, if_neg c1, ld, hl, Option.bind_some, if_neg n3, jnt, k4, es, if_pos c4', bnd, A1]
    · rw [if_neg c] at hl
      rw [rn_end (P := fun k => byD (tp k)) (i := i) (fun w => c w.2)] at er
      rw [← er]
      refine ⟨K, ?_, o, k2⟩
      simp only [f_X10_readNumber_L2, k1, k2, if_neg c1, ld, hl, Option.bind_some, if_true]
end
