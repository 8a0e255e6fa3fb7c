theorem step_C {I : HI} {m : Nat} {op : Int32} {fig : Nat → Option Int} {st st' : List Int} (h : evS fig op.toInt st = some st') (hst : ∀ v ∈ st, bdZ v) (hM : MC I m st) (hfig : ∀ k v, k < 6 → fig k = some v → (I (m + 2) k).toInt = v) : ∃ I', f_X3_step I m op = some I' ∧ MC I' m st' ∧ Ot m I I' := by
  have t0 : (0 : Int32).toInt = 0 := by decide
  have t6 : (-6 : Int32).toInt = -6 := by decide
  have t7 : (-7 : Int32).toInt = -7 := by decide
  have t8 : (-8 : Int32).toInt = -8 := by decide
  unfold evS at h
  unfold f_X3_step
  simp only [Int32.lt_iff_toInt_lt, ← Int32.toInt_inj, t0, t6, t7, t8]
  by_cases c0 : 100 ≤ st.length
  · rw [if_pos c0] at h; cases h
  rw [if_neg c0] at h
  by_cases c1 : 0 ≤ op.toInt
  · rw [if_pos c1] at h
    rw [if_neg (by omega)]
    by_cases c2 : op.toInt ≤ 9999
    · rw [if_pos c2] at h
      injection h with h
      subst h
      obtain ⟨I', e1, e2, e3⟩ := hM.push (v := op) (by omega)
      exact ⟨I', by rw [e1]; rfl, e2, e3⟩
    · rw [if_neg c2] at h; cases h
  rw [if_neg c1] at h
  rw [if_pos (by omega)]
  by_cases c2 : -6 ≤ op.toInt
  · rw [if_pos c2] at h
    rw [if_neg (by omega)]
    have hop : (-1 : Int32) - op = nI (-1 - op.toInt).toNat := by
      apply Int32.toInt_inj.mp
      rw [nI_toInt (by omega), Int32.toInt_sub, show (-1 : Int32).toInt = -1 by decide, Int.bmod_eq_of_le (by omega) (by omega)]
      omega
    rw [hop, ldI_ok (by omega)]
    obtain ⟨I', e1, e2, e3⟩ := hM.push (v := I (m + 2) (-1 - op.toInt).toNat) (by omega)
    split at h
    · rename_i u hu
      injection h with h
      subst h
      rw [hfig _ _ (by omega) hu] at e2
      exact ⟨I', by rw [e1]; rfl, e2, e3⟩
    · cases h
  rw [if_neg c2] at h
  rw [if_pos (by omega)]
  by_cases c3 : op.toInt = -7
  · rw [if_pos c3] at h
    rw [if_pos c3]
    match st, h with
    | a :: s, h =>
      simp only at h
      by_cases c4 : a = 0 ∨ a = 1
      · rw [if_pos c4] at h
        injection h with h
        subst h
        have hl : s.length < 100 := by simp at c0; omega
        obtain ⟨v, I1, e1, e2, e3, e4⟩ := hM.pop (by omega)
        obtain ⟨I2, e5, e6, e7⟩ := e3.push (v := 1 - v) (by omega)
        have e8 : (1 - v).toInt = 1 - a := by
          rw [Int32.toInt_sub, show (1 : Int32).toInt = 1 by decide, e2, Int.bmod_eq_of_le (by omega) (by omega)]
        rw [e8] at e6
        refine ⟨I2, ?_, e6, e4.trans e7⟩
        rw [e1]
        simp only [Option.bind_some]
        rw [e5]
        rfl
      · rw [if_neg c4] at h; cases h
  rw [if_neg c3] at h
  rw [if_neg c3]
  by_cases c4 : op.toInt = -8
  · rw [if_pos c4] at h
    rw [if_pos c4]
    match st, h with
    | b :: a :: c :: s, h =>
      simp only at h
      by_cases c5 : c = 0 ∨ c = 1
      · rw [if_pos c5] at h
        injection h with h
        subst h
        have hl : s.length < 100 := by simp at c0; omega
        obtain ⟨v1, I1, e1, e2, e3, e4⟩ := hM.pop (by simp; omega)
        obtain ⟨v2, I2, f1, f2, f3, f4⟩ := e3.pop (by simp; omega)
        obtain ⟨v3, I3, g1, g2, g3, g4⟩ := f3.pop (by omega)
        rw [e1]
        simp only [Option.bind_some]
        rw [f1]
        simp only [Option.bind_some]
        rw [g1]
        simp only [Option.bind_some, jnt]
        rw [g2]
        by_cases c6 : c = 0
        · rw [if_pos c6, if_pos c6]
          obtain ⟨I4, k1, k2, k3⟩ := g3.push (v := v1) (by omega)
          rw [e2] at k2
          exact ⟨I4, by rw [k1]; rfl, k2, ((e4.trans f4).trans g4).trans k3⟩
        · rw [if_neg c6, if_neg c6]
          obtain ⟨I4, k1, k2, k3⟩ := g3.push (v := v2) (by omega)
          rw [f2] at k2
          exact ⟨I4, by rw [k1]; rfl, k2, ((e4.trans f4).trans g4).trans k3⟩
      · rw [if_neg c5] at h; cases h
  rw [if_neg c4] at h
  rw [if_neg c4]
  by_cases c5 : -20 ≤ op.toInt
  · rw [if_pos c5] at h
    match st, h with
    | b :: a :: s, h =>
      simp only at h
      by_cases c6 : (op.toInt = -19 ∨ op.toInt = -20) ∧ ¬ ((a = 0 ∨ a = 1) ∧ (b = 0 ∨ b = 1))
      · rw [if_pos c6] at h; cases h
      · rw [if_neg c6] at h
        injection h with h
        subst h
        have hl : s.length < 100 := by simp at c0; omega
        obtain ⟨v1, I1, e1, e2, e3, e4⟩ := hM.pop (by simp; omega)
        obtain ⟨v2, I2, f1, f2, f3, f4⟩ := e3.pop (by omega)
        obtain ⟨q, w, g1, g2, g3⟩ := combine_Z (op := op) (x := v2) (y := v1) c5 (by omega) (by rw [f2]; exact hst _ (by simp)) (by rw [e2]; exact hst _ (by simp)) (by rw [e2, f2]; intro hh; exact Decidable.byContradiction fun hn => c6 ⟨hh, hn⟩)
        obtain ⟨I4, k1, k2, k3⟩ := f3.push (v := w) (by omega)
        rw [g3, e2, f2] at k2
        rw [e1]
        simp only [Option.bind_some]
        rw [f1]
        simp only [Option.bind_some]
        rw [g1]
        simp only [Option.bind_some]
        rw [g2]
        simp only [Option.bind_some]
        exact ⟨I4, by rw [k1]; rfl, k2, (e4.trans f4).trans k3⟩
  · rw [if_neg c5] at h; cases h
theorem runL_C {m t : Nat} {fig : Nat → Option Int} (hmt : t + 10 ≠ m ∧ t + 10 ≠ m + 1) (hfb : ∀ k v, fig k = some v → bdZ v) : ∀ (k n i : Nat) (I : HI) (st st' : List Int), evN fig (I (t + 10)) i k st = some st' → i + k ≤ 1600 → k < n → (∀ v ∈ st, bdZ v) → MC I m st → (∀ k v, k < 6 → fig k = some v → (I (m + 2) k).toInt = v) → ∃ I', f_X3_run_L30 n I m t (nI (i + k)) (nI i) = some I' ∧ MC I' m st' ∧ Ot m I I' := by
  intro k
  induction k with
  | zero =>
    intro n i I st st' h hk hn hst hM hfig
    obtain ⟨n, rfl⟩ : ∃ q, n = q + 1 := ⟨n - 1, by omega⟩
    injection h with h
    subst h
    refine ⟨I, ?_, hM, fun _ _ _ => rfl⟩
    simp (disch := omega) only [f_X3_run_L30, ↓zm1, ↓zm2, ↓zm3, ↓zm4, ↓zm5, ↓zm6, ↓zm7, ↓zm8, ↓zm9, ↓zm10, ↓zm11, ↓zm12, ↓zm13, ↓zm14, ↓zm15, ↓zm16, ↓zm17, ↓zm18, ↓zm19, ↓zm20, ↓zm1000000000, zq0, zq1, zq2, zq3, zq4, zq5, zq6, zq7, zq8, zq9, zq10, zq11, zq12, zq13, zq14, zq15, zq16, zq17, zq18, zq19, zq20, zq21, zq22, zq23, zq24, zq25, zq26, zq30, zq31, zq32, zq33, zq34, zq35, zq36, zq37, zq38, zq39, zq40, zq41, zq42, zq43, zq44, zq45, zq47, zq48, zq57, zq59, zq60, zq61, zq62, zq80, zq91, zq93, zq97, zq99, zq100, zq107, zq110, zq120, zq122, zq128, zq149, zq160, zq208, zq240, zq251, zq255, zq256, zq500, zq936, zq999, zq1600, zq1800, zq2048, zq3200, zq4160, zq9999, zq12345, zq1000000, zq1048576, zq100000000, bnd, jnt, zg_ok, gz_0, gz_1, gz_n0, gz_n1, zs_eq, zs_ne, zs_same, zs_other, zA_eq, zA_ne, Option.bind_some, Option.bind_none, nI_add, pk_mul, nI_clamp, nI_leI, nI_ltI, nI_eq, pk_sub, nI_mI, nI_eq_mI, mI_eq_nI, nI_lt_m, ldI_ok, inb_ok, if_pos, if_neg, dv_ok, rem_ok, div_ok, if_true, if_false]
  | succ k ih =>
    intro n i I st st' h hk hn hst hM hfig
    obtain ⟨n, rfl⟩ : ∃ q, n = q + 1 := ⟨n - 1, by omega⟩
    have h' : (evS fig (I (t + 10) i).toInt st).bind (evN fig (I (t + 10)) (i + 1) k) = some st' := h
    cases hs : evS fig (I (t + 10) i).toInt st with
    | none => rw [hs] at h'; cases h'
    | some s1 =>
      rw [hs] at h'
      obtain ⟨I1, e1, e2, e3⟩ := step_C hs hst hM hfig
      have et : I1 (t + 10) = I (t + 10) := e3 _ hmt.1 hmt.2
      have hh : evN fig (I1 (t + 10)) (i + 1) k s1 = some st' := by rw [et]; exact h'
      obtain ⟨I2, f1, f2, f3⟩ := ih n (i + 1) I1 s1 st' hh (by omega) (by omega) (evS_bd hfb hs hst) e2 (by rw [e3 (m + 2) (by omega) (by omega)]; exact hfig)
      refine ⟨I2, ?_, f2, e3.trans f3⟩
      simp (disch := omega) only [f_X3_run_L30, ↓zm1, ↓zm2, ↓zm3, ↓zm4, ↓zm5, ↓zm6, ↓zm7, ↓zm8, ↓zm9, ↓zm10, ↓zm11, ↓zm12, ↓zm13, ↓zm14, ↓zm15, ↓zm16, ↓zm17, ↓zm18, ↓zm19, ↓zm20, ↓zm1000000000, zq0, zq1, zq2, zq3, zq4, zq5, zq6, zq7, zq8, zq9, zq10, zq11, zq12, zq13, zq14, zq15, zq16, zq17, zq18, zq19, zq20, zq21, zq22, zq23, zq24, zq25, zq26, zq30, zq31, zq32, zq33, zq34, zq35, zq36, zq37, zq38, zq39, zq40, zq41, zq42, zq43, zq44, zq45, zq47, zq48, zq57, zq59, zq60, zq61, zq62, zq80, zq91, zq93, zq97, zq99, zq100, zq107, zq110, zq120, zq122, zq128, zq149, zq160, zq208, zq240, zq251, zq255, zq256, zq500, zq936, zq999, zq1600, zq1800, zq2048, zq3200, zq4160, zq9999, zq12345, zq1000000, zq1048576, zq100000000, bnd, jnt, zg_ok, gz_0, gz_1, gz_n0, gz_n1, zs_eq, zs_ne, zs_same, zs_other, zA_eq, zA_ne, Option.bind_some, Option.bind_none, nI_add, pk_mul, nI_clamp, nI_leI, nI_ltI, nI_eq, pk_sub, nI_mI, nI_eq_mI, mI_eq_nI, nI_lt_m, ldI_ok, inb_ok, if_pos, if_neg, dv_ok, rem_ok, div_ok, if_true, if_false]
      rw [e1]
      simp (disch := omega) only [↓zm1, ↓zm2, ↓zm3, ↓zm4, ↓zm5, ↓zm6, ↓zm7, ↓zm8, ↓zm9, ↓zm10, ↓zm11, ↓zm12, ↓zm13, ↓zm14, ↓zm15, ↓zm16, ↓zm17, ↓zm18, ↓zm19, ↓zm20, ↓zm1000000000, zq0, zq1, zq2, zq3, zq4, zq5, zq6, zq7, zq8, zq9, zq10, zq11, zq12, zq13, zq14, zq15, zq16, zq17, zq18, zq19, zq20, zq21, zq22, zq23, zq24, zq25, zq26, zq30, zq31, zq32, zq33, zq34, zq35, zq36, zq37, zq38, zq39, zq40, zq41, zq42, zq43, zq44, zq45, zq47, zq48, zq57, zq59, zq60, zq61, zq62, zq80, zq91, zq93, zq97, zq99, zq100, zq107, zq110, zq120, zq122, zq128, zq149, zq160, zq208, zq240, zq251, zq255, zq256, zq500, zq936, zq999, zq1600, zq1800, zq2048, zq3200, zq4160, zq9999, zq12345, zq1000000, zq1048576, zq100000000, bnd, jnt, zg_ok, gz_0, gz_1, gz_n0, gz_n1, zs_eq, zs_ne, zs_same, zs_other, zA_eq, zA_ne, Option.bind_some, Option.bind_none, nI_add, pk_mul, nI_clamp, nI_leI, nI_ltI, nI_eq, pk_sub, nI_mI, nI_eq_mI, mI_eq_nI, nI_lt_m, ldI_ok, inb_ok, if_pos, if_neg, dv_ok, rem_ok, div_ok, if_true, if_false]
      rw [show i + (k + 1) = i + 1 + k by omega]
      exact f1
/-- a rule of a lowland: where its code lies -/
def RuleAt (D : HI) (r a n : Nat) : Prop := D 11 r = nI a ∧ D 12 r = nI (a + n) ∧ a + n ≤ 1600
/-- which figures a rule may ask for -/
def Ask (r k : Nat) : Prop := k < 3 ∨ (r = 0 ∧ k = 3) ∨ (r = 2 ∧ (k = 4 ∨ k = 5))
def RuleOk (D : HI) (r a n : Nat) : Prop := ∀ fig : Nat → Option Int, (∀ k v, fig k = some v → bdZ v) → (∀ k, Ask r k → ∃ v, fig k = some v) → ∃ v, evN fig (D 10) a n [] = some [v] ∧ (r = 2 → v = 0 ∨ v = 1)
/-- a lowland's cells -/
def vw (I : HI) (t : Nat) : HI := fun a => if a < 13 then I (t + a) else fun _ => 0
theorem run_C {I : HI} {m t fu r a n : Nat} {fig : Nat → Option Int} {v : Int} (hmt : m + 3 ≤ t ∨ t + 13 ≤ m) (hr : r < 3) (hR : RuleAt (vw I t) r a n) (hv : evN fig (I (t + 10)) a n [] = some [v]) (hfb : ∀ k v, fig k = some v → bdZ v) (hfig : ∀ k v, k < 6 → fig k = some v → (I (m + 2) k).toInt = v) (hfu : 1600 < fu) :
    ∃ w I', f_X3_run fu I m t (nI r) = some (w, I') ∧ w.toInt = v ∧ Ot m I I' := by
  obtain ⟨h1, h2, h3⟩ := hR
  have h1' : I (t + 11) r = nI a := h1
  have h2' : I (t + 12) r = nI (a + n) := h2
  have e10 : sI I m 1 (nI 0) (t + 10) = I (t + 10) := zs_ne (by omega)
  have hM0 : MC (sI I m 1 (nI 0)) m [] := ⟨by rw [zs_eq, zs_same]; rfl, trivial⟩
  obtain ⟨I1, e1, e2, e3⟩ := runL_C (fig := fig) (m := m) (t := t) (by omega) hfb n fu a (sI I m 1 (nI 0)) [] [v] (by rw [e10]; exact hv) h3 (by omega) (fun v hv => by cases hv) hM0 (by rw [zs_ne (by omega)]; exact hfig)
  obtain ⟨w, I2, f1, f2, f3, f4⟩ := e2.pop (by decide)
  refine ⟨w, I2, ?_, f2, ?_⟩
  · unfold f_X3_run f_J9_min_7cf53 f_J9_max_7cf53
    simp (disch := omega) only [↓zm1, ↓zm2, ↓zm3, ↓zm4, ↓zm5, ↓zm6, ↓zm7, ↓zm8, ↓zm9, ↓zm10, ↓zm11, ↓zm12, ↓zm13, ↓zm14, ↓zm15, ↓zm16, ↓zm17, ↓zm18, ↓zm19, ↓zm20, ↓zm1000000000, zq0, zq1, zq2, zq3, zq4, zq5, zq6, zq7, zq8, zq9, zq10, zq11, zq12, zq13, zq14, zq15, zq16, zq17, zq18, zq19, zq20, zq21, zq22, zq23, zq24, zq25, zq26, zq30, zq31, zq32, zq33, zq34, zq35, zq36, zq37, zq38, zq39, zq40, zq41, zq42, zq43, zq44, zq45, zq47, zq48, zq57, zq59, zq60, zq61, zq62, zq80, zq91, zq93, zq97, zq99, zq100, zq107, zq110, zq120, zq122, zq128, zq149, zq160, zq208, zq240, zq251, zq255, zq256, zq500, zq936, zq999, zq1600, zq1800, zq2048, zq3200, zq4160, zq9999, zq12345, zq1000000, zq1048576, zq100000000, bnd, jnt, zg_ok, gz_0, gz_1, gz_n0, gz_n1, zs_eq, zs_ne, zs_same, zs_other, zA_eq, zA_ne, Option.bind_some, Option.bind_none, nI_add, pk_mul, nI_clamp, nI_leI, nI_ltI, nI_eq, pk_sub, nI_mI, nI_eq_mI, mI_eq_nI, nI_lt_m, ldI_ok, inb_ok, if_pos, if_neg, dv_ok, rem_ok, div_ok, if_true, if_false, h1', h2']
    have em : (if 1600 < a + n then some (nI 1600) else some (nI (a + n))) = some (nI (a + n)) := by rw [if_neg (by omega)]
    have ea : (if 0 < a then some (nI a) else some (nI 0)) = some (nI a) := by
      by_cases ha : 0 < a
      · rw [if_pos ha]
      · rw [if_neg ha, show a = 0 by omega]
    simp only [ea, Option.bind_some, e1, f1]
  · intro x hx1 hx2
    rw [f4 x hx1 hx2, e3 x hx1 hx2, zs_ne hx1]
