/-! the two machines against the small language -/
def SRI (g : Nat → Int32) : List Int → Prop
  | [] => True
  | a :: s => (g s.length).toInt = a ∧ SRI g s
def SRL (g : Nat → Int64) : List Int → Prop
  | [] => True
  | a :: s => (g s.length).toInt = a ∧ SRL g s
theorem SRI_keep {g g' : Nat → Int32} : ∀ {s : List Int}, (∀ j, j < s.length → g' j = g j) → SRI g s → SRI g' s := by
  intro s
  induction s with
  | nil => intro _ _; trivial
  | cons a s ih =>
    intro h hs
    exact ⟨by rw [h s.length (by simp)]; exact hs.1, ih (fun j hj => h j (by simp; omega)) hs.2⟩
theorem SRL_keep {g g' : Nat → Int64} : ∀ {s : List Int}, (∀ j, j < s.length → g' j = g j) → SRL g s → SRL g' s := by
  intro s
  induction s with
  | nil => intro _ _; trivial
  | cons a s ih =>
    intro h hs
    exact ⟨by rw [h s.length (by simp)]; exact hs.1, ih (fun j hj => h j (by simp; omega)) hs.2⟩
theorem push_ok {I : HI} {m n : Nat} {v : Int32} (hh : I m 1 = nI n) (hn : n < 128) : f_X3_push I m v = some (sI (sI I (m + 1) n v) m 1 (nI (n + 1))) := by
  unfold f_X3_push
  simp (disch := omega) only [↓zm1, ↓zm2, ↓zm3, ↓zm4, ↓zm5, ↓zm6, ↓zm7, ↓zm8, ↓zm9, ↓zm10, ↓zm11, ↓zm12, ↓zm13, ↓zm14, ↓zm15, ↓zm16, ↓zm17, ↓zm18, ↓zm19, ↓zm20, ↓zm1000000000, zq0, zq1, zq2, zq3, zq4, zq5, zq6, zq7, zq8, zq9, zq10, zq11, zq12, zq13, zq14, zq15, zq16, zq17, zq18, zq19, zq20, zq21, zq22, zq23, zq24, zq25, zq26, zq30, zq31, zq32, zq33, zq34, zq35, zq36, zq37, zq38, zq39, zq40, zq41, zq42, zq43, zq44, zq45, zq47, zq48, zq57, zq59, zq60, zq61, zq62, zq80, zq91, zq93, zq97, zq99, zq100, zq107, zq110, zq120, zq122, zq128, zq149, zq160, zq208, zq240, zq251, zq255, zq256, zq500, zq936, zq999, zq1600, zq1800, zq2048, zq3200, zq4160, zq9999, zq12345, zq1000000, zq1048576, zq100000000, bnd, jnt, zg_ok, gz_0, gz_1, gz_n0, gz_n1, zs_eq, zs_ne, zs_same, zs_other, zA_eq, zA_ne, Option.bind_some, Option.bind_none, nI_add, pk_mul, nI_clamp, nI_leI, nI_ltI, nI_eq, pk_sub, nI_mI, nI_eq_mI, mI_eq_nI, nI_lt_m, ldI_ok, inb_ok, if_pos, if_neg, dv_ok, rem_ok, div_ok, if_true, if_false, hh]
theorem pop_ok {I : HI} {m n : Nat} (hh : I m 1 = nI (n + 1)) (hn : n < 128) : f_X3_pop I m = some (I (m + 1) n, sI I m 1 (nI n)) := by
  unfold f_X3_pop
  simp (disch := omega) only [↓zm1, ↓zm2, ↓zm3, ↓zm4, ↓zm5, ↓zm6, ↓zm7, ↓zm8, ↓zm9, ↓zm10, ↓zm11, ↓zm12, ↓zm13, ↓zm14, ↓zm15, ↓zm16, ↓zm17, ↓zm18, ↓zm19, ↓zm20, ↓zm1000000000, zq0, zq1, zq2, zq3, zq4, zq5, zq6, zq7, zq8, zq9, zq10, zq11, zq12, zq13, zq14, zq15, zq16, zq17, zq18, zq19, zq20, zq21, zq22, zq23, zq24, zq25, zq26, zq30, zq31, zq32, zq33, zq34, zq35, zq36, zq37, zq38, zq39, zq40, zq41, zq42, zq43, zq44, zq45, zq47, zq48, zq57, zq59, zq60, zq61, zq62, zq80, zq91, zq93, zq97, zq99, zq100, zq107, zq110, zq120, zq122, zq128, zq149, zq160, zq208, zq240, zq251, zq255, zq256, zq500, zq936, zq999, zq1600, zq1800, zq2048, zq3200, zq4160, zq9999, zq12345, zq1000000, zq1048576, zq100000000, bnd, jnt, zg_ok, gz_0, gz_1, gz_n0, gz_n1, zs_eq, zs_ne, zs_same, zs_other, zA_eq, zA_ne, Option.bind_some, Option.bind_none, nI_add, pk_mul, nI_clamp, nI_leI, nI_ltI, nI_eq, pk_sub, nI_mI, nI_eq_mI, mI_eq_nI, nI_lt_m, ldI_ok, inb_ok, if_pos, if_neg, dv_ok, rem_ok, div_ok, if_true, if_false, hh, Nat.add_sub_cancel]
/-- what a machine's cells keep of a stack -/
def MC (I : HI) (m : Nat) (st : List Int) : Prop := I m 1 = nI st.length ∧ SRI (I (m + 1)) st
def Ot (m : Nat) (I I' : HI) : Prop := ∀ x, x ≠ m → x ≠ m + 1 → I' x = I x
theorem MC.push {I : HI} {m : Nat} {st : List Int} {v : Int32} (h : MC I m st) (hl : st.length < 128) : ∃ I', f_X3_push I m v = some I' ∧ MC I' m (v.toInt :: st) ∧ Ot m I I' := by
  refine ⟨_, push_ok h.1 hl, ⟨?_, ?_, ?_⟩, ?_⟩
  · simp (disch := omega) only [bnd, jnt, zg_ok, gz_0, gz_1, gz_n0, gz_n1, zs_eq, zs_ne, zs_same, zs_other, zA_eq, zA_ne, Option.bind_some, Option.bind_none, List.length_cons]
  · simp (disch := omega) only [bnd, jnt, zg_ok, gz_0, gz_1, gz_n0, gz_n1, zs_eq, zs_ne, zs_same, zs_other, zA_eq, zA_ne, Option.bind_some, Option.bind_none]
  · simp (disch := omega) only [bnd, jnt, zg_ok, gz_0, gz_1, gz_n0, gz_n1, zs_eq, zs_ne, zs_same, zs_other, zA_eq, zA_ne, Option.bind_some, Option.bind_none]
    exact SRI_keep (fun j hj => zs_other (by omega)) h.2
  · intro x h1 h2
    simp (disch := omega) only [bnd, jnt, zg_ok, gz_0, gz_1, gz_n0, gz_n1, zs_eq, zs_ne, zs_same, zs_other, zA_eq, zA_ne, Option.bind_some, Option.bind_none]
theorem MC.pop {I : HI} {m : Nat} {st : List Int} {a : Int} (h : MC I m (a :: st)) (hl : st.length < 128) : ∃ v I', f_X3_pop I m = some (v, I') ∧ v.toInt = a ∧ MC I' m st ∧ Ot m I I' := by
  refine ⟨_, _, pop_ok h.1 hl, h.2.1, ⟨?_, ?_⟩, ?_⟩
  · simp (disch := omega) only [bnd, jnt, zg_ok, gz_0, gz_1, gz_n0, gz_n1, zs_eq, zs_ne, zs_same, zs_other, zA_eq, zA_ne, Option.bind_some, Option.bind_none]
  · simp (disch := omega) only [bnd, jnt, zg_ok, gz_0, gz_1, gz_n0, gz_n1, zs_eq, zs_ne, zs_same, zs_other, zA_eq, zA_ne, Option.bind_some, Option.bind_none]
    exact h.2.2
  · intro x h1 h2
    simp (disch := omega) only [bnd, jnt, zg_ok, gz_0, gz_1, gz_n0, gz_n1, zs_eq, zs_ne, zs_same, zs_other, zA_eq, zA_ne, Option.bind_some, Option.bind_none]
theorem Ot.trans {m : Nat} {I I' I'' : HI} (h : Ot m I I') (h' : Ot m I' I'') : Ot m I I'' := fun x a b => (h' x a b).trans (h x a b)
theorem opZ9 (a b : Int) : opZ (-9) a b = clZ (a + b) := by
  unfold opZ
  rw [if_pos rfl]
theorem cmb9 (a b : Int64) : f_X3_combine (-9) a b = some (a + b) := by
  unfold f_X3_combine
  rw [if_neg (by decide), if_neg (by decide), if_neg (by decide), if_neg (by decide), if_neg (by decide), if_neg (by decide), if_neg (by decide), if_neg (by decide), if_neg (by decide), if_neg (by decide), if_pos rfl]
theorem opZ10 (a b : Int) : opZ (-10) a b = clZ (a - b) := by
  unfold opZ
  rw [if_neg (by decide), if_pos rfl]
theorem cmb10 (a b : Int64) : f_X3_combine (-10) a b = some (a - b) := by
  unfold f_X3_combine
  rw [if_neg (by decide), if_neg (by decide), if_neg (by decide), if_neg (by decide), if_neg (by decide), if_neg (by decide), if_neg (by decide), if_neg (by decide), if_neg (by decide), if_pos rfl]
theorem opZ11 (a b : Int) : opZ (-11) a b = clZ (a * b) := by
  unfold opZ
  rw [if_neg (by decide), if_neg (by decide), if_pos rfl]
theorem cmb11 (a b : Int64) : f_X3_combine (-11) a b = some (a * b) := by
  unfold f_X3_combine
  rw [if_neg (by decide), if_neg (by decide), if_neg (by decide), if_neg (by decide), if_neg (by decide), if_neg (by decide), if_neg (by decide), if_neg (by decide), if_pos rfl]
theorem opZ12 (a b : Int) : opZ (-12) a b = if b = 0 then 0 else clZ (flZ a b) := by
  unfold opZ
  rw [if_neg (by decide), if_neg (by decide), if_neg (by decide), if_pos rfl]
theorem cmb12 (a b : Int64) : f_X3_combine (-12) a b = if (lg_cmp b 0) = 0 then some 0 else (f_J9_floorDiv_f86c9 a b).bind fun x8 => some x8 := by
  unfold f_X3_combine
  rw [if_neg (by decide), if_neg (by decide), if_neg (by decide), if_neg (by decide), if_neg (by decide), if_neg (by decide), if_neg (by decide), if_pos rfl]
theorem opZ13 (a b : Int) : opZ (-13) a b = if b = 0 then 0 else clZ (a - b * flZ a b) := by
  unfold opZ
  rw [if_neg (by decide), if_neg (by decide), if_neg (by decide), if_neg (by decide), if_pos rfl]
theorem cmb13 (a b : Int64) : f_X3_combine (-13) a b = if (lg_cmp b 0) = 0 then some 0 else (f_J9_floorMod_f86c9 a b).bind fun x8 => some x8 := by
  unfold f_X3_combine
  rw [if_neg (by decide), if_neg (by decide), if_neg (by decide), if_neg (by decide), if_neg (by decide), if_neg (by decide), if_pos rfl]
theorem opZ14 (a b : Int) : opZ (-14) a b = if a < b then a else b := by
  unfold opZ
  rw [if_neg (by decide), if_neg (by decide), if_neg (by decide), if_neg (by decide), if_neg (by decide), if_pos rfl]
theorem cmb14 (a b : Int64) : f_X3_combine (-14) a b = (f_J9_min_f86c9 a b).bind fun x5 => some x5 := by
  unfold f_X3_combine
  rw [if_neg (by decide), if_neg (by decide), if_neg (by decide), if_neg (by decide), if_neg (by decide), if_pos rfl]
theorem opZ15 (a b : Int) : opZ (-15) a b = if b < a then a else b := by
  unfold opZ
  rw [if_neg (by decide), if_neg (by decide), if_neg (by decide), if_neg (by decide), if_neg (by decide), if_neg (by decide), if_pos rfl]
theorem cmb15 (a b : Int64) : f_X3_combine (-15) a b = (f_J9_max_f86c9 a b).bind fun x5 => some x5 := by
  unfold f_X3_combine
  rw [if_neg (by decide), if_neg (by decide), if_neg (by decide), if_neg (by decide), if_pos rfl]
theorem opZ16 (a b : Int) : opZ (-16) a b = if a < b then 1 else 0 := by
  unfold opZ
  rw [if_neg (by decide), if_neg (by decide), if_neg (by decide), if_neg (by decide), if_neg (by decide), if_neg (by decide), if_neg (by decide), if_pos rfl]
theorem cmb16 (a b : Int64) : f_X3_combine (-16) a b = if 0 ≤ lg_cmp a b then some 0 else some 1 := by
  unfold f_X3_combine
  rw [if_neg (by decide), if_neg (by decide), if_neg (by decide), if_pos rfl]
theorem opZ17 (a b : Int) : opZ (-17) a b = if b < a then 1 else 0 := by
  unfold opZ
  rw [if_neg (by decide), if_neg (by decide), if_neg (by decide), if_neg (by decide), if_neg (by decide), if_neg (by decide), if_neg (by decide), if_neg (by decide), if_pos rfl]
theorem cmb17 (a b : Int64) : f_X3_combine (-17) a b = if lg_cmp a b ≤ 0 then some 0 else some 1 := by
  unfold f_X3_combine
  rw [if_neg (by decide), if_neg (by decide), if_pos rfl]
theorem opZ18 (a b : Int) : opZ (-18) a b = if a = b then 1 else 0 := by
  unfold opZ
  rw [if_neg (by decide), if_neg (by decide), if_neg (by decide), if_neg (by decide), if_neg (by decide), if_neg (by decide), if_neg (by decide), if_neg (by decide), if_neg (by decide), if_pos rfl]
theorem cmb18 (a b : Int64) : f_X3_combine (-18) a b = if lg_cmp a b = 0 then some 1 else some 0 := by
  unfold f_X3_combine
  rw [if_neg (by decide), if_pos rfl]
theorem opZ19 (a b : Int) : opZ (-19) a b = if a = 1 ∧ b = 1 then 1 else 0 := by
  unfold opZ
  rw [if_neg (by decide), if_neg (by decide), if_neg (by decide), if_neg (by decide), if_neg (by decide), if_neg (by decide), if_neg (by decide), if_neg (by decide), if_neg (by decide), if_neg (by decide), if_pos rfl]
theorem cmb19 (a b : Int64) : f_X3_combine (-19) a b = some (a &&& b) := by
  unfold f_X3_combine
  rw [if_pos rfl]
theorem opZ20 (a b : Int) : opZ (-20) a b = if a = 0 ∧ b = 0 then 0 else 1 := by
  unfold opZ
  rw [if_neg (by decide), if_neg (by decide), if_neg (by decide), if_neg (by decide), if_neg (by decide), if_neg (by decide), if_neg (by decide), if_neg (by decide), if_neg (by decide), if_neg (by decide), if_neg (by decide)]
theorem cmb20 (a b : Int64) : f_X3_combine (-20) a b = some (a ||| b) := by
  unfold f_X3_combine
  rw [if_neg (by decide), if_neg (by decide), if_neg (by decide), if_neg (by decide), if_neg (by decide), if_neg (by decide), if_neg (by decide), if_neg (by decide), if_neg (by decide), if_neg (by decide), if_neg (by decide)]
theorem combine_Z {op x y : Int32} (h1 : -20 ≤ op.toInt) (h2 : op.toInt ≤ -9) (hx : bdZ x.toInt) (hy : bdZ y.toInt) (h01 : op.toInt = -19 ∨ op.toInt = -20 → (x.toInt = 0 ∨ x.toInt = 1) ∧ (y.toInt = 0 ∨ y.toInt = 1)) :
    ∃ c w, f_X3_combine op x.toInt64 y.toInt64 = some c ∧ f_X3_limited c = some w ∧ w.toInt = opZ op.toInt x.toInt y.toInt := by
  obtain ⟨t1, t2, t3, t4, t5⟩ := t64_lit
  have key : ∀ (c : Int64) (v : Int), c.toInt = v → clZ v = opZ op.toInt x.toInt y.toInt → f_X3_combine op x.toInt64 y.toInt64 = some c → ∃ c w, f_X3_combine op x.toInt64 y.toInt64 = some c ∧ f_X3_limited c = some w ∧ w.toInt = opZ op.toInt x.toInt y.toInt := by
    intro c v e1 e2 e3
    obtain ⟨w, e4, e5⟩ := limited_Z c
    exact ⟨c, w, e3, e4, by rw [e5, e1, e2]⟩
  have cl : ∀ v, bdZ v → clZ v = v := by
    intro v hv
    unfold bdZ at hv
    unfold clZ
    rw [if_neg (by omega), if_neg (by omega)]
  have hb0 : bdZ 0 := by unfold bdZ; omega
  have hb1 : bdZ 1 := by unfold bdZ; omega
  have ex : x.toInt64.toInt = x.toInt := Int32.toInt_toInt64 x
  have ey : y.toInt64.toInt = y.toInt := Int32.toInt_toInt64 y
  have hm := mul_bd hx hy
  have hx' := hx
  have hy' := hy
  unfold bdZ at hx' hy'
  have hz : op.toInt = -9 ∨ op.toInt = -10 ∨ op.toInt = -11 ∨ op.toInt = -12 ∨ op.toInt = -13 ∨ op.toInt = -14 ∨ op.toInt = -15 ∨ op.toInt = -16 ∨ op.toInt = -17 ∨ op.toInt = -18 ∨ op.toInt = -19 ∨ op.toInt = -20 := by omega
  rcases hz with h | h | h | h | h | h | h | h | h | h | h | h
  · have e : op = -9 := Int32.toInt_inj.mp (h.trans (by decide))
    subst e
    exact key (x.toInt64 + y.toInt64) _ (add64 (by rw [ex, ey]; omega)) (by rw [ex, ey, h, opZ9]) (cmb9 _ _)
  · have e : op = -10 := Int32.toInt_inj.mp (h.trans (by decide))
    subst e
    exact key (x.toInt64 - y.toInt64) _ (sub64 (by rw [ex, ey]; omega)) (by rw [ex, ey, h, opZ10]) (cmb10 _ _)
  · have e : op = -11 := Int32.toInt_inj.mp (h.trans (by decide))
    subst e
    exact key (x.toInt64 * y.toInt64) _ (mul64 (by rw [ex, ey]; omega)) (by rw [ex, ey, h, opZ11]) (cmb11 _ _)
  · have e : op = -12 := Int32.toInt_inj.mp (h.trans (by decide))
    subst e
    have hc := cmb12 x.toInt64 y.toInt64
    have ho := opZ12 x.toInt y.toInt
    rw [← h] at ho
    simp only [lg_cmp_eq, ← Int64.toInt_inj, ey, t3] at hc
    by_cases c0 : y.toInt = 0
    · rw [if_pos c0] at hc ho
      exact key 0 0 t3 (by rw [ho]; exact cl _ hb0) hc
    · rw [if_neg c0] at hc ho
      obtain ⟨w, e1, e2⟩ := floorDiv_Z (a := x.toInt64) (b := y.toInt64) (by rw [ex]; exact hx) (by rw [ey]; exact hy) (by rw [ey]; exact c0)
      rw [e1] at hc
      exact key w _ e2 (by rw [ho, ex, ey]) hc
  · have e : op = -13 := Int32.toInt_inj.mp (h.trans (by decide))
    subst e
    have hc := cmb13 x.toInt64 y.toInt64
    have ho := opZ13 x.toInt y.toInt
    rw [← h] at ho
    simp only [lg_cmp_eq, ← Int64.toInt_inj, ey, t3] at hc
    by_cases c0 : y.toInt = 0
    · rw [if_pos c0] at hc ho
      exact key 0 0 t3 (by rw [ho]; exact cl _ hb0) hc
    · rw [if_neg c0] at hc ho
      obtain ⟨w, e1, e2⟩ := floorMod_Z (a := x.toInt64) (b := y.toInt64) (by rw [ex]; exact hx) (by rw [ey]; exact hy) (by rw [ey]; exact c0)
      rw [e1] at hc
      exact key w _ e2 (by rw [ho, ex, ey]) hc
  · have e : op = -14 := Int32.toInt_inj.mp (h.trans (by decide))
    subst e
    have hc := cmb14 x.toInt64 y.toInt64
    have ho := opZ14 x.toInt y.toInt
    rw [← h] at ho
    simp only [f_J9_min_f86c9, lg_cmp_gt, Int64.lt_iff_toInt_lt, ex, ey] at hc
    by_cases c0 : y.toInt < x.toInt
    · rw [if_pos c0] at hc
      rw [if_neg (by omega)] at ho
      exact key _ _ ey (by rw [ho]; exact cl _ hy) hc
    · rw [if_neg c0] at hc
      refine key _ _ ex ?_ hc
      rw [ho, cl _ hx]
      split <;> omega
  · have e : op = -15 := Int32.toInt_inj.mp (h.trans (by decide))
    subst e
    have hc := cmb15 x.toInt64 y.toInt64
    have ho := opZ15 x.toInt y.toInt
    rw [← h] at ho
    simp only [f_J9_max_f86c9, lg_cmp_lt, Int64.lt_iff_toInt_lt, ex, ey] at hc
    by_cases c0 : x.toInt < y.toInt
    · rw [if_pos c0] at hc
      rw [if_neg (by omega)] at ho
      exact key _ _ ey (by rw [ho]; exact cl _ hy) hc
    · rw [if_neg c0] at hc
      refine key _ _ ex ?_ hc
      rw [ho, cl _ hx]
      split <;> omega
  · have e : op = -16 := Int32.toInt_inj.mp (h.trans (by decide))
    subst e
    have hc := cmb16 x.toInt64 y.toInt64
    have ho := opZ16 x.toInt y.toInt
    rw [← h] at ho
    simp only [lg_cmp_ge, Int64.le_iff_toInt_le, ex, ey] at hc
    by_cases c0 : y.toInt ≤ x.toInt
    · rw [if_pos c0] at hc
      rw [if_neg (by omega)] at ho
      exact key _ _ t3 (by rw [ho]; exact cl _ hb0) hc
    · rw [if_neg c0] at hc
      rw [if_pos (by omega)] at ho
      exact key _ _ t4 (by rw [ho]; exact cl _ hb1) hc
  · have e : op = -17 := Int32.toInt_inj.mp (h.trans (by decide))
    subst e
    have hc := cmb17 x.toInt64 y.toInt64
    have ho := opZ17 x.toInt y.toInt
    rw [← h] at ho
    simp only [lg_cmp_le, Int64.le_iff_toInt_le, ex, ey] at hc
    by_cases c0 : x.toInt ≤ y.toInt
    · rw [if_pos c0] at hc
      rw [if_neg (by omega)] at ho
      exact key _ _ t3 (by rw [ho]; exact cl _ hb0) hc
    · rw [if_neg c0] at hc
      rw [if_pos (by omega)] at ho
      exact key _ _ t4 (by rw [ho]; exact cl _ hb1) hc
  · have e : op = -18 := Int32.toInt_inj.mp (h.trans (by decide))
    subst e
    have hc := cmb18 x.toInt64 y.toInt64
    have ho := opZ18 x.toInt y.toInt
    rw [← h] at ho
    simp only [lg_cmp_eq, ← Int64.toInt_inj, ex, ey] at hc
    by_cases c0 : x.toInt = y.toInt
    · rw [if_pos c0] at hc ho
      exact key _ _ t4 (by rw [ho]; exact cl _ hb1) hc
    · rw [if_neg c0] at hc ho
      exact key _ _ t3 (by rw [ho]; exact cl _ hb0) hc
  · have e : op = -19 := Int32.toInt_inj.mp (h.trans (by decide))
    subst e
    obtain ⟨p, q⟩ := h01 (Or.inl h)
    have hc := cmb19 x.toInt64 y.toInt64
    rcases p with p | p <;> rcases q with q | q
    · have a : x = 0 := Int32.toInt_inj.mp (p.trans (by decide))
      have b : y = 0 := Int32.toInt_inj.mp (q.trans (by decide))
      exact key _ 0 (by rw [a, b]; decide) (by rw [cl _ hb0, h, opZ19, a, b]; decide) hc
    · have a : x = 0 := Int32.toInt_inj.mp (p.trans (by decide))
      have b : y = 1 := Int32.toInt_inj.mp (q.trans (by decide))
      exact key _ 0 (by rw [a, b]; decide) (by rw [cl _ hb0, h, opZ19, a, b]; decide) hc
    · have a : x = 1 := Int32.toInt_inj.mp (p.trans (by decide))
      have b : y = 0 := Int32.toInt_inj.mp (q.trans (by decide))
      exact key _ 0 (by rw [a, b]; decide) (by rw [cl _ hb0, h, opZ19, a, b]; decide) hc
    · have a : x = 1 := Int32.toInt_inj.mp (p.trans (by decide))
      have b : y = 1 := Int32.toInt_inj.mp (q.trans (by decide))
      exact key _ 1 (by rw [a, b]; decide) (by rw [cl _ hb1, h, opZ19, a, b]; decide) hc
  · have e : op = -20 := Int32.toInt_inj.mp (h.trans (by decide))
    subst e
    obtain ⟨p, q⟩ := h01 (Or.inr h)
    have hc := cmb20 x.toInt64 y.toInt64
    rcases p with p | p <;> rcases q with q | q
    · have a : x = 0 := Int32.toInt_inj.mp (p.trans (by decide))
      have b : y = 0 := Int32.toInt_inj.mp (q.trans (by decide))
      exact key _ 0 (by rw [a, b]; decide) (by rw [cl _ hb0, h, opZ20, a, b]; decide) hc
    · have a : x = 0 := Int32.toInt_inj.mp (p.trans (by decide))
      have b : y = 1 := Int32.toInt_inj.mp (q.trans (by decide))
      exact key _ 1 (by rw [a, b]; decide) (by rw [cl _ hb1, h, opZ20, a, b]; decide) hc
    · have a : x = 1 := Int32.toInt_inj.mp (p.trans (by decide))
      have b : y = 0 := Int32.toInt_inj.mp (q.trans (by decide))
      exact key _ 1 (by rw [a, b]; decide) (by rw [cl _ hb1, h, opZ20, a, b]; decide) hc
    · have a : x = 1 := Int32.toInt_inj.mp (p.trans (by decide))
      have b : y = 1 := Int32.toInt_inj.mp (q.trans (by decide))
      exact key _ 1 (by rw [a, b]; decide) (by rw [cl _ hb1, h, opZ20, a, b]; decide) hc
