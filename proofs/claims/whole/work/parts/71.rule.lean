/-! the small language, worked out over whole numbers -/
def clZ (x : Int) : Int := if 1000000 < x then 1000000 else if x < -1000000 then -1000000 else x
def flZ (a b : Int) : Int := if ((a < 0) ↔ ¬ (b < 0)) ∧ a.tdiv b * b ≠ a then a.tdiv b - 1 else a.tdiv b
def opZ (z a b : Int) : Int :=
  if z = -9 then clZ (a + b) else if z = -10 then clZ (a - b) else if z = -11 then clZ (a * b)
  else if z = -12 then (if b = 0 then 0 else clZ (flZ a b)) else if z = -13 then (if b = 0 then 0 else clZ (a - b * flZ a b))
  else if z = -14 then (if a < b then a else b) else if z = -15 then (if b < a then a else b)
  else if z = -16 then (if a < b then 1 else 0) else if z = -17 then (if b < a then 1 else 0) else if z = -18 then (if a = b then 1 else 0)
  else if z = -19 then (if a = 1 ∧ b = 1 then 1 else 0) else (if a = 0 ∧ b = 0 then 0 else 1)
def evS (fig : Nat → Option Int) (z : Int) (st : List Int) : Option (List Int) :=
  if 100 ≤ st.length then none
  else if 0 ≤ z then (if z ≤ 9999 then some (z :: st) else none)
  else if -6 ≤ z then (match fig (-1 - z).toNat with
    | some v => some (v :: st)
    | none => none)
  else if z = -7 then (match st with
    | a :: s => if a = 0 ∨ a = 1 then some ((1 - a) :: s) else none
    | _ => none)
  else if z = -8 then (match st with
    | b :: a :: c :: s => if c = 0 ∨ c = 1 then some ((if c = 0 then b else a) :: s) else none
    | _ => none)
  else if -20 ≤ z then (match st with
    | b :: a :: s => if (z = -19 ∨ z = -20) ∧ ¬ ((a = 0 ∨ a = 1) ∧ (b = 0 ∨ b = 1)) then none else some (opZ z a b :: s)
    | _ => none)
  else none
def evN (fig : Nat → Option Int) (f : Nat → Int32) : Nat → Nat → List Int → Option (List Int)
  | _, 0, st => some st
  | i, n + 1, st => (evS fig (f i).toInt st).bind (evN fig f (i + 1) n)
theorem evN_add {fig : Nat → Option Int} {f : Nat → Int32} {m : Nat} : ∀ {n i : Nat} {st : List Int}, evN fig f i (n + m) st = (evN fig f i n st).bind (evN fig f (i + n) m) := by
  intro n
  induction n with
  | zero => intro i st; rw [Nat.zero_add]; rfl
  | succ n ih =>
    intro i st
    rw [show n + 1 + m = (n + m) + 1 by omega]
    show (evS fig (f i).toInt st).bind (evN fig f (i + 1) (n + m)) = ((evS fig (f i).toInt st).bind (evN fig f (i + 1) n)).bind _
    rw [Option.bind_assoc]
    congr 1
    funext s
    rw [ih, show i + 1 + n = i + (n + 1) by omega]
theorem evN_congr {fig fig' : Nat → Option Int} {f g : Nat → Int32} (hg : ∀ k, k < 6 → fig k = fig' k) {n : Nat} : ∀ {i : Nat} {st : List Int}, (∀ j, i ≤ j → j < i + n → f j = g j) → evN fig f i n st = evN fig' g i n st := by
  induction n with
  | zero => intro i st _; rfl
  | succ n ih =>
    intro i st h
    show (evS fig (f i).toInt st).bind (evN fig f (i + 1) n) = (evS fig' (g i).toInt st).bind (evN fig' g (i + 1) n)
    rw [h i (by omega) (by omega)]
    have e : evS fig (g i).toInt st = evS fig' (g i).toInt st := by
      unfold evS
      by_cases h1 : 0 ≤ (g i).toInt
      · rw [if_pos h1, if_pos h1]
      · by_cases h2 : -6 ≤ (g i).toInt
        · rw [if_neg h1, if_neg h1, if_pos h2, if_pos h2, hg _ (by omega)]
        · rw [if_neg h1, if_neg h1, if_neg h2, if_neg h2]
    rw [e]
    congr 1
    funext s
    exact ih (fun j h1 h2 => h j (by omega) (by omega))
def bdZ (v : Int) : Prop := -1000000 ≤ v ∧ v ≤ 1000000
theorem clZ_bd (x : Int) : bdZ (clZ x) := by
  unfold bdZ clZ
  split
  · omega
  · split <;> omega
theorem bd_ite {c : Prop} [Decidable c] {x y : Int} (hx : bdZ x) (hy : bdZ y) : bdZ (if c then x else y) := by
  split
  · exact hx
  · exact hy
theorem opZ_bd {z a b : Int} (ha : bdZ a) (hb : bdZ b) : bdZ (opZ z a b) := by
  have h01 : bdZ 0 ∧ bdZ 1 := by unfold bdZ; omega
  unfold opZ
  refine bd_ite (clZ_bd _) (bd_ite (clZ_bd _) (bd_ite (clZ_bd _) (bd_ite (bd_ite h01.1 (clZ_bd _)) (bd_ite (bd_ite h01.1 (clZ_bd _)) (bd_ite (bd_ite ha hb) (bd_ite (bd_ite ha hb) (bd_ite (bd_ite h01.2 h01.1) (bd_ite (bd_ite h01.2 h01.1) (bd_ite (bd_ite h01.2 h01.1) (bd_ite (bd_ite h01.2 h01.1) (bd_ite h01.1 h01.2)))))))))))
theorem evS_bd {fig : Nat → Option Int} {z : Int} {st st' : List Int} (hf : ∀ k v, fig k = some v → bdZ v) (h : evS fig z st = some st') (hst : ∀ v ∈ st, bdZ v) : ∀ v ∈ st', bdZ v := by
  unfold evS at h
  split at h
  · cases h
  split at h
  · split at h
    · injection h with h
      subst h
      intro v hv
      rcases List.mem_cons.mp hv with e | e
      · subst e; unfold bdZ; omega
      · exact hst v e
    · cases h
  split at h
  · split at h
    · rename_i u hu
      injection h with h
      subst h
      intro v hv
      rcases List.mem_cons.mp hv with e | e
      · subst e; exact hf _ _ hu
      · exact hst v e
    · cases h
  split at h
  · split at h
    · rename_i a s
      split at h
      · injection h with h
        subst h
        intro v hv
        rcases List.mem_cons.mp hv with e | e
        · subst e; unfold bdZ; omega
        · exact hst v (List.mem_cons_of_mem _ e)
      · cases h
    · cases h
  split at h
  · split at h
    · rename_i b a c s
      split at h
      · injection h with h
        subst h
        intro v hv
        rcases List.mem_cons.mp hv with e | e
        · subst e
          split
          · exact hst _ (by simp)
          · exact hst _ (by simp)
        · exact hst v (by simp [e])
      · cases h
    · cases h
  split at h
  · split at h
    · rename_i b a s
      split at h
      · cases h
      · injection h with h
        subst h
        intro v hv
        rcases List.mem_cons.mp hv with e | e
        · subst e
          exact opZ_bd (hst _ (by simp)) (hst _ (by simp))
        · exact hst v (by simp [e])
    · cases h
  · cases h
theorem t64_lit : (1000000 : Int64).toInt = 1000000 ∧ (-1000000 : Int64).toInt = -1000000 ∧ (0 : Int64).toInt = 0 ∧ (1 : Int64).toInt = 1 ∧ (9999 : Int64).toInt = 9999 := by decide
theorem xneg (a b : Int64) : (a ^^^ b).toInt < 0 ↔ ((a.toInt < 0) ↔ ¬ (b.toInt < 0)) := by
  have h : ∀ x : Int64, (x.toInt < 0) ↔ (x.toBitVec.msb = true) := by
    intro x
    rw [BitVec.msb_eq_toInt]
    exact decide_eq_true_iff.symm
  rw [h, h, h]
  show ((a.toBitVec ^^^ b.toBitVec).msb = true) ↔ _
  rw [BitVec.msb_xor]
  cases a.toBitVec.msb <;> cases b.toBitVec.msb <;> simp
theorem tdiv_bd {a b : Int} (ha : bdZ a) : bdZ (a.tdiv b) := by
  have h := Int.natAbs_tdiv a b
  have h2 : (a.tdiv b).natAbs ≤ a.natAbs := by
    rw [h]
    exact Nat.div_le_self _ _
  unfold bdZ at *
  omega
theorem mul_bd {a b : Int} (ha : bdZ a) (hb : bdZ b) : -1000000000000 ≤ a * b ∧ a * b ≤ 1000000000000 := by
  have h := Int.natAbs_mul a b
  unfold bdZ at *
  have h2 : a.natAbs * b.natAbs ≤ 1000000 * 1000000 := Nat.mul_le_mul (by omega) (by omega)
  omega
theorem add64 {a b : Int64} (h : -2 ^ 62 ≤ a.toInt + b.toInt ∧ a.toInt + b.toInt ≤ 2 ^ 62) : (a + b).toInt = a.toInt + b.toInt := by
  rw [Int64.toInt_add, Int.bmod_eq_of_le (by omega) (by omega)]
theorem sub64 {a b : Int64} (h : -2 ^ 62 ≤ a.toInt - b.toInt ∧ a.toInt - b.toInt ≤ 2 ^ 62) : (a - b).toInt = a.toInt - b.toInt := by
  rw [Int64.toInt_sub, Int.bmod_eq_of_le (by omega) (by omega)]
theorem mul64 {a b : Int64} (h : -2 ^ 62 ≤ a.toInt * b.toInt ∧ a.toInt * b.toInt ≤ 2 ^ 62) : (a * b).toInt = a.toInt * b.toInt := by
  rw [Int64.toInt_mul, Int.bmod_eq_of_le (by omega) (by omega)]
theorem div64 {a b : Int64} (h : bdZ a.toInt) : (a / b).toInt = a.toInt.tdiv b.toInt := by
  have := tdiv_bd (b := b.toInt) h
  unfold bdZ at this
  rw [Int64.toInt_div, Int.bmod_eq_of_le (by omega) (by omega)]
theorem held_Z (p : Int64) : ∃ w, f_X12_held p = some w ∧ w.toInt = clZ p.toInt := by
  obtain ⟨t1, t2, t3, t4, t5⟩ := t64_lit
  unfold f_X12_held clZ
  simp only [lg_cmp_le, lg_cmp_ge, Int64.le_iff_toInt_le, t1, t2]
  by_cases h1 : p.toInt ≤ 1000000
  · by_cases h2 : -1000000 ≤ p.toInt
    · exact ⟨p, by rw [if_pos h1, if_pos h2], by rw [if_neg (by omega), if_neg (by omega)]⟩
    · exact ⟨-1000000, by rw [if_pos h1, if_neg h2], by rw [if_neg (by omega), if_pos (by omega)]; exact t2⟩
  · exact ⟨1000000, by rw [if_neg h1], by rw [if_pos (by omega)]; exact t1⟩
theorem limited_Z (p : Int64) : ∃ w, f_X3_limited p = some w ∧ w.toInt = clZ p.toInt := by
  obtain ⟨t1, t2, t3, t4, t5⟩ := t64_lit
  have h32 : ∀ q : Int64, bdZ q.toInt → q.toInt32.toInt = q.toInt := by
    intro q hq
    unfold bdZ at hq
    rw [Int64.toInt_toInt32, Int.bmod_eq_of_le (by omega) (by omega)]
  unfold f_X3_limited f_J9_min_f86c9 f_J9_max_f86c9 clZ
  simp only [lg_cmp_gt, lg_cmp_lt, Int64.lt_iff_toInt_lt, t1, t2]
  by_cases h1 : p.toInt < 1000000
  · by_cases h2 : -1000000 < p.toInt
    · refine ⟨p.toInt32, by rw [if_pos h1]; simp only [Option.bind_some]; rw [if_pos h2]; rfl, ?_⟩
      rw [h32 p (by unfold bdZ; omega), if_neg (by omega), if_neg (by omega)]
    · refine ⟨(-1000000 : Int64).toInt32, by rw [if_pos h1]; simp only [Option.bind_some]; rw [if_neg h2]; rfl, ?_⟩
      rw [h32 (-1000000) (by unfold bdZ; omega), t2, if_neg (by omega)]
      split <;> omega
  · refine ⟨(1000000 : Int64).toInt32, by rw [if_neg h1]; simp only [Option.bind_some]; rw [if_pos (by omega)]; rfl, ?_⟩
    rw [h32 1000000 (by unfold bdZ; omega), t1]
    split <;> omega
theorem floor_Z {a b : Int64} (ha : bdZ a.toInt) (hb : bdZ b.toInt) (h0 : b.toInt ≠ 0) : ∃ w, f_X12_floor a b = some w ∧ w.toInt = flZ a.toInt b.toInt := by
  obtain ⟨t1, t2, t3, t4, t5⟩ := t64_lit
  have hb0 : ¬ b = 0 := fun e => h0 (by rw [e]; exact t3)
  have hq := tdiv_bd (b := b.toInt) ha
  have hm := mul_bd hq hb
  have e1 := div64 (b := b) ha
  have e2 : (a / b * b).toInt = a.toInt.tdiv b.toInt * b.toInt := by rw [mul64 (by rw [e1]; omega), e1]
  unfold bdZ at ha hb hq
  have e3 : (a - a / b * b).toInt = a.toInt - a.toInt.tdiv b.toInt * b.toInt := by rw [sub64 (by rw [e2]; omega), e2]
  have e4 : (a / b - 1).toInt = a.toInt.tdiv b.toInt - 1 := by rw [sub64 (by rw [e1, t4]; omega), e1, t4]
  unfold f_X12_floor dvL bnd jnt flZ
  simp only [lg_cmp_eq, lg_cmp_ge, if_neg hb0, Int64.le_iff_toInt_le, ← Int64.toInt_inj, e3, t3, h0, if_false]
  by_cases c1 : a.toInt - a.toInt.tdiv b.toInt * b.toInt = 0
  · exact ⟨a / b, by rw [if_pos c1], by rw [e1, if_neg (by omega)]⟩
  · rw [if_neg c1]
    by_cases c2 : 0 ≤ a.toInt
    · by_cases c3 : 0 ≤ b.toInt
      · exact ⟨a / b, by rw [if_pos c2, if_pos c3]; rfl, by rw [e1, if_neg (by omega)]⟩
      · exact ⟨a / b - 1, by rw [if_pos c2, if_neg c3]; rfl, by rw [e4, if_pos (by omega)]⟩
    · by_cases c3 : 0 ≤ b.toInt
      · exact ⟨a / b - 1, by rw [if_neg c2, if_pos c3]; rfl, by rw [e4, if_pos (by omega)]⟩
      · exact ⟨a / b, by rw [if_neg c2, if_neg c3]; rfl, by rw [e1, if_neg (by omega)]⟩
theorem floorDiv_Z {a b : Int64} (ha : bdZ a.toInt) (hb : bdZ b.toInt) (h0 : b.toInt ≠ 0) : ∃ w, f_J9_floorDiv_f86c9 a b = some w ∧ w.toInt = flZ a.toInt b.toInt := by
  obtain ⟨t1, t2, t3, t4, t5⟩ := t64_lit
  have hb0 : ¬ b = 0 := fun e => h0 (by rw [e]; exact t3)
  have hq := tdiv_bd (b := b.toInt) ha
  have hm := mul_bd hq hb
  have e1 := div64 (b := b) ha
  have e2 : (a / b * b).toInt = a.toInt.tdiv b.toInt * b.toInt := by rw [mul64 (by rw [e1]; omega), e1]
  unfold bdZ at ha hb hq
  have e4 : (a / b - 1).toInt = a.toInt.tdiv b.toInt - 1 := by rw [sub64 (by rw [e1, t4]; omega), e1, t4]
  have hx := xneg a b
  unfold f_J9_floorDiv_f86c9 dvL bnd flZ
  simp only [lg_cmp_eq, lg_cmp_ge, Int64.le_iff_toInt_le, ← Int64.toInt_inj, e2, t3, if_neg h0]
  by_cases c1 : 0 ≤ (a ^^^ b).toInt
  · refine ⟨a / b, by rw [if_pos c1], ?_⟩
    rw [e1, if_neg]
    intro h
    exact absurd (hx.mpr h.1) (by omega)
  · have hs := hx.mp (by omega)
    rw [if_neg c1]
    by_cases c2 : a.toInt.tdiv b.toInt * b.toInt = a.toInt
    · exact ⟨a / b, by rw [if_pos c2], by rw [e1, if_neg (fun h => h.2 c2)]⟩
    · exact ⟨a / b - 1, by rw [if_neg c2], by rw [e4, if_pos ⟨hs, c2⟩]⟩
theorem floorMod_Z {a b : Int64} (ha : bdZ a.toInt) (hb : bdZ b.toInt) (h0 : b.toInt ≠ 0) : ∃ w, f_J9_floorMod_f86c9 a b = some w ∧ w.toInt = a.toInt - b.toInt * flZ a.toInt b.toInt := by
  obtain ⟨t1, t2, t3, t4, t5⟩ := t64_lit
  have hb0 : ¬ b = 0 := fun e => h0 (by rw [e]; exact t3)
  have hq := tdiv_bd (b := b.toInt) ha
  have hm := mul_bd hq hb
  have e1 := div64 (b := b) ha
  have e2 : (a / b * b).toInt = a.toInt.tdiv b.toInt * b.toInt := by rw [mul64 (by rw [e1]; omega), e1]
  unfold bdZ at ha hb hq
  have e3 : (a - a / b * b).toInt = a.toInt - a.toInt.tdiv b.toInt * b.toInt := by rw [sub64 (by rw [e2]; omega), e2]
  have e4 : (a - a / b * b + b).toInt = a.toInt - a.toInt.tdiv b.toInt * b.toInt + b.toInt := by rw [add64 (by rw [e3]; omega), e3]
  have hx := xneg a b
  have r1 : b.toInt * a.toInt.tdiv b.toInt = a.toInt.tdiv b.toInt * b.toInt := Int.mul_comm _ _
  have r2 : b.toInt * (a.toInt.tdiv b.toInt - 1) = a.toInt.tdiv b.toInt * b.toInt - b.toInt := by rw [Int.mul_sub, r1, Int.mul_one]
  unfold f_J9_floorMod_f86c9 dvL bnd flZ
  simp only [lg_cmp_eq, lg_cmp_ge, Int64.le_iff_toInt_le, ← Int64.toInt_inj, e3, t3, if_neg h0]
  by_cases c1 : 0 ≤ (a ^^^ b).toInt
  · refine ⟨a - a / b * b, by rw [if_pos c1], ?_⟩
    rw [e3, if_neg (fun h => absurd (hx.mpr h.1) (by omega)), r1]
  · have hs := hx.mp (by omega)
    rw [if_neg c1]
    by_cases c2 : a.toInt - a.toInt.tdiv b.toInt * b.toInt = 0
    · exact ⟨a - a / b * b, by rw [if_pos c2], by rw [e3, if_neg (fun h => h.2 (by omega)), r1]⟩
    · exact ⟨a - a / b * b + b, by rw [if_neg c2], by rw [e4, if_pos ⟨hs, by omega⟩, r2]; omega⟩
