/-! the reader: bytes and words -/
def byL (c : Nat) : Bool := decide (97 ≤ c) && decide (c ≤ 122)
def byD (c : Nat) : Bool := decide (48 ≤ c) && decide (c ≤ 57)
def byB (c : Nat) : Bool := decide (c = 32) || decide (c = 10)
theorem byL_iff {c : Nat} : byL c = true ↔ 97 ≤ c ∧ c ≤ 122 := by
  unfold byL
  rw [Bool.and_eq_true, decide_eq_true_iff, decide_eq_true_iff]
theorem byD_iff {c : Nat} : byD c = true ↔ 48 ≤ c ∧ c ≤ 57 := by
  unfold byD
  rw [Bool.and_eq_true, decide_eq_true_iff, decide_eq_true_iff]
theorem byB_iff {c : Nat} : byB c = true ↔ c = 32 ∨ c = 10 := by
  unfold byB
  rw [Bool.or_eq_true, decide_eq_true_iff, decide_eq_true_iff]
def rnN (P : Nat → Bool) (sz : Nat) : Nat → Nat → Nat
  | 0, i => i
  | n + 1, i => if i < sz ∧ P i = true then rnN P sz n (i + 1) else i
/-- as far as all are so -/
def rn (P : Nat → Bool) (sz i : Nat) : Nat := rnN P sz (sz - i) i
theorem rn_go {P : Nat → Bool} {sz i : Nat} (h1 : i < sz) (h2 : P i = true) : rn P sz i = rn P sz (i + 1) := by
  unfold rn
  rw [show sz - i = (sz - (i + 1)) + 1 by omega]
  exact if_pos ⟨h1, h2⟩
theorem rn_end {P : Nat → Bool} {sz i : Nat} (h : ¬ (i < sz ∧ P i = true)) : rn P sz i = i := by
  unfold rn
  by_cases c : i < sz
  · rw [show sz - i = (sz - (i + 1)) + 1 by omega]
    exact if_neg h
  · rw [show sz - i = 0 by omega]
    rfl
theorem rn_prop {P : Nat → Bool} {sz : Nat} : ∀ q i, i + q = sz → i ≤ rn P sz i ∧ rn P sz i ≤ sz ∧ (∀ j, i ≤ j → j < rn P sz i → P j = true) ∧ (rn P sz i < sz → ¬ P (rn P sz i) = true) := by
  intro q
  induction q with
  | zero =>
    intro i e
    rw [rn_end (fun w => by omega)]
    exact ⟨Nat.le_refl _, by omega, fun j j1 j2 => by omega, fun w => by omega⟩
  | succ q ih =>
    intro i e
    by_cases c : P i = true
    · rw [rn_go (by omega) c]
      obtain ⟨a, b, d, f⟩ := ih (i + 1) (by omega)
      refine ⟨by omega, b, fun j j1 j2 => ?_, f⟩
      by_cases cj : j = i
      · rw [cj]; exact c
      · exact d j (by omega) j2
    · rw [rn_end (fun w => c w.2)]
      exact ⟨Nat.le_refl _, by omega, fun j j1 j2 => by omega, fun _ => c⟩
theorem letter_C {c : Nat} (hc : c < 256) : f_X10_isLetter (nI c) = some (if byL c = true then 1 else 0) ∧ f_X12_isLetter (nI c) = some (if byL c = true then 1 else 0) := by
  have key : (if nI c < 97 then gz 0 (some 0) else if 122 < nI c then gz 0 (some 0) else gz 1 (some (1 : Int32))) = some (if byL c = true then 1 else 0) := by
    by_cases c1 : c < 97
    · have z1 : nI c < 97 := nI_lt (b := 97) c1 (by decide)
      rw [if_pos z1, if_neg (fun w => by have := byL_iff.mp w; omega), gz_0]
    · have z1 : ¬ nI c < 97 := nI_nlt (a := c) (b := 97) (by omega) (by omega)
      rw [if_neg z1]
      by_cases c2 : 122 < c
      · have z2 : 122 < nI c := nI_lt (a := 122) c2 (by omega)
        rw [if_pos z2, if_neg (fun w => by have := byL_iff.mp w; omega), gz_0]
      · have z2 : ¬ 122 < nI c := nI_nlt (a := 122) (b := c) (by omega) (by decide)
        rw [if_neg z2, if_pos (byL_iff.mpr (by omega)), gz_1]
  exact ⟨key, key⟩
theorem digit_C {c : Nat} (hc : c < 256) : f_X10_isDigit (nI c) = some (if byD c = true then 1 else 0) ∧ f_X12_isDigit (nI c) = some (if byD c = true then 1 else 0) := by
  have key : (if nI c < 48 then gz 0 (some 0) else if 57 < nI c then gz 0 (some 0) else gz 1 (some (1 : Int32))) = some (if byD c = true then 1 else 0) := by
    by_cases c1 : c < 48
    · have z1 : nI c < 48 := nI_lt (b := 48) c1 (by decide)
      rw [if_pos z1, if_neg (fun w => by have := byD_iff.mp w; omega), gz_0]
    · have z1 : ¬ nI c < 48 := nI_nlt (a := c) (b := 48) (by omega) (by omega)
      rw [if_neg z1]
      by_cases c2 : 57 < c
      · have z2 : 57 < nI c := nI_lt (a := 57) c2 (by omega)
        rw [if_pos z2, if_neg (fun w => by have := byD_iff.mp w; omega), gz_0]
      · have z2 : ¬ 57 < nI c := nI_nlt (a := 57) (b := c) (by omega) (by decide)
        rw [if_neg z2, if_pos (byD_iff.mpr (by omega)), gz_1]
  exact ⟨key, key⟩
/-! words as numbers -/
/-- eight bits to a letter, the first eight letters -/
def P8 (g : Nat → Nat) : Nat → Nat
  | 0 => 0
  | k + 1 => if k < 8 then 256 * P8 g k + g k else P8 g k
/-- five bits to a letter, the first lowest -/
def P5 (g : Nat → Nat) : Nat → Nat
  | 0 => 0
  | k + 1 => P5 g k + (g k - 96) * 2 ^ (5 * k)
def mkL (g : Nat → Nat) : Nat → List Nat
  | 0 => []
  | k + 1 => mkL g k ++ [g k - 96]
theorem mkL_len {g : Nat → Nat} : ∀ n, (mkL g n).length = n := by
  intro n
  induction n with
  | zero => rfl
  | succ n ih =>
    show (mkL g n ++ [g n - 96]).length = n + 1
    rw [List.length_append, ih]
    rfl
theorem mkL_in {g : Nat → Nat} : ∀ n, (∀ j, j < n → 97 ≤ g j ∧ g j ≤ 122) → ∀ a ∈ mkL g n, 1 ≤ a ∧ a ≤ 26 := by
  intro n
  induction n with
  | zero => intro _ a ha; exact absurd ha List.not_mem_nil
  | succ n ih =>
    intro h a ha
    have ha' : a ∈ mkL g n ++ [g n - 96] := ha
    rcases List.mem_append.mp ha' with w | w
    · exact ih (fun j hj => h j (by omega)) a w
    · have : a = g n - 96 := List.mem_singleton.mp w
      have := h n (by omega)
      omega
theorem mkL_8 {g : Nat → Nat} : ∀ n, n ≤ 8 → (∀ j, j < n → 97 ≤ g j ∧ g j ≤ 122) → pk8 (mkL g n) = P8 g n := by
  intro n
  induction n with
  | zero => intro _ _; rfl
  | succ n ih =>
    intro hn h
    have e : pk8 (mkL g n ++ [g n - 96]) = 256 * pk8 (mkL g n) + ((g n - 96) + 96) := by
      unfold pk8
      rw [List.foldl_append]
      rfl
    show pk8 (mkL g n ++ [g n - 96]) = if n < 8 then 256 * P8 g n + g n else P8 g n
    rw [e, ih (by omega) (fun j hj => h j (by omega)), if_pos (by omega)]
    have := h n (by omega)
    omega
theorem pk5_app (w : List Nat) (a : Nat) : pk5 (w ++ [a]) = pk5 w + a * 2 ^ (5 * w.length) := by
  induction w with
  | nil =>
    show a + 32 * 0 = 0 + a * 2 ^ (5 * 0)
    omega
  | cons b w ih =>
    show b + 32 * pk5 (w ++ [a]) = b + 32 * pk5 w + a * 2 ^ (5 * (w.length + 1))
    rw [ih, Nat.mul_add, show 5 * (w.length + 1) = 5 * w.length + 5 by omega, Nat.pow_add]
    have e1 : 32 * (a * 2 ^ (5 * w.length)) = a * (2 ^ (5 * w.length) * 2 ^ 5) := by
      rw [show (2 : Nat) ^ 5 = 32 by decide, Nat.mul_comm 32, Nat.mul_assoc]
    omega
theorem mkL_5 {g : Nat → Nat} : ∀ n, pk5 (mkL g n) = P5 g n := by
  intro n
  induction n with
  | zero => rfl
  | succ n ih =>
    show pk5 (mkL g n ++ [g n - 96]) = P5 g n + (g n - 96) * 2 ^ (5 * n)
    rw [pk5_app, ih, mkL_len]
theorem P5_lt {g : Nat → Nat} : ∀ n, (∀ j, j < n → 97 ≤ g j ∧ g j ≤ 122) → P5 g n < 2 ^ (5 * n) := by
  intro n
  induction n with
  | zero => intro _; show 0 < 2 ^ (5 * 0); decide
  | succ n ih =>
    intro h
    have h1 := ih (fun j hj => h j (by omega))
    have h2 := h n (by omega)
    show P5 g n + (g n - 96) * 2 ^ (5 * n) < 2 ^ (5 * (n + 1))
    have h3 : (g n - 96) * 2 ^ (5 * n) ≤ 31 * 2 ^ (5 * n) := Nat.mul_le_mul_right _ (by omega)
    rw [show 5 * (n + 1) = 5 * n + 5 by omega, Nat.pow_add]
    have h4 : (2 : Nat) ^ 5 = 32 := by decide
    rw [h4]
    omega
theorem P8_lt {g : Nat → Nat} : ∀ n, n ≤ 8 → (∀ j, j < n → 97 ≤ g j ∧ g j ≤ 122) → P8 g n < 123 * 256 ^ (n - 1) ∧ (n = 0 → P8 g n = 0) := by
  intro n
  induction n with
  | zero => intro _ _; exact ⟨by show 0 < 123 * 256 ^ (0 - 1); decide, fun _ => rfl⟩
  | succ n ih =>
    intro hn h
    obtain ⟨h1, h0⟩ := ih (by omega) (fun j hj => h j (by omega))
    have h2 := h n (by omega)
    refine ⟨?_, fun w => by omega⟩
    show (if n < 8 then 256 * P8 g n + g n else P8 g n) < 123 * 256 ^ (n + 1 - 1)
    rw [if_pos (by omega), Nat.add_sub_cancel]
    rcases Nat.eq_zero_or_pos n with w | w
    · have := h0 w
      rw [w]
      rw [w] at this h2
      rw [this]
      omega
    · rw [show n = (n - 1) + 1 by omega, Nat.pow_succ]
      rw [show n - 1 + 1 = n by omega]
      omega
theorem P8_inj {g g' : Nat → Nat} : ∀ n n', n ≤ 8 → n' ≤ 8 → (∀ j, j < n → 97 ≤ g j ∧ g j ≤ 122) → (∀ j, j < n' → 97 ≤ g' j ∧ g' j ≤ 122) → P8 g n = P8 g' n' → n = n' ∧ ∀ j, j < n → g j = g' j := by
  intro n
  induction n with
  | zero =>
    intro n' _ h2 _ h4 e
    cases n' with
    | zero => exact ⟨rfl, fun j hj => by omega⟩
    | succ n' =>
      have := h4 n' (by omega)
      have e' : 0 = if n' < 8 then 256 * P8 g' n' + g' n' else P8 g' n' := e
      rw [if_pos (by omega)] at e'
      omega
  | succ n ih =>
    intro n' h1 h2 h3 h4 e
    have hb := h3 n (by omega)
    have e0 : (if n < 8 then 256 * P8 g n + g n else P8 g n) = P8 g' n' := e
    rw [if_pos (by omega)] at e0
    cases n' with
    | zero =>
      have : P8 g' 0 = 0 := rfl
      omega
    | succ n' =>
      have hb' := h4 n' (by omega)
      have e' : P8 g' (n' + 1) = if n' < 8 then 256 * P8 g' n' + g' n' else P8 g' n' := rfl
      rw [if_pos (by omega)] at e'
      obtain ⟨i1, i2⟩ := ih n' (by omega) (by omega) (fun j hj => h3 j (by omega)) (fun j hj => h4 j (by omega)) (by omega)
      refine ⟨by omega, fun j hj => ?_⟩
      by_cases c : j = n
      · rw [c]
        have : g n = g' n' := by omega
        rw [i1]
        rw [i1] at this
        exact this
      · exact i2 j (by omega)
theorem shl8 {x : Nat} (hx : x < 2 ^ 56) : lN x <<< ((8 : Int32).toInt64 &&& 63) = lN (256 * x) := by
  apply Int64.toBitVec_inj.mp
  apply BitVec.eq_of_toNat_eq
  show ((lN x).toBitVec <<< (((8 : Int32).toInt64 &&& 63).toBitVec.smod 64).toNat).toNat = _
  rw [show (((8 : Int32).toInt64 &&& 63).toBitVec.smod 64).toNat = 8 from by decide, BitVec.toNat_shiftLeft, Nat.shiftLeft_eq, lNn (by omega), lNn (by omega), Nat.mod_eq_of_lt (by omega)]
  omega
theorem orL {x y : Nat} (hx : x < 2 ^ 64) (hy : y < 2 ^ 64) (ho : x ||| y < 2 ^ 64) : lN x ||| lN y = lN (x ||| y) := by
  apply Int64.toBitVec_inj.mp
  apply BitVec.eq_of_toNat_eq
  show ((lN x).toBitVec ||| (lN y).toBitVec).toNat = _
  rw [BitVec.toNat_or, lNn hx, lNn hy, lNn ho]
theorem addB {x c : Nat} (hc : c < 256) : 256 * x ||| c = 256 * x + c := by
  have := Nat.two_pow_add_eq_or_of_lt (i := 8) (b := c) (by omega) x
  rw [show (2 : Nat) ^ 8 = 256 by decide] at this
  exact this.symm
theorem wordL {x c : Nat} (hx : x < 2 ^ 55) (hc : c < 256) : (lN x <<< ((8 : Int32).toInt64 &&& 63)) ||| (nI c).toInt64 = lN (256 * x + c) := by
  rw [shl8 (by omega), nI_l (by omega), orL (by omega) (by omega) (by rw [addB hc]; omega), addB hc]
/-! the own words -/
def ownT : List (List Nat) := [[8, 15, 12, 12, 15, 23], [8, 15, 12, 4, 19], [1, 20], [15, 23, 14, 5, 18], [12, 1, 11, 5], [8, 1, 19], [9, 14], [15, 6], [15, 23, 5, 19], [12, 5, 1, 11, 19], [23, 15, 18, 20, 8], [13, 1, 25], [3, 1, 18, 20, 19], [14, 9, 7, 8, 20], [2, 5, 19, 9, 4, 5], [19, 20, 5, 16, 19], [6, 18, 5, 5], [9, 6], [15, 18], [1, 14, 4], [14, 15, 20], [1, 12, 12], [13, 9, 14], [13, 1, 24], [4, 18, 15, 21, 7, 8, 20]]
def ownG (w j : Nat) : Nat := (ownT.getD w []).getD j 0 + 96
def ownN (w : Nat) : Nat := (ownT.getD w []).length
theorem own_ok : ∀ w, w < 25 → (1 ≤ ownN w ∧ ownN w ≤ 7) ∧ ∀ j, j < 8 → (j < ownN w → (97 ≤ ownG w j ∧ ownG w j ≤ 122) ∧ ownC (8 * w + j) = nI (ownG w j)) ∧ (j = ownN w → ownC (8 * w + j) = nI 32) := by decide +kernel
theorem own_inj : ∀ w, w < 25 → ∀ w', w' < 25 → P8 (ownG w) (ownN w) = P8 (ownG w') (ownN w') → w = w' := by decide +kernel
def ownL (w : Nat) : Nat := P8 (ownG w) (ownN w)
theorem ownL_v : ownL 0 = 114827769704311 ∧ ownL 1 = 448545973363 ∧ ownL 2 = 24948 ∧ ownL 3 = 478745093490 ∧ ownL 4 = 1818323813 ∧ ownL 5 = 6840691 ∧ ownL 6 = 26990 ∧ ownL 7 = 28518 ∧ ownL 8 = 1870095731 ∧ ownL 9 = 465557351283 ∧ ownL 10 = 512970880104 ∧ ownL 11 = 7168377 ∧ ownL 12 = 426836653171 ∧ ownL 13 = 474214787188 ∧ ownL 14 = 108187867505765 ∧ ownL 15 = 495874044019 ∧ ownL 16 = 1718773093 ∧ ownL 17 = 26982 ∧ ownL 18 = 28530 ∧ ownL 19 = 6385252 ∧ ownL 20 = 7237492 ∧ ownL 21 = 6384748 ∧ ownL 22 = 7170414 ∧ ownL 23 = 7168376 ∧ ownL 24 = 28273320707713140 := by decide +kernel
theorem lN_inj {a b : Nat} (ha : a < 2 ^ 63) (hb : b < 2 ^ 63) : lN a = lN b ↔ a = b := by
  constructor
  · intro w
    have := congrArg (fun z : Int64 => z.toBitVec.toNat) w
    simp only [lNn (show a < 2 ^ 64 by omega), lNn (show b < 2 ^ 64 by omega)] at this
    exact this
  · intro w
    rw [w]
theorem own_lt : ∀ w, w < 25 → ownL w < 2 ^ 63 := by decide +kernel
theorem cmpL {x v : Nat} (hx : x < 2 ^ 63) (hv : v < 2 ^ 63) : (lg_cmp (lN x) (lN v) = 0) ↔ x = v := by
  rw [lg_cmp_eq, lN_inj hx hv]
theorem oc0 {x : Nat} (hx : x < 2 ^ 63) : (lg_cmp (lN x) 114827769704311 = 0) ↔ x = ownL 0 := by
  have e : (114827769704311 : Int64) = lN (ownL 0) := by
    rw [show ownL 0 = 114827769704311 from by decide +kernel]
    rfl
  rw [e]
  exact cmpL hx (own_lt 0 (by decide))
theorem oc1 {x : Nat} (hx : x < 2 ^ 63) : (lg_cmp (lN x) 448545973363 = 0) ↔ x = ownL 1 := by
  have e : (448545973363 : Int64) = lN (ownL 1) := by
    rw [show ownL 1 = 448545973363 from by decide +kernel]
    rfl
  rw [e]
  exact cmpL hx (own_lt 1 (by decide))
theorem oc2 {x : Nat} (hx : x < 2 ^ 63) : (lg_cmp (lN x) 24948 = 0) ↔ x = ownL 2 := by
  have e : (24948 : Int64) = lN (ownL 2) := by
    rw [show ownL 2 = 24948 from by decide +kernel]
    rfl
  rw [e]
  exact cmpL hx (own_lt 2 (by decide))
theorem oc3 {x : Nat} (hx : x < 2 ^ 63) : (lg_cmp (lN x) 478745093490 = 0) ↔ x = ownL 3 := by
  have e : (478745093490 : Int64) = lN (ownL 3) := by
    rw [show ownL 3 = 478745093490 from by decide +kernel]
    rfl
  rw [e]
  exact cmpL hx (own_lt 3 (by decide))
theorem oc4 {x : Nat} (hx : x < 2 ^ 63) : (lg_cmp (lN x) 1818323813 = 0) ↔ x = ownL 4 := by
  have e : (1818323813 : Int64) = lN (ownL 4) := by
    rw [show ownL 4 = 1818323813 from by decide +kernel]
    rfl
  rw [e]
  exact cmpL hx (own_lt 4 (by decide))
theorem oc5 {x : Nat} (hx : x < 2 ^ 63) : (lg_cmp (lN x) 6840691 = 0) ↔ x = ownL 5 := by
  have e : (6840691 : Int64) = lN (ownL 5) := by
    rw [show ownL 5 = 6840691 from by decide +kernel]
    rfl
  rw [e]
  exact cmpL hx (own_lt 5 (by decide))
theorem oc6 {x : Nat} (hx : x < 2 ^ 63) : (lg_cmp (lN x) 26990 = 0) ↔ x = ownL 6 := by
  have e : (26990 : Int64) = lN (ownL 6) := by
    rw [show ownL 6 = 26990 from by decide +kernel]
    rfl
  rw [e]
  exact cmpL hx (own_lt 6 (by decide))
theorem oc7 {x : Nat} (hx : x < 2 ^ 63) : (lg_cmp (lN x) 28518 = 0) ↔ x = ownL 7 := by
  have e : (28518 : Int64) = lN (ownL 7) := by
    rw [show ownL 7 = 28518 from by decide +kernel]
    rfl
  rw [e]
  exact cmpL hx (own_lt 7 (by decide))
theorem oc8 {x : Nat} (hx : x < 2 ^ 63) : (lg_cmp (lN x) 1870095731 = 0) ↔ x = ownL 8 := by
  have e : (1870095731 : Int64) = lN (ownL 8) := by
    rw [show ownL 8 = 1870095731 from by decide +kernel]
    rfl
  rw [e]
  exact cmpL hx (own_lt 8 (by decide))
theorem oc9 {x : Nat} (hx : x < 2 ^ 63) : (lg_cmp (lN x) 465557351283 = 0) ↔ x = ownL 9 := by
  have e : (465557351283 : Int64) = lN (ownL 9) := by
    rw [show ownL 9 = 465557351283 from by decide +kernel]
    rfl
  rw [e]
  exact cmpL hx (own_lt 9 (by decide))
theorem oc10 {x : Nat} (hx : x < 2 ^ 63) : (lg_cmp (lN x) 512970880104 = 0) ↔ x = ownL 10 := by
  have e : (512970880104 : Int64) = lN (ownL 10) := by
    rw [show ownL 10 = 512970880104 from by decide +kernel]
    rfl
  rw [e]
  exact cmpL hx (own_lt 10 (by decide))
theorem oc11 {x : Nat} (hx : x < 2 ^ 63) : (lg_cmp (lN x) 7168377 = 0) ↔ x = ownL 11 := by
  have e : (7168377 : Int64) = lN (ownL 11) := by
    rw [show ownL 11 = 7168377 from by decide +kernel]
    rfl
  rw [e]
  exact cmpL hx (own_lt 11 (by decide))
theorem oc12 {x : Nat} (hx : x < 2 ^ 63) : (lg_cmp (lN x) 426836653171 = 0) ↔ x = ownL 12 := by
  have e : (426836653171 : Int64) = lN (ownL 12) := by
    rw [show ownL 12 = 426836653171 from by decide +kernel]
    rfl
  rw [e]
  exact cmpL hx (own_lt 12 (by decide))
theorem oc13 {x : Nat} (hx : x < 2 ^ 63) : (lg_cmp (lN x) 474214787188 = 0) ↔ x = ownL 13 := by
  have e : (474214787188 : Int64) = lN (ownL 13) := by
    rw [show ownL 13 = 474214787188 from by decide +kernel]
    rfl
  rw [e]
  exact cmpL hx (own_lt 13 (by decide))
theorem oc14 {x : Nat} (hx : x < 2 ^ 63) : (lg_cmp (lN x) 108187867505765 = 0) ↔ x = ownL 14 := by
  have e : (108187867505765 : Int64) = lN (ownL 14) := by
    rw [show ownL 14 = 108187867505765 from by decide +kernel]
    rfl
  rw [e]
  exact cmpL hx (own_lt 14 (by decide))
theorem oc15 {x : Nat} (hx : x < 2 ^ 63) : (lg_cmp (lN x) 495874044019 = 0) ↔ x = ownL 15 := by
  have e : (495874044019 : Int64) = lN (ownL 15) := by
    rw [show ownL 15 = 495874044019 from by decide +kernel]
    rfl
  rw [e]
  exact cmpL hx (own_lt 15 (by decide))
theorem oc16 {x : Nat} (hx : x < 2 ^ 63) : (lg_cmp (lN x) 1718773093 = 0) ↔ x = ownL 16 := by
  have e : (1718773093 : Int64) = lN (ownL 16) := by
    rw [show ownL 16 = 1718773093 from by decide +kernel]
    rfl
  rw [e]
  exact cmpL hx (own_lt 16 (by decide))
theorem oc17 {x : Nat} (hx : x < 2 ^ 63) : (lg_cmp (lN x) 26982 = 0) ↔ x = ownL 17 := by
  have e : (26982 : Int64) = lN (ownL 17) := by
    rw [show ownL 17 = 26982 from by decide +kernel]
    rfl
  rw [e]
  exact cmpL hx (own_lt 17 (by decide))
theorem oc18 {x : Nat} (hx : x < 2 ^ 63) : (lg_cmp (lN x) 28530 = 0) ↔ x = ownL 18 := by
  have e : (28530 : Int64) = lN (ownL 18) := by
    rw [show ownL 18 = 28530 from by decide +kernel]
    rfl
  rw [e]
  exact cmpL hx (own_lt 18 (by decide))
theorem oc19 {x : Nat} (hx : x < 2 ^ 63) : (lg_cmp (lN x) 6385252 = 0) ↔ x = ownL 19 := by
  have e : (6385252 : Int64) = lN (ownL 19) := by
    rw [show ownL 19 = 6385252 from by decide +kernel]
    rfl
  rw [e]
  exact cmpL hx (own_lt 19 (by decide))
theorem oc20 {x : Nat} (hx : x < 2 ^ 63) : (lg_cmp (lN x) 7237492 = 0) ↔ x = ownL 20 := by
  have e : (7237492 : Int64) = lN (ownL 20) := by
    rw [show ownL 20 = 7237492 from by decide +kernel]
    rfl
  rw [e]
  exact cmpL hx (own_lt 20 (by decide))
theorem oc21 {x : Nat} (hx : x < 2 ^ 63) : (lg_cmp (lN x) 6384748 = 0) ↔ x = ownL 21 := by
  have e : (6384748 : Int64) = lN (ownL 21) := by
    rw [show ownL 21 = 6384748 from by decide +kernel]
    rfl
  rw [e]
  exact cmpL hx (own_lt 21 (by decide))
theorem oc22 {x : Nat} (hx : x < 2 ^ 63) : (lg_cmp (lN x) 7170414 = 0) ↔ x = ownL 22 := by
  have e : (7170414 : Int64) = lN (ownL 22) := by
    rw [show ownL 22 = 7170414 from by decide +kernel]
    rfl
  rw [e]
  exact cmpL hx (own_lt 22 (by decide))
theorem oc23 {x : Nat} (hx : x < 2 ^ 63) : (lg_cmp (lN x) 7168376 = 0) ↔ x = ownL 23 := by
  have e : (7168376 : Int64) = lN (ownL 23) := by
    rw [show ownL 23 = 7168376 from by decide +kernel]
    rfl
  rw [e]
  exact cmpL hx (own_lt 23 (by decide))
theorem oc24 {x : Nat} (hx : x < 2 ^ 63) : (lg_cmp (lN x) 28273320707713140 = 0) ↔ x = ownL 24 := by
  have e : (28273320707713140 : Int64) = lN (ownL 24) := by
    rw [show ownL 24 = 28273320707713140 from by decide +kernel]
    rfl
  rw [e]
  exact cmpL hx (own_lt 24 (by decide))
theorem isOwn_M {x : Nat} (hx : x < 2 ^ 63) : (f_X12_isOwn (lN x) = some 1 ∧ ∃ w, w < 25 ∧ x = ownL w) ∨ (f_X12_isOwn (lN x) = some 0 ∧ ¬ ∃ w, w < 25 ∧ x = ownL w) := by
  unfold f_X12_isOwn
  by_cases d0 : x = ownL 0
  · left
    refine ⟨?_, 0, by decide, d0⟩
    rw [if_pos ((oc0 hx).mpr d0), gz_1]
  by_cases d1 : x = ownL 1
  · left
    refine ⟨?_, 1, by decide, d1⟩
    rw [if_neg (fun w => d0 ((oc0 hx).mp w)), if_pos ((oc1 hx).mpr d1), gz_1]
  by_cases d2 : x = ownL 2
  · left
    refine ⟨?_, 2, by decide, d2⟩
    rw [if_neg (fun w => d0 ((oc0 hx).mp w)), if_neg (fun w => d1 ((oc1 hx).mp w)), if_pos ((oc2 hx).mpr d2), gz_1]
  by_cases d3 : x = ownL 3
  · left
    refine ⟨?_, 3, by decide, d3⟩
    rw [if_neg (fun w => d0 ((oc0 hx).mp w)), if_neg (fun w => d1 ((oc1 hx).mp w)), if_neg (fun w => d2 ((oc2 hx).mp w)), if_pos ((oc3 hx).mpr d3), gz_1]
  by_cases d4 : x = ownL 4
  · left
    refine ⟨?_, 4, by decide, d4⟩
    rw [if_neg (fun w => d0 ((oc0 hx).mp w)), if_neg (fun w => d1 ((oc1 hx).mp w)), if_neg (fun w => d2 ((oc2 hx).mp w)), if_neg (fun w => d3 ((oc3 hx).mp w)), if_pos ((oc4 hx).mpr d4), gz_1]
  by_cases d5 : x = ownL 5
  · left
    refine ⟨?_, 5, by decide, d5⟩
    rw [if_neg (fun w => d0 ((oc0 hx).mp w)), if_neg (fun w => d1 ((oc1 hx).mp w)), if_neg (fun w => d2 ((oc2 hx).mp w)), if_neg (fun w => d3 ((oc3 hx).mp w)), if_neg (fun w => d4 ((oc4 hx).mp w)), if_pos ((oc5 hx).mpr d5), gz_1]
  by_cases d6 : x = ownL 6
  · left
    refine ⟨?_, 6, by decide, d6⟩
    rw [if_neg (fun w => d0 ((oc0 hx).mp w)), if_neg (fun w => d1 ((oc1 hx).mp w)), if_neg (fun w => d2 ((oc2 hx).mp w)), if_neg (fun w => d3 ((oc3 hx).mp w)), if_neg (fun w => d4 ((oc4 hx).mp w)), if_neg (fun w => d5 ((oc5 hx).mp w)), if_pos ((oc6 hx).mpr d6), gz_1]
  by_cases d7 : x = ownL 7
  · left
    refine ⟨?_, 7, by decide, d7⟩
    rw [if_neg (fun w => d0 ((oc0 hx).mp w)), if_neg (fun w => d1 ((oc1 hx).mp w)), if_neg (fun w => d2 ((oc2 hx).mp w)), if_neg (fun w => d3 ((oc3 hx).mp w)), if_neg (fun w => d4 ((oc4 hx).mp w)), if_neg (fun w => d5 ((oc5 hx).mp w)), if_neg (fun w => d6 ((oc6 hx).mp w)), if_pos ((oc7 hx).mpr d7), gz_1]
  by_cases d8 : x = ownL 8
  · left
    refine ⟨?_, 8, by decide, d8⟩
    rw [if_neg (fun w => d0 ((oc0 hx).mp w)), if_neg (fun w => d1 ((oc1 hx).mp w)), if_neg (fun w => d2 ((oc2 hx).mp w)), if_neg (fun w => d3 ((oc3 hx).mp w)), if_neg (fun w => d4 ((oc4 hx).mp w)), if_neg (fun w => d5 ((oc5 hx).mp w)), if_neg (fun w => d6 ((oc6 hx).mp w)), if_neg (fun w => d7 ((oc7 hx).mp w)), if_pos ((oc8 hx).mpr d8), gz_1]
  by_cases d9 : x = ownL 9
  · left
    refine ⟨?_, 9, by decide, d9⟩
    rw [if_neg (fun w => d0 ((oc0 hx).mp w)), if_neg (fun w => d1 ((oc1 hx).mp w)), if_neg (fun w => d2 ((oc2 hx).mp w)), if_neg (fun w => d3 ((oc3 hx).mp w)), if_neg (fun w => d4 ((oc4 hx).mp w)), if_neg (fun w => d5 ((oc5 hx).mp w)), if_neg (fun w => d6 ((oc6 hx).mp w)), if_neg (fun w => d7 ((oc7 hx).mp w)), if_neg (fun w => d8 ((oc8 hx).mp w)), if_pos ((oc9 hx).mpr d9), gz_1]
  by_cases d10 : x = ownL 10
  · left
    refine ⟨?_, 10, by decide, d10⟩
    rw [if_neg (fun w => d0 ((oc0 hx).mp w)), if_neg (fun w => d1 ((oc1 hx).mp w)), if_neg (fun w => d2 ((oc2 hx).mp w)), if_neg (fun w => d3 ((oc3 hx).mp w)), if_neg (fun w => d4 ((oc4 hx).mp w)), if_neg (fun w => d5 ((oc5 hx).mp w)), if_neg (fun w => d6 ((oc6 hx).mp w)), if_neg (fun w => d7 ((oc7 hx).mp w)), if_neg (fun w => d8 ((oc8 hx).mp w)), if_neg (fun w => d9 ((oc9 hx).mp w)), if_pos ((oc10 hx).mpr d10), gz_1]
  by_cases d11 : x = ownL 11
  · left
    refine ⟨?_, 11, by decide, d11⟩
    rw [if_neg (fun w => d0 ((oc0 hx).mp w)), if_neg (fun w => d1 ((oc1 hx).mp w)), if_neg (fun w => d2 ((oc2 hx).mp w)), if_neg (fun w => d3 ((oc3 hx).mp w)), if_neg (fun w => d4 ((oc4 hx).mp w)), if_neg (fun w => d5 ((oc5 hx).mp w)), if_neg (fun w => d6 ((oc6 hx).mp w)), if_neg (fun w => d7 ((oc7 hx).mp w)), if_neg (fun w => d8 ((oc8 hx).mp w)), if_neg (fun w => d9 ((oc9 hx).mp w)), if_neg (fun w => d10 ((oc10 hx).mp w)), if_pos ((oc11 hx).mpr d11), gz_1]
  by_cases d12 : x = ownL 12
  · left
    refine ⟨?_, 12, by decide, d12⟩
    rw [if_neg (fun w => d0 ((oc0 hx).mp w)), if_neg (fun w => d1 ((oc1 hx).mp w)), if_neg (fun w => d2 ((oc2 hx).mp w)), if_neg (fun w => d3 ((oc3 hx).mp w)), if_neg (fun w => d4 ((oc4 hx).mp w)), if_neg (fun w => d5 ((oc5 hx).mp w)), if_neg (fun w => d6 ((oc6 hx).mp w)), if_neg (fun w => d7 ((oc7 hx).mp w)), if_neg (fun w => d8 ((oc8 hx).mp w)), if_neg (fun w => d9 ((oc9 hx).mp w)), if_neg (fun w => d10 ((oc10 hx).mp w)), if_neg (fun w => d11 ((oc11 hx).mp w)), if_pos ((oc12 hx).mpr d12), gz_1]
  by_cases d13 : x = ownL 13
  · left
    refine ⟨?_, 13, by decide, d13⟩
    rw [if_neg (fun w => d0 ((oc0 hx).mp w)), if_neg (fun w => d1 ((oc1 hx).mp w)), if_neg (fun w => d2 ((oc2 hx).mp w)), if_neg (fun w => d3 ((oc3 hx).mp w)), if_neg (fun w => d4 ((oc4 hx).mp w)), if_neg (fun w => d5 ((oc5 hx).mp w)), if_neg (fun w => d6 ((oc6 hx).mp w)), if_neg (fun w => d7 ((oc7 hx).mp w)), if_neg (fun w => d8 ((oc8 hx).mp w)), if_neg (fun w => d9 ((oc9 hx).mp w)), if_neg (fun w => d10 ((oc10 hx).mp w)), if_neg (fun w => d11 ((oc11 hx).mp w)), if_neg (fun w => d12 ((oc12 hx).mp w)), if_pos ((oc13 hx).mpr d13), gz_1]
  by_cases d14 : x = ownL 14
  · left
    refine ⟨?_, 14, by decide, d14⟩
    rw [if_neg (fun w => d0 ((oc0 hx).mp w)), if_neg (fun w => d1 ((oc1 hx).mp w)), if_neg (fun w => d2 ((oc2 hx).mp w)), if_neg (fun w => d3 ((oc3 hx).mp w)), if_neg (fun w => d4 ((oc4 hx).mp w)), if_neg (fun w => d5 ((oc5 hx).mp w)), if_neg (fun w => d6 ((oc6 hx).mp w)), if_neg (fun w => d7 ((oc7 hx).mp w)), if_neg (fun w => d8 ((oc8 hx).mp w)), if_neg (fun w => d9 ((oc9 hx).mp w)), if_neg (fun w => d10 ((oc10 hx).mp w)), if_neg (fun w => d11 ((oc11 hx).mp w)), if_neg (fun w => d12 ((oc12 hx).mp w)), if_neg (fun w => d13 ((oc13 hx).mp w)), if_pos ((oc14 hx).mpr d14), gz_1]
  by_cases d15 : x = ownL 15
  · left
    refine ⟨?_, 15, by decide, d15⟩
    rw [if_neg (fun w => d0 ((oc0 hx).mp w)), if_neg (fun w => d1 ((oc1 hx).mp w)), if_neg (fun w => d2 ((oc2 hx).mp w)), if_neg (fun w => d3 ((oc3 hx).mp w)), if_neg (fun w => d4 ((oc4 hx).mp w)), if_neg (fun w => d5 ((oc5 hx).mp w)), if_neg (fun w => d6 ((oc6 hx).mp w)), if_neg (fun w => d7 ((oc7 hx).mp w)), if_neg (fun w => d8 ((oc8 hx).mp w)), if_neg (fun w => d9 ((oc9 hx).mp w)), if_neg (fun w => d10 ((oc10 hx).mp w)), if_neg (fun w => d11 ((oc11 hx).mp w)), if_neg (fun w => d12 ((oc12 hx).mp w)), if_neg (fun w => d13 ((oc13 hx).mp w)), if_neg (fun w => d14 ((oc14 hx).mp w)), if_pos ((oc15 hx).mpr d15), gz_1]
  by_cases d16 : x = ownL 16
  · left
    refine ⟨?_, 16, by decide, d16⟩
    rw [if_neg (fun w => d0 ((oc0 hx).mp w)), if_neg (fun w => d1 ((oc1 hx).mp w)), if_neg (fun w => d2 ((oc2 hx).mp w)), if_neg (fun w => d3 ((oc3 hx).mp w)), if_neg (fun w => d4 ((oc4 hx).mp w)), if_neg (fun w => d5 ((oc5 hx).mp w)), if_neg (fun w => d6 ((oc6 hx).mp w)), if_neg (fun w => d7 ((oc7 hx).mp w)), if_neg (fun w => d8 ((oc8 hx).mp w)), if_neg (fun w => d9 ((oc9 hx).mp w)), if_neg (fun w => d10 ((oc10 hx).mp w)), if_neg (fun w => d11 ((oc11 hx).mp w)), if_neg (fun w => d12 ((oc12 hx).mp w)), if_neg (fun w => d13 ((oc13 hx).mp w)), if_neg (fun w => d14 ((oc14 hx).mp w)), if_neg (fun w => d15 ((oc15 hx).mp w)), if_pos ((oc16 hx).mpr d16), gz_1]
  by_cases d17 : x = ownL 17
  · left
    refine ⟨?_, 17, by decide, d17⟩
    rw [if_neg (fun w => d0 ((oc0 hx).mp w)), if_neg (fun w => d1 ((oc1 hx).mp w)), if_neg (fun w => d2 ((oc2 hx).mp w)), if_neg (fun w => d3 ((oc3 hx).mp w)), if_neg (fun w => d4 ((oc4 hx).mp w)), if_neg (fun w => d5 ((oc5 hx).mp w)), if_neg (fun w => d6 ((oc6 hx).mp w)), if_neg (fun w => d7 ((oc7 hx).mp w)), if_neg (fun w => d8 ((oc8 hx).mp w)), if_neg (fun w => d9 ((oc9 hx).mp w)), if_neg (fun w => d10 ((oc10 hx).mp w)), if_neg (fun w => d11 ((oc11 hx).mp w)), if_neg (fun w => d12 ((oc12 hx).mp w)), if_neg (fun w => d13 ((oc13 hx).mp w)), if_neg (fun w => d14 ((oc14 hx).mp w)), if_neg (fun w => d15 ((oc15 hx).mp w)), if_neg (fun w => d16 ((oc16 hx).mp w)), if_pos ((oc17 hx).mpr d17), gz_1]
  by_cases d18 : x = ownL 18
  · left
    refine ⟨?_, 18, by decide, d18⟩
    rw [if_neg (fun w => d0 ((oc0 hx).mp w)), if_neg (fun w => d1 ((oc1 hx).mp w)), if_neg (fun w => d2 ((oc2 hx).mp w)), if_neg (fun w => d3 ((oc3 hx).mp w)), if_neg (fun w => d4 ((oc4 hx).mp w)), if_neg (fun w => d5 ((oc5 hx).mp w)), if_neg (fun w => d6 ((oc6 hx).mp w)), if_neg (fun w => d7 ((oc7 hx).mp w)), if_neg (fun w => d8 ((oc8 hx).mp w)), if_neg (fun w => d9 ((oc9 hx).mp w)), if_neg (fun w => d10 ((oc10 hx).mp w)), if_neg (fun w => d11 ((oc11 hx).mp w)), if_neg (fun w => d12 ((oc12 hx).mp w)), if_neg (fun w => d13 ((oc13 hx).mp w)), if_neg (fun w => d14 ((oc14 hx).mp w)), if_neg (fun w => d15 ((oc15 hx).mp w)), if_neg (fun w => d16 ((oc16 hx).mp w)), if_neg (fun w => d17 ((oc17 hx).mp w)), if_pos ((oc18 hx).mpr d18), gz_1]
  by_cases d19 : x = ownL 19
  · left
    refine ⟨?_, 19, by decide, d19⟩
    rw [if_neg (fun w => d0 ((oc0 hx).mp w)), if_neg (fun w => d1 ((oc1 hx).mp w)), if_neg (fun w => d2 ((oc2 hx).mp w)), if_neg (fun w => d3 ((oc3 hx).mp w)), if_neg (fun w => d4 ((oc4 hx).mp w)), if_neg (fun w => d5 ((oc5 hx).mp w)), if_neg (fun w => d6 ((oc6 hx).mp w)), if_neg (fun w => d7 ((oc7 hx).mp w)), if_neg (fun w => d8 ((oc8 hx).mp w)), if_neg (fun w => d9 ((oc9 hx).mp w)), if_neg (fun w => d10 ((oc10 hx).mp w)), if_neg (fun w => d11 ((oc11 hx).mp w)), if_neg (fun w => d12 ((oc12 hx).mp w)), if_neg (fun w => d13 ((oc13 hx).mp w)), if_neg (fun w => d14 ((oc14 hx).mp w)), if_neg (fun w => d15 ((oc15 hx).mp w)), if_neg (fun w => d16 ((oc16 hx).mp w)), if_neg (fun w => d17 ((oc17 hx).mp w)), if_neg (fun w => d18 ((oc18 hx).mp w)), if_pos ((oc19 hx).mpr d19), gz_1]
  by_cases d20 : x = ownL 20
  · left
    refine ⟨?_, 20, by decide, d20⟩
    rw [if_neg (fun w => d0 ((oc0 hx).mp w)), if_neg (fun w => d1 ((oc1 hx).mp w)), if_neg (fun w => d2 ((oc2 hx).mp w)), if_neg (fun w => d3 ((oc3 hx).mp w)), if_neg (fun w => d4 ((oc4 hx).mp w)), if_neg (fun w => d5 ((oc5 hx).mp w)), if_neg (fun w => d6 ((oc6 hx).mp w)), if_neg (fun w => d7 ((oc7 hx).mp w)), if_neg (fun w => d8 ((oc8 hx).mp w)), if_neg (fun w => d9 ((oc9 hx).mp w)), if_neg (fun w => d10 ((oc10 hx).mp w)), if_neg (fun w => d11 ((oc11 hx).mp w)), if_neg (fun w => d12 ((oc12 hx).mp w)), if_neg (fun w => d13 ((oc13 hx).mp w)), if_neg (fun w => d14 ((oc14 hx).mp w)), if_neg (fun w => d15 ((oc15 hx).mp w)), if_neg (fun w => d16 ((oc16 hx).mp w)), if_neg (fun w => d17 ((oc17 hx).mp w)), if_neg (fun w => d18 ((oc18 hx).mp w)), if_neg (fun w => d19 ((oc19 hx).mp w)), if_pos ((oc20 hx).mpr d20), gz_1]
  by_cases d21 : x = ownL 21
  · left
    refine ⟨?_, 21, by decide, d21⟩
    rw [if_neg (fun w => d0 ((oc0 hx).mp w)), if_neg (fun w => d1 ((oc1 hx).mp w)), if_neg (fun w => d2 ((oc2 hx).mp w)), if_neg (fun w => d3 ((oc3 hx).mp w)), if_neg (fun w => d4 ((oc4 hx).mp w)), if_neg (fun w => d5 ((oc5 hx).mp w)), if_neg (fun w => d6 ((oc6 hx).mp w)), if_neg (fun w => d7 ((oc7 hx).mp w)), if_neg (fun w => d8 ((oc8 hx).mp w)), if_neg (fun w => d9 ((oc9 hx).mp w)), if_neg (fun w => d10 ((oc10 hx).mp w)), if_neg (fun w => d11 ((oc11 hx).mp w)), if_neg (fun w => d12 ((oc12 hx).mp w)), if_neg (fun w => d13 ((oc13 hx).mp w)), if_neg (fun w => d14 ((oc14 hx).mp w)), if_neg (fun w => d15 ((oc15 hx).mp w)), if_neg (fun w => d16 ((oc16 hx).mp w)), if_neg (fun w => d17 ((oc17 hx).mp w)), if_neg (fun w => d18 ((oc18 hx).mp w)), if_neg (fun w => d19 ((oc19 hx).mp w)), if_neg (fun w => d20 ((oc20 hx).mp w)), if_pos ((oc21 hx).mpr d21), gz_1]
  by_cases d22 : x = ownL 22
  · left
    refine ⟨?_, 22, by decide, d22⟩
    rw [if_neg (fun w => d0 ((oc0 hx).mp w)), if_neg (fun w => d1 ((oc1 hx).mp w)), if_neg (fun w => d2 ((oc2 hx).mp w)), if_neg (fun w => d3 ((oc3 hx).mp w)), if_neg (fun w => d4 ((oc4 hx).mp w)), if_neg (fun w => d5 ((oc5 hx).mp w)), if_neg (fun w => d6 ((oc6 hx).mp w)), if_neg (fun w => d7 ((oc7 hx).mp w)), if_neg (fun w => d8 ((oc8 hx).mp w)), if_neg (fun w => d9 ((oc9 hx).mp w)), if_neg (fun w => d10 ((oc10 hx).mp w)), if_neg (fun w => d11 ((oc11 hx).mp w)), if_neg (fun w => d12 ((oc12 hx).mp w)), if_neg (fun w => d13 ((oc13 hx).mp w)), if_neg (fun w => d14 ((oc14 hx).mp w)), if_neg (fun w => d15 ((oc15 hx).mp w)), if_neg (fun w => d16 ((oc16 hx).mp w)), if_neg (fun w => d17 ((oc17 hx).mp w)), if_neg (fun w => d18 ((oc18 hx).mp w)), if_neg (fun w => d19 ((oc19 hx).mp w)), if_neg (fun w => d20 ((oc20 hx).mp w)), if_neg (fun w => d21 ((oc21 hx).mp w)), if_pos ((oc22 hx).mpr d22), gz_1]
  by_cases d23 : x = ownL 23
  · left
    refine ⟨?_, 23, by decide, d23⟩
    rw [if_neg (fun w => d0 ((oc0 hx).mp w)), if_neg (fun w => d1 ((oc1 hx).mp w)), if_neg (fun w => d2 ((oc2 hx).mp w)), if_neg (fun w => d3 ((oc3 hx).mp w)), if_neg (fun w => d4 ((oc4 hx).mp w)), if_neg (fun w => d5 ((oc5 hx).mp w)), if_neg (fun w => d6 ((oc6 hx).mp w)), if_neg (fun w => d7 ((oc7 hx).mp w)), if_neg (fun w => d8 ((oc8 hx).mp w)), if_neg (fun w => d9 ((oc9 hx).mp w)), if_neg (fun w => d10 ((oc10 hx).mp w)), if_neg (fun w => d11 ((oc11 hx).mp w)), if_neg (fun w => d12 ((oc12 hx).mp w)), if_neg (fun w => d13 ((oc13 hx).mp w)), if_neg (fun w => d14 ((oc14 hx).mp w)), if_neg (fun w => d15 ((oc15 hx).mp w)), if_neg (fun w => d16 ((oc16 hx).mp w)), if_neg (fun w => d17 ((oc17 hx).mp w)), if_neg (fun w => d18 ((oc18 hx).mp w)), if_neg (fun w => d19 ((oc19 hx).mp w)), if_neg (fun w => d20 ((oc20 hx).mp w)), if_neg (fun w => d21 ((oc21 hx).mp w)), if_neg (fun w => d22 ((oc22 hx).mp w)), if_pos ((oc23 hx).mpr d23), gz_1]
  by_cases d24 : x = ownL 24
  · left
    refine ⟨?_, 24, by decide, d24⟩
    rw [if_neg (fun w => d0 ((oc0 hx).mp w)), if_neg (fun w => d1 ((oc1 hx).mp w)), if_neg (fun w => d2 ((oc2 hx).mp w)), if_neg (fun w => d3 ((oc3 hx).mp w)), if_neg (fun w => d4 ((oc4 hx).mp w)), if_neg (fun w => d5 ((oc5 hx).mp w)), if_neg (fun w => d6 ((oc6 hx).mp w)), if_neg (fun w => d7 ((oc7 hx).mp w)), if_neg (fun w => d8 ((oc8 hx).mp w)), if_neg (fun w => d9 ((oc9 hx).mp w)), if_neg (fun w => d10 ((oc10 hx).mp w)), if_neg (fun w => d11 ((oc11 hx).mp w)), if_neg (fun w => d12 ((oc12 hx).mp w)), if_neg (fun w => d13 ((oc13 hx).mp w)), if_neg (fun w => d14 ((oc14 hx).mp w)), if_neg (fun w => d15 ((oc15 hx).mp w)), if_neg (fun w => d16 ((oc16 hx).mp w)), if_neg (fun w => d17 ((oc17 hx).mp w)), if_neg (fun w => d18 ((oc18 hx).mp w)), if_neg (fun w => d19 ((oc19 hx).mp w)), if_neg (fun w => d20 ((oc20 hx).mp w)), if_neg (fun w => d21 ((oc21 hx).mp w)), if_neg (fun w => d22 ((oc22 hx).mp w)), if_neg (fun w => d23 ((oc23 hx).mp w)), if_pos ((oc24 hx).mpr d24), gz_1]
  right
  refine ⟨?_, ?_⟩
  · rw [if_neg (fun w => d0 ((oc0 hx).mp w)), if_neg (fun w => d1 ((oc1 hx).mp w)), if_neg (fun w => d2 ((oc2 hx).mp w)), if_neg (fun w => d3 ((oc3 hx).mp w)), if_neg (fun w => d4 ((oc4 hx).mp w)), if_neg (fun w => d5 ((oc5 hx).mp w)), if_neg (fun w => d6 ((oc6 hx).mp w)), if_neg (fun w => d7 ((oc7 hx).mp w)), if_neg (fun w => d8 ((oc8 hx).mp w)), if_neg (fun w => d9 ((oc9 hx).mp w)), if_neg (fun w => d10 ((oc10 hx).mp w)), if_neg (fun w => d11 ((oc11 hx).mp w)), if_neg (fun w => d12 ((oc12 hx).mp w)), if_neg (fun w => d13 ((oc13 hx).mp w)), if_neg (fun w => d14 ((oc14 hx).mp w)), if_neg (fun w => d15 ((oc15 hx).mp w)), if_neg (fun w => d16 ((oc16 hx).mp w)), if_neg (fun w => d17 ((oc17 hx).mp w)), if_neg (fun w => d18 ((oc18 hx).mp w)), if_neg (fun w => d19 ((oc19 hx).mp w)), if_neg (fun w => d20 ((oc20 hx).mp w)), if_neg (fun w => d21 ((oc21 hx).mp w)), if_neg (fun w => d22 ((oc22 hx).mp w)), if_neg (fun w => d23 ((oc23 hx).mp w)), if_neg (fun w => d24 ((oc24 hx).mp w)), gz_0]
  · rintro ⟨w, hw, e⟩
    have hc : w = 0 ∨ w = 1 ∨ w = 2 ∨ w = 3 ∨ w = 4 ∨ w = 5 ∨ w = 6 ∨ w = 7 ∨ w = 8 ∨ w = 9 ∨ w = 10 ∨ w = 11 ∨ w = 12 ∨ w = 13 ∨ w = 14 ∨ w = 15 ∨ w = 16 ∨ w = 17 ∨ w = 18 ∨ w = 19 ∨ w = 20 ∨ w = 21 ∨ w = 22 ∨ w = 23 ∨ w = 24 := by omega
    rcases hc with rfl | rfl | rfl | rfl | rfl | rfl | rfl | rfl | rfl | rfl | rfl | rfl | rfl | rfl | rfl | rfl | rfl | rfl | rfl | rfl | rfl | rfl | rfl | rfl | rfl
    · exact d0 e
    · exact d1 e
    · exact d2 e
    · exact d3 e
    · exact d4 e
    · exact d5 e
    · exact d6 e
    · exact d7 e
    · exact d8 e
    · exact d9 e
    · exact d10 e
    · exact d11 e
    · exact d12 e
    · exact d13 e
    · exact d14 e
    · exact d15 e
    · exact d16 e
    · exact d17 e
    · exact d18 e
    · exact d19 e
    · exact d20 e
    · exact d21 e
    · exact d22 e
    · exact d23 e
    · exact d24 e
