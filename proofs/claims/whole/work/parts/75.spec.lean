/-! what a scene tells -/
theorem loopCf {σ τ : Type} (L : Nat → σ → Int32 → Option τ) (c : Nat → σ) (g : τ) (N fu : Nat)
    (hs : ∀ n i, i < N → L (n + 1) (c i) (nI i) = L n (c (i + 1)) (nI (i + 1)))
    (he : ∀ n, L (n + 1) (c N) (nI N) = some g) (hf : N < fu) : L fu (c 0) (nI 0) = some g := by
  have key : ∀ i, i ≤ N → L fu (c 0) (nI 0) = L (fu - i) (c i) (nI i) := by
    intro i
    induction i with
    | zero => intro _; rfl
    | succ i ih =>
      intro hi
      have h := hs (fu - (i + 1)) i (by omega)
      rw [show fu - (i + 1) + 1 = fu - i by omega] at h
      exact (ih (by omega)).trans h
  have h := he (fu - N - 1)
  rw [show fu - N - 1 + 1 = fu - N by omega] at h
  exact (key N (Nat.le_refl N)).trans h
theorem loopP {σ τ : Type} (L : Nat → σ → Int32 → Option τ) (P : Nat → σ → Prop) (Q : τ → Prop) (N fu : Nat) (s : σ) (h0 : P 0 s)
    (hs : ∀ n i t, i < N → P i t → ∃ t', L (n + 1) t (nI i) = L n t' (nI (i + 1)) ∧ P (i + 1) t')
    (he : ∀ n t, P N t → ∃ r, L (n + 1) t (nI N) = some r ∧ Q r) (hf : N < fu) : ∃ r, L fu s (nI 0) = some r ∧ Q r := by
  have key : ∀ k i m t, i + k = N → k < m → P i t → ∃ r, L m t (nI i) = some r ∧ Q r := by
    intro k
    induction k with
    | zero =>
      intro i m t h1 h2 h3
      obtain ⟨m, rfl⟩ : ∃ q, m = q + 1 := ⟨m - 1, by omega⟩
      have : i = N := by omega
      subst this
      exact he m t h3
    | succ k ih =>
      intro i m t h1 h2 h3
      obtain ⟨m, rfl⟩ : ∃ q, m = q + 1 := ⟨m - 1, by omega⟩
      obtain ⟨t', e1, e2⟩ := hs m i t (by omega) h3
      obtain ⟨r, e3, e4⟩ := ih (i + 1) m t' (by omega) (by omega) e2
      exact ⟨r, e1.trans e3, e4⟩
  exact key N 0 fu s (by omega) hf h0
def cnt (p : Nat → Bool) : Nat → Nat
  | 0 => 0
  | n + 1 => cnt p n + (if p n = true then 1 else 0)
def btN (p : Nat → Bool) : Nat → Nat
  | 0 => 0
  | n + 1 => btN p n + (if p n = true then 2 ^ n else 0)
def smN (f : Nat → Nat) : Nat → Nat
  | 0 => 0
  | n + 1 => smN f n + f n
theorem cnt_t {p : Nat → Bool} {n : Nat} (h : p n = true) : cnt p (n + 1) = cnt p n + 1 := by
  show cnt p n + (if p n = true then 1 else 0) = _
  rw [if_pos h]
theorem cnt_f {p : Nat → Bool} {n : Nat} (h : ¬ p n = true) : cnt p (n + 1) = cnt p n := by
  show cnt p n + (if p n = true then 1 else 0) = _
  rw [if_neg h]
  rfl
theorem cnt_le {p : Nat → Bool} : ∀ n, cnt p n ≤ n := by
  intro n
  induction n with
  | zero => exact Nat.le_refl 0
  | succ n ih =>
    show cnt p n + (if p n = true then 1 else 0) ≤ n + 1
    split <;> omega
theorem cnt_congr {p q : Nat → Bool} {n : Nat} (h : ∀ i, i < n → p i = q i) : cnt p n = cnt q n := by
  induction n with
  | zero => rfl
  | succ n ih =>
    show cnt p n + (if p n = true then 1 else 0) = cnt q n + (if q n = true then 1 else 0)
    rw [ih (fun i hi => h i (by omega)), h n (by omega)]
theorem btN_t {p : Nat → Bool} {n : Nat} (h : p n = true) : btN p (n + 1) = btN p n + 2 ^ n := by
  show btN p n + (if p n = true then 2 ^ n else 0) = _
  rw [if_pos h]
theorem btN_f {p : Nat → Bool} {n : Nat} (h : ¬ p n = true) : btN p (n + 1) = btN p n := by
  show btN p n + (if p n = true then 2 ^ n else 0) = _
  rw [if_neg h]
  rfl
theorem btN_lt {p : Nat → Bool} : ∀ n, btN p n < 2 ^ n := by
  intro n
  induction n with
  | zero => exact Nat.lt_of_sub_pos (by exact Nat.one_pos)
  | succ n ih =>
    show btN p n + (if p n = true then 2 ^ n else 0) < 2 ^ (n + 1)
    rw [Nat.pow_succ]
    split <;> omega
theorem btN_congr {p q : Nat → Bool} {n : Nat} (h : ∀ i, i < n → p i = q i) : btN p n = btN q n := by
  induction n with
  | zero => rfl
  | succ n ih =>
    show btN p n + (if p n = true then 2 ^ n else 0) = btN q n + (if q n = true then 2 ^ n else 0)
    rw [ih (fun i hi => h i (by omega)), h n (by omega)]
theorem btN_bit {p : Nat → Bool} {k : Nat} : ∀ n, (btN p n).testBit k = (decide (k < n) && p k) := by
  intro n
  induction n with
  | zero =>
    show (0 : Nat).testBit k = _
    simp
  | succ n ih =>
    have hlt := btN_lt (p := p) n
    by_cases h : p n = true
    · rw [btN_t h, Nat.add_comm, show 2 ^ n + btN p n = 2 ^ n * 1 + btN p n by omega, Nat.two_pow_add_eq_or_of_lt hlt, Nat.testBit_or, ih, Nat.mul_one, Nat.testBit_two_pow]
      by_cases hk : k = n
      · subst hk; simp [h]
      · by_cases hk2 : k < n
        · simp [hk2, show ¬ n = k by omega, show k < n + 1 by omega]
        · simp [hk2, show ¬ n = k by omega, show ¬ k < n + 1 by omega]
    · rw [btN_f h, ih]
      by_cases hk : k = n
      · subst hk; simp [h]
      · by_cases hk2 : k < n
        · simp [hk2, show k < n + 1 by omega]
        · simp [hk2, show ¬ k < n + 1 by omega]
theorem smN_congr {f g : Nat → Nat} {n : Nat} (h : ∀ i, i < n → f i = g i) : smN f n = smN g n := by
  induction n with
  | zero => rfl
  | succ n ih =>
    show smN f n + f n = smN g n + g n
    rw [ih (fun i hi => h i (by omega)), h n (by omega)]
theorem smN_le {f : Nat → Nat} {m : Nat} : ∀ n, (∀ i, i < n → f i ≤ m) → smN f n ≤ n * m := by
  intro n
  induction n with
  | zero => intro _; exact Nat.zero_le _
  | succ n ih =>
    intro h
    show smN f n + f n ≤ (n + 1) * m
    have h1 := ih (fun i hi => h i (by omega))
    have h2 := h n (by omega)
    rw [Nat.succ_mul]
    omega
theorem sh_ok {i : Nat} (hi : i < 31) : nI 1 <<< (nI i &&& nI 31) = nI (2 ^ i) := by
  have h1 : ∀ i, i < 32 → ((nI i &&& nI 31).toBitVec.smod 32).toNat = i := by decide
  rw [pk_shlN (n := 1) (nI i &&& nI 31) i (h1 i (by omega)) (by
    have : 2 ^ i ≤ 2 ^ 30 := Nat.pow_le_pow_right (by decide) (by omega)
    omega)]
  rw [Nat.one_mul]
theorem or_ok (x y : Nat) : nI x ||| nI y = nI (x ||| y) := by
  apply Int32.toBitVec.inj
  exact (BitVec.ofNat_or).symm
theorem and_ok (x y : Nat) : nI x &&& nI y = nI (x &&& y) := by
  apply Int32.toBitVec.inj
  exact (BitVec.ofNat_and).symm
theorem andb_ok (x i : Nat) : nI x &&& nI (2 ^ i) = nI (x &&& 2 ^ i) := and_ok x (2 ^ i)
theorem or_bit {x i : Nat} (hx : x < 2 ^ i) : x ||| 2 ^ i = x + 2 ^ i := by
  have h := Nat.two_pow_add_eq_or_of_lt hx 1
  rw [Nat.mul_one] at h
  rw [Nat.or_comm, ← h]
  omega
theorem and_bit {x i : Nat} (hx : x < 2 ^ 31) (hi : i < 31) : (nI (x &&& 2 ^ i) = nI 0) ↔ ¬ x.testBit i = true := by
  have h2 : x &&& 2 ^ i ≤ x := Nat.and_le_left
  rw [nI_eq (by omega) (by decide)]
  constructor
  · intro h hb
    have h3 : (x &&& 2 ^ i).testBit i = true := by
      rw [Nat.testBit_and, hb, Nat.testBit_two_pow_self]
      rfl
    rw [h, Nat.zero_testBit] at h3
    cases h3
  · intro h
    apply Nat.eq_of_testBit_eq
    intro j
    rw [Nat.testBit_and, Nat.zero_testBit, Nat.testBit_two_pow]
    by_cases hj : i = j
    · subst hj
      cases hx : x.testBit i
      · rfl
      · exact absurd hx h
    · rw [decide_eq_false hj, Bool.and_false]
theorem has2_ok {x i : Nat} (hx : x < 2 ^ 31) (hi : i < 31) : f_X12_has2 (nI x) (nI i) = some (if x.testBit i = true then 1 else 0) := by
  have h1 : ∀ i, i < 32 → ((nI i &&& nI 31).toBitVec.smod 32).toNat = i := by decide
  have e : (nI x >>> (nI i &&& nI 31)) &&& nI 1 = nI ((x >>> i) &&& 1) := by
    rw [pk_shrN hx _ i (h1 i (by omega)), and_ok, Nat.shiftRight_eq_div_pow]
  have e2 : nI ((x >>> i) &&& 1) = nI 1 ↔ x.testBit i = true := by
    have h3 : x >>> i &&& 1 ≤ 1 := Nat.and_le_right
    rw [nI_eq (by omega) (by decide)]
    unfold Nat.testBit
    rw [Nat.and_comm]
    simp
  unfold f_X12_has2
  simp only [zq31, zq1, e]
  by_cases h : x.testBit i = true
  · rw [if_pos (e2.mpr h), if_pos h, gz_n1]
  · rw [if_neg (fun q => h (e2.mp q)), if_neg h, gz_0]
/-! figures, worths, leaks -/
def clN (m : Nat) (v : Int) : Nat := if v < 0 then 0 else if (m : Int) < v then m else v.toNat
theorem clN_le {m : Nat} {v : Int} : clN m v ≤ m := by
  unfold clN
  split
  · omega
  · split <;> omega
def rt (D : HI) (r : Nat) : Bool := decide (D 11 r < D 12 r)
def ruA (D : HI) (r : Nat) : Nat := (D 11 r).toNatClampNeg
def ruN (D : HI) (r : Nat) : Nat := (D 12 r).toNatClampNeg - (D 11 r).toNatClampNeg
def ruV (D : HI) (r : Nat) (fig : Nat → Option Int) : Int := match evN fig (D 10) (ruA D r) (ruN D r) [] with
  | some [v] => v
  | _ => 0
def fg (r : Nat) (a b c d e f : Int) (k : Nat) : Option Int :=
  if k = 0 then some a else if k = 1 then some b else if k = 2 then some c else if k = 3 then (if r = 0 then some d else none)
  else if k = 4 then (if r = 2 then some e else none) else if k = 5 then (if r = 2 then some f else none) else none
def besN (S : HI) (nl h l : Nat) : Nat := cnt (fun j => decide (j ≠ l) && decide (S 2 j = nI h)) nl
def besI (S : HI) (nl : Nat) (h : Int32) (l : Nat) : Nat := cnt (fun j => decide (j ≠ l) && decide (S 2 j = h)) nl
def woN (D S : HI) (nl l : Nat) : Nat :=
  if S 1 l = nI 0 then 0 else if rt D 1 = true then clN 9999 (ruV D 1 (fg 1 (S 1 l).toInt (S 0 1).toInt (besI S nl (S 2 l) l) 0 0 0)) else (S 1 l).toNatClampNeg
def lkN (D S : HI) (nl l : Nat) (dr : Int) : Nat :=
  if S 1 l = nI 0 then 0 else if rt D 0 = true then clN (S 1 l).toNatClampNeg (ruV D 0 (fg 0 (S 1 l).toInt (S 0 1).toInt (besI S nl (S 2 l) l) dr 0 0)) else 0
def LR (D : HI) : Prop := ∀ r, r < 3 → ∃ a n, RuleAt D r a n ∧ (0 < n → RuleOk D r a n)
theorem rt_iff {D : HI} {r a n : Nat} (h : RuleAt D r a n) : rt D r = true ↔ 0 < n := by
  obtain ⟨h1, h2, h3⟩ := h
  unfold rt
  rw [decide_eq_true_iff, h1, h2, nI_ltI (by omega) (by omega)]
  omega
theorem ruA_eq {D : HI} {r a n : Nat} (h : RuleAt D r a n) : ruA D r = a ∧ ruN D r = n := by
  obtain ⟨h1, h2, h3⟩ := h
  unfold ruA ruN
  rw [h1, h2, nI_clamp (by omega), nI_clamp (by omega)]
  omega
theorem fg_bd {r : Nat} {a b c d e f : Int} (ha : bdZ a) (hb : bdZ b) (hc : bdZ c) (hd : bdZ d) (he : bdZ e) (hf : bdZ f) : ∀ k v, fg r a b c d e f k = some v → bdZ v := by
  intro k v h
  unfold fg at h
  repeat' split at h
  all_goals first
    | (injection h with h; subst h; assumption)
    | cases h
theorem fg_ask {r : Nat} {a b c d e f : Int} : ∀ k, Ask r k → ∃ v, fg r a b c d e f k = some v := by
  intro k h
  unfold Ask at h
  unfold fg
  rcases h with h | ⟨h1, h2⟩ | ⟨h1, h2 | h2⟩
  · by_cases c0 : k = 0
    · exact ⟨a, by rw [if_pos c0]⟩
    · by_cases c1 : k = 1
      · exact ⟨b, by rw [if_neg c0, if_pos c1]⟩
      · exact ⟨c, by rw [if_neg c0, if_neg c1, if_pos (by omega)]⟩
  · exact ⟨d, by subst h1 h2; rfl⟩
  · exact ⟨e, by subst h1 h2; rfl⟩
  · exact ⟨f, by subst h1 h2; rfl⟩
theorem ruV_ev {D : HI} {r a n : Nat} {fig : Nat → Option Int} (hR : RuleAt D r a n) (hO : RuleOk D r a n) (hb : ∀ k v, fig k = some v → bdZ v) (ha : ∀ k, Ask r k → ∃ v, fig k = some v) : evN fig (D 10) a n [] = some [ruV D r fig] ∧ (r = 2 → ruV D r fig = 0 ∨ ruV D r fig = 1) := by
  obtain ⟨v, e1, e2⟩ := hO fig hb ha
  obtain ⟨q1, q2⟩ := ruA_eq hR
  have : ruV D r fig = v := by
    unfold ruV
    rw [q1, q2, e1]
  rw [this]
  exact ⟨e1, e2⟩
