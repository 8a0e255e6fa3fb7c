/-! numbers, heaps and loops of the equivalence -/
def mI (n : Nat) : Int32 := -nI n
theorem zm1 : (-1 : Int32) = mI 1 := rfl
theorem zm2 : (-2 : Int32) = mI 2 := rfl
theorem zm3 : (-3 : Int32) = mI 3 := rfl
theorem zm4 : (-4 : Int32) = mI 4 := rfl
theorem zm5 : (-5 : Int32) = mI 5 := rfl
theorem zm6 : (-6 : Int32) = mI 6 := rfl
theorem zm7 : (-7 : Int32) = mI 7 := rfl
theorem zm8 : (-8 : Int32) = mI 8 := rfl
theorem zm9 : (-9 : Int32) = mI 9 := rfl
theorem zm10 : (-10 : Int32) = mI 10 := rfl
theorem zm11 : (-11 : Int32) = mI 11 := rfl
theorem zm12 : (-12 : Int32) = mI 12 := rfl
theorem zm13 : (-13 : Int32) = mI 13 := rfl
theorem zm14 : (-14 : Int32) = mI 14 := rfl
theorem zm15 : (-15 : Int32) = mI 15 := rfl
theorem zm16 : (-16 : Int32) = mI 16 := rfl
theorem zm17 : (-17 : Int32) = mI 17 := rfl
theorem zm18 : (-18 : Int32) = mI 18 := rfl
theorem zm19 : (-19 : Int32) = mI 19 := rfl
theorem zm20 : (-20 : Int32) = mI 20 := rfl
theorem zm1000000000 : (-1000000000 : Int32) = mI 1000000000 := rfl
theorem zq0 : (0 : Int32) = nI 0 := rfl
theorem zq1 : (1 : Int32) = nI 1 := rfl
theorem zq2 : (2 : Int32) = nI 2 := rfl
theorem zq3 : (3 : Int32) = nI 3 := rfl
theorem zq4 : (4 : Int32) = nI 4 := rfl
theorem zq5 : (5 : Int32) = nI 5 := rfl
theorem zq6 : (6 : Int32) = nI 6 := rfl
theorem zq7 : (7 : Int32) = nI 7 := rfl
theorem zq8 : (8 : Int32) = nI 8 := rfl
theorem zq9 : (9 : Int32) = nI 9 := rfl
theorem zq10 : (10 : Int32) = nI 10 := rfl
theorem zq11 : (11 : Int32) = nI 11 := rfl
theorem zq12 : (12 : Int32) = nI 12 := rfl
theorem zq13 : (13 : Int32) = nI 13 := rfl
theorem zq14 : (14 : Int32) = nI 14 := rfl
theorem zq15 : (15 : Int32) = nI 15 := rfl
theorem zq16 : (16 : Int32) = nI 16 := rfl
theorem zq17 : (17 : Int32) = nI 17 := rfl
theorem zq18 : (18 : Int32) = nI 18 := rfl
theorem zq19 : (19 : Int32) = nI 19 := rfl
theorem zq20 : (20 : Int32) = nI 20 := rfl
theorem zq21 : (21 : Int32) = nI 21 := rfl
theorem zq22 : (22 : Int32) = nI 22 := rfl
theorem zq23 : (23 : Int32) = nI 23 := rfl
theorem zq24 : (24 : Int32) = nI 24 := rfl
theorem zq25 : (25 : Int32) = nI 25 := rfl
theorem zq26 : (26 : Int32) = nI 26 := rfl
theorem zq30 : (30 : Int32) = nI 30 := rfl
theorem zq31 : (31 : Int32) = nI 31 := rfl
theorem zq32 : (32 : Int32) = nI 32 := rfl
theorem zq33 : (33 : Int32) = nI 33 := rfl
theorem zq34 : (34 : Int32) = nI 34 := rfl
theorem zq35 : (35 : Int32) = nI 35 := rfl
theorem zq36 : (36 : Int32) = nI 36 := rfl
theorem zq37 : (37 : Int32) = nI 37 := rfl
theorem zq38 : (38 : Int32) = nI 38 := rfl
theorem zq39 : (39 : Int32) = nI 39 := rfl
theorem zq40 : (40 : Int32) = nI 40 := rfl
theorem zq41 : (41 : Int32) = nI 41 := rfl
theorem zq42 : (42 : Int32) = nI 42 := rfl
theorem zq43 : (43 : Int32) = nI 43 := rfl
theorem zq44 : (44 : Int32) = nI 44 := rfl
theorem zq45 : (45 : Int32) = nI 45 := rfl
theorem zq47 : (47 : Int32) = nI 47 := rfl
theorem zq48 : (48 : Int32) = nI 48 := rfl
theorem zq57 : (57 : Int32) = nI 57 := rfl
theorem zq59 : (59 : Int32) = nI 59 := rfl
theorem zq60 : (60 : Int32) = nI 60 := rfl
theorem zq61 : (61 : Int32) = nI 61 := rfl
theorem zq62 : (62 : Int32) = nI 62 := rfl
theorem zq80 : (80 : Int32) = nI 80 := rfl
theorem zq91 : (91 : Int32) = nI 91 := rfl
theorem zq93 : (93 : Int32) = nI 93 := rfl
theorem zq97 : (97 : Int32) = nI 97 := rfl
theorem zq99 : (99 : Int32) = nI 99 := rfl
theorem zq100 : (100 : Int32) = nI 100 := rfl
theorem zq107 : (107 : Int32) = nI 107 := rfl
theorem zq110 : (110 : Int32) = nI 110 := rfl
theorem zq120 : (120 : Int32) = nI 120 := rfl
theorem zq122 : (122 : Int32) = nI 122 := rfl
theorem zq128 : (128 : Int32) = nI 128 := rfl
theorem zq149 : (149 : Int32) = nI 149 := rfl
theorem zq160 : (160 : Int32) = nI 160 := rfl
theorem zq208 : (208 : Int32) = nI 208 := rfl
theorem zq240 : (240 : Int32) = nI 240 := rfl
theorem zq251 : (251 : Int32) = nI 251 := rfl
theorem zq255 : (255 : Int32) = nI 255 := rfl
theorem zq256 : (256 : Int32) = nI 256 := rfl
theorem zq500 : (500 : Int32) = nI 500 := rfl
theorem zq936 : (936 : Int32) = nI 936 := rfl
theorem zq999 : (999 : Int32) = nI 999 := rfl
theorem zq1600 : (1600 : Int32) = nI 1600 := rfl
theorem zq1800 : (1800 : Int32) = nI 1800 := rfl
theorem zq2048 : (2048 : Int32) = nI 2048 := rfl
theorem zq3200 : (3200 : Int32) = nI 3200 := rfl
theorem zq4160 : (4160 : Int32) = nI 4160 := rfl
theorem zq9999 : (9999 : Int32) = nI 9999 := rfl
theorem zq12345 : (12345 : Int32) = nI 12345 := rfl
theorem zq1000000 : (1000000 : Int32) = nI 1000000 := rfl
theorem zq1048576 : (1048576 : Int32) = nI 1048576 := rfl
theorem zq100000000 : (100000000 : Int32) = nI 100000000 := rfl
theorem nI_mI {a b : Nat} (h : b ≤ a) : nI a + mI b = nI (a - b) := by
  have := pk_sub h
  rw [← this]
  unfold mI
  exact (Int32.sub_eq_add_neg _ _).symm
theorem nI_eq_mI {a b : Nat} (ha : a < 2 ^ 31) (hb : 0 < b ∧ b < 2 ^ 31) : (nI a = mI b) ↔ False := by
  constructor
  · intro h
    have h1 : (nI a).toInt = (mI b).toInt := by rw [h]
    rw [nI_toInt ha] at h1
    unfold mI at h1
    rw [Int32.toInt_neg, nI_toInt hb.2] at h1
    rw [Int.bmod_eq_of_le (by omega) (by omega)] at h1
    omega
  · exact False.elim
theorem mI_eq_nI {a b : Nat} (ha : a < 2 ^ 31) (hb : 0 < b ∧ b < 2 ^ 31) : (mI b = nI a) ↔ False := by
  rw [eq_comm]
  exact nI_eq_mI ha hb
theorem mI_toInt {b : Nat} (hb : b < 2 ^ 31) : (mI b).toInt = -(b : Int) := by
  unfold mI
  rw [Int32.toInt_neg, nI_toInt hb, Int.bmod_eq_of_le (by omega) (by omega)]
theorem nI_lt_m {a b : Nat} (ha : a < 2 ^ 31) (hb : 0 < b ∧ b < 2 ^ 31) : (nI a < mI b) ↔ False := by
  rw [Int32.lt_iff_toInt_lt, nI_toInt ha, mI_toInt hb.2]
  constructor
  · intro h; omega
  · exact False.elim
theorem zg_ok {α : Type} {ok : Bool} {o : Option α} (h : ok = true) : gr ok o = o := by
  unfold gr
  rw [if_pos h]
theorem gz_0 {α : Type} {o : Option α} : gz 0 o = o := by
  unfold gz
  rw [if_pos (Or.inl rfl)]
theorem gz_1 {α : Type} {o : Option α} : gz 1 o = o := by
  unfold gz
  rw [if_pos (Or.inr rfl)]
theorem gz_n0 {α : Type} {o : Option α} : gz (nI 0) o = o := gz_0
theorem gz_n1 {α : Type} {o : Option α} : gz (nI 1) o = o := gz_1
theorem ldI_ok {α : Type} {f : Nat → Int32} {n a : Nat} {k : Int32 → Option α} (h : a < n ∧ n < 2 ^ 31) : ldI f n (nI a) k = k (f a) := by
  unfold ldI
  rw [if_neg (nI_in h.1 h.2), nI_clamp (by omega)]
theorem ldL_ok {α : Type} {f : Nat → Int64} {n a : Nat} {k : Int64 → Option α} (h : a < n ∧ n < 2 ^ 31) : ldL f n (nI a) k = k (f a) := by
  unfold ldL
  rw [if_neg (nI_in h.1 h.2), nI_clamp (by omega)]
theorem inb_ok {α : Type} {n a : Nat} {k : Option α} (h : a < n ∧ n < 2 ^ 31) : inb n (nI a) k = k := by
  unfold inb
  rw [if_neg (nI_in h.1 h.2)]
theorem dv_ok {α : Type} {a : Nat} {k : Option α} (h : 0 < a ∧ a < 2 ^ 31) : dvI (nI a) k = k := by
  unfold dvI
  rw [if_neg (nI_ne0 h.1 h.2)]
theorem rem_ok {a d : Nat} (h : a < 2 ^ 31 ∧ 0 < d ∧ d < 2 ^ 31) : nI a - nI a / nI d * nI d = nI (a % d) := pk_rem h.1 h.2.1 h.2.2
theorem div_ok {a d : Nat} (h : a < 2 ^ 31 ∧ 0 < d ∧ d < 2 ^ 31) : nI a / nI d = nI (a / d) := pk_div h.1 h.2.1 h.2.2
theorem zs_eq {I : HI} {a k : Nat} {v : Int32} : sI I a k v a = upd (I a) k v := by
  unfold sI
  rw [if_pos rfl]
theorem zs_ne {I : HI} {a k x : Nat} {v : Int32} (h : x ≠ a) : sI I a k v x = I x := by
  unfold sI
  rw [if_neg h]
theorem zs_same {f : Nat → Int32} {k : Nat} {v : Int32} : upd f k v k = v := by
  unfold upd
  rw [if_pos rfl]
theorem zs_other {f : Nat → Int32} {k j : Nat} {v : Int32} (h : j ≠ k) : upd f k v j = f j := by
  unfold upd
  rw [if_neg h]
theorem zA_eq {I : HI} {a : Nat} {f : Nat → Int32} : sA I a f a = f := by
  unfold sA
  rw [if_pos rfl]
theorem zA_ne {I : HI} {a x : Nat} {f : Nat → Int32} (h : x ≠ a) : sA I a f x = I x := by
  unfold sA
  rw [if_neg h]
theorem zL_eq {I : HL} {a k : Nat} {v : Int64} : sL I a k v a = vp_updL (I a) k v := by
  unfold sL
  rw [if_pos rfl]
theorem zL_ne {I : HL} {a k x : Nat} {v : Int64} (h : x ≠ a) : sL I a k v x = I x := by
  unfold sL
  rw [if_neg h]
theorem zR_eq {I : HR} {a k v : Nat} : sR I a k v a k = v := by
  unfold sR
  rw [if_pos rfl, if_pos rfl]
theorem zR_ne {I : HR} {a k x v : Nat} (h : x ≠ a) : sR I a k v x = I x := by
  unfold sR
  rw [if_neg h]
theorem zR_ne2 {I : HR} {a k j v : Nat} (h : j ≠ k) : sR I a k v a j = I a j := by
  unfold sR
  rw [if_pos rfl, if_neg h]
/-! counting loops -/
def it {σ : Type} (f : Nat → σ → σ) : Nat → σ → σ
  | 0, s => s
  | n + 1, s => f n (it f n s)
theorem it_congr {σ : Type} {f g : Nat → σ → σ} {n : Nat} {s : σ} (h : ∀ i t, i < n → f i t = g i t) : it f n s = it g n s := by
  induction n with
  | zero => rfl
  | succ n ih =>
    show f n (it f n s) = g n (it g n s)
    rw [ih (fun i t hi => h i t (by omega)), h n _ (by omega)]
theorem it_inv {σ : Type} {f : Nat → σ → σ} (P : Nat → σ → Prop) {n : Nat} {s : σ} (h0 : P 0 s) (hs : ∀ i t, i < n → P i t → P (i + 1) (f i t)) : P n (it f n s) := by
  induction n with
  | zero => exact h0
  | succ n ih => exact hs n _ (by omega) (ih (fun i t hi => hs i t (by omega)))
theorem loopUp {σ τ : Type} (L : Nat → σ → Int32 → Option τ) (f : Nat → σ → σ) (g : σ → τ) (N fu : Nat) (s : σ) (P : Nat → σ → Prop) (h0 : P 0 s)
    (hs : ∀ n i t, i < N → P i t → L (n + 1) t (nI i) = L n (f i t) (nI (i + 1)) ∧ P (i + 1) (f i t))
    (he : ∀ n t, P N t → L (n + 1) t (nI N) = some (g t)) (hf : N < fu) : L fu s (nI 0) = some (g (it f N s)) ∧ P N (it f N s) := by
  have key : ∀ i, i ≤ N → L fu s (nI 0) = L (fu - i) (it f i s) (nI i) ∧ P i (it f i s) := by
    intro i
    induction i with
    | zero => intro _; exact ⟨rfl, h0⟩
    | succ i ih =>
      intro hi
      obtain ⟨a, b⟩ := ih (by omega)
      obtain ⟨c, d⟩ := hs (fu - (i + 1)) i _ (by omega) b
      rw [show fu - (i + 1) + 1 = fu - i by omega] at c
      exact ⟨a.trans c, d⟩
  obtain ⟨a, b⟩ := key N (Nat.le_refl N)
  have c := he (fu - N - 1) _ b
  rw [show fu - N - 1 + 1 = fu - N by omega] at c
  exact ⟨a.trans c, b⟩
theorem loopRd {σ τ : Type} (L : Nat → σ → Int32 → Option τ) (f : Nat → σ → σ) (g : σ → τ) (N fu : Nat) (s : σ)
    (hs : ∀ n i t, i < N → L (n + 1) t (nI i) = L n (f i t) (nI (i + 1)))
    (he : ∀ n t, L (n + 1) t (nI N) = some (g t)) (hf : N < fu) : L fu s (nI 0) = some (g (it f N s)) :=
  (loopUp L f g N fu s (fun _ _ => True) trivial (fun n i t hi _ => ⟨hs n i t hi, trivial⟩) (fun n t _ => he n t) hf).1
/-- the first that answers -/
def ff {ρ : Type} (f : Nat → Option ρ) : Nat → Nat → Option ρ
  | _, 0 => none
  | i, n + 1 => match f i with
    | some r => some r
    | none => ff f (i + 1) n
theorem ff_congr {ρ : Type} {f g : Nat → Option ρ} {n : Nat} : ∀ {i : Nat}, (∀ j, i ≤ j → j < i + n → f j = g j) → ff f i n = ff g i n := by
  induction n with
  | zero => intro i _; rfl
  | succ n ih =>
    intro i h
    show (match f i with | some r => some r | none => ff f (i + 1) n) = (match g i with | some r => some r | none => ff g (i + 1) n)
    rw [h i (by omega) (by omega), ih (fun j h1 h2 => h j (by omega) (by omega))]
theorem loopEx {ρ τ : Type} (L : Nat → Int32 → Option (ρ ⊕ τ)) (f : Nat → Option ρ) (g : τ) (N fu : Nat)
    (hs : ∀ n i, i < N → f i = none → L (n + 1) (nI i) = L n (nI (i + 1)))
    (hx : ∀ n i r, i < N → f i = some r → L (n + 1) (nI i) = some (.inl r))
    (he : ∀ n, L (n + 1) (nI N) = some (.inr g)) (hf : N < fu) : L fu (nI 0) = some (match ff f 0 N with | some r => .inl r | none => .inr g) := by
  have key : ∀ k i m, i + k = N → k < m → L m (nI i) = some (match ff f i k with | some r => .inl r | none => .inr g) := by
    intro k
    induction k with
    | zero =>
      intro i m h1 h2
      obtain ⟨m, rfl⟩ : ∃ q, m = q + 1 := ⟨m - 1, by omega⟩
      have : i = N := by omega
      subst this
      rw [he]
      rfl
    | succ k ih =>
      intro i m h1 h2
      obtain ⟨m, rfl⟩ : ∃ q, m = q + 1 := ⟨m - 1, by omega⟩
      cases hfi : f i with
      | none =>
        rw [hs m i (by omega) hfi, ih (i + 1) m (by omega) (by omega)]
        show _ = some (match (match f i with | some r => some r | none => ff f (i + 1) k) with | some r => Sum.inl r | none => Sum.inr g)
        rw [hfi]
      | some r =>
        rw [hx m i r (by omega) hfi]
        show _ = some (match (match f i with | some r => some r | none => ff f (i + 1) k) with | some r => Sum.inl r | none => Sum.inr g)
        rw [hfi]
  exact key N 0 fu (by omega) hf
