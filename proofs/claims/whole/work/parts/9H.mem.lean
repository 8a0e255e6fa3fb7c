/-! members of an owner, sets of them -/
def nth (p : Nat → Bool) (k : Nat) : Nat → Nat
  | 0 => 0
  | n + 1 => if p n = true ∧ cnt p n = k then n else nth p k n
theorem cnt_mono {p : Nat → Bool} {a b : Nat} (h : a ≤ b) : cnt p a ≤ cnt p b := by
  induction b with
  | zero =>
    have : a = 0 := by omega
    subst this
    exact Nat.le_refl _
  | succ b ih =>
    by_cases c : a = b + 1
    · subst c; exact Nat.le_refl _
    · have := ih (by omega)
      have e : cnt p (b + 1) = cnt p b + (if p b = true then 1 else 0) := rfl
      omega
theorem nth_2 {p : Nat → Bool} {k : Nat} : ∀ n, k < cnt p n → nth p k n < n ∧ p (nth p k n) = true ∧ cnt p (nth p k n) = k := by
  intro n
  induction n with
  | zero => intro h; exact absurd h (by show ¬ k < 0; omega)
  | succ n ih =>
    intro h
    show (if p n = true ∧ cnt p n = k then n else nth p k n) < n + 1 ∧ p (if p n = true ∧ cnt p n = k then n else nth p k n) = true ∧ cnt p (if p n = true ∧ cnt p n = k then n else nth p k n) = k
    by_cases c : p n = true ∧ cnt p n = k
    · rw [if_pos c]
      exact ⟨by omega, c.1, c.2⟩
    · rw [if_neg c]
      have hk : k < cnt p n := by
        by_cases cp : p n = true
        · rw [cnt_t cp] at h
          have : ¬ cnt p n = k := fun q => c ⟨cp, q⟩
          omega
        · rw [cnt_f cp] at h
          exact h
      obtain ⟨a, b, d⟩ := ih hk
      exact ⟨by omega, b, d⟩
theorem nth_lt {p : Nat → Bool} {j k n : Nat} (hjk : j < k) (hk : k < cnt p n) : nth p j n < nth p k n := by
  obtain ⟨a1, a2, a3⟩ := nth_2 (p := p) (k := j) n (by omega)
  obtain ⟨b1, b2, b3⟩ := nth_2 (p := p) (k := k) n hk
  rcases Nat.lt_or_ge (nth p j n) (nth p k n) with q | q
  · exact q
  · have := cnt_mono (p := p) q
    omega
theorem nth_1 {p : Nat → Bool} {l n : Nat} (hl : l < n) (hp : p l = true) : nth p (cnt p l) n = l := by
  have hk : cnt p l < cnt p n := by
    have := cnt_mono (p := p) (show l + 1 ≤ n by omega)
    rw [cnt_t hp] at this
    omega
  obtain ⟨a1, a2, a3⟩ := nth_2 (p := p) (k := cnt p l) n hk
  rcases Nat.lt_trichotomy (nth p (cnt p l) n) l with q | q | q
  · have := cnt_mono (p := p) (show nth p (cnt p l) n + 1 ≤ l by omega)
    rw [cnt_t a2] at this
    omega
  · exact q
  · have := cnt_mono (p := p) (show l + 1 ≤ nth p (cnt p l) n by omega)
    rw [cnt_t hp] at this
    omega
/-- a set of members, as a set of lakes -/
def exM (m : Nat → Nat) (s : Nat) : Nat → Nat
  | 0 => 0
  | c + 1 => exM m s c + (if s.testBit c = true then 2 ^ m c else 0)
def inc (m : Nat → Nat) (c : Nat) : Prop := ∀ j k, j < k → k < c → m j < m k
theorem exM_lt {m : Nat → Nat} {s : Nat} : ∀ c b, inc m c → (∀ j, j < c → m j < b) → exM m s c < 2 ^ b := by
  intro c
  induction c with
  | zero => intro b _ _; exact Nat.pow_pos (by decide)
  | succ c ih =>
    intro b hi hb
    have h1 := ih (m c) (fun j k hj hk => hi j k hj (by omega)) (fun j hj => hi j c hj (by omega))
    have h2 : 2 ^ (m c + 1) ≤ 2 ^ b := Nat.pow_le_pow_right (by decide) (hb c (by omega))
    rw [Nat.pow_succ] at h2
    show exM m s c + (if s.testBit c = true then 2 ^ m c else 0) < 2 ^ b
    split <;> omega
theorem add_bit {x b l : Nat} (hx : x < 2 ^ b) : (x + 2 ^ b).testBit l = (x.testBit l || decide (b = l)) := by
  have h := Nat.two_pow_add_eq_or_of_lt hx 1
  rw [Nat.mul_one] at h
  rw [Nat.add_comm, h, Nat.testBit_or, Nat.testBit_two_pow, Bool.or_comm]
theorem exM_bit {m : Nat → Nat} {s l : Nat} : ∀ c, inc m c → ((exM m s c).testBit l = true ↔ ∃ k, k < c ∧ m k = l ∧ s.testBit k = true) := by
  intro c
  induction c with
  | zero =>
    intro _
    show (0 : Nat).testBit l = true ↔ _
    rw [Nat.zero_testBit]
    constructor
    · intro h; cases h
    · rintro ⟨k, hk, _⟩; exact absurd hk (by omega)
  | succ c ih =>
    intro hi
    have hlt := exM_lt (m := m) (s := s) c (m c) (fun j k hj hk => hi j k hj (by omega)) (fun j hj => hi j c hj (by omega))
    have ih := ih (fun j k hj hk => hi j k hj (by omega))
    show (exM m s c + (if s.testBit c = true then 2 ^ m c else 0)).testBit l = true ↔ _
    by_cases cb : s.testBit c = true
    · rw [if_pos cb, add_bit hlt, Bool.or_eq_true, ih, decide_eq_true_iff]
      constructor
      · rintro (⟨k, h1, h2, h3⟩ | h)
        · exact ⟨k, by omega, h2, h3⟩
        · exact ⟨c, by omega, h, cb⟩
      · rintro ⟨k, h1, h2, h3⟩
        by_cases ck : k = c
        · subst ck; exact Or.inr h2
        · exact Or.inl ⟨k, by omega, h2, h3⟩
    · rw [if_neg cb, Nat.add_zero, ih]
      constructor
      · rintro ⟨k, h1, h2, h3⟩
        exact ⟨k, by omega, h2, h3⟩
      · rintro ⟨k, h1, h2, h3⟩
        by_cases ck : k = c
        · subst ck; exact absurd h3 cb
        · exact ⟨k, by omega, h2, h3⟩
theorem exM_congr {m : Nat → Nat} {s s' : Nat} : ∀ c, (∀ k, k < c → s.testBit k = s'.testBit k) → exM m s c = exM m s' c := by
  intro c
  induction c with
  | zero => intro _; rfl
  | succ c ih =>
    intro h
    show exM m s c + (if s.testBit c = true then 2 ^ m c else 0) = exM m s' c + (if s'.testBit c = true then 2 ^ m c else 0)
    rw [ih (fun k hk => h k (by omega)), h c (by omega)]
theorem bit_hi {s c : Nat} (h : s < 2 ^ (c + 1)) : (s.testBit c = true → ∃ r, r < 2 ^ c ∧ s = r + 2 ^ c) ∧ (¬ s.testBit c = true → s < 2 ^ c) := by
  rw [Nat.pow_succ] at h
  constructor
  · intro hb
    have : 2 ^ c ≤ s := Nat.ge_two_pow_of_testBit hb
    exact ⟨s - 2 ^ c, by omega, by omega⟩
  · intro hb
    rcases Nat.lt_or_ge s (2 ^ c) with q | q
    · exact q
    · exfalso
      apply hb
      have e : s = (s - 2 ^ c) + 2 ^ c := by omega
      rw [e, add_bit (by omega)]
      simp
theorem low_bit {r c k : Nat} (hr : r < 2 ^ c) (hk : k < c) : (r + 2 ^ c).testBit k = r.testBit k := by
  rw [add_bit hr, decide_eq_false (by omega), Bool.or_false]
theorem exM_mono {m : Nat → Nat} : ∀ c s s', inc m c → s < s' → s' < 2 ^ c → exM m s c < exM m s' c := by
  intro c
  induction c with
  | zero =>
    intro s s' _ h1 h2
    rw [Nat.pow_zero] at h2
    omega
  | succ c ih =>
    intro s s' hi h1 h2
    have hi' : inc m c := fun j k hj hk => hi j k hj (by omega)
    have hlt := fun z => exM_lt (m := m) (s := z) c (m c) hi' (fun j hj => hi j c hj (by omega))
    show exM m s c + (if s.testBit c = true then 2 ^ m c else 0) < exM m s' c + (if s'.testBit c = true then 2 ^ m c else 0)
    have b1 := bit_hi (s := s) (c := c) (by omega)
    have b2 := bit_hi (s := s') (c := c) h2
    by_cases c1 : s.testBit c = true
    · obtain ⟨r, r1, r2⟩ := b1.1 c1
      by_cases c2 : s'.testBit c = true
      · obtain ⟨r', r1', r2'⟩ := b2.1 c2
        rw [if_pos c1, if_pos c2]
        have e1 : exM m s c = exM m r c := exM_congr c (fun k hk => by rw [r2, low_bit r1 hk])
        have e2 : exM m s' c = exM m r' c := exM_congr c (fun k hk => by rw [r2', low_bit r1' hk])
        have := ih r r' hi' (by omega) r1'
        omega
      · have := b2.2 c2
        omega
    · have hs := b1.2 c1
      rw [if_neg c1]
      by_cases c2 : s'.testBit c = true
      · rw [if_pos c2]
        have := hlt s
        omega
      · rw [if_neg c2]
        have := ih s s' hi' h1 (b2.2 c2)
        omega
theorem exM_sur {m : Nat → Nat} {c u : Nat} (hi : inc m c) (hu : ∀ l, u.testBit l = true → ∃ k, k < c ∧ m k = l) : ∃ s, s < 2 ^ c ∧ exM m s c = u := by
  refine ⟨btN (fun k => u.testBit (m k)) c, btN_lt c, ?_⟩
  apply Nat.eq_of_testBit_eq
  intro l
  have h := exM_bit (m := m) (s := btN (fun k => u.testBit (m k)) c) (l := l) c hi
  have h2 : (∃ k, k < c ∧ m k = l ∧ (btN (fun k => u.testBit (m k)) c).testBit k = true) ↔ u.testBit l = true := by
    constructor
    · rintro ⟨k, k1, k2, k3⟩
      rw [btN_bit, decide_eq_true k1, Bool.true_and, k2] at k3
      exact k3
    · intro hb
      obtain ⟨k, k1, k2⟩ := hu l hb
      refine ⟨k, k1, k2, ?_⟩
      rw [btN_bit, decide_eq_true k1, Bool.true_and, k2]
      exact hb
  rw [h2] at h
  cases hq : u.testBit l
  · rw [hq] at h
    cases hz : (exM m (btN (fun k => u.testBit (m k)) c) c).testBit l
    · rfl
    · exact absurd (h.mp hz) (by decide)
  · exact h.mpr hq
/-! how many are in a set -/
def pc (s : Nat) : Nat := cnt (fun k => s.testBit k) 8
theorem pc_add : ∀ b, b < 8 → ∀ x, x < 2 ^ b → pc (x + 2 ^ b) = pc x + 1 := by decide +kernel
theorem pc_low : ∀ u, u < 256 → u ≠ 0 → pc (u &&& (u - 1)) + 1 = pc u ∧ (u &&& (u - 1)) < u := by decide +kernel
theorem pc_ex {m : Nat → Nat} : ∀ c s, inc m c → (∀ j, j < c → m j < 8) → c ≤ 8 → s < 2 ^ c → pc (exM m s c) = pc s := by
  intro c
  induction c with
  | zero =>
    intro s _ _ _ h
    rw [Nat.pow_zero] at h
    have : s = 0 := by omega
    subst this
    rfl
  | succ c ih =>
    intro s hi hb hc h
    have hi' : inc m c := fun j k hj hk => hi j k hj (by omega)
    have hlt := fun z => exM_lt (m := m) (s := z) c (m c) hi' (fun j hj => hi j c hj (by omega))
    have b1 := bit_hi (s := s) (c := c) h
    show pc (exM m s c + (if s.testBit c = true then 2 ^ m c else 0)) = pc s
    by_cases c1 : s.testBit c = true
    · obtain ⟨r, r1, r2⟩ := b1.1 c1
      have e1 : exM m s c = exM m r c := exM_congr c (fun k hk => by rw [r2, low_bit r1 hk])
      rw [if_pos c1, e1, pc_add (m c) (hb c (by omega)) _ (hlt r), ih r hi' (fun j hj => hb j (by omega)) (by omega) r1, r2, pc_add c (by omega) r r1]
    · rw [if_neg c1, Nat.add_zero, ih s hi' (fun j hj => hb j (by omega)) (by omega) (b1.2 c1)]
theorem pc_le {s : Nat} : pc s ≤ 8 := cnt_le 8
theorem pc_0 {s : Nat} (hs : s < 256) (h : pc s = 0) : s = 0 := by
  have : ∀ s, s < 256 → pc s = 0 → s = 0 := by decide +kernel
  exact this s hs h
theorem bitCount_C : ∀ s, s < 256 → f_J6_bitCount_0f7a4 (nI s) = some (nI (pc s)) := by decide +kernel
theorem bits_L {k : Nat} : ∀ (u n c : Nat), u < 256 → pc u = k → k < n → f_X12_bits_L4 n (nI c) (nI u) = some (nI (c + pc u)) := by
  induction k with
  | zero =>
    intro u n c hu hk hn
    obtain ⟨n, rfl⟩ : ∃ q, n = q + 1 := ⟨n - 1, by omega⟩
    have : u = 0 := pc_0 hu hk
    subst this
    simp only [f_X12_bits_L4, zq0, if_true]
    rfl
  | succ k ih =>
    intro u n c hu hk hn
    obtain ⟨n, rfl⟩ : ∃ q, n = q + 1 := ⟨n - 1, by omega⟩
    have hu0 : u ≠ 0 := fun q => by
      have z : pc 0 = 0 := by decide
      rw [q, z] at hk
      exact absurd hk (by omega)
    obtain ⟨p1, p2⟩ := pc_low u hu hu0
    have c1 : ¬ nI u = 0 := nI_ne0 (by omega) (by omega)
    have e1 : nI u &&& (nI u - 1) = nI (u &&& (u - 1)) := by
      rw [zq1, pk_sub (by omega), and_ok]
    have := ih (u &&& (u - 1)) n (c + 1) (by omega) (by omega) (by omega)
    simp only [f_X12_bits_L4, if_neg c1, bnd, e1]
    rw [show nI c + 1 = nI (c + 1) from nI_1 c, this]
    congr 2
    omega
theorem bits_M {u fu : Nat} (hu : u < 256) (hf : 8 < fu) : f_X12_bits fu (nI u) = some (nI (pc u)) := by
  have := bits_L u fu 0 hu rfl (by have := pc_le (s := u); omega)
  rw [Nat.zero_add] at this
  unfold f_X12_bits
  rw [show (0 : Int32) = nI 0 from rfl, this]
  rfl
/-! sums over sets -/
def SSI (v : Nat → Int32) (s c : Nat) : Int32 := sm (fun k => if s.testBit k = true then v k else 0) c
theorem SSI_lo {v : Nat → Int32} {s c : Nat} (h : s < 2 ^ c) : SSI v s (c + 1) = SSI v s c := by
  show SSI v s c + (if s.testBit c = true then v c else 0) = _
  rw [if_neg, Int32.add_zero]
  intro q
  have := Nat.ge_two_pow_of_testBit q
  omega
theorem SSI_hi {v : Nat → Int32} {r c : Nat} (h : r < 2 ^ c) : SSI v (r + 2 ^ c) (c + 1) = SSI v r c + v c := by
  show SSI v (r + 2 ^ c) c + (if (r + 2 ^ c).testBit c = true then v c else 0) = _
  rw [if_pos (by rw [add_bit h]; simp)]
  congr 1
  exact sm_congr (fun k hk => by rw [low_bit h hk])
theorem sumUp_C {I : HI} {fu c : Nat} {v : Nat → Int32} (hf : 1600 < fu) (hc : c ≤ 8) (h1 : I 34 2 = nI c) (hv : ∀ k, k < c → I 36 k = v k) : ∃ K, f_X0_sumUp fu I = some K ∧ (∀ x, x ≠ 37 → K x = I x) ∧ ∀ s, s < 2 ^ c → K 37 s = SSI v s c := by
  have key : ∃ K : HI, f_X0_sumUp_L9 fu fu (sI I 37 0 (nI 0)) 0 = some K ∧ (∀ x, x ≠ 37 → K x = I x) ∧ ∀ s, s < 2 ^ c → K 37 s = SSI v s c := by
    refine loopP (fun n (a : HI) i => f_X0_sumUp_L9 fu n a i) (fun i a => (∀ x, x ≠ 37 → a x = I x) ∧ ∀ s, s < 2 ^ i → a 37 s = SSI v s i) (fun a => (∀ x, x ≠ 37 → a x = I x) ∧ ∀ s, s < 2 ^ c → a 37 s = SSI v s c) c fu _ ⟨fun x hx => zs_ne hx, fun s hs => ?_⟩ ?_ ?_ (by omega)
    · rw [Nat.pow_zero] at hs
      have : s = 0 := by omega
      subst this
      rw [zs_eq, zs_same]
      rfl
    · intro n i K hi ha
      obtain ⟨a1, a2⟩ := ha
      have e1 : K 34 2 = nI c := by rw [a1 34 (by decide)]; exact h1
      have hp : 2 ^ (i + 1) ≤ 2 ^ 8 := Nat.pow_le_pow_right (by decide) (by omega)
      rw [Nat.pow_succ] at hp
      have hpos : 0 < 2 ^ i := Nat.pow_pos (by decide)
      have inner : ∀ (q r m : Nat) (K : HI), r + q = 2 ^ i → q < m → (∀ x, x ≠ 37 → K x = I x) → (∀ s, s < 2 ^ i + r → K 37 s = SSI v s (i + 1)) → ∃ K', f_X0_sumUp_L23 m K (nI i) (nI (2 ^ i)) (nI (2 ^ i + r)) = some K' ∧ (∀ x, x ≠ 37 → K' x = I x) ∧ ∀ s, s < 2 ^ (i + 1) → K' 37 s = SSI v s (i + 1) := by
        intro q
        induction q with
        | zero =>
          intro r m K e1 e2 k1 k2
          obtain ⟨m, rfl⟩ : ∃ q, m = q + 1 := ⟨m - 1, by omega⟩
          refine ⟨K, ?_, k1, fun s hs => k2 s (by rw [Nat.pow_succ] at hs; omega)⟩
          simp (disch := omega) only [f_X0_sumUp_L23, zq2, pk_mul, nI_leI, if_pos]
        | succ q ih =>
          intro r m K e1 e2 k1 k2
          obtain ⟨m, rfl⟩ : ∃ q, m = q + 1 := ⟨m - 1, by omega⟩
          have e36 : K 36 i = v i := by rw [k1 36 (by decide)]; exact hv i hi
          have e37 : K 37 r = SSI v r i := by rw [k2 r (by omega), SSI_lo (by omega)]
          obtain ⟨K', b1, b2, b3⟩ := ih (r + 1) m (sI K 37 (2 ^ i + r) (SSI v r i + v i)) (by omega) (by omega) (fun x hx => by rw [zs_ne hx]; exact k1 x hx) (fun s hs => by
            rw [zs_eq]
            by_cases cs : s = 2 ^ i + r
            · subst cs
              rw [zs_same, Nat.add_comm (2 ^ i) r, SSI_hi (by omega)]
            · rw [zs_other cs]
              exact k2 s (by omega))
          refine ⟨K', ?_, b2, b3⟩
          rw [← b1]
          have ed : 2 ^ i + r - 2 ^ i = r := by omega
          simp (disch := omega) only [f_X0_sumUp_L23, zq2, zq1, pk_mul, nI_leI, if_neg, pk_sub, ed, ldI_ok, e37, e36, inb_ok, bnd, nI_clamp, nI_add, Nat.add_assoc]
      obtain ⟨K', b1, b2, b3⟩ := inner (2 ^ i) 0 fu K (by omega) (by omega) a1 (fun s hs => by rw [SSI_lo (by omega)]; exact a2 s (by omega))
      refine ⟨K', ?_, b2, b3⟩
      rw [Nat.add_zero] at b1
      simp (disch := omega) only [f_X0_sumUp_L9, e1, nI_leI, if_neg, zq1, zq31, sh_ok, bnd, b1, Option.bind_some, nI_add]
    · intro n K ha
      have e1 : K 34 2 = nI c := by rw [ha.1 34 (by decide)]; exact h1
      refine ⟨K, ?_, ha⟩
      simp (disch := omega) only [f_X0_sumUp_L9, e1, nI_leI, if_pos, Nat.le_refl, if_true]
  obtain ⟨K, k1, k2⟩ := key
  refine ⟨K, ?_, k2⟩
  unfold f_X0_sumUp
  have t0 : (0 : Int32).toNatClampNeg = 0 := by decide
  have i0 : ∀ k : Option HI, inb 256 0 k = k := fun k => by rw [zq0, inb_ok (by decide)]
  have k1' : f_X0_sumUp_L9 fu fu (sI I 37 0 0) 0 = some K := k1
  simp only [i0, bnd, t0, k1', Option.bind_some]
theorem CLx {I K : HI} {R : HR} {s t nh no nl : Nat} (hC : CL I R s t nh no nl) (h : K t = I t) : CL K R s t nh no nl := by
  obtain ⟨h0, h1, h2, h3, h4, h5, h6, h7, h8, h9⟩ := hC
  exact ⟨h0, h1, h2, h3, by rw [h]; exact h4, by rw [h]; exact h5, by rw [h]; exact h6, h7, h8, h9⟩
def pO (S : HI) (x : Int32) (l : Nat) : Bool := decide (S 3 l = x)
/-- the chooser's members, by what they are worth, or by their barrels -/
theorem collect_C {I : HI} {R : HR} {t nh no nl fu : Nat} (hC : CL I R 49 t nh no nl) (hL : LR (vw I t)) (hW : BW (sc I 49)) (hf : 1600 < fu) (x : Int32) {w : Nat} (hw : w ≤ 1) {val : Nat → Nat} (hval : val = fun l => if w = 0 then (sc I 49 1 l).toNatClampNeg else woN (vw I t) (sc I 49) nl l) : ∃ K, f_X0_collect fu I R 49 x (nI w) = some K ∧ (∀ y, y < 34 ∨ 37 ≤ y → y < 55 ∨ 58 ≤ y → K y = I y) ∧ K 34 2 = nI (cnt (pO (sc I 49) x) nl) ∧ (∀ k, k < cnt (pO (sc I 49) x) nl → K 35 k = nI (nth (pO (sc I 49) x) k nl) ∧ K 36 k = nI (val (nth (pO (sc I 49) x) k nl))) := by
  have hC' := hC
  obtain ⟨h0, h1, h2, h3, h4, h5, h6, h7, h8, h9⟩ := hC'
  have key : ∃ K : HI, f_X0_collect_L8 fu fu (sI I 34 2 (nI 0)) R 49 x (nI w) 0 = some K ∧ (∀ y, y < 34 ∨ 37 ≤ y → y < 55 ∨ 58 ≤ y → K y = I y) ∧ K 34 2 = nI (cnt (pO (sc I 49) x) nl) ∧ (∀ k, k < cnt (pO (sc I 49) x) nl → K 35 k = nI (nth (pO (sc I 49) x) k nl) ∧ K 36 k = nI (val (nth (pO (sc I 49) x) k nl))) := by
    refine loopP (fun n (a : HI) i => f_X0_collect_L8 fu n a R 49 x (nI w) i) (fun i K => (∀ y, y < 34 ∨ 37 ≤ y → y < 55 ∨ 58 ≤ y → K y = I y) ∧ K 34 2 = nI (cnt (pO (sc I 49) x) i) ∧ (∀ k, k < cnt (pO (sc I 49) x) i → K 35 k = nI (nth (pO (sc I 49) x) k nl) ∧ K 36 k = nI (val (nth (pO (sc I 49) x) k nl)))) (fun K => (∀ y, y < 34 ∨ 37 ≤ y → y < 55 ∨ 58 ≤ y → K y = I y) ∧ K 34 2 = nI (cnt (pO (sc I 49) x) nl) ∧ (∀ k, k < cnt (pO (sc I 49) x) nl → K 35 k = nI (nth (pO (sc I 49) x) k nl) ∧ K 36 k = nI (val (nth (pO (sc I 49) x) k nl)))) nl fu _ ⟨fun y y1 y2 => zs_ne (by omega), by rw [zs_eq, zs_same]; rfl, fun k hk => absurd hk (by show ¬ k < 0; omega)⟩ ?_ ?_ (by omega)
    · intro n i K hi ha
      obtain ⟨a1, a2, a3⟩ := ha
      have e6 : K t 3 = nI nl := by rw [a1 t (by omega) (by omega)]; exact h6
      have e52 : K (49 + 3) i = sc I 49 3 i := by rw [a1 52 (by omega) (by omega)]; rfl
      have hc8 : cnt (pO (sc I 49) x) i ≤ i := cnt_le i
      by_cases c : sc I 49 3 i = x
      · have hp : pO (sc I 49) x i = true := decide_eq_true c
        obtain ⟨cc, hcc⟩ : ∃ cc, cc = cnt (pO (sc I 49) x) i := ⟨_, rfl⟩
        rw [← hcc] at a2 a3 hc8
        have hn1 := nth_1 hi hp
        rw [← hcc] at hn1
        have hstep : ∃ K2, (∀ y, y < 55 ∨ 58 ≤ y → K2 y = sI K 35 cc (nI i) y) ∧ f_X0_collect_L8 fu (n + 1) K R 49 x (nI w) (nI i) = f_X0_collect_L8 fu n (sI (sI K2 36 cc (nI (val i))) 34 2 (nI (cc + 1))) R 49 x (nI w) (nI (i + 1)) := by
          by_cases cw : w = 0
          · subst cw
            refine ⟨sI K 35 cc (nI i), fun _ _ => rfl, ?_⟩
            obtain ⟨b, hb, eb⟩ := hW.1 i (by omega)
            have ev : val i = b := by
              rw [hval]
              show (if 0 = 0 then (sc I 49 1 i).toNatClampNeg else _) = b
              rw [if_pos rfl, eb, nI_clamp (by omega)]
            have e50 : K (49 + 1) i = nI b := by rw [a1 50 (by omega) (by omega)]; exact eb
            rw [ev]
            simp (disch := omega) only [f_X0_collect_L8, sdm, ↓zm1, ↓zm2, ↓zm3, ↓zm4, ↓zm5, ↓zm6, ↓zm7, ↓zm8, ↓zm9, ↓zm10, ↓zm11, ↓zm12, ↓zm13, ↓zm14, ↓zm15, ↓zm16, ↓zm17, ↓zm18, ↓zm19, ↓zm20, ↓zm1000000000, zq0, zq1, zq2, zq3, zq4, zq5, zq6, zq7, zq8, zq9, zq10, zq11, zq12, zq13, zq14, zq15, zq16, zq17, zq18, zq19, zq20, zq21, zq22, zq23, zq24, zq25, zq26, zq30, zq31, zq32, zq33, zq34, zq35, zq36, zq37, zq38, zq39, zq40, zq41, zq42, zq43, zq44, zq45, zq47, zq48, zq57, zq59, zq60, zq61, zq62, zq80, zq91, zq93, zq97, zq99, zq100, zq107, zq110, zq120, zq122, zq128, zq149, zq160, zq208, zq240, zq251, zq255, zq256, zq500, zq936, zq999, zq1600, zq1800, zq2048, zq3200, zq4160, zq9999, zq12345, zq1000000, zq1048576, zq100000000, bnd, jnt, zg_ok, gz_0, gz_1, gz_n0, gz_n1, zs_eq, zs_ne, zs_same, zs_other, zA_eq, zA_ne, Option.bind_some, Option.bind_none, nI_add, pk_mul, nI_clamp, nI_leI, nI_ltI, nI_eq, pk_sub, nI_mI, nI_eq_mI, mI_eq_nI, nI_lt_m, ldI_ok, inb_ok, if_pos, if_neg, dv_ok, rem_ok, div_ok, if_true, if_false, zg_ok h0, h1, e6, e52, c, a2, e50]
          · have cw1 : w = 1 := by omega
            subst cw1
            have hCK : CL (sI K 35 cc (nI i)) R 49 t nh no nl := CLx hC (by rw [zs_ne (by omega)]; exact a1 t (by omega) (by omega))
            have evK : vw (sI K 35 cc (nI i)) t = vw I t := vw_congr (fun a ha => by rw [zs_ne (by omega)]; exact a1 _ (by omega) (by omega))
            have esK : sc (sI K 35 cc (nI i)) 49 = sc I 49 := sc_congr (fun a ha => by rw [zs_ne (by omega)]; exact a1 _ (by omega) (by omega))
            obtain ⟨K2, w1, w2⟩ := worthOf_C (fu := fu) hCK (by rw [evK]; exact hL) (by rw [esK]; exact hW) hf hi
            rw [evK, esK] at w1
            refine ⟨K2, fun y hy => w2 y (by omega), ?_⟩
            have ev : val i = woN (vw I t) (sc I 49) nl i := by
              rw [hval]
              show (if 1 = 0 then _ else woN (vw I t) (sc I 49) nl i) = _
              rw [if_neg (by decide)]
            rw [← ev] at w1
            have w34 : K2 34 2 = nI cc := by rw [w2 34 (by omega), zs_ne (by decide)]; exact a2
            have n4 : ¬ nI 1 = nI 0 := by decide
            simp (disch := omega) only [f_X0_collect_L8, sdm, ↓zm1, ↓zm2, ↓zm3, ↓zm4, ↓zm5, ↓zm6, ↓zm7, ↓zm8, ↓zm9, ↓zm10, ↓zm11, ↓zm12, ↓zm13, ↓zm14, ↓zm15, ↓zm16, ↓zm17, ↓zm18, ↓zm19, ↓zm20, ↓zm1000000000, zq0, zq1, zq2, zq3, zq4, zq5, zq6, zq7, zq8, zq9, zq10, zq11, zq12, zq13, zq14, zq15, zq16, zq17, zq18, zq19, zq20, zq21, zq22, zq23, zq24, zq25, zq26, zq30, zq31, zq32, zq33, zq34, zq35, zq36, zq37, zq38, zq39, zq40, zq41, zq42, zq43, zq44, zq45, zq47, zq48, zq57, zq59, zq60, zq61, zq62, zq80, zq91, zq93, zq97, zq99, zq100, zq107, zq110, zq120, zq122, zq128, zq149, zq160, zq208, zq240, zq251, zq255, zq256, zq500, zq936, zq999, zq1600, zq1800, zq2048, zq3200, zq4160, zq9999, zq12345, zq1000000, zq1048576, zq100000000, bnd, jnt, zg_ok, gz_0, gz_1, gz_n0, gz_n1, zs_eq, zs_ne, zs_same, zs_other, zA_eq, zA_ne, Option.bind_some, Option.bind_none, nI_add, pk_mul, nI_clamp, nI_leI, nI_ltI, nI_eq, pk_sub, nI_mI, nI_eq_mI, mI_eq_nI, nI_lt_m, ldI_ok, inb_ok, if_pos, if_neg, dv_ok, rem_ok, div_ok, if_true, if_false, zg_ok h0, h1, e6, e52, c, a2, if_neg n4, w1, w34]
        obtain ⟨K2, k1, k2⟩ := hstep
        refine ⟨_, k2, ?_, ?_, ?_⟩
        · intro y y1 y2
          rw [zs_ne (by omega), zs_ne (by omega), k1 y y2, zs_ne (by omega)]
          exact a1 y y1 y2
        · rw [zs_eq, zs_same, cnt_t hp, ← hcc]
        · intro k hk
          rw [cnt_t hp, ← hcc] at hk
          rw [zs_ne (by decide), zs_ne (by decide), zs_ne (by decide), zs_eq, k1 35 (by decide), zs_eq, k1 36 (by decide), zs_ne (by decide)]
          by_cases ck : k = cc
          · subst ck
            rw [zs_same, zs_same, hn1]
            exact ⟨rfl, rfl⟩
          · rw [zs_other ck, zs_other ck]
            exact a3 k (by omega)
      · have hp : ¬ pO (sc I 49) x i = true := fun q => c (of_decide_eq_true q)
        refine ⟨K, ?_, a1, by rw [cnt_f hp]; exact a2, by rw [cnt_f hp]; exact a3⟩
        simp (disch := omega) only [f_X0_collect_L8, sdm, ↓zm1, ↓zm2, ↓zm3, ↓zm4, ↓zm5, ↓zm6, ↓zm7, ↓zm8, ↓zm9, ↓zm10, ↓zm11, ↓zm12, ↓zm13, ↓zm14, ↓zm15, ↓zm16, ↓zm17, ↓zm18, ↓zm19, ↓zm20, ↓zm1000000000, zq0, zq1, zq2, zq3, zq4, zq5, zq6, zq7, zq8, zq9, zq10, zq11, zq12, zq13, zq14, zq15, zq16, zq17, zq18, zq19, zq20, zq21, zq22, zq23, zq24, zq25, zq26, zq30, zq31, zq32, zq33, zq34, zq35, zq36, zq37, zq38, zq39, zq40, zq41, zq42, zq43, zq44, zq45, zq47, zq48, zq57, zq59, zq60, zq61, zq62, zq80, zq91, zq93, zq97, zq99, zq100, zq107, zq110, zq120, zq122, zq128, zq149, zq160, zq208, zq240, zq251, zq255, zq256, zq500, zq936, zq999, zq1600, zq1800, zq2048, zq3200, zq4160, zq9999, zq12345, zq1000000, zq1048576, zq100000000, bnd, jnt, zg_ok, gz_0, gz_1, gz_n0, gz_n1, zs_eq, zs_ne, zs_same, zs_other, zA_eq, zA_ne, Option.bind_some, Option.bind_none, nI_add, pk_mul, nI_clamp, nI_leI, nI_ltI, nI_eq, pk_sub, nI_mI, nI_eq_mI, mI_eq_nI, nI_lt_m, ldI_ok, inb_ok, if_pos, if_neg, dv_ok, rem_ok, div_ok, if_true, if_false, zg_ok h0, h1, e6, e52, if_neg c]
    · intro n K ha
      have e6 : K t 3 = nI nl := by rw [ha.1 t (by omega) (by omega)]; exact h6
      refine ⟨K, ?_, ha⟩
      simp (disch := omega) only [f_X0_collect_L8, sdm, ↓zm1, ↓zm2, ↓zm3, ↓zm4, ↓zm5, ↓zm6, ↓zm7, ↓zm8, ↓zm9, ↓zm10, ↓zm11, ↓zm12, ↓zm13, ↓zm14, ↓zm15, ↓zm16, ↓zm17, ↓zm18, ↓zm19, ↓zm20, ↓zm1000000000, zq0, zq1, zq2, zq3, zq4, zq5, zq6, zq7, zq8, zq9, zq10, zq11, zq12, zq13, zq14, zq15, zq16, zq17, zq18, zq19, zq20, zq21, zq22, zq23, zq24, zq25, zq26, zq30, zq31, zq32, zq33, zq34, zq35, zq36, zq37, zq38, zq39, zq40, zq41, zq42, zq43, zq44, zq45, zq47, zq48, zq57, zq59, zq60, zq61, zq62, zq80, zq91, zq93, zq97, zq99, zq100, zq107, zq110, zq120, zq122, zq128, zq149, zq160, zq208, zq240, zq251, zq255, zq256, zq500, zq936, zq999, zq1600, zq1800, zq2048, zq3200, zq4160, zq9999, zq12345, zq1000000, zq1048576, zq100000000, bnd, jnt, zg_ok, gz_0, gz_1, gz_n0, gz_n1, zs_eq, zs_ne, zs_same, zs_other, zA_eq, zA_ne, Option.bind_some, Option.bind_none, nI_add, pk_mul, nI_clamp, nI_leI, nI_ltI, nI_eq, pk_sub, nI_mI, nI_eq_mI, mI_eq_nI, nI_lt_m, ldI_ok, inb_ok, if_pos, if_neg, dv_ok, rem_ok, div_ok, if_true, if_false, zg_ok h0, h1, e6]
  obtain ⟨K, k1, k2⟩ := key
  refine ⟨K, ?_, k2⟩
  have k1' : f_X0_collect_L8 fu fu (sI I 34 2 0) R 49 x (nI w) 0 = some K := k1
  unfold f_X0_collect
  simp only [bnd, k1', Option.bind_some]
