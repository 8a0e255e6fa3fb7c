/-! moves: the search, without its cells -/
def upP (p : Nat → Nat) (l h : Nat) : Nat → Nat := fun j => if j = l then h else p j
theorem upP_eq {p : Nat → Nat} {l h : Nat} : upP p l h l = h := if_pos rfl
theorem upP_ne {p : Nat → Nat} {l h j : Nat} (hj : j ≠ l) : upP p l h j = p j := if_neg hj
theorem upP_back {p : Nat → Nat} {l h : Nat} : upP (upP p l h) l (p l) = p := by
  funext j
  by_cases c : j = l
  · rw [c, upP_eq]
  · rw [upP_ne c, upP_ne c]
def sgP (tg p : Nat → Nat) (l : Nat) : Bool := decide (tg l ≠ 99) && decide (p l ≠ tg l)
theorem sgP_iff {tg p : Nat → Nat} {l : Nat} : sgP tg p l = true ↔ tg l ≠ 99 ∧ p l ≠ tg l := by
  unfold sgP
  rw [Bool.and_eq_true, decide_eq_true_iff, decide_eq_true_iff]
def nS (nl : Nat) (tg p : Nat → Nat) : Nat := cnt (sgP tg p) nl
def mvP (st : Nat → Bool) (may : (Nat → Nat) → Nat → Nat → Bool) (p : Nat → Nat) (l h : Nat) : Prop := st l = true ∧ h ≠ p l ∧ may p l h = true
/-- so many moves, and none is astray -/
def EnP (nl nh : Nat) (st : Nat → Bool) (tg : Nat → Nat) (may : (Nat → Nat) → Nat → Nat → Bool) : Nat → (Nat → Nat) → Prop
  | 0, p => nS nl tg p = 0
  | k + 1, p => ∃ l h, l < nl ∧ h < nh ∧ mvP st may p l h ∧ EnP nl nh st tg may k (upP p l h)
theorem cnt_up {f g : Nat → Bool} {a : Nat} (ho : ∀ i, i ≠ a → g i = f i) : ∀ n, (a < n → cnt g n + (if f a = true then 1 else 0) = cnt f n + (if g a = true then 1 else 0)) ∧ (n ≤ a → cnt g n = cnt f n) := by
  intro n
  induction n with
  | zero => exact ⟨fun h => absurd h (by omega), fun _ => rfl⟩
  | succ n ih =>
    have e1 : cnt g (n + 1) = cnt g n + (if g n = true then 1 else 0) := rfl
    have e2 : cnt f (n + 1) = cnt f n + (if f n = true then 1 else 0) := rfl
    rw [e1, e2]
    by_cases c : n = a
    · subst c
      have := ih.2 (Nat.le_refl _)
      refine ⟨fun _ => ?_, fun h => absurd h (by omega)⟩
      rw [this]
      omega
    · have := ho n c
      rw [this]
      refine ⟨fun h => ?_, fun h => ?_⟩
      · have := ih.1 (by omega)
        omega
      · rw [ih.2 (by omega)]
theorem cnt_zero {f : Nat → Bool} : ∀ n, cnt f n = 0 → ∀ i, i < n → ¬ f i = true := by
  intro n
  induction n with
  | zero => intro _ i hi; omega
  | succ n ih =>
    intro h i hi w
    have e : cnt f (n + 1) = cnt f n + (if f n = true then 1 else 0) := rfl
    by_cases c : i = n
    · subst c
      rw [if_pos w] at e
      omega
    · exact ih (by omega) i (by omega) w
theorem cnt_some {f : Nat → Bool} : ∀ n, 0 < cnt f n → ∃ i, i < n ∧ f i = true := by
  intro n
  induction n with
  | zero => intro h; exact absurd h (by show ¬ 0 < 0; omega)
  | succ n ih =>
    intro h
    by_cases c : f n = true
    · exact ⟨n, by omega, c⟩
    · rw [cnt_f c] at h
      obtain ⟨i, i1, i2⟩ := ih h
      exact ⟨i, by omega, i2⟩
section
variable {nl nh : Nat} {st : Nat → Bool} {tg : Nat → Nat} {may : (Nat → Nat) → Nat → Nat → Bool}
theorem nS_up {p : Nat → Nat} {l h : Nat} (hl : l < nl) : nS nl tg (upP p l h) + (if sgP tg p l = true then 1 else 0) = nS nl tg p + (if tg l ≠ 99 ∧ h ≠ tg l then 1 else 0) := by
  have e := (cnt_up (f := sgP tg p) (g := sgP tg (upP p l h)) (a := l) (fun i hi => by unfold sgP; rw [upP_ne hi]) nl).1 hl
  unfold nS
  rw [e]
  congr 1
  by_cases c : tg l ≠ 99 ∧ h ≠ tg l
  · rw [if_pos c, if_pos (sgP_iff.mpr (by rw [upP_eq]; exact c))]
  · rw [if_neg c, if_neg (fun w => c (by have := sgP_iff.mp w; rw [upP_eq] at this; exact this))]
theorem En_le : ∀ k p, EnP nl nh st tg may k p → nS nl tg p ≤ k := by
  intro k
  induction k with
  | zero =>
    intro p h
    have : nS nl tg p = 0 := h
    omega
  | succ k ih =>
    intro p h
    obtain ⟨l, g, h1, h2, h3, h4⟩ := h
    have := ih _ h4
    have e := nS_up (tg := tg) (p := p) (l := l) (h := g) h1
    by_cases c : sgP tg p l = true
    · rw [if_pos c] at e; omega
    · rw [if_neg c] at e; omega
/-- as many moves as strays: each goes straight to its place -/
theorem En_step {k : Nat} {p : Nat → Nat} {l h : Nat} (hl : l < nl) (hn : nS nl tg p = k + 1) (he : nS nl tg (upP p l h) ≤ k) : sgP tg p l = true ∧ h = tg l := by
  have e := nS_up (tg := tg) (p := p) (l := l) (h := h) hl
  by_cases c : sgP tg p l = true
  · refine ⟨c, ?_⟩
    rw [if_pos c] at e
    by_cases c2 : tg l ≠ 99 ∧ h ≠ tg l
    · rw [if_pos c2] at e; omega
    · exact Decidable.not_not.mp (fun w => c2 ⟨(sgP_iff.mp c).1, w⟩)
  · rw [if_neg c] at e
    omega
theorem En_help {p : Nat → Nat} {l h : Nat} (hs : nS nl tg p = 1) (hn : ¬ EnP nl nh st tg may 1 p) (hl : l < nl) (hh : h < 99) (hpl : p l < 99) (htg : ∀ u, u < nl → tg u ≠ 99 → tg u < nh ∧ st u = true) (h1 : ¬ sgP tg p l = true) (h2 : ¬ ∃ u, u < nl ∧ tg u = h ∧ p u ≠ h) (h3 : ¬ ∃ u, u < nl ∧ tg u = p l ∧ p u ≠ p l) (hloc : ∀ m t, m < nl → m ≠ l → st m = true → t < nh → t ≠ h → t ≠ p l → may (upP p l h) m t = may p m t) : ¬ EnP nl nh st tg may 1 (upP p l h) := by
  rintro ⟨l2, g2, a1, a2, a3, a4⟩
  have a4' : nS nl tg (upP (upP p l h) l2 g2) = 0 := a4
  obtain ⟨m, m1, m2⟩ := cnt_some (f := sgP tg p) nl (by show 0 < nS nl tg p; omega)
  obtain ⟨m3, m4⟩ := sgP_iff.mp m2
  have hml : m ≠ l := fun w => h1 (by rw [← w]; exact m2)
  obtain ⟨t1, t2⟩ := htg m m1 m3
  have th : tg m ≠ h := fun w => h2 ⟨m, m1, w, by rw [← w]; exact m4⟩
  have tp : tg m ≠ p l := fun w => h3 ⟨m, m1, w, by rw [← w]; exact m4⟩
  have z := cnt_zero (f := sgP tg (upP (upP p l h) l2 g2)) nl a4' m m1
  have e2 : m = l2 := Decidable.not_not.mp (fun w => z (sgP_iff.mpr ⟨m3, by rw [upP_ne w, upP_ne hml]; exact m4⟩))
  subst e2
  have e3 : g2 = tg m := Decidable.not_not.mp (fun w => z (sgP_iff.mpr ⟨m3, by rw [upP_eq]; exact w⟩))
  subst e3
  refine hn ⟨m, tg m, m1, t1, ⟨t2, fun w => m4 w.symm, ?_⟩, ?_⟩
  · rw [← hloc m (tg m) m1 hml t2 t1 th tp]
    exact a3.2.2
  · show nS nl tg (upP p m (tg m)) = 0
    have e := nS_up (tg := tg) (p := p) (l := m) (h := tg m) m1
    rw [if_pos m2, if_neg (fun w => w.2 rfl)] at e
    omega
theorem En_heavy {l : Nat} (hl : l < nl) (hm : ∀ p h, ¬ may p l h = true) : ∀ k p, sgP tg p l = true → ¬ EnP nl nh st tg may k p := by
  intro k
  induction k with
  | zero =>
    intro p hp he
    exact cnt_zero (f := sgP tg p) nl he l hl hp
  | succ k ih =>
    rintro p hp ⟨l2, g2, a1, a2, a3, a4⟩
    have hne : l ≠ l2 := fun w => hm p g2 (by rw [w]; exact a3.2.2)
    refine ih _ ?_ a4
    unfold sgP at hp ⊢
    rw [upP_ne hne]
    exact hp
end
/-- the key of a state: eight to a lake -/
def keyP (p : Nat → Nat) : Nat → Nat
  | 0 => 1
  | k + 1 => keyP p k * 8 + p k
theorem keyP_lt {p : Nat → Nat} (hp : ∀ l, p l < 8) : ∀ n, keyP p n < 2 * 8 ^ n ∧ 0 < keyP p n := by
  intro n
  induction n with
  | zero => exact ⟨by show 1 < 2 * 8 ^ 0; decide, by show 0 < 1; decide⟩
  | succ n ih =>
    have := hp n
    rw [Nat.pow_succ]
    show keyP p n * 8 + p n < _ ∧ 0 < keyP p n * 8 + p n
    omega
theorem keyP_inj {p q : Nat → Nat} (hp : ∀ l, p l < 8) (hq : ∀ l, q l < 8) : ∀ n, keyP p n = keyP q n → ∀ l, l < n → p l = q l := by
  intro n
  induction n with
  | zero => intro _ l hl; omega
  | succ n ih =>
    intro h l hl
    have h' : keyP p n * 8 + p n = keyP q n * 8 + q n := h
    have h1 := hp n
    have h2 := hq n
    by_cases c : l = n
    · rw [c]; omega
    · exact ih (by omega) l (by omega)
