/-! settling: groups of nets that are 0 by themselves -/
def sb (u v : Nat) : Prop := ∀ l, u.testBit l = true → v.testBit l = true
theorem sb_le {u v : Nat} (h : sb u v) : u ≤ v := by
  have e : u &&& v = u := by
    apply Nat.eq_of_testBit_eq
    intro l
    rw [Nat.testBit_and]
    cases hb : u.testBit l
    · rfl
    · rw [h l hb]; rfl
  rw [← e]
  exact Nat.and_le_right
theorem sb_refl {u : Nat} : sb u u := fun _ h => h
theorem sb_0 {u : Nat} : sb 0 u := by
  intro l hl
  rw [Nat.zero_testBit] at hl
  cases hl
theorem sb_trans {u v w : Nat} (h : sb u v) (h' : sb v w) : sb u w := fun l hl => h' l (h l hl)
theorem sb_xor {u p : Nat} (h : sb p u) : sb (u ^^^ p) u := by
  intro l hl
  rw [Nat.testBit_xor] at hl
  cases hu : u.testBit l
  · cases hp : p.testBit l
    · rw [hu, hp] at hl; cases hl
    · rw [h l hp] at hu; cases hu
  · rfl
theorem xor_xor {u p : Nat} : u ^^^ (u ^^^ p) = p := by rw [← Nat.xor_assoc, Nat.xor_self, Nat.zero_xor]
theorem xor_lt {u p : Nat} (h : sb p u) (hp : 0 < p) : u ^^^ p < u := by
  have h1 := sb_le (sb_xor h)
  rcases Nat.lt_or_ge (u ^^^ p) u with q | q
  · exact q
  · have e : u ^^^ p = u := by omega
    have : p = u ^^^ (u ^^^ p) := xor_xor.symm
    rw [e, Nat.xor_self] at this
    omega
/-- sums over a set, in the machine's own numbers -/
def SU (v : Nat → Int32) (n u : Nat) : Int32 := sm (fun o => if u.testBit o = true then v o else 0) n
theorem sm_add {f g h : Nat → Int32} {n : Nat} (e : ∀ i, i < n → f i = g i + h i) : sm f n = sm g n + sm h n := by
  induction n with
  | zero => rfl
  | succ n ih =>
    show sm f n + f n = (sm g n + g n) + (sm h n + h n)
    rw [ih (fun i hi => e i (by omega)), e n (by omega), Int32.add_assoc, Int32.add_assoc, ← Int32.add_assoc (sm h n), Int32.add_comm (sm h n) (g n), Int32.add_assoc]
theorem SU_split {v : Nat → Int32} {n u p : Nat} (h : sb p u) : SU v n u = SU v n p + SU v n (u ^^^ p) := by
  refine sm_add (fun i _ => ?_)
  show (if u.testBit i = true then v i else 0) = (if p.testBit i = true then v i else 0) + (if (u ^^^ p).testBit i = true then v i else 0)
  rw [Nat.testBit_xor]
  cases hp : p.testBit i
  · cases hu : u.testBit i
    · simp
    · simp
  · rw [h i hp]
    simp
theorem SU_0 {v : Nat → Int32} {n : Nat} : SU v n 0 = 0 := by
  unfold SU
  induction n with
  | zero => rfl
  | succ n ih =>
    show sm (fun o => if (0 : Nat).testBit o = true then v o else 0) n + (if (0 : Nat).testBit n = true then v n else 0) = 0
    rw [ih, Nat.zero_testBit]
    rfl
/-- the class's table -/
def ZT (c : Nat) (su : Nat → Int32) (z : Nat → Nat) : Prop := z 0 = 0 ∧ ∀ s, 0 < s → s < 2 ^ c → ∃ g, (∀ k, k < c → s.testBit k = true → z (s ^^^ 2 ^ k) ≤ g) ∧ (g = 0 ∨ ∃ k, k < c ∧ s.testBit k = true ∧ g = z (s ^^^ 2 ^ k)) ∧ z s = g + (if su s = 0 then 1 else 0)
/-- the reference's table -/
def PT (su : Nat → Int32) (p : Nat → Int) : Prop := p 0 = 0 ∧ ∀ u, 0 < u → u < 64 → (∀ q, 0 < q → sb q u → su q = 0 → 0 ≤ p (u ^^^ q) → p (u ^^^ q) + 1 ≤ p u) ∧ (p u = -1 ∨ ∃ q, 0 < q ∧ sb q u ∧ su q = 0 ∧ 0 ≤ p (u ^^^ q) ∧ p u = p (u ^^^ q) + 1)
theorem bit_sb {s k : Nat} (h : s.testBit k = true) : sb (2 ^ k) s := by
  intro l hl
  rw [Nat.testBit_two_pow] at hl
  have : k = l := of_decide_eq_true hl
  rw [← this]
  exact h
theorem pow_pos' {k : Nat} : 0 < 2 ^ k := Nat.pow_pos (by decide)
theorem sb_lt {s k c : Nat} (hs : s < 2 ^ c) (h : s.testBit k = true) : k < c := by
  rcases Nat.lt_or_ge k c with q | q
  · exact q
  · have z1 := Nat.ge_two_pow_of_testBit h
    have z2 : 2 ^ c ≤ 2 ^ k := Nat.pow_le_pow_right (by decide) q
    omega
theorem sb_out {s' s : Nat} (h : sb s' s) (hne : s' ≠ s) : ∃ k, s.testBit k = true ∧ ¬ s'.testBit k = true := by
  refine Classical.byContradiction (fun q => hne ?_)
  apply Nat.eq_of_testBit_eq
  intro l
  cases hb : s.testBit l
  · cases hb' : s'.testBit l
    · rfl
    · rw [h l hb'] at hb; cases hb
  · cases hb' : s'.testBit l
    · exact absurd ⟨l, hb, by rw [hb']; decide⟩ q
    · rfl
theorem sb_del {s' s k : Nat} (h : sb s' s) (hk : ¬ s'.testBit k = true) : sb s' (s ^^^ 2 ^ k) := by
  intro l hl
  rw [Nat.testBit_xor, h l hl, Nat.testBit_two_pow]
  have : ¬ k = l := fun q => hk (by rw [q]; exact hl)
  rw [decide_eq_false this]
  rfl
theorem ZT.mono {c : Nat} {su : Nat → Int32} {z : Nat → Nat} (h : ZT c su z) : ∀ s, s < 2 ^ c → ∀ s', sb s' s → z s' ≤ z s := by
  intro s
  induction s using Nat.strongRecOn with
  | ind s ih =>
    intro hs s' hsb
    by_cases e : s' = s
    · rw [e]; exact Nat.le_refl _
    · obtain ⟨k, k1, k2⟩ := sb_out hsb e
      have hkc := sb_lt hs k1
      have hlt := xor_lt (bit_sb k1) pow_pos'
      have h1 := ih (s ^^^ 2 ^ k) hlt (by omega) s' (sb_del hsb k2)
      have hs0 : 0 < s := by omega
      obtain ⟨g, g1, g2, g3⟩ := h.2 s hs0 hs
      have := g1 k hkc k1
      omega
section
variable {c n : Nat} {v : Nat → Int32} {z : Nat → Nat} {p : Nat → Int} {m : Nat → Nat}
theorem ex_bit (hi : inc m c) {s k : Nat} (hk : k < c) : (exM m s c).testBit (m k) = true ↔ s.testBit k = true := by
  rw [exM_bit c hi]
  constructor
  · rintro ⟨k', h1, h2, h3⟩
    have : k' = k := by
      rcases Nat.lt_trichotomy k' k with q | q | q
      · have := hi k' k q hk; omega
      · exact q
      · have := hi k k' q h1; omega
    rw [← this]
    exact h3
  · intro h
    exact ⟨k, hk, rfl, h⟩
theorem ex_sb (hi : inc m c) {s s' : Nat} (h : sb s' s) : sb (exM m s' c) (exM m s c) := by
  intro l hl
  obtain ⟨k, h1, h2, h3⟩ := (exM_bit c hi).mp hl
  exact (exM_bit c hi).mpr ⟨k, h1, h2, h k h3⟩
theorem ex_sb' (hi : inc m c) {s s' : Nat} (hs' : s' < 2 ^ c) (h : sb (exM m s' c) (exM m s c)) : sb s' s := by
  intro k hk
  have hkc := sb_lt hs' hk
  exact (ex_bit hi hkc).mp (h _ ((ex_bit hi hkc).mpr hk))
theorem ex_pos (hi : inc m c) {s : Nat} (hs : s < 2 ^ c) (h : 0 < s) : 0 < exM m s c := by
  have h0 := exM_mono c 0 s hi h hs
  omega
theorem settle_ge (hi : inc m c) (hm : ∀ k, k < c → m k < 6) (hZ : ZT c (fun s => SU v n (exM m s c)) z) (hP : PT (SU v n) p) : ∀ s, s < 2 ^ c → 0 ≤ p (exM m s c) → SU v n (exM m s c) = 0 ∧ p (exM m s c) ≤ z s := by
  intro s
  induction s using Nat.strongRecOn with
  | ind s ih =>
    intro hs h0
    by_cases e : s = 0
    · subst e
      have e0 : exM m 0 c = 0 := by
        have hc0 := exM_congr (m := m) (s := 0) (s' := 0) c (fun _ _ => rfl)
        apply Nat.eq_of_testBit_eq
        intro l
        rw [Nat.zero_testBit]
        cases hb : (exM m 0 c).testBit l
        · rfl
        · obtain ⟨k, _, _, k3⟩ := (exM_bit c hi).mp hb
          rw [Nat.zero_testBit] at k3
          cases k3
      rw [e0, hP.1, hZ.1]
      exact ⟨SU_0, Int.le_refl _⟩
    · have hs0 : 0 < s := by omega
      have hu0 := ex_pos hi hs hs0
      have hu64 : exM m s c < 64 := exM_lt c 6 hi hm
      obtain ⟨u, hu⟩ : ∃ u, u = exM m s c := ⟨_, rfl⟩
      rw [← hu] at h0 hu0 hu64 ⊢
      rcases (hP.2 u hu0 hu64).2 with q | ⟨q, q1, q2, q3, q4, q5⟩
      · omega
      · have hsx := sb_xor q2
        obtain ⟨s', t1, t2⟩ := exM_sur (u := u ^^^ q) hi (fun l hl => by
          have := hsx l hl
          rw [hu] at this
          obtain ⟨k, k1, k2, _⟩ := (exM_bit c hi).mp this
          exact ⟨k, k1, k2⟩)
        have hss : sb s' s := ex_sb' hi t1 (by rw [t2, ← hu]; exact hsx)
        have hne : s' ≠ s := fun w => by
          have := xor_lt q2 q1
          rw [← t2, w, ← hu] at this
          omega
        have hlt : s' < s := by
          have := sb_le hss
          omega
        obtain ⟨a1, a2⟩ := ih s' hlt t1 (by rw [t2]; exact q4)
        rw [t2] at a1 a2
        have hsum : SU v n u = 0 := by
          rw [SU_split q2, q3, a1]
          rfl
        obtain ⟨k, k1, k2⟩ := sb_out hss hne
        have hkc := sb_lt hs k1
        obtain ⟨g, g1, g2, g3⟩ := hZ.2 s hs0 hs
        have hz := g1 k hkc k1
        have hzm := hZ.mono (s ^^^ 2 ^ k) (by have := xor_lt (bit_sb k1) (pow_pos' (k := k)); omega) s' (sb_del hss k2)
        have g3 : z s = g + (if SU v n (exM m s c) = 0 then 1 else 0) := g3
        rw [← hu, if_pos hsum] at g3
        refine ⟨hsum, ?_⟩
        rw [q5, g3]
        omega
theorem settle_le (hi : inc m c) (hm : ∀ k, k < c → m k < 6) (hZ : ZT c (fun s => SU v n (exM m s c)) z) (hP : PT (SU v n) p) : ∀ s, s < 2 ^ c → (SU v n (exM m s c) = 0 → 0 ≤ p (exM m s c) ∧ (z s : Int) ≤ p (exM m s c)) ∧ ∃ s', sb s' s ∧ SU v n (exM m s' c) = 0 ∧ 0 ≤ p (exM m s' c) ∧ (z s : Int) ≤ p (exM m s' c) := by
  have e0 : exM m 0 c = 0 := by
    apply Nat.eq_of_testBit_eq
    intro l
    rw [Nat.zero_testBit]
    cases hb : (exM m 0 c).testBit l
    · rfl
    · obtain ⟨k, _, _, k3⟩ := (exM_bit c hi).mp hb
      rw [Nat.zero_testBit] at k3
      cases k3
  intro s
  induction s using Nat.strongRecOn with
  | ind s ih =>
    intro hs
    by_cases e : s = 0
    · subst e
      rw [e0, hP.1, hZ.1]
      exact ⟨fun _ => ⟨Int.le_refl _, Int.le_refl _⟩, 0, sb_refl, by rw [e0]; exact SU_0, by rw [e0, hP.1]; exact Int.le_refl _, by rw [e0, hP.1]; exact Int.le_refl _⟩
    · have hs0 : 0 < s := by omega
      obtain ⟨g, g1, g2, g3⟩ := hZ.2 s hs0 hs
      obtain ⟨T, T1, T2, T3, T4, T5⟩ : ∃ T, sb T s ∧ T ≠ s ∧ SU v n (exM m T c) = 0 ∧ 0 ≤ p (exM m T c) ∧ (g : Int) ≤ p (exM m T c) := by
        rcases g2 with q | ⟨k, k1, k2, k3⟩
        · exact ⟨0, sb_0, by omega, by rw [e0]; exact SU_0, by rw [e0, hP.1]; exact Int.le_refl _, by rw [e0, hP.1, q]; exact Int.le_refl _⟩
        · have hlt := xor_lt (bit_sb k2) (pow_pos' (k := k))
          obtain ⟨_, s', t1, t2, t3, t4⟩ := ih (s ^^^ 2 ^ k) hlt (by omega)
          refine ⟨s', sb_trans t1 (sb_xor (bit_sb k2)), fun w => ?_, t2, t3, by rw [k3]; exact t4⟩
          have := sb_le t1
          omega
      have g3 : z s = g + (if SU v n (exM m s c) = 0 then 1 else 0) := g3
      by_cases hsum : SU v n (exM m s c) = 0
      · have hTs : T < s := by
          have := sb_le T1
          omega
        have hTc : T < 2 ^ c := by omega
        have hx := ex_sb hi T1
        have hmono := exM_mono c T s hi hTs hs
        have hq0 : 0 < exM m s c ^^^ exM m T c := by
          rcases Nat.eq_zero_or_pos (exM m s c ^^^ exM m T c) with w | w
          · have : exM m T c = exM m s c := by
              have e1 := xor_xor (u := exM m s c) (p := exM m T c)
              rw [w, Nat.xor_zero] at e1
              exact e1.symm
            omega
          · exact w
        have hsplit := SU_split (v := v) (n := n) hx
        rw [hsum, T3, Int32.zero_add] at hsplit
        have hu0 := ex_pos hi hs hs0
        have hu64 : exM m s c < 64 := exM_lt c 6 hi hm
        have hrec := (hP.2 _ hu0 hu64).1 (exM m s c ^^^ exM m T c) hq0 (sb_xor hx) hsplit.symm (by rw [xor_xor]; exact T4)
        rw [xor_xor] at hrec
        rw [if_pos hsum] at g3
        have r1 : (z s : Int) ≤ p (exM m s c) := by
          rw [g3]
          push_cast
          omega
        have r2 : 0 ≤ p (exM m s c) := by omega
        exact ⟨fun _ => ⟨r2, r1⟩, s, sb_refl, hsum, r2, r1⟩
      · rw [if_neg hsum, Nat.add_zero] at g3
        exact ⟨fun w => absurd w hsum, T, T1, T3, T4, by rw [g3]; exact T5⟩
theorem settle_eq (hi : inc m c) (hm : ∀ k, k < c → m k < 6) (hZ : ZT c (fun s => SU v n (exM m s c)) z) (hP : PT (SU v n) p) {s : Nat} (hs : s < 2 ^ c) (h : SU v n (exM m s c) = 0) : p (exM m s c) = z s := by
  obtain ⟨a, b⟩ := (settle_le hi hm hZ hP s hs).1 h
  have := (settle_ge hi hm hZ hP s hs a).2
  omega
end
/-- the subsets of a set, from the largest down -/
theorem sub_pred : ∀ n u p v, u < 2 ^ n → p < 2 ^ n → v < 2 ^ n → sb p u → sb v u → v < p → v ≤ (p - 1) &&& u := by
  intro n
  induction n with
  | zero =>
    intro u p v h1 h2 h3 _ _ h
    rw [Nat.pow_zero] at h2
    omega
  | succ n ih =>
    intro u p v h1 h2 h3 hp hv h
    rw [Nat.pow_succ] at h1 h2 h3
    have b0 : ∀ x : Nat, x.testBit 0 = decide (x % 2 = 1) := fun x => Nat.testBit_zero x
    have bs : ∀ (x l : Nat), x.testBit (l + 1) = (x / 2).testBit l := fun x l => Nat.testBit_succ x l
    have hp2 : sb (p / 2) (u / 2) := fun l hl => by rw [← bs]; exact hp (l + 1) (by rw [bs]; exact hl)
    have hv2 : sb (v / 2) (u / 2) := fun l hl => by rw [← bs]; exact hv (l + 1) (by rw [bs]; exact hl)
    have hp0 : p % 2 = 1 → u % 2 = 1 := fun w => by
      have := hp 0 (by rw [b0]; exact decide_eq_true w)
      rw [b0] at this
      exact of_decide_eq_true this
    have hv0 : v % 2 = 1 → u % 2 = 1 := fun w => by
      have := hv 0 (by rw [b0]; exact decide_eq_true w)
      rw [b0] at this
      exact of_decide_eq_true this
    have hd : ((p - 1) &&& u) / 2 = ((p - 1) / 2) &&& (u / 2) := Nat.and_div_two
    have hmod : ((p - 1) &&& u) % 2 = 1 ↔ (p - 1) % 2 = 1 ∧ u % 2 = 1 := by
      have e : ((p - 1) &&& u).testBit 0 = ((p - 1).testBit 0 && u.testBit 0) := Nat.testBit_and _ _ _
      rw [b0, b0, b0] at e
      constructor
      · intro w
        rw [decide_eq_true w] at e
        have := e.symm
        rw [Bool.and_eq_true] at this
        exact ⟨of_decide_eq_true this.1, of_decide_eq_true this.2⟩
      · rintro ⟨w1, w2⟩
        rw [decide_eq_true w1, decide_eq_true w2] at e
        exact of_decide_eq_true e
    by_cases c : p % 2 = 1
    · have e1 : (p - 1) / 2 = p / 2 := by omega
      have e2 : p / 2 &&& u / 2 = p / 2 := by
        apply Nat.eq_of_testBit_eq
        intro l
        rw [Nat.testBit_and]
        cases hb : (p / 2).testBit l
        · rfl
        · rw [hp2 l hb]; rfl
      rw [e1, e2] at hd
      omega
    · have e1 : (p - 1) / 2 = p / 2 - 1 := by omega
      rw [e1] at hd
      have h4 := ih (u / 2) (p / 2) (v / 2) (by omega) (by omega) (by omega) hp2 hv2 (by omega)
      rw [← hd] at h4
      have h5 : (p - 1) % 2 = 1 := by omega
      by_cases cv : v % 2 = 1
      · have := hmod.mpr ⟨h5, hv0 cv⟩
        omega
      · omega
