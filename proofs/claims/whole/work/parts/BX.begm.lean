/-! the reference's scene begins -/
section
variable {b no nl : Nat}
theorem beg9_M (hb : b < 2) (hn : nl ≤ 8) : ∀ m c, c + m = 8 → ∀ (J : HI) (n : Nat), m < n → J 106 b = nI nl → J 100 13 = nI b → ∃ J', f_X12_begin_L9 n J (nI c) = some J' ∧ (∀ x, x ≠ 128 → x ≠ 129 → x ≠ 130 → J' x = J x) ∧ (∀ k, c ≤ k → k < 8 → J' 128 k = (if nl ≤ k then nI 0 else J 107 (8 * b + k)) ∧ J' 129 k = (if nl ≤ k then mI 1 else J 108 (8 * b + k)) ∧ J' 130 k = (if nl ≤ k then mI 1 else J 109 (8 * b + k))) ∧ ∀ k, k < c ∨ 8 ≤ k → J' 128 k = J 128 k ∧ J' 129 k = J 129 k ∧ J' 130 k = J 130 k := by
  intro m
  induction m with
  | zero =>
    intro c hc J n hm h1 h2
    obtain ⟨n, rfl⟩ : ∃ z, n = z + 1 := ⟨n - 1, by omega⟩
    have z : (8 : Int32) ≤ nI c := by rw [show c = 8 by omega]; decide
    exact ⟨J, by simp only [f_X12_begin_L9, if_pos z], fun _ _ _ _ => rfl, fun k k1 k2 => by omega, fun _ _ => ⟨rfl, rfl, rfl⟩⟩
  | succ m ih =>
    intro c hc J n hm h1 h2
    obtain ⟨n, rfl⟩ : ∃ z, n = z + 1 := ⟨n - 1, by omega⟩
    have z : ¬ (8 : Int32) ≤ nI c := nI_ge (b := 8) (by omega) (by decide)
    have l5 : ∀ (k : Int32 → Option HI), ldI (J 106) 2 (nI b) k = k (nI nl) := fun k => by rw [ldI_ok (by omega), h1]
    have ix : 8 * nI b + nI c = nI (8 * b + c) := by rw [zq8, pk_mul, nI_add]
    have ib : ∀ q : Option HI, inb 208 (nI c) q = q := fun q => by rw [inb_ok (by omega)]
    have tc : (nI c).toNatClampNeg = c := nI_clamp (by omega)
    have A1 : nI c + 1 = nI (c + 1) := nI_1 c
    have n3 : ¬ (1 : Int32) = 0 := by decide
    obtain ⟨Ja, hJa⟩ : ∃ Ja, Ja = sI (sI (sI J 128 c (if nl ≤ c then nI 0 else J 107 (8 * b + c))) 129 c (if nl ≤ c then mI 1 else J 108 (8 * b + c))) 130 c (if nl ≤ c then mI 1 else J 109 (8 * b + c)) := ⟨_, rfl⟩
    have ax : ∀ x, x ≠ 128 → x ≠ 129 → x ≠ 130 → Ja x = J x := fun x x1 x2 x3 => by rw [hJa, zs_ne x3, zs_ne x2, zs_ne x1]
    have a8 : Ja 128 = upd (J 128) c (if nl ≤ c then nI 0 else J 107 (8 * b + c)) := by rw [hJa, zs_ne (by decide), zs_ne (by decide), zs_eq]
    have a9 : Ja 129 = upd (J 129) c (if nl ≤ c then mI 1 else J 108 (8 * b + c)) := by rw [hJa, zs_ne (by decide), zs_eq, zs_ne (by decide)]
    have a0 : Ja 130 = upd (J 130) c (if nl ≤ c then mI 1 else J 109 (8 * b + c)) := by rw [hJa, zs_eq, zs_ne (by decide), zs_ne (by decide)]
    obtain ⟨J', r1, r2, r3, r4⟩ := ih (c + 1) (by omega) Ja n (by omega) (by rw [ax 106 (by decide) (by decide) (by decide)]; exact h1) (by rw [ax 100 (by decide) (by decide) (by decide)]; exact h2)
    refine ⟨J', ?_, fun x x1 x2 x3 => by rw [r2 x x1 x2 x3, ax x x1 x2 x3], fun k k1 k2 => ?_, fun k hk => ?_⟩
    · rw [← r1]
      by_cases q : nl ≤ c
      · have zq : nI nl ≤ nI c := nI_le q (by omega)
        rw [if_pos q, if_pos q, if_pos q] at hJa
        rw [hJa]
        simp only [f_X12_begin_L9, if_neg z, h2, l5, jnt, if_pos zq, if_true, ib, tc, bnd, A1]
        rfl
      · have zq : ¬ nI nl ≤ nI c := nI_ge (by omega) (by omega)
        rw [if_neg q, if_neg q, if_neg q] at hJa
        have l7 : ∀ (k : Int32 → Option HI), ldI (J 107) 16 (nI (8 * b + c)) k = k (J 107 (8 * b + c)) := fun k => by rw [ldI_ok (by omega)]
        have l8 : ∀ (k : Int32 → Option HI), ldI (J 108) 16 (nI (8 * b + c)) k = k (J 108 (8 * b + c)) := fun k => by rw [ldI_ok (by omega)]
        have l9 : ∀ (k : Int32 → Option HI), ldI (J 109) 16 (nI (8 * b + c)) k = k (J 109 (8 * b + c)) := fun k => by rw [ldI_ok (by omega)]
        have e1 : ∀ v, (sI J 128 c v) 100 = J 100 := fun v => zs_ne (by decide)
        have e2 : ∀ v, (sI J 128 c v) 108 = J 108 := fun v => zs_ne (by decide)
        have e3 : ∀ v w, (sI (sI J 128 c v) 129 c w) 100 = J 100 := fun v w => by rw [zs_ne (by decide), zs_ne (by decide)]
        have e4 : ∀ v w, (sI (sI J 128 c v) 129 c w) 109 = J 109 := fun v w => by rw [zs_ne (by decide), zs_ne (by decide)]
        rw [hJa]
        simp only [f_X12_begin_L9, if_neg z, h2, l5, jnt, if_neg zq, if_neg n3, ix, l7, ib, tc, bnd, e1, e2, l8, e3, e4, l9, A1]
    · by_cases q : k = c
      · subst q
        obtain ⟨u1, u2, u3⟩ := r4 k (by omega)
        rw [u1, u2, u3, a8, a9, a0, zs_same, zs_same, zs_same]
        exact ⟨rfl, rfl, rfl⟩
      · obtain ⟨u1, u2, u3⟩ := r3 k (by omega) k2
        rw [ax 107 (by decide) (by decide) (by decide)] at u1
        rw [ax 108 (by decide) (by decide) (by decide)] at u2
        rw [ax 109 (by decide) (by decide) (by decide)] at u3
        exact ⟨u1, u2, u3⟩
    · obtain ⟨u1, u2, u3⟩ := r4 k (by omega)
      rw [u1, u2, u3, a8, a9, a0, zs_other (by omega), zs_other (by omega), zs_other (by omega)]
      exact ⟨rfl, rfl, rfl⟩
theorem beg134_M {a : Nat} (hb : b < 2) (hn : no ≤ 6) (ha : a < 6) : ∀ m c, c + m = 6 → ∀ (J : HI) (n : Nat), m < n → J 105 b = nI no → J 100 13 = nI b → ∃ J', f_X12_begin_L134 n J (nI a) (nI c) = some J' ∧ (∀ x, x ≠ 131 → J' x = J x) ∧ (∀ d, c ≤ d → d < 6 → J' 131 (6 * a + d) = (if a < no ∧ d < no then J 110 (36 * b + 6 * a + d) else nI 0)) ∧ ∀ i, (∀ d, c ≤ d → d < 6 → i ≠ 6 * a + d) → J' 131 i = J 131 i := by
  intro m
  induction m with
  | zero =>
    intro c hc J n hm h1 h2
    obtain ⟨n, rfl⟩ : ∃ z, n = z + 1 := ⟨n - 1, by omega⟩
    have z : (6 : Int32) ≤ nI c := by rw [show c = 6 by omega]; decide
    exact ⟨J, by simp only [f_X12_begin_L134, if_pos z], fun _ _ => rfl, fun k k1 k2 => by omega, fun _ _ => rfl⟩
  | succ m ih =>
    intro c hc J n hm h1 h2
    obtain ⟨n, rfl⟩ : ∃ z, n = z + 1 := ⟨n - 1, by omega⟩
    have z : ¬ (6 : Int32) ≤ nI c := nI_ge (b := 6) (by omega) (by decide)
    have l5 : ∀ (k : Int32 → Option HI), ldI (J 105) 2 (nI b) k = k (nI no) := fun k => by rw [ldI_ok (by omega), h1]
    have ix : 6 * nI a + nI c = nI (6 * a + c) := by rw [zq6, pk_mul, nI_add]
    have iy : 6 * (6 * nI b + nI a) + nI c = nI (36 * b + 6 * a + c) := by rw [zq6, pk_mul, nI_add, pk_mul, nI_add]; congr 1; omega
    have ib : ∀ q : Option HI, inb 936 (nI (6 * a + c)) q = q := fun q => by rw [inb_ok (by omega)]
    have tc : (nI (6 * a + c)).toNatClampNeg = 6 * a + c := nI_clamp (by omega)
    have l10 : ∀ (k : Int32 → Option HI), ldI (J 110) 72 (nI (36 * b + 6 * a + c)) k = k (J 110 (36 * b + 6 * a + c)) := fun k => by rw [ldI_ok (by omega)]
    have A1 : nI c + 1 = nI (c + 1) := nI_1 c
    obtain ⟨v, hv⟩ : ∃ v, v = (if a < no ∧ c < no then J 110 (36 * b + 6 * a + c) else nI 0) := ⟨_, rfl⟩
    obtain ⟨Ja, hJa⟩ : ∃ Ja, Ja = sI J 131 (6 * a + c) v := ⟨_, rfl⟩
    obtain ⟨J', r1, r2, r3, r4⟩ := ih (c + 1) (by omega) Ja n (by omega) (by rw [hJa, zs_ne (by decide)]; exact h1) (by rw [hJa, zs_ne (by decide)]; exact h2)
    refine ⟨J', ?_, fun x hx => by rw [r2 x hx, hJa, zs_ne hx], fun d d1 d2 => ?_, fun i hi => ?_⟩
    · rw [← r1, hJa, hv]
      by_cases q1 : a < no
      · have z1 : ¬ nI no ≤ nI a := nI_ge q1 (by omega)
        by_cases q2 : c < no
        · have z2 : ¬ nI no ≤ nI c := nI_ge q2 (by omega)
          rw [if_pos ⟨q1, q2⟩]
          simp only [f_X12_begin_L134, if_neg z, h2, l5, jnt, if_neg z1, if_neg z2, iy, l10, ix, ib, tc, bnd, A1]
        · have z2 : nI no ≤ nI c := nI_le (by omega) (by omega)
          rw [if_neg (fun w => q2 w.2)]
          simp only [f_X12_begin_L134, if_neg z, h2, l5, jnt, if_neg z1, if_pos z2, ix, ib, tc, bnd, A1]
          rfl
      · have z1 : nI no ≤ nI a := nI_le (by omega) (by omega)
        rw [if_neg (fun w => q1 w.1)]
        simp only [f_X12_begin_L134, if_neg z, h2, l5, jnt, if_pos z1, ix, ib, tc, bnd, A1]
        rfl
    · by_cases q : d = c
      · rw [q, r4 _ (fun d w1 w2 => by omega), hJa, zs_eq, zs_same]
        exact hv
      · rw [r3 d (by omega) d2, hJa, zs_ne (by decide)]
    · rw [r4 i (fun d w1 w2 => hi d (by omega) w2), hJa, zs_eq, zs_other (hi c (Nat.le_refl _) (by omega))]
theorem beg126_M {fu : Nat} (hb : b < 2) (hn : no ≤ 6) (hf : 100 < fu) : ∀ m a, a + m = 6 → ∀ (J : HI) (n : Nat), m < n → J 105 b = nI no → J 100 13 = nI b → ∃ J', f_X12_begin_L126 fu n J (nI a) = some J' ∧ (∀ x, x ≠ 131 → J' x = J x) ∧ (∀ c d, a ≤ c → c < 6 → d < 6 → J' 131 (6 * c + d) = (if c < no ∧ d < no then J 110 (36 * b + 6 * c + d) else nI 0)) ∧ ∀ i, i < 6 * a ∨ 36 ≤ i → J' 131 i = J 131 i := by
  intro m
  induction m with
  | zero =>
    intro a hc J n hm h1 h2
    obtain ⟨n, rfl⟩ : ∃ z, n = z + 1 := ⟨n - 1, by omega⟩
    have z : (6 : Int32) ≤ nI a := by rw [show a = 6 by omega]; decide
    exact ⟨J, by simp only [f_X12_begin_L126, if_pos z], fun _ _ => rfl, fun c d k1 k2 => by omega, fun _ _ => rfl⟩
  | succ m ih =>
    intro a hc J n hm h1 h2
    obtain ⟨n, rfl⟩ : ∃ z, n = z + 1 := ⟨n - 1, by omega⟩
    have z : ¬ (6 : Int32) ≤ nI a := nI_ge (b := 6) (by omega) (by decide)
    have A1 : nI a + 1 = nI (a + 1) := nI_1 a
    obtain ⟨Ja, s1, s2, s3, s4⟩ := beg134_M (a := a) hb hn (by omega) 6 0 (by decide) J fu (by omega) h1 h2
    have s1' : f_X12_begin_L134 fu J (nI a) 0 = some Ja := s1
    obtain ⟨J', r1, r2, r3, r4⟩ := ih (a + 1) (by omega) Ja n (by omega) (by rw [s2 105 (by decide)]; exact h1) (by rw [s2 100 (by decide)]; exact h2)
    refine ⟨J', ?_, fun x hx => by rw [r2 x hx, s2 x hx], fun c d d1 d2 d3 => ?_, fun i hi => ?_⟩
    · rw [← r1]
      simp only [f_X12_begin_L126, if_neg z, s1', Option.bind_some, A1]
    · by_cases q : c = a
      · subst q
        rw [r4 _ (by omega), s3 d (Nat.zero_le _) d3]
      · rw [r3 c d (by omega) d2 d3, s2 110 (by decide)]
    · rw [r4 i (by omega), s4 i (fun d w1 w2 => by omega)]
theorem begin_M {fu : Nat} {J : HI} (hb : b < 2) (hn : no ≤ 6) (hl : nl ≤ 8) (hf : 100 < fu) (h6 : J 106 b = nI nl) (h5 : J 105 b = nI no) (h13 : J 100 13 = nI b) : ∃ J', f_X12_begin fu J = some J' ∧ (∀ x, x ≠ 100 → ¬ (127 ≤ x ∧ x ≤ 132) → J' x = J x) ∧ (∀ s, s ≠ 54 → s ≠ 66 → J' 100 s = J 100 s) ∧ J' 100 54 = nI 0 ∧ J' 100 66 = nI 0 ∧ J' 127 0 = nI 0 ∧ J' 132 0 = nI 0 ∧ (∀ k, k < 8 → J' 128 k = (if nl ≤ k then nI 0 else J 107 (8 * b + k)) ∧ J' 129 k = (if nl ≤ k then mI 1 else J 108 (8 * b + k)) ∧ J' 130 k = (if nl ≤ k then mI 1 else J 109 (8 * b + k))) ∧ ∀ c d, c < 6 → d < 6 → J' 131 (6 * c + d) = (if c < no ∧ d < no then J 110 (36 * b + 6 * c + d) else nI 0) := by
  obtain ⟨J1, hJ1⟩ : ∃ J1, J1 = sI J 127 0 0 := ⟨_, rfl⟩
  have x1 : ∀ x, x ≠ 127 → J1 x = J x := fun x hx => by rw [hJ1, zs_ne hx]
  obtain ⟨J2, a1, a2, a3, a4⟩ := beg9_M (b := b) (nl := nl) hb hl 8 0 (by decide) J1 fu (by omega) (by rw [x1 106 (by decide)]; exact h6) (by rw [x1 100 (by decide)]; exact h13)
  have a1' : f_X12_begin_L9 fu J1 0 = some J2 := a1
  have x2 : ∀ x, ¬ (127 ≤ x ∧ x ≤ 130) → J2 x = J x := fun x hx => by rw [a2 x (by omega) (by omega) (by omega), x1 x (by omega)]
  obtain ⟨J3, b1, b2, b3, b4⟩ := beg126_M (b := b) (no := no) (fu := fu) hb hn hf 6 0 (by decide) J2 fu (by omega) (by rw [x2 105 (by decide)]; exact h5) (by rw [x2 100 (by decide)]; exact h13)
  have b1' : f_X12_begin_L126 fu fu J2 0 = some J3 := b1
  have t0 : (0 : Int32).toNatClampNeg = 0 := by decide
  have ib : ∀ q : Option HI, inb 26 0 q = q := fun q => inb_ok (n := 26) (a := 0) (by decide)
  refine ⟨sI (sI (sI J3 132 0 0) 100 54 0) 100 66 0, ?_, fun x y1 y2 => ?_, fun s s1 s2 => ?_, ?_, ?_, ?_, ?_, fun k hk => ?_, fun c d hc hd => ?_⟩
  · unfold f_X12_begin
    simp only [ib, t0, bnd]
    rw [← hJ1, a1']
    simp only [Option.bind_some, b1']
  · rw [zs_ne y1, zs_ne y1, zs_ne (by omega), b2 x (by omega), x2 x (by omega)]
  · rw [zs_eq, zs_other s2, zs_eq, zs_other s1, zs_ne (by decide), b2 100 (by decide), x2 100 (by decide)]
  · rw [zs_eq, zs_other (by decide), zs_eq, zs_same]; rfl
  · rw [zs_eq, zs_same]; rfl
  · rw [zs_ne (by decide), zs_ne (by decide), zs_ne (by decide), b2 127 (by decide), a2 127 (by decide) (by decide) (by decide), hJ1, zs_eq, zs_same]; rfl
  · rw [zs_ne (by decide), zs_ne (by decide), zs_eq, zs_same]; rfl
  · have := a3 k (Nat.zero_le _) hk
    rw [x1 107 (by decide), x1 108 (by decide), x1 109 (by decide)] at this
    rw [zs_ne (by decide), zs_ne (by decide), zs_ne (by decide), zs_ne (by decide), zs_ne (by decide), zs_ne (by decide), zs_ne (by decide), zs_ne (by decide), zs_ne (by decide), b2 128 (by decide), b2 129 (by decide), b2 130 (by decide)]
    exact this
  · have := b3 c d (Nat.zero_le _) hc hd
    rw [x2 110 (by decide)] at this
    rw [zs_ne (by decide), zs_ne (by decide), zs_ne (by decide)]
    exact this
end
