/-! a hollow told, over all that is told so far -/
theorem oL1 : lN (ownL 1) = (448545973363 : Int64) := by
  rw [show ownL 1 = 448545973363 from by decide +kernel]
  rfl
theorem oL2 : lN (ownL 2) = (24948 : Int64) := by
  rw [show ownL 2 = 24948 from by decide +kernel]
  rfl
theorem rmF_0 {hd hs ls : Nat → Int32} {h : Nat} : ∀ n, (∀ j, j < n → ¬ ls j = nI h) → rmF hd hs ls h n = hd h := by
  intro n
  induction n with
  | zero => intro _; rfl
  | succ n ih =>
    intro a
    show rmF hd hs ls h n - (if ls n = nI h then hs n else 0) = hd h
    rw [ih (fun j hj => a j (by omega)), if_neg (a n (by omega))]
    exact Int32.sub_zero _
section
variable {I K J J' : HI} {M M' : HL} {t b nh no nl cj : Nat}
theorem hol_told {x : Int32} {y : Int64} {v p : Nat} (hT : TOLD I J M t b nh no nl cj) (hnh : nh < 8) (hx : NR x y) (hv : v ≤ 999) (hp : p ≤ 99) (k0 : ∀ s, s ≠ 1 → K t s = I t s) (k1 : K t 1 = nI (nh + 1)) (kn : K (t + 1) nh = x) (ko : ∀ i, i ≠ nh → K (t + 1) i = I (t + 1) i) (k4 : K (t + 4) nh = nI v) (k4o : ∀ i, i ≠ nh → K (t + 4) i = I (t + 4) i) (k5 : K (t + 5) nh = nI p) (k5o : ∀ i, i ≠ nh → K (t + 5) i = I (t + 5) i) (kx : ∀ a, 2 ≤ a → a ≤ 12 → a ≠ 4 → a ≠ 5 → K (t + a) = I (t + a)) (j2 : J' 102 b = nI (nh + 1)) (j3 : J' 103 (8 * b + nh) = nI v) (j3o : ∀ i, i ≠ 8 * b + nh → J' 103 i = J 103 i) (j4 : J' 104 (8 * b + nh) = nI p) (j4o : ∀ i, i ≠ 8 * b + nh → J' 104 i = J 104 i) (jx : ∀ x, 105 ≤ x → x ≤ 116 → J' x = J x) (j32 : J' 100 32 = J 100 32) (j33 : J' 100 33 = J 100 33) (mn : M' 117 (8 * b + nh) = y) (mo : ∀ i, i ≠ 8 * b + nh → M' 117 i = M 117 i) (m8 : M' 118 = M 118) (m9 : M' 119 = M 119) : TOLD K J' M' t b (nh + 1) no nl cj := by
  obtain ⟨a1, a2, a3, a4, a5, a6, a7, a8⟩ := hT
  have e := kx
  have f := jx
  refine ⟨?_, ?_, fun i hi => ?_, LWr_up (LWr_c a4 (fun i _ => by rw [e 6 (by decide) (by decide) (by decide) (by decide)]) (fun i _ => by rw [e 7 (by decide) (by decide) (by decide) (by decide)]) (fun i _ => by rw [e 8 (by decide) (by decide) (by decide) (by decide)]) (fun i _ => by rw [f 109 (by decide) (by decide)])) (by omega) (Nat.le_refl _), fun h hh => ?_, DBr_c a6 (fun i _ => by rw [e 9 (by decide) (by decide) (by decide) (by decide)]) (fun a c _ _ => by rw [f 110 (by decide) (by decide)]), NCr_c a7 (k0 4 (by decide)) (k0 5 (by decide)) (by rw [f 111 (by decide) (by decide)]) (by rw [f 112 (by decide) (by decide)]), RUr_c a8 j32 (k0 16 (by decide)) (fun x hx => e x (by omega) (by omega) (by omega) (by omega)) (fun x x1 x2 => f x (by omega) x2)⟩
  · obtain ⟨⟨p1, p2, p3⟩, ⟨q1, q2, q3⟩, ⟨r1, r2, r3⟩, d1, d2, d3, d4, d5⟩ := a1
    refine ⟨⟨k1, j2, by omega⟩, ⟨(k0 2 (by decide)).trans q1, by rw [f 105 (by decide) (by decide)]; exact q2, q3⟩, ⟨(k0 3 (by decide)).trans r1, by rw [f 106 (by decide) (by decide)]; exact r2, r3⟩, fun i hi => ?_, fun i hi => by rw [e 2 (by decide) (by decide) (by decide) (by decide), m8]; exact d2 i hi, fun i hi => by rw [e 3 (by decide) (by decide) (by decide) (by decide), m9]; exact d3 i hi, j33.trans d4, d5⟩
    by_cases q : i = nh
    · rw [q, kn, mn]
      exact hx
    · rw [ko i q, mo _ (by omega)]
      exact d1 i (by omega)
  · obtain ⟨⟨p1, p2, p3⟩, ⟨q1, q2, q3⟩, ⟨r1, r2⟩, d1, d2⟩ := a2
    refine ⟨⟨k1, j2, by omega⟩, ⟨(k0 3 (by decide)).trans q1, by rw [f 106 (by decide) (by decide)]; exact q2, q3⟩, ⟨j33.trans r1, r2⟩, fun i hi => ?_, fun j hj => by rw [e 6 (by decide) (by decide) (by decide) (by decide), e 7 (by decide) (by decide) (by decide) (by decide), f 107 (by decide) (by decide), f 108 (by decide) (by decide)]; exact d2 j hj⟩
    by_cases q : i = nh
    · rw [q, k4, j3]
    · rw [k4o i q, j3o _ (by omega)]
      exact d1 i (by omega)
  · by_cases q : i = nh
    · rw [q, k4, k5, j4]
      exact ⟨rfl, ⟨v, hv, rfl⟩, p, hp, rfl⟩
    · rw [k4o i q, k5o i q, j4o _ (by omega)]
      exact a3 i (by omega)
  · rw [e 6 (by decide) (by decide) (by decide) (by decide), e 7 (by decide) (by decide) (by decide) (by decide)]
    by_cases q : h = nh
    · subst q
      rw [rmF_0 nl (fun j hj w => ?_), k4]
      · exact ⟨v, hv, rfl⟩
      · obtain ⟨_, _, ⟨g, g1, g2⟩, _⟩ := a4 j hj
        have := (nI_eq (a := g) (b := h) (by omega) (by omega)).mp (g2.symm.trans w)
        omega
    · rw [rmF_c nl (k4o h q) (fun i _ => ⟨rfl, rfl⟩)]
      exact a5 h (by omega)
theorem hol_eq {fu : Nat} {J1 J2 J3 J4 J5 J6 : HI} {M1 M2 M3 M4 M5 M6 : HL} {y : Int64} {v p : Int32} (h33 : J 100 33 = nI b) (hb : b < 2) (h102 : J 102 b = nI nh) (hnh : nh < 8) (cn : f_X12_counts fu J M 0 = some (1, J1, M1)) (g33 : J1 100 33 = nI b) (g102 : J1 102 b = nI nh) (s1 : f_X12_fresh fu J1 M1 = some (y, J2, M2)) (s2 : f_X12_must_ fu J2 (sL M2 117 (8 * b + nh) y) 448545973363 = some (J3, M3)) (s3 : f_X12_number fu J3 M3 1 999 = some (v, J4, M4)) (s4 : f_X12_must_ fu (sI J4 103 (8 * b + nh) v) M4 24948 = some (J5, M5)) (s5 : f_X12_number fu J5 M5 0 99 = some (p, J6, M6)) (p33 : J6 100 33 = nI b) (p102 : J6 102 b = nI nh) : f_X12_hollowing fu J M = some (if J6 100 8 = 0 then sI (sI J6 104 (8 * b + nh) p) 102 b (nI (nh + 1)) else sI J6 104 (8 * b + nh) p, M6) := by
  have n3 : ¬ (1 : Int32) = 0 := by decide
  have n8 : ¬ nI nh = (8 : Int32) := fun w => by
    have := (nI_eq (a := nh) (b := 8) (by omega) (by decide)).mp w
    omega
  have l5 : ∀ (k : Int32 → Option (HI × HL)), ldI (J 102) 2 (nI b) k = k (nI nh) := fun k => by rw [ldI_ok (by omega), h102]
  have l6 : ∀ (k : Int32 → Option (HI × HL)), ldI (J1 102) 2 (nI b) k = k (nI nh) := fun k => by rw [ldI_ok (by omega), g102]
  have ix : 8 * nI b + nI nh = nI (8 * b + nh) := by rw [zq8, pk_mul, nI_add]
  have ib : ∀ q : Option (HI × HL), inb 16 (nI (8 * b + nh)) q = q := fun q => by rw [inb_ok (by omega)]
  have tc : (nI (8 * b + nh)).toNatClampNeg = 8 * b + nh := nI_clamp (by omega)
  have A1 : nI nh + 1 = nI (nh + 1) := nI_1 nh
  have te : (nI b).toNatClampNeg = b := nI_clamp (by omega)
  have id : ∀ q : Option (HI × HL), inb 2 (nI b) q = q := fun q => by rw [inb_ok (by omega)]
  have e8 : (sI J6 104 (8 * b + nh) p) 100 = J6 100 := zs_ne (by decide)
  have e2 : (sI J6 104 (8 * b + nh) p) 102 = J6 102 := zs_ne (by decide)
  have l7 : ∀ (k : Int32 → Option (HI × HL)), ldI (J6 102) 2 (nI b) k = k (nI nh) := fun k => by rw [ldI_ok (by omega), p102]
  unfold f_X12_hollowing
  simp only [h33, l5, if_neg n8, jnt, cn, Option.bind_some, if_neg n3, g33, l6, ix, bnd, s1, ib, tc, s2, s3, s4, s5, e8, e2, p33, l7, id, te, A1]
  by_cases q : J6 100 8 = 0
  · rw [if_pos q, if_pos q]
  · rw [if_neg q, if_neg q]
end
