/-! a text that is a lowland: how both begin with it -/
section
variable {I J K : HI} {M M' : HL} {R R' : HR} {fu t b nh no nl cj n N : Nat}
/-- what stands behind the class's reading, where it went well -/
def lowW (fu : Nat) (K : HI) (R' : HR) : Option (Int32 × HI × HR) :=
  gr (okLd (R' 1 2)) <|
  gr (okLd (R' 1 3)) <|
  bnd (sR R' 1 2 (R' 1 3)) fun R9 =>
  bnd (sR R9 1 3 (R' 1 2)) fun R10 =>
  bnd (sI K 1 5 0) fun I11 =>
  bnd (sI I11 1 6 (-1)) fun I12 =>
  gr (okLd (R10 1 2)) <|
  (f_X9_begin fu I12 R10 49 (R10 1 2)).bind fun x14 =>
  (f_X11_forgetActs x14.1).bind fun x15 =>
  bnd (sI x15 1 16 0) fun I16 =>
  gr (okLd (x14.2 1 2)) <|
  some ((I16 (x14.2 1 2) 0), I16, x14.2)
theorem lowG_C {td : Nat} (hf : 100 < fu) (ht : t = 67 ∨ t = 80) (hd : td = 147 - t) (r2 : R' 1 2 = t) (r3 : R' 1 3 = td) (h0 : K td 0 = nI N) (h3 : K td 3 = nI nl) (hn : nl ≤ 8) : ∃ I' R'', lowW fu K R' = some (nI N, I', R'') ∧ (R'' 1 2 = td ∧ R'' 1 3 = t ∧ R'' 49 0 = td) ∧ (∀ x, x ≠ 1 → x ≠ 9 → x ≠ 32 → ¬ (49 ≤ x ∧ x ≤ 53) → I' x = K x) ∧ (∀ s, s ≠ 5 → s ≠ 6 → s ≠ 16 → I' 1 s = K 1 s) ∧ (I' 1 5 = nI 0 ∧ I' 1 6 = -1 ∧ I' 1 16 = nI 0) ∧ (I' 9 3 = nI 0 ∧ I' 9 2 = K 9 2 ∧ I' 32 1 = nI 0) ∧ I' 49 1 = nI 0 ∧ (∀ k, k < 8 → I' 50 k = (if nl ≤ k then nI 0 else K (td + 6) k) ∧ I' 51 k = (if nl ≤ k then mI 1 else K (td + 7) k) ∧ I' 52 k = (if nl ≤ k then mI 1 else K (td + 8) k)) ∧ ∀ k, k < 36 → I' 53 k = K (td + 9) k := by
  have ho : okLd t = true := by rcases ht with w | w <;> rw [w] <;> rfl
  have hod : okLd td = true := by rcases ht with w | w <;> rw [hd, w] <;> rfl
  obtain ⟨I12, hI12⟩ : ∃ I12, I12 = sI (sI K 1 5 0) 1 6 (-1) := ⟨_, rfl⟩
  have x12 : ∀ x, x ≠ 1 → I12 x = K x := fun x hx => by rw [hI12, zs_ne hx, zs_ne hx]
  obtain ⟨R10, hR10⟩ : ∃ R10, R10 = sR (sR R' 1 2 td) 1 3 t := ⟨_, rfl⟩
  have q2 : R10 1 2 = td := by rw [hR10, zR_ne2 (by decide), zR_eq]
  have q3 : R10 1 3 = t := by rw [hR10, zR_eq]
  obtain ⟨I', a1, a2, a3, a4, a5⟩ := begin_C (I := I12) (R := R10) (s := 49) (t := td) (nl := nl) (fu := fu) (by omega) hod (by omega) (by decide) (by rw [x12 td (by omega)]; exact h3) hn
  have q2' : (sR R10 49 0 td) 1 2 = td := by rw [zR_ne (by decide)]; exact q2
  refine ⟨sI (sI (sI I' 9 3 0) 32 1 0) 1 16 0, sR R10 49 0 td, ?_, ⟨q2', by rw [zR_ne (by decide)]; exact q3, zR_eq⟩, fun x x1 x2 x3 x4 => ?_, fun s s1 s2 s3 => ?_, ⟨?_, ?_, ?_⟩, ⟨?_, ?_, ?_⟩, ?_, fun k hk => ?_, fun k hk => ?_⟩
  · have e0 : (sI (sI (sI I' 9 3 0) 32 1 0) 1 16 0) td 0 = nI N := by rw [zs_ne (by omega), zs_ne (by omega), zs_ne (by omega), a2 td (by omega), x12 td (by omega)]; exact h0
    unfold lowW f_X11_forgetActs f_X1_forget
    simp only [r2, r3, zg_ok ho, zg_ok hod, bnd]
    rw [← hI12, ← hR10]
    simp only [q2, zg_ok hod, a1, Option.bind_some, q2', e0]
  · rw [zs_ne x1, zs_ne x3, zs_ne x2, a2 x (by omega), x12 x x1]
  · rw [zs_eq, zs_other s3, zs_ne (by decide), zs_ne (by decide), a2 1 (by decide), hI12, zs_eq, zs_other s2, zs_eq, zs_other s1]
  · rw [zs_eq, zs_other (by decide), zs_ne (by decide), zs_ne (by decide), a2 1 (by decide), hI12, zs_eq, zs_other (by decide), zs_eq, zs_same]; rfl
  · rw [zs_eq, zs_other (by decide), zs_ne (by decide), zs_ne (by decide), a2 1 (by decide), hI12, zs_eq, zs_same]
  · rw [zs_eq, zs_same]; rfl
  · rw [zs_ne (by decide), zs_ne (by decide), zs_eq, zs_same]; rfl
  · rw [zs_ne (by decide), zs_ne (by decide), zs_eq, zs_other (by decide), a2 9 (by decide), x12 9 (by decide)]
  · rw [zs_ne (by decide), zs_eq, zs_same]; rfl
  · rw [zs_ne (by decide), zs_ne (by decide), zs_ne (by decide)]; exact a3
  · have := a4 k hk
    rw [x12 (td + 6) (by omega), x12 (td + 7) (by omega), x12 (td + 8) (by omega)] at this
    rw [zs_ne (by decide), zs_ne (by decide), zs_ne (by decide), zs_ne (by decide), zs_ne (by decide), zs_ne (by decide), zs_ne (by decide), zs_ne (by decide), zs_ne (by decide)]
    exact this
  · have := a5 k hk
    rw [x12 (td + 9) (by omega)] at this
    rw [zs_ne (by decide), zs_ne (by decide), zs_ne (by decide)]
    exact this
theorem lowG_M {J2 : HI} {r : Int32} (hf : 100 < fu) (hb : b < 2) (h8 : J2 100 8 = 0) (h9 : J2 100 9 = -1) (h33 : J2 100 33 = nI b) (h5 : J2 105 b = nI no) (h6 : J2 106 b = nI nl) (hn : no ≤ 6) (hl : nl ≤ 8) : ∃ J', lowT fu (r, J2, M') = some (r, J', M') ∧ (∀ x, x ≠ 100 → ¬ (127 ≤ x ∧ x ≤ 132) → J' x = J2 x) ∧ (∀ s, s ≠ 10 → s ≠ 11 → s ≠ 13 → s ≠ 54 → s ≠ 66 → J' 100 s = J2 100 s) ∧ (J' 100 10 = nI 0 ∧ J' 100 11 = -1 ∧ J' 100 13 = nI b) ∧ J' 100 54 = nI 0 ∧ J' 100 66 = nI 0 ∧ J' 127 0 = nI 0 ∧ J' 132 0 = nI 0 ∧ (∀ k, k < 8 → J' 128 k = (if nl ≤ k then nI 0 else J2 107 (8 * b + k)) ∧ J' 129 k = (if nl ≤ k then mI 1 else J2 108 (8 * b + k)) ∧ J' 130 k = (if nl ≤ k then mI 1 else J2 109 (8 * b + k))) ∧ ∀ c d, c < 6 → d < 6 → J' 131 (6 * c + d) = (if c < no ∧ d < no then J2 110 (36 * b + 6 * c + d) else nI 0) := by
  obtain ⟨J3, hJ3⟩ : ∃ J3, J3 = sI (sI (sI J2 100 10 0) 100 11 (-1)) 100 13 (nI b) := ⟨_, rfl⟩
  have x3 : ∀ x, x ≠ 100 → J3 x = J2 x := fun x hx => by rw [hJ3, zs_ne hx, zs_ne hx, zs_ne hx]
  obtain ⟨J', a1, a2, a3, a4, a5, a6, a7, a8, a9⟩ := begin_M (fu := fu) (J := J3) hb hn hl hf (by rw [x3 106 (by decide)]; exact h6) (by rw [x3 105 (by decide)]; exact h5) (by rw [hJ3, zs_eq, zs_same])
  have z8 : (0 : Int32) ≤ 0 := by decide
  refine ⟨J', ?_, fun x y1 y2 => by rw [a2 x y1 y2, x3 x y1], fun s s1 s2 s3 s4 s5 => ?_, ⟨?_, ?_, ?_⟩, a4, a5, a6, a7, fun k hk => ?_, fun c d hc hd => ?_⟩
  · have e1 : (sI J2 100 10 0) 100 9 = -1 := by rw [zs_eq, zs_other (by decide)]; exact h9
    have e2 : (sI (sI J2 100 10 0) 100 11 (-1)) 100 8 = 0 := by rw [zs_eq, zs_other (by decide), zs_eq, zs_other (by decide)]; exact h8
    have e3 : (sI (sI J2 100 10 0) 100 11 (-1)) 100 33 = nI b := by rw [zs_eq, zs_other (by decide), zs_eq, zs_other (by decide)]; exact h33
    unfold lowT
    simp only [bnd, h8, e1, e2, if_pos z8, e3]
    rw [← hJ3, a1]
    rfl
  · rw [a3 s s4 s5, hJ3, zs_eq, zs_other s3, zs_eq, zs_other s2, zs_eq, zs_other s1]
  · rw [a3 10 (by decide) (by decide), hJ3, zs_eq, zs_other (by decide), zs_eq, zs_other (by decide), zs_eq, zs_same]; rfl
  · rw [a3 11 (by decide) (by decide), hJ3, zs_eq, zs_other (by decide), zs_eq, zs_same]
  · rw [a3 13 (by decide) (by decide), hJ3, zs_eq, zs_same]
  · have := a8 k hk
    rw [x3 107 (by decide), x3 108 (by decide), x3 109 (by decide)] at this
    exact this
  · have := a9 c d hc hd
    rw [x3 110 (by decide)] at this
    exact this
theorem rmI_F {D S : HI} {h : Nat} : ∀ m, rmI D S h m = rmF (D 4) (S 1) (S 2) h m := by
  intro m
  induction m with
  | zero => rfl
  | succ m ih =>
    show rmI D S h m - (if S 2 m = nI h then S 1 m else 0) = rmF (D 4) (S 1) (S 2) h m - (if S 2 m = nI h then S 1 m else 0)
    rw [ih]
end
