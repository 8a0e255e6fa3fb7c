/-! reading begins -/
theorem clear_C {fu t : Nat} (hf : 100 < fu) (I : HI) : ∃ K, f_X2_clear fu I t = some K ∧ (∀ x, x ≠ t → x ≠ t + 9 → x ≠ t + 11 → x ≠ t + 12 → K x = I x) ∧ (K t 0 = nI 0 ∧ K t 1 = nI 0 ∧ K t 2 = nI 0 ∧ K t 3 = nI 0 ∧ K t 4 = nI 0 ∧ K t 5 = nI 999 ∧ K t 16 = nI 0) ∧ (∀ k, k < 36 → K (t + 9) k = nI 0) ∧ ∀ k, k < 3 → K (t + 11) k = nI 0 ∧ K (t + 12) k = nI 0 := by
  obtain ⟨V, hV⟩ : ∃ V, V = sI (sI (sI (sI (sI (sI (sI I t 0 0) t 1 0) t 2 0) t 3 0) t 4 0) t 5 999) t 16 0 := ⟨_, rfl⟩
  obtain ⟨K1, a1, a2, a3⟩ := fill_J (fu := fu) (a0 := t + 9) (n := 36) (v := 0) (by omega) (by decide) V
  obtain ⟨K2, b1, b2, b3⟩ := fill_J (fu := fu) (a0 := t + 11) (n := 3) (v := 0) (by omega) (by decide) K1
  obtain ⟨K3, c1, c2, c3⟩ := fill_J (fu := fu) (a0 := t + 12) (n := 3) (v := 0) (by omega) (by decide) K2
  have kt : K3 t = V t := by rw [c2 t (by omega), b2 t (by omega), a2 t (by omega)]
  refine ⟨K3, ?_, fun x x1 x2 x3 x4 => ?_, ?_, fun k hk => ?_, fun k hk => ⟨?_, ?_⟩⟩
  · unfold f_X2_clear
    simp only [bnd]
    rw [← hV]
    simp only [a1, Option.bind_some, b1, c1]
  · rw [c2 x x4, b2 x x3, a2 x x2, hV]
    simp (disch := omega) only [zs_ne]
  · rw [kt, hV]
    simp (disch := decide) only [zs_eq, zs_same, zs_other]
    exact ⟨rfl, rfl, rfl, rfl, rfl, rfl, rfl⟩
  · rw [c2 (t + 9) (by omega), b2 (t + 9) (by omega), a3 k hk]
    rfl
  · rw [c2 (t + 11) (by omega), b3 k hk]
    rfl
  · rw [c3 k hk]
    rfl
theorem l92_M {b : Nat} (hb : b < 2) : ∀ m c, c + m = 3 → ∀ (J : HI) (n : Nat), m < n → J 100 33 = nI b → ∃ J', f_X12_lowland_L92 n J (nI c) = some J' ∧ (∀ x, x ≠ 113 → J' x = J x) ∧ (∀ r, c ≤ r → r < 3 → J' 113 (3 * b + r) = mI 1) ∧ ∀ i, (∀ r, c ≤ r → r < 3 → i ≠ 3 * b + r) → J' 113 i = J 113 i := by
  intro m
  induction m with
  | zero =>
    intro c hc J n hn h33
    obtain ⟨n, rfl⟩ : ∃ z, n = z + 1 := ⟨n - 1, by omega⟩
    have z : (3 : Int32) ≤ nI c := by rw [show c = 3 by omega]; decide
    exact ⟨J, by simp only [f_X12_lowland_L92, if_pos z], fun _ _ => rfl, fun r r1 r2 => by omega, fun _ _ => rfl⟩
  | succ m ih =>
    intro c hc J n hn h33
    obtain ⟨n, rfl⟩ : ∃ z, n = z + 1 := ⟨n - 1, by omega⟩
    have z : ¬ (3 : Int32) ≤ nI c := nI_ge (b := 3) (by omega) (by decide)
    have ix : 3 * nI b + nI c = nI (3 * b + c) := by rw [zq3, pk_mul, nI_add]
    have i1 : ∀ q : Option HI, inb 6 (nI (3 * b + c)) q = q := fun q => by rw [inb_ok (by omega)]
    have t1 : (nI (3 * b + c)).toNatClampNeg = 3 * b + c := nI_clamp (by omega)
    have A1 : nI c + 1 = nI (c + 1) := nI_1 c
    obtain ⟨Ja, hJa⟩ : ∃ Ja, Ja = sI J 113 (3 * b + c) (-1) := ⟨_, rfl⟩
    obtain ⟨J', r1, r2, r3, r4⟩ := ih (c + 1) (by omega) Ja n (by omega) (by rw [hJa, zs_ne (by decide)]; exact h33)
    refine ⟨J', ?_, fun x hx => by rw [r2 x hx, hJa, zs_ne hx], fun r w1 w2 => ?_, fun i hi => ?_⟩
    · simp only [f_X12_lowland_L92, if_neg z, h33, ix, i1, t1, bnd, A1]
      rw [← hJa]
      exact r1
    · by_cases q : r = c
      · rw [q, r4 _ (fun r w1 w2 => by omega), hJa, zs_eq, zs_same]
        rfl
      · exact r3 r (by omega) w2
    · rw [r4 i (fun r w1 w2 => hi r (by omega) w2), hJa, zs_eq, zs_other (hi c (Nat.le_refl _) (by omega))]
/-- what stands behind the reference's loop -/
def lowT (fu : Nat) (x21 : Int32 × HI × HL) : Option (Int32 × HI × HL) :=
  bnd (sI x21.2.1 100 10 (x21.2.1 100 8)) fun I22 =>
  bnd (sI I22 100 11 (I22 100 9)) fun I23 =>
  if (I23 100 8) ≤ 0 then
    bnd (sI I23 100 13 (I23 100 33)) fun I24 =>
    (f_X12_begin fu I24).bind fun x25 =>
    some (x21.1, x25, x21.2.2)
  else
    (f_X12_refuses I23 1).bind fun x26 =>
    some (x26.1, x26.2, x21.2.2)
def lowC (x : (Int32 × HI × HR) ⊕ (HI × HR)) : Option (Int32 × HI × HR) := Sum.elim (fun r => some r) (fun x9 => gz 1 (some (1, x9.1, x9.2))) x
section
variable {tp : Nat → Nat} {fu t b T : Nat} {I J : HI} {M : HL} {R : HR}
theorem begC_R (hf : 2000 < fu) (ho : okLd t = true) (ht : t = 67 ∨ t = 80) (hb : b < 2) (hT : T ≤ 1600) (h1 : J 100 1 = nI T) (tpc : TPc I J tp) (h13 : J 100 13 = nI (1 - b)) : ∃ K Jn Mn k at' e, f_X7_readAll fu I R (nI T) t = (f_X7_readAll_L22 fu fu K (sR R 6 2 t) (nI 0)).bind lowC ∧ f_X12_lowland fu J M = (f_X12_lowland_L128 fu fu Jn Mn (nI 0)).bind (lowT fu) ∧ StR tp T K Jn Mn k at' e ∧ TOLD K Jn Mn t b 0 0 0 0 ∧ K t 0 = nI 0 ∧ FrC t I K ∧ FrL b M Mn ∧ (∀ x i, x ≠ 100 → ¬ inBk b x i → Jn x i = J x i) ∧ (∀ s, s = 10 ∨ s = 11 ∨ s = 13 ∨ 45 ≤ s → Jn 100 s = J 100 s) ∧ Jn 100 1 = nI 0 ∧ Jn 100 9 = -1 := by
  obtain ⟨K0, c1, c2, ⟨d0, d1, d2, d3, d4, d5, d6⟩, c4, c5⟩ := clear_C (fu := fu) (t := t) (by omega) I
  obtain ⟨K1, hK1⟩ : ∃ K1, K1 = sI (sI (sI K0 7 1 (nI T)) 7 2 0) 7 3 0 := ⟨_, rfl⟩
  have k1x : ∀ x, x ≠ 7 → K1 x = K0 x := fun x hx => by rw [hK1]; simp (disch := exact hx) only [zs_ne]
  have k71 : K1 7 1 = nI T := by rw [hK1]; simp (disch := decide) only [zs_eq, zs_same, zs_other]
  have k72 : K1 7 2 = nI 0 := by rw [hK1]; simp (disch := decide) only [zs_eq, zs_same, zs_other]; rfl
  have k73 : K1 7 3 = nI 0 := by rw [hK1]; simp (disch := decide) only [zs_eq, zs_same, zs_other]; rfl
  obtain ⟨J5, hJ5⟩ : ∃ J5, J5 = sI (sI (sI (sI (sI J 100 2 (nI T)) 100 1 0) 100 5 0) 100 8 0) 100 9 (-1) := ⟨_, rfl⟩
  have j5x : ∀ x, x ≠ 100 → J5 x = J x := fun x hx => by rw [hJ5]; simp (disch := exact hx) only [zs_ne]
  have j5s : ∀ s, s ≠ 2 → s ≠ 1 → s ≠ 5 → s ≠ 8 → s ≠ 9 → J5 100 s = J 100 s := fun s a b c d e => by rw [hJ5, zs_eq, zs_other e, zs_eq, zs_other d, zs_eq, zs_other c, zs_eq, zs_other b, zs_eq, zs_other a]
  have j52 : J5 100 2 = nI T := by rw [hJ5]; simp (disch := decide) only [zs_eq, zs_same, zs_other]
  have j51 : J5 100 1 = nI 0 := by rw [hJ5]; simp (disch := decide) only [zs_eq, zs_same, zs_other]; rfl
  have j55 : J5 100 5 = nI 0 := by rw [hJ5]; simp (disch := decide) only [zs_eq, zs_same, zs_other]; rfl
  have j58 : J5 100 8 = 0 := by rw [hJ5]; simp (disch := decide) only [zs_eq, zs_same, zs_other]
  have e1b : (1 : Int32) - nI (1 - b) = nI b := by
    rcases (show b = 0 ∨ b = 1 by omega) with w | w <;> rw [w] <;> decide
  have j513 : J5 100 13 = nI (1 - b) := by rw [j5s 13 (by decide) (by decide) (by decide) (by decide) (by decide)]; exact h13
  obtain ⟨J6, hJ6⟩ : ∃ J6, J6 = sI J5 100 33 (nI b) := ⟨_, rfl⟩
  have j633 : J6 100 33 = nI b := by rw [hJ6, zs_eq, zs_same]
  have te : (nI b).toNatClampNeg = b := nI_clamp (by omega)
  have id : ∀ q : Option (Int32 × HI × HL), inb 2 (nI b) q = q := fun q => by rw [inb_ok (by omega)]
  obtain ⟨J11, hJ11⟩ : ∃ J11, J11 = sI (sI (sI (sI (sI J6 102 b 0) 105 b 0) 106 b 0) 111 b 0) 112 b 999 := ⟨_, rfl⟩
  have j11a : J11 100 = J6 100 := by rw [hJ11]; simp (disch := decide) only [zs_ne]
  have j11x : ∀ x, x ≠ 102 → x ≠ 105 → x ≠ 106 → x ≠ 111 → x ≠ 112 → J11 x = J6 x := fun x a b c d e => by rw [hJ11, zs_ne e, zs_ne d, zs_ne c, zs_ne b, zs_ne a]
  have j112 : J11 102 = upd (J6 102) b 0 := by rw [hJ11]; simp (disch := decide) only [zs_eq, zs_ne]
  have j115 : J11 105 = upd (J6 105) b 0 := by rw [hJ11]; simp (disch := decide) only [zs_eq, zs_ne]
  have j116 : J11 106 = upd (J6 106) b 0 := by rw [hJ11]; simp (disch := decide) only [zs_eq, zs_ne]
  have j1111 : J11 111 = upd (J6 111) b 0 := by rw [hJ11]; simp (disch := decide) only [zs_eq, zs_ne]
  have j1112 : J11 112 = upd (J6 112) b 999 := by rw [hJ11]; simp (disch := decide) only [zs_eq, zs_ne]
  obtain ⟨J14, r1, r2, r3, r4⟩ := l92_M hb 3 0 (by decide) J11 fu (by omega) (by rw [j11a]; exact j633)
  have r1' : f_X12_lowland_L92 fu J11 0 = some J14 := r1
  obtain ⟨J15, hJ15⟩ : ∃ J15, J15 = sI J14 100 32 0 := ⟨_, rfl⟩
  have j15x : ∀ x, x ≠ 100 → J15 x = J14 x := fun x hx => by rw [hJ15, zs_ne hx]
  have j15s : ∀ s, s ≠ 32 → J15 100 s = J6 100 s := fun s hs => by rw [hJ15, zs_eq, zs_other hs, r2 100 (by decide), j11a]
  have j6s : ∀ s, s ≠ 33 → J6 100 s = J5 100 s := fun s hs => by rw [hJ6, zs_eq, zs_other hs]
  have j6x : ∀ x, x ≠ 100 → J6 x = J x := fun x hx => by rw [hJ6, zs_ne hx, j5x x hx]
  have ed : ∀ x, x ≠ 100 → x ≠ 102 → x ≠ 105 → x ≠ 106 → x ≠ 111 → x ≠ 112 → x ≠ 113 → J15 x = J x := fun x a b c d e f g => by rw [j15x x a, r2 x g, j11x x b c d e f, j6x x a]
  have tpc' : TPc K1 J15 tp := fun k hk => by
    rw [k1x 2 (by decide), c2 2 (by omega) (by omega) (by omega) (by omega), ed 101 (by decide) (by decide) (by decide) (by decide) (by decide) (by decide) (by decide)]
    exact tpc k hk
  obtain ⟨K, Jn, Mn, k, at', e, q1, q2, q3, q4, q5, q6, q7⟩ := adv_R (tp := tp) (sz := T) (fu := fu) (M := M) (I := K1) (J := J15) (k0 := 0) (e := 0) hT hf tpc' ⟨k71, by rw [j15s 2 (by decide), j6s 2 (by decide)]; exact j52⟩ ⟨k72, by rw [j15s 5 (by decide), j6s 5 (by decide)]; exact j55⟩ k73 (by decide) (Nat.zero_le _) ⟨fun w => absurd rfl w.1, fun w => absurd w.1 (by decide)⟩
  have S : StR tp T K Jn Mn k at' e := ⟨fun j hj => by rw [q5.1 2 (by decide), q6.1 101 (by decide)]; exact tpc' j hj, q3, by rw [q6.2 8 (by decide), j15s 8 (by decide), j6s 8 (by decide)]; exact j58, hT⟩
  have kx : ∀ x, x ≠ 7 → K x = K0 x := fun x hx => by rw [q5.1 x hx, k1x x hx]
  have jn : ∀ x, x ≠ 100 → Jn x = J15 x := fun x hx => q6.1 x hx
  refine ⟨K, Jn, Mn, k, at', e, ?_, ?_, S, ?_, by rw [kx t (by omega)]; exact d0, fun x x1 x2 _ x4 => by rw [kx x x2, c2 x (by omega) (by omega) (by omega) (by omega)], q7.fr, fun x i x1 x2 => ?_, fun s hs => ?_, ?_, ?_⟩
  · unfold f_X7_readAll f_X10_begin
    have e1 : (sR R 6 2 t) 6 2 = t := zR_eq
    simp only [bnd, e1, zg_ok ho, c1, Option.bind_some]
    rw [← hK1, q1]
    rfl
  · unfold f_X12_lowland
    simp only [bnd, h1]
    rw [← hJ5, j513, e1b, ← hJ6]
    simp only [j633, id, te]
    have f1 : (sI J6 102 b 0) 100 33 = nI b := by rw [zs_ne (by decide)]; exact j633
    have f2 : (sI (sI J6 102 b 0) 105 b 0) 100 33 = nI b := by rw [zs_ne (by decide)]; exact f1
    have f3 : (sI (sI (sI J6 102 b 0) 105 b 0) 106 b 0) 100 33 = nI b := by rw [zs_ne (by decide)]; exact f2
    have f4 : (sI (sI (sI (sI J6 102 b 0) 105 b 0) 106 b 0) 111 b 0) 100 33 = nI b := by rw [zs_ne (by decide)]; exact f3
    simp only [f1, f2, f3, f4, id, te]
    rw [← hJ11, r1']
    simp only [Option.bind_some]
    rw [← hJ15, q2]
    rfl
  · have b102 : Jn 102 b = nI 0 := by rw [jn 102 (by decide), j15x 102 (by decide), r2 102 (by decide), j112, zs_same]; rfl
    have b105 : Jn 105 b = nI 0 := by rw [jn 105 (by decide), j15x 105 (by decide), r2 105 (by decide), j115, zs_same]; rfl
    have b106 : Jn 106 b = nI 0 := by rw [jn 106 (by decide), j15x 106 (by decide), r2 106 (by decide), j116, zs_same]; rfl
    have b111 : Jn 111 b = nI 0 := by rw [jn 111 (by decide), j15x 111 (by decide), r2 111 (by decide), j1111, zs_same]; rfl
    have b112 : Jn 112 b = nI 999 := by rw [jn 112 (by decide), j15x 112 (by decide), r2 112 (by decide), j1112, zs_same]; rfl
    have b33 : Jn 100 33 = nI b := by rw [q6.2 33 (by decide), j15s 33 (by decide)]; exact j633
    have b32 : Jn 100 32 = nI 0 := by rw [q6.2 32 (by decide), hJ15, zs_eq, zs_same]; rfl
    have e0 : K t = K0 t := kx t (by omega)
    refine ⟨⟨⟨by rw [e0]; exact d1, b102, by decide⟩, ⟨by rw [e0]; exact d2, b105, by decide⟩, ⟨by rw [e0]; exact d3, b106, by decide⟩, fun i hi => absurd hi (Nat.not_lt_zero i), fun i hi => absurd hi (Nat.not_lt_zero i), fun i hi => absurd hi (Nat.not_lt_zero i), b33, hb⟩, ⟨⟨by rw [e0]; exact d1, b102, by decide⟩, ⟨by rw [e0]; exact d3, b106, by decide⟩, ⟨b33, hb⟩, fun i hi => absurd hi (Nat.not_lt_zero i), fun i hi => absurd hi (Nat.not_lt_zero i)⟩, fun i hi => absurd hi (Nat.not_lt_zero i), fun i hi => absurd hi (Nat.not_lt_zero i), fun i hi => absurd hi (Nat.not_lt_zero i), fun a c ha hc => ?_, ⟨⟨0, by decide, by rw [e0]; exact d4⟩, by rw [b111, e0, d4], ⟨999, by decide, by rw [e0]; exact d5⟩, by rw [b112, e0, d5]⟩, ⟨b32, by rw [e0]; exact d6, by decide⟩, fun j hj => absurd hj (Nat.not_lt_zero j), fun r hr => Or.inl ?_⟩
    · rw [kx (t + 9) (by omega), c4 _ (by omega)]
      exact ⟨⟨0, by decide, rfl⟩, fun w => absurd w.1 (Nat.not_lt_zero a), fun _ => rfl⟩
    · rw [kx (t + 11) (by omega), kx (t + 12) (by omega), jn 113 (by decide), j15x 113 (by decide)]
      exact ⟨(c5 r hr).1, (c5 r hr).2, r3 r (Nat.zero_le _) hr⟩
  · rw [jn x x1]
    unfold inBk at x2
    by_cases g : x = 113
    · subst g
      rw [j15x 113 (by decide), r4 i (fun r w1 w2 => by omega), j11x 113 (by decide) (by decide) (by decide) (by decide) (by decide), j6x 113 (by decide)]
    · by_cases g2 : x = 102 ∨ x = 105 ∨ x = 106 ∨ x = 111 ∨ x = 112
      · have hi : i ≠ b := fun w => x2 (Or.inl ⟨g2, w⟩)
        rw [j15x x x1, r2 x g]
        rcases g2 with w | w | w | w | w
        · rw [w, j112, zs_other hi, j6x 102 (by decide)]
        · rw [w, j115, zs_other hi, j6x 105 (by decide)]
        · rw [w, j116, zs_other hi, j6x 106 (by decide)]
        · rw [w, j1111, zs_other hi, j6x 111 (by decide)]
        · rw [w, j1112, zs_other hi, j6x 112 (by decide)]
      · rw [ed x x1 (fun w => g2 (by omega)) (fun w => g2 (by omega)) (fun w => g2 (by omega)) (fun w => g2 (by omega)) (fun w => g2 (by omega)) g]
  · rw [q6.2 s (by omega), j15s s (by omega), j6s s (by omega), j5s s (by omega) (by omega) (by omega) (by omega) (by omega)]
  · rw [q6.2 1 (by decide), j15s 1 (by decide), j6s 1 (by decide)]
    exact j51
  · rw [q6.2 9 (by decide), j15s 9 (by decide), j6s 9 (by decide), hJ5, zs_eq, zs_same]
end
