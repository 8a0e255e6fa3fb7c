/-! the reader: a step by the class -/
def AdC (I K : HI) : Prop := (∀ x, x ≠ 7 → K x = I x) ∧ ∀ s, s = 1 ∨ 7 ≤ s → K 7 s = I 7 s
def AdM (J J' : HI) : Prop := (∀ x, x ≠ 100 → J' x = J x) ∧ ∀ s, s ≤ 2 ∨ (7 ≤ s ∧ s ≠ 12) → J' 100 s = J 100 s
def ownAt (tp : Nat → Nat) (at' n w : Nat) : Prop := w < 25 ∧ n = ownN w ∧ ∀ j, j < n → tp (at' + j) = ownG w j
section
variable {tp : Nat → Nat} {sz fu : Nat}
theorem AdC_put {I K : HI} {s : Nat} {v : Int32} (h : AdC I K) (hs : 2 ≤ s ∧ s ≤ 6) : AdC I (sI K 7 s v) := ⟨fun x hx => by rw [zs_ne hx]; exact h.1 x hx, fun s' hs' => by rw [zs_eq, zs_other (by omega)]; exact h.2 s' hs'⟩
theorem OnN_Ad {I K K' : HI} (h : AdC I K) (o : OnN K K') : AdC I K' := ⟨fun x hx => (o.1 x hx).trans (h.1 x hx), fun s hs => (o.2 s (by omega)).trans (h.2 s hs)⟩
theorem advance_C {I : HI} {k0 e at' : Nat} (hz : sz ≤ 1600) (hf : 2000 < fu) (ht : ∀ k, k < 1600 → tp k < 256 ∧ I 2 k = nI (tp k)) (h1 : I 7 1 = nI sz) (h2 : I 7 2 = nI e) (h3 : I 7 3 = nI k0) (hk : k0 ≤ 5) (he : e ≤ sz) (hat : at' = rn (fun k => byB (tp k)) sz e) : ∃ K, f_X10_advance fu I = some (1, K) ∧ AdC I K ∧ K 7 4 = nI at' ∧ ((sz ≤ at' ∧ K 7 3 = nI 0 ∧ K 7 2 = nI at' ∧ K 7 5 = nI at') ∨ (at' < sz ∧ ¬ byL (tp at') = true ∧ ¬ byD (tp at') = true ∧ K 7 3 = nI 4 ∧ K 7 2 = nI (at' + 1) ∧ K 7 5 = nI at' ∧ K 7 6 = nI (tp at')) ∨ (at' < sz ∧ byL (tp at') = true ∧ K 7 2 = nI (rn (fun k => byL (tp k)) sz at') ∧ ((((k0 ≠ 0 ∧ k0 ≠ 4) ∧ at' = e) ∧ K 7 3 = nI 5 ∧ K 7 5 = nI at') ∨ (¬ ((k0 ≠ 0 ∧ k0 ≠ 4) ∧ at' = e) ∧ ((∃ w, ownAt tp at' (rn (fun k => byL (tp k)) sz at' - at') w ∧ K 7 3 = nI 2 ∧ K 7 6 = nI w ∧ K 7 5 = nI at') ∨ ((¬ ∃ w, ownAt tp at' (rn (fun k => byL (tp k)) sz at' - at') w) ∧ ((6 < rn (fun k => byL (tp k)) sz at' - at' ∧ K 7 3 = nI 5 ∧ K 7 5 = nI (at' + 6)) ∨ (rn (fun k => byL (tp k)) sz at' - at' ≤ 6 ∧ K 7 3 = nI 1 ∧ K 7 6 = nI (P5 (fun j => tp (at' + j)) (rn (fun k => byL (tp k)) sz at' - at')) ∧ K 7 5 = nI at'))))))) ∨ (at' < sz ∧ byD (tp at') = true ∧ K 7 2 = nI (rn (fun k => byD (tp k)) sz at') ∧ ((((k0 ≠ 0 ∧ k0 ≠ 4) ∧ at' = e) ∧ K 7 3 = nI 5 ∧ K 7 5 = nI at') ∨ (¬ ((k0 ≠ 0 ∧ k0 ≠ 4) ∧ at' = e) ∧ ((4 < rn (fun k => byD (tp k)) sz at' - at' ∧ K 7 3 = nI 5 ∧ K 7 5 = nI (at' + 4)) ∨ (rn (fun k => byD (tp k)) sz at' - at' ≤ 4 ∧ K 7 3 = nI 3 ∧ K 7 6 = nI (dgN (fun j => min (tp (at' + j)) 57) (rn (fun k => byD (tp k)) sz at' - at')) ∧ K 7 5 = nI at')))))) := by
  have n3 : ¬ (1 : Int32) = 0 := by decide
  obtain ⟨r1, r2, r3, r4⟩ := rn_prop (P := fun k => byB (tp k)) (sz := sz) (sz - e) e (by omega)
  rw [← hat] at r1 r2 r3 r4
  obtain ⟨K1, s1, s2, s3⟩ := skip_C (tp := tp) (sz := sz) (I := I) hz ht h1 (sz - e) e fu I (by omega) (by omega) ⟨fun _ _ => rfl, fun _ _ => rfl⟩ h2
  rw [← hat] at s3
  obtain ⟨K2, hK2⟩ : ∃ K2, K2 = sI (sI K1 7 4 (nI at')) 7 5 (nI at') := ⟨_, rfl⟩
  have a1 : AdC I K1 := ⟨s2.1, fun s hs => s2.2 s (by omega)⟩
  have a2 : AdC I K2 := by rw [hK2]; exact AdC_put (AdC_put a1 (by decide)) (by decide)
  have k22 : K2 7 2 = nI at' := by rw [hK2, zs_eq, zs_other (by decide), zs_eq, zs_other (by decide)]; exact s3
  have k24 : K2 7 4 = nI at' := by rw [hK2, zs_eq, zs_other (by decide), zs_eq, zs_same]
  have k25 : K2 7 5 = nI at' := by rw [hK2, zs_eq, zs_same]
  have k21 : K2 7 1 = nI sz := by rw [a2.2 1 (by omega)]; exact h1
  have ht2 : ∀ k, k < 1600 → tp k < 256 ∧ K2 2 k = nI (tp k) := fun k hk => by rw [a2.1 2 (by decide)]; exact ht k hk
  -- was it text that stands behind
  obtain ⟨tx, htx, htx1⟩ : ∃ tx : Int32, f_X10_isText I = some tx ∧ ((tx = 1 ∧ k0 ≠ 0 ∧ k0 ≠ 4) ∨ (tx = 0 ∧ ¬ (k0 ≠ 0 ∧ k0 ≠ 4))) := by
    unfold f_X10_isText
    rw [h3]
    by_cases c0 : k0 = 0
    · have z : nI k0 = 0 := by rw [c0]; rfl
      rw [if_pos z, gz_0]
      exact ⟨0, rfl, Or.inr ⟨rfl, fun w => w.1 c0⟩⟩
    · have z : ¬ nI k0 = 0 := nI_ne0 (by omega) (by omega)
      rw [if_neg z]
      by_cases c4 : k0 = 4
      · have z4 : nI k0 = 4 := by rw [c4]; rfl
        rw [if_pos z4, gz_0]
        exact ⟨0, rfl, Or.inr ⟨rfl, fun w => w.2 c4⟩⟩
      · have z4 : ¬ nI k0 = 4 := fun w => c4 ((nI_eq (b := 4) (by omega) (by decide)).mp w)
        rw [if_neg z4, gz_1]
        exact ⟨1, rfl, Or.inl ⟨rfl, c0, c4⟩⟩
  -- how it ends
  have fin : ∀ (y : HI) (ky : Nat), y 7 4 = nI at' → y 7 3 = nI ky → ky ≤ 5 → ∃ y', (if tx = 0 then gz 1 (some ((1 : Int32), y)) else if y 7 4 = I 7 2 then (f_X10_isText y).bind fun x29 => if x29 = 0 then gz 1 (some (1, y)) else bnd (sI y 7 3 5) fun I30 => bnd (sI I30 7 5 (I30 7 4)) fun I31 => gz 1 (some (1, I31)) else gz 1 (some (1, y))) = some (1, y') ∧ ((((k0 ≠ 0 ∧ k0 ≠ 4) ∧ at' = e) ∧ (ky ≠ 0 ∧ ky ≠ 4) ∧ y' = sI (sI y 7 3 (nI 5)) 7 5 (nI at')) ∨ (¬ (((k0 ≠ 0 ∧ k0 ≠ 4) ∧ at' = e) ∧ (ky ≠ 0 ∧ ky ≠ 4)) ∧ y' = y)) := fun y ky y4 y3 hky => by
    rcases htx1 with ⟨w1, w2⟩ | ⟨w1, w2⟩
    · rw [w1, if_neg n3, y4, h2]
      by_cases ce : at' = e
      · have z : nI at' = nI e := by rw [ce]
        rw [if_pos z]
        unfold f_X10_isText
        rw [y3]
        by_cases c0 : ky = 0
        · have z : nI ky = 0 := by rw [c0]; rfl
          rw [if_pos z, gz_0]
          exact ⟨y, gz_1, Or.inr ⟨fun w => w.2.1 c0, rfl⟩⟩
        · have z : ¬ nI ky = 0 := nI_ne0 (by omega) (by omega)
          rw [if_neg z]
          by_cases c4 : ky = 4
          · have z4 : nI ky = 4 := by rw [c4]; rfl
            rw [if_pos z4, gz_0]
            exact ⟨y, gz_1, Or.inr ⟨fun w => w.2.2 c4, rfl⟩⟩
          · have z4 : ¬ nI ky = 4 := fun w => c4 ((nI_eq (b := 4) (by omega) (by decide)).mp w)
            rw [if_neg z4, gz_1]
            refine ⟨sI (sI y 7 3 (nI 5)) 7 5 (nI at'), ?_, Or.inl ⟨⟨w2, ce⟩, ⟨c0, c4⟩, rfl⟩⟩
            rw [Option.bind_some, if_neg n3]
            show gz 1 (some ((1 : Int32), sI (sI y 7 3 5) 7 5 ((sI y 7 3 5) 7 4))) = _
            rw [gz_1, zs_eq, zs_other (by decide), y4]
            rfl
      · have z : ¬ nI at' = nI e := fun w => ce ((nI_eq (by omega) (by omega)).mp w)
        rw [if_neg z]
        exact ⟨y, gz_1, Or.inr ⟨fun w => ce w.1.2, rfl⟩⟩
    · rw [w1, if_pos rfl]
      exact ⟨y, gz_1, Or.inr ⟨fun w => w2 w.1.1, rfl⟩⟩
  have pre : f_X10_advance fu I = (if nI at' < nI sz then ldI (K2 2) 1600 (nI at') fun v14 => (f_X10_isLetter v14).bind fun x15 => if x15 = 0 then ldI (K2 2) 1600 (nI at') fun v16 => (f_X10_isDigit v16).bind fun x17 => if x17 = 0 then bnd (sI K2 7 3 4) fun I18 => ldI (I18 2) 1600 (I18 7 2) fun v19 => bnd (sI I18 7 6 v19) fun I20 => bnd (sI I20 7 2 ((I20 7 2) + 1)) fun I21 => (if tx = 0 then gz 1 (some ((1 : Int32), I21)) else if I21 7 4 = I 7 2 then (f_X10_isText I21).bind fun x29 => if x29 = 0 then gz 1 (some (1, I21)) else bnd (sI I21 7 3 5) fun I30 => bnd (sI I30 7 5 (I30 7 4)) fun I31 => gz 1 (some (1, I31)) else gz 1 (some (1, I21))) else (f_X10_readNumber fu K2).bind fun x22 => (if tx = 0 then gz 1 (some ((1 : Int32), x22)) else if x22 7 4 = I 7 2 then (f_X10_isText x22).bind fun x29 => if x29 = 0 then gz 1 (some (1, x22)) else bnd (sI x22 7 3 5) fun I30 => bnd (sI I30 7 5 (I30 7 4)) fun I31 => gz 1 (some (1, I31)) else gz 1 (some (1, x22))) else (f_X10_readWord fu K2).bind fun x24 => (if tx = 0 then gz 1 (some ((1 : Int32), x24)) else if x24 7 4 = I 7 2 then (f_X10_isText x24).bind fun x29 => if x29 = 0 then gz 1 (some (1, x24)) else bnd (sI x24 7 3 5) fun I30 => bnd (sI I30 7 5 (I30 7 4)) fun I31 => gz 1 (some (1, I31)) else gz 1 (some (1, x24))) else bnd (sI K2 7 3 0) fun I26 => (if tx = 0 then gz 1 (some ((1 : Int32), I26)) else if I26 7 4 = I 7 2 then (f_X10_isText I26).bind fun x29 => if x29 = 0 then gz 1 (some (1, I26)) else bnd (sI I26 7 3 5) fun I30 => bnd (sI I30 7 5 (I30 7 4)) fun I31 => gz 1 (some (1, I31)) else gz 1 (some (1, I26)))) := by
    have e5 : sI (sI K1 7 4 (nI at')) 7 5 ((sI K1 7 4 (nI at')) 7 2) = K2 := by
      rw [hK2, zs_eq, zs_other (by decide), s3]
    unfold f_X10_advance
    rw [htx]
    simp only [Option.bind_some, s1]
    show jnt _ _ = _
    simp only [bnd, s3, e5, jnt, k22, k21]
  by_cases cend : sz ≤ at'
  · have c1 : ¬ nI at' < nI sz := nI_nlt cend (by omega)
    obtain ⟨y', f1, f2⟩ := fin (sI K2 7 3 (nI 0)) 0 (by rw [zs_eq, zs_other (by decide)]; exact k24) (by rw [zs_eq, zs_same]) (by decide)
    rw [if_neg c1] at pre
    have ey : y' = sI K2 7 3 (nI 0) := by
      rcases f2 with ⟨_, w, _⟩ | ⟨_, w⟩
      · exact absurd rfl w.1
      · exact w
    subst ey
    refine ⟨sI K2 7 3 (nI 0), pre.trans f1, AdC_put a2 (by decide), by rw [zs_eq, zs_other (by decide)]; exact k24, Or.inl ⟨cend, by rw [zs_eq, zs_same], by rw [zs_eq, zs_other (by decide)]; exact k22, by rw [zs_eq, zs_other (by decide)]; exact k25⟩⟩
  · have c1 : nI at' < nI sz := nI_lt (by omega) (by omega)
    obtain ⟨t1, t2⟩ := ht2 at' (by omega)
    have ld : ∀ k : Int32 → Option (Int32 × HI), ldI (K2 2) 1600 (nI at') k = k (nI (tp at')) := fun k => by rw [ldI_ok (by omega), t2]
    have hL := (letter_C t1).1
    have hDg := (digit_C t1).1
    rw [if_pos c1, ld] at pre
    by_cases cL : byL (tp at') = true
    · rw [if_pos cL] at hL
      rw [hL, Option.bind_some, if_neg n3] at pre
      obtain ⟨p1, p2, p3, p4⟩ := rn_prop (P := fun k => byL (tp k)) (sz := sz) (sz - at') at' (by omega)
      have p5 : at' < rn (fun k => byL (tp k)) sz at' := by
        have q := (rn_prop (P := fun k => byL (tp k)) (sz := sz) (sz - (at' + 1)) (at' + 1) (by omega)).1
        rw [rn_go (P := fun k => byL (tp k)) (show at' < sz by omega) cL]
        omega
      obtain ⟨K3, w1, w2, w3⟩ := letters_C (tp := tp) (sz := sz) (I := K2) hz ht2 k21 (sz - at') at' fu K2 (by omega) (by omega) ⟨fun _ _ => rfl, fun _ _ => rfl⟩ k22
      have a3 := OnN_Ad a2 w2
      obtain ⟨el, hel⟩ : ∃ el, el = rn (fun k => byL (tp k)) sz at' := ⟨_, rfl⟩
      rw [← hel] at w3 p1 p2 p3 p5 ⊢
      have k34 : K3 7 4 = nI at' := by rw [w2.2 4 (by decide)]; exact k24
      have k35 : K3 7 5 = nI at' := by rw [w2.2 5 (by decide)]; exact k25
      have ht3 : ∀ k, k < 1600 → tp k < 256 ∧ K3 2 k = nI (tp k) := fun k hk => by rw [a3.1 2 (by decide)]; exact ht k hk
      have elen : nI el - nI at' = nI (el - at') := pk_sub (by omega)
      have hlet : ∀ j, j < el - at' → 97 ≤ tp (at' + j) ∧ tp (at' + j) ≤ 122 := fun j hj => byL_iff.mp (p3 (at' + j) (by omega) (by omega))
      -- a word read, before the last look
      have rest : ∀ (y : HI) (ky : Nat), f_X10_readWord fu K2 = some y → y 7 4 = nI at' → y 7 3 = nI ky → ky ≤ 5 → ky ≠ 0 ∧ ky ≠ 4 → AdC I y → y 7 2 = nI el → ∃ K, f_X10_advance fu I = some (1, K) ∧ AdC I K ∧ K 7 4 = nI at' ∧ K 7 2 = nI el ∧ ((((k0 ≠ 0 ∧ k0 ≠ 4) ∧ at' = e) ∧ K 7 3 = nI 5 ∧ K 7 5 = nI at') ∨ (¬ ((k0 ≠ 0 ∧ k0 ≠ 4) ∧ at' = e) ∧ K = y)) := fun y ky y0 y1 y2 y3 y4 y5 y6 => by
        obtain ⟨y', f1, f2⟩ := fin y ky y1 y2 y3
        rw [y0, Option.bind_some] at pre
        refine ⟨y', pre.trans f1, ?_⟩
        rcases f2 with ⟨g1, _, g3⟩ | ⟨g1, g2⟩
        · subst g3
          refine ⟨AdC_put (AdC_put y5 (by decide)) (by decide), by rw [zs_eq, zs_other (by decide), zs_eq, zs_other (by decide)]; exact y1, by rw [zs_eq, zs_other (by decide), zs_eq, zs_other (by decide)]; exact y6, Or.inl ⟨g1, by rw [zs_eq, zs_other (by decide), zs_eq, zs_same], by rw [zs_eq, zs_same]⟩⟩
        · subst g2
          exact ⟨y5, y1, y6, Or.inr ⟨fun w => g1 ⟨w, y4⟩, rfl⟩⟩
      rcases findOwn_C (tp := tp) (K := K3) (fu := fu) (at' := at') (n := el - at') ht3 k34 (by omega) hlet (by omega) with ⟨w, v1, v2, v3, v4⟩ | ⟨v1, v2⟩
      · have m1 : ¬ nI w = -1 := fun q => (nI_eq_mI (a := w) (b := 1) (by omega) (by decide)).mp q
        have rw1 : f_X10_readWord fu K2 = some (sI (sI K3 7 3 (nI 2)) 7 6 (nI w)) := by
          unfold f_X10_readWord
          simp only [w1, Option.bind_some, bnd, w3, k34, elen, v2, if_neg m1]
          rfl
        obtain ⟨K, q1, q2, q3, q4, q5⟩ := rest _ 2 rw1 (by rw [zs_eq, zs_other (by decide), zs_eq, zs_other (by decide)]; exact k34) (by rw [zs_eq, zs_other (by decide), zs_eq, zs_same]) (by decide) (by decide) (AdC_put (AdC_put a3 (by decide)) (by decide)) (by rw [zs_eq, zs_other (by decide), zs_eq, zs_other (by decide)]; exact w3)
        refine ⟨K, q1, q2, q3, Or.inr (Or.inr (Or.inl ⟨by omega, cL, q4, ?_⟩))⟩
        rcases q5 with z | ⟨z1, z2⟩
        · exact Or.inl z
        · subst z2
          exact Or.inr ⟨z1, Or.inl ⟨w, ⟨v1, v3, v4⟩, by rw [zs_eq, zs_other (by decide), zs_eq, zs_same], by rw [zs_eq, zs_same], by rw [zs_eq, zs_other (by decide), zs_eq, zs_other (by decide)]; exact k35⟩⟩
      · have hno : ¬ ∃ w, ownAt tp at' (el - at') w := fun ⟨w, q1, q2, q3⟩ => v2 ⟨w, q1, q2, q3⟩
        by_cases c6 : el - at' ≤ 6
        · have c6' : nI (el - at') ≤ 6 := nI_le (b := 6) c6 (by decide)
          have pn := packName_C (tp := tp) (K := sI K3 7 3 (nI 1)) (fu := fu) (at' := at') (n := el - at') (fun k hk => by rw [zs_ne (by decide)]; exact ht3 k hk) (by rw [zs_eq, zs_other (by decide)]; exact k34) (by omega) hlet c6 (by omega)
          have pn' : f_X10_packName fu (sI K3 7 3 1) (nI (el - at')) = some (nI (P5 (fun j => tp (at' + j)) (el - at'))) := pn
          have rw1 : f_X10_readWord fu K2 = some (sI (sI K3 7 3 (nI 1)) 7 6 (nI (P5 (fun j => tp (at' + j)) (el - at')))) := by
            unfold f_X10_readWord
            simp only [w1, Option.bind_some, bnd, w3, k34, elen, v1, if_true, if_pos c6', pn']
            rfl
          obtain ⟨K, q1, q2, q3, q4, q5⟩ := rest _ 1 rw1 (by rw [zs_eq, zs_other (by decide), zs_eq, zs_other (by decide)]; exact k34) (by rw [zs_eq, zs_other (by decide), zs_eq, zs_same]) (by decide) (by decide) (AdC_put (AdC_put a3 (by decide)) (by decide)) (by rw [zs_eq, zs_other (by decide), zs_eq, zs_other (by decide)]; exact w3)
          refine ⟨K, q1, q2, q3, Or.inr (Or.inr (Or.inl ⟨by omega, cL, q4, ?_⟩))⟩
          rcases q5 with z | ⟨z1, z2⟩
          · exact Or.inl z
          · subst z2
            exact Or.inr ⟨z1, Or.inr ⟨hno, Or.inr ⟨c6, by rw [zs_eq, zs_other (by decide), zs_eq, zs_same], by rw [zs_eq, zs_same], by rw [zs_eq, zs_other (by decide), zs_eq, zs_other (by decide)]; exact k35⟩⟩⟩
        · have c6' : ¬ nI (el - at') ≤ 6 := nI_ge (b := el - at') (a := 6) (by omega) (by omega)
          have rw1 : f_X10_readWord fu K2 = some (sI (sI K3 7 3 (nI 5)) 7 5 (nI (at' + 6))) := by
            have e6 : (sI K3 7 3 5) 7 4 + 6 = nI (at' + 6) := by
              rw [zs_eq, zs_other (by decide), k34]
              exact nI_add at' 6
            unfold f_X10_readWord
            simp only [w1, Option.bind_some, bnd, w3, k34, elen, v1, if_true, if_neg c6', e6]
            rfl
          obtain ⟨K, q1, q2, q3, q4, q5⟩ := rest _ 5 rw1 (by rw [zs_eq, zs_other (by decide), zs_eq, zs_other (by decide)]; exact k34) (by rw [zs_eq, zs_other (by decide), zs_eq, zs_same]) (by decide) (by decide) (AdC_put (AdC_put a3 (by decide)) (by decide)) (by rw [zs_eq, zs_other (by decide), zs_eq, zs_other (by decide)]; exact w3)
          refine ⟨K, q1, q2, q3, Or.inr (Or.inr (Or.inl ⟨by omega, cL, q4, ?_⟩))⟩
          rcases q5 with z | ⟨z1, z2⟩
          · exact Or.inl z
          · subst z2
            exact Or.inr ⟨z1, Or.inr ⟨hno, Or.inl ⟨by omega, by rw [zs_eq, zs_other (by decide), zs_eq, zs_same], by rw [zs_eq, zs_same]⟩⟩⟩
    · rw [if_neg cL] at hL
      rw [hL, Option.bind_some, if_pos rfl, ld] at pre
      by_cases cD : byD (tp at') = true
      · rw [if_pos cD] at hDg
        rw [hDg, Option.bind_some, if_neg n3] at pre
        obtain ⟨p1, p2, p3, p4⟩ := rn_prop (P := fun k => byD (tp k)) (sz := sz) (sz - at') at' (by omega)
        have p5 : at' < rn (fun k => byD (tp k)) sz at' := by
          have q := (rn_prop (P := fun k => byD (tp k)) (sz := sz) (sz - (at' + 1)) (at' + 1) (by omega)).1
          rw [rn_go (P := fun k => byD (tp k)) (show at' < sz by omega) cD]
          omega
        obtain ⟨K3, w1, w2, w3⟩ := digits_C (tp := tp) (sz := sz) (I := K2) (at' := at') hz ht2 k21 k24 p3 (sz - at') at' fu K2 (Nat.le_refl _) (by omega) (by omega) ⟨fun _ _ => rfl, fun _ _ => rfl⟩ k22 rfl (by omega)
        have a3 := OnN_Ad a2 w2
        rw [show at' - at' = 0 by omega] at w1
        have w1' : f_X10_readNumber_L2 fu K2 0 = some (nI (dgN (fun k => min (tp (at' + k)) 57) (rn (fun k => byD (tp k)) sz at' - at')), K3) := w1
        obtain ⟨el, hel⟩ : ∃ el, el = rn (fun k => byD (tp k)) sz at' := ⟨_, rfl⟩
        rw [← hel] at w3 w1' p1 p2 p3 p5 ⊢
        obtain ⟨nv, hnv⟩ : ∃ nv, nv = dgN (fun j => min (tp (at' + j)) 57) (el - at') := ⟨_, rfl⟩
        rw [← hnv] at w1' ⊢
        have k34 : K3 7 4 = nI at' := by rw [w2.2 4 (by decide)]; exact k24
        have k35 : K3 7 5 = nI at' := by rw [w2.2 5 (by decide)]; exact k25
        have elen : nI el - nI at' = nI (el - at') := pk_sub (by omega)
        have rest : ∀ (y : HI) (ky : Nat), f_X10_readNumber fu K2 = some y → y 7 4 = nI at' → y 7 3 = nI ky → ky ≤ 5 → ky ≠ 0 ∧ ky ≠ 4 → AdC I y → y 7 2 = nI el → ∃ K, f_X10_advance fu I = some (1, K) ∧ AdC I K ∧ K 7 4 = nI at' ∧ K 7 2 = nI el ∧ ((((k0 ≠ 0 ∧ k0 ≠ 4) ∧ at' = e) ∧ K 7 3 = nI 5 ∧ K 7 5 = nI at') ∨ (¬ ((k0 ≠ 0 ∧ k0 ≠ 4) ∧ at' = e) ∧ K = y)) := fun y ky y0 y1 y2 y3 y4 y5 y6 => by
          obtain ⟨y', f1, f2⟩ := fin y ky y1 y2 y3
          rw [y0, Option.bind_some] at pre
          refine ⟨y', pre.trans f1, ?_⟩
          rcases f2 with ⟨g1, _, g3⟩ | ⟨g1, g2⟩
          · subst g3
            refine ⟨AdC_put (AdC_put y5 (by decide)) (by decide), by rw [zs_eq, zs_other (by decide), zs_eq, zs_other (by decide)]; exact y1, by rw [zs_eq, zs_other (by decide), zs_eq, zs_other (by decide)]; exact y6, Or.inl ⟨g1, by rw [zs_eq, zs_other (by decide), zs_eq, zs_same], by rw [zs_eq, zs_same]⟩⟩
          · subst g2
            exact ⟨y5, y1, y6, Or.inr ⟨fun w => g1 ⟨w, y4⟩, rfl⟩⟩
        have q2 : (sI (sI K3 7 3 (nI 3)) 7 6 (nI nv)) 7 2 = nI el := by rw [zs_eq, zs_other (by decide), zs_eq, zs_other (by decide)]; exact w3
        have q4 : (sI (sI K3 7 3 (nI 3)) 7 6 (nI nv)) 7 4 = nI at' := by rw [zs_eq, zs_other (by decide), zs_eq, zs_other (by decide)]; exact k34
        have q2' : (sI (sI K3 7 3 3) 7 6 (nI nv)) 7 2 = nI el := q2
        have q4' : (sI (sI K3 7 3 3) 7 6 (nI nv)) 7 4 = nI at' := q4
        by_cases c4 : el - at' ≤ 4
        · have c4' : nI (el - at') ≤ 4 := nI_le (b := 4) c4 (by decide)
          have rw1 : f_X10_readNumber fu K2 = some (sI (sI K3 7 3 (nI 3)) 7 6 (nI nv)) := by
            unfold f_X10_readNumber
            simp only [w1', Option.bind_some, bnd, q2', q4', elen, if_pos c4']
            rfl
          obtain ⟨K, z1, z2, z3, z4, z5⟩ := rest _ 3 rw1 q4 (by rw [zs_eq, zs_other (by decide), zs_eq, zs_same]) (by decide) (by decide) (AdC_put (AdC_put a3 (by decide)) (by decide)) q2
          refine ⟨K, z1, z2, z3, Or.inr (Or.inr (Or.inr ⟨by omega, cD, z4, ?_⟩))⟩
          rcases z5 with z | ⟨z6, z7⟩
          · exact Or.inl z
          · subst z7
            exact Or.inr ⟨z6, Or.inr ⟨c4, by rw [zs_eq, zs_other (by decide), zs_eq, zs_same], by rw [zs_eq, zs_same], by rw [zs_eq, zs_other (by decide), zs_eq, zs_other (by decide)]; exact k35⟩⟩
        · have c4' : ¬ nI (el - at') ≤ 4 := nI_ge (b := el - at') (a := 4) (by omega) (by omega)
          have rw1 : f_X10_readNumber fu K2 = some (sI (sI (sI (sI K3 7 3 (nI 3)) 7 6 (nI nv)) 7 3 (nI 5)) 7 5 (nI (at' + 4))) := by
            have e4 : (sI (sI (sI K3 7 3 3) 7 6 (nI nv)) 7 3 5) 7 4 + 4 = nI (at' + 4) := by
              rw [zs_eq, zs_other (by decide), q4']
              exact nI_add at' 4
            unfold f_X10_readNumber
            simp only [w1', Option.bind_some, bnd, q2', q4', elen, if_neg c4', e4]
            rfl
          obtain ⟨K, z1, z2, z3, z4, z5⟩ := rest _ 5 rw1 (by rw [zs_eq, zs_other (by decide), zs_eq, zs_other (by decide)]; exact q4) (by rw [zs_eq, zs_other (by decide), zs_eq, zs_same]) (by decide) (by decide) (AdC_put (AdC_put (AdC_put (AdC_put a3 (by decide)) (by decide)) (by decide)) (by decide)) (by rw [zs_eq, zs_other (by decide), zs_eq, zs_other (by decide)]; exact q2)
          refine ⟨K, z1, z2, z3, Or.inr (Or.inr (Or.inr ⟨by omega, cD, z4, ?_⟩))⟩
          rcases z5 with z | ⟨z6, z7⟩
          · exact Or.inl z
          · subst z7
            exact Or.inr ⟨z6, Or.inl ⟨by omega, by rw [zs_eq, zs_other (by decide), zs_eq, zs_same], by rw [zs_eq, zs_same]⟩⟩
      · rw [if_neg cD] at hDg
        rw [hDg, Option.bind_some, if_pos rfl] at pre
        obtain ⟨K3, hK3⟩ : ∃ K3, K3 = sI (sI (sI K2 7 3 (nI 4)) 7 6 (nI (tp at'))) 7 2 (nI (at' + 1)) := ⟨_, rfl⟩
        have k34 : K3 7 4 = nI at' := by rw [hK3, zs_eq, zs_other (by decide), zs_eq, zs_other (by decide), zs_eq, zs_other (by decide)]; exact k24
        have k33 : K3 7 3 = nI 4 := by rw [hK3, zs_eq, zs_other (by decide), zs_eq, zs_other (by decide), zs_eq, zs_same]
        obtain ⟨y', f1, f2⟩ := fin K3 4 k34 k33 (by decide)
        have ey : y' = K3 := by
          rcases f2 with ⟨_, w, _⟩ | ⟨_, w⟩
          · exact absurd rfl w.2
          · exact w
        subst ey
        have ld2 : ∀ k : Int32 → Option (Int32 × HI), ldI ((sI K2 7 3 4) 2) 1600 ((sI K2 7 3 4) 7 2) k = k (nI (tp at')) := fun k => by rw [zs_ne (by decide), zs_eq, zs_other (by decide), k22]; exact ld k
        have e2 : sI (sI (sI K2 7 3 4) 7 6 (nI (tp at'))) 7 2 ((sI (sI K2 7 3 4) 7 6 (nI (tp at'))) 7 2 + 1) = y' := by
          rw [hK3, zs_eq, zs_other (by decide), zs_eq, zs_other (by decide), k22, nI_1]
          rfl
        simp only [bnd, ld2, e2] at pre
        refine ⟨y', pre.trans f1, ?_, k34, Or.inr (Or.inl ⟨by omega, cL, cD, k33, by rw [hK3, zs_eq, zs_same], by rw [hK3, zs_eq, zs_other (by decide), zs_eq, zs_other (by decide), zs_eq, zs_other (by decide)]; exact k25, by rw [hK3, zs_eq, zs_other (by decide), zs_eq, zs_same]⟩)⟩
        rw [hK3]
        exact AdC_put (AdC_put (AdC_put a2 (by decide)) (by decide)) (by decide)
end
