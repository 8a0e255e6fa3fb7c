/-! the reader: a step by the reference -/
section
variable {tp : Nat → Nat} {sz fu : Nat}
theorem AdM_put {J K : HI} {s : Nat} {v : Int32} (h : AdM J K) (hs : (3 ≤ s ∧ s ≤ 6) ∨ s = 12) : AdM J (sI K 100 s v) := ⟨fun x hx => by rw [zs_ne hx]; exact h.1 x hx, fun s' hs' => by rw [zs_eq, zs_other (by omega)]; exact h.2 s' hs'⟩
theorem OnJ_Ad {J K K' : HI} (h : AdM J K) (o : OnJ K K') : AdM J K' := ⟨fun x hx => (o.1 x hx).trans (h.1 x hx), fun s hs => (o.2 s (by omega) (by omega)).trans (h.2 s hs)⟩
theorem stepA_M {J : HI} {M : HL} {e at' : Nat} (hz : sz ≤ 1600) (hf : 2000 < fu) (ht : ∀ k, k < 1600 → tp k < 256 ∧ J 101 k = nI (tp k)) (h2 : J 100 2 = nI sz) (h5 : J 100 5 = nI e) (he : e ≤ sz) (hat : at' = rn (fun k => byB (tp k)) sz e) : ∃ J' M', f_X12_ahead fu J M = some (J', M') ∧ AdM J J' ∧ OnL M M' ∧ J' 100 4 = nI at' ∧ ((sz ≤ at' ∧ J' 100 3 = 0 ∧ J' 100 5 = nI at' ∧ J' 100 12 = -1) ∨ (at' < sz ∧ ¬ byL (tp at') = true ∧ ¬ byD (tp at') = true ∧ J' 100 3 = 3 ∧ J' 100 5 = nI (at' + 1) ∧ J' 100 12 = -1 ∧ J' 100 6 = nI (tp at')) ∨ (at' < sz ∧ byL (tp at') = true ∧ J' 100 3 = 1 ∧ J' 100 5 = nI (rn (fun k => byL (tp k)) sz at') ∧ M' 100 7 = lN (P8 (fun j => tp (at' + j)) (rn (fun k => byL (tp k)) sz at' - at')) ∧ (((0 < at' ∧ (byL (tp (at' - 1)) = true ∨ byD (tp (at' - 1)) = true)) ∧ J' 100 12 = nI at') ∨ (¬ (0 < at' ∧ (byL (tp (at' - 1)) = true ∨ byD (tp (at' - 1)) = true)) ∧ (((∃ w, ownAt tp at' (rn (fun k => byL (tp k)) sz at' - at') w) ∧ J' 100 12 = -1) ∨ ((¬ ∃ w, ownAt tp at' (rn (fun k => byL (tp k)) sz at' - at') w) ∧ ((6 < rn (fun k => byL (tp k)) sz at' - at' ∧ J' 100 12 = nI (at' + 6)) ∨ (rn (fun k => byL (tp k)) sz at' - at' ≤ 6 ∧ J' 100 12 = -1))))))) ∨ (at' < sz ∧ byD (tp at') = true ∧ J' 100 3 = 2 ∧ J' 100 5 = nI (rn (fun k => byD (tp k)) sz at') ∧ J' 100 6 = nI (dgN (fun j => min (tp (at' + j)) 57) (rn (fun k => byD (tp k)) sz at' - at')) ∧ (((0 < at' ∧ (byL (tp (at' - 1)) = true ∨ byD (tp (at' - 1)) = true)) ∧ J' 100 12 = nI at') ∨ (¬ (0 < at' ∧ (byL (tp (at' - 1)) = true ∨ byD (tp (at' - 1)) = true)) ∧ ((4 < rn (fun k => byD (tp k)) sz at' - at' ∧ J' 100 12 = nI (at' + 4)) ∨ (rn (fun k => byD (tp k)) sz at' - at' ≤ 4 ∧ J' 100 12 = -1)))))) := by
  have n3 : ¬ (1 : Int32) = 0 := by decide
  obtain ⟨r1, r2, r3, r4⟩ := rn_prop (P := fun k => byB (tp k)) (sz := sz) (sz - e) e (by omega)
  rw [← hat] at r1 r2 r3 r4
  have s1 := skip_M (tp := tp) (sz := sz) (J := J) hz ht h2 (sz - e) e fu (by omega) (by omega)
  rw [← hat] at s1
  obtain ⟨JB, hJB⟩ : ∃ JB, JB = sI (sI (sI (sI J 100 4 (nI at')) 100 5 (nI at')) 100 3 0) 100 12 (-1) := ⟨_, rfl⟩
  have aB : AdM J JB := by
    rw [hJB]
    exact AdM_put (AdM_put (AdM_put (AdM_put ⟨fun _ _ => rfl, fun _ _ => rfl⟩ (by decide)) (by decide)) (by decide)) (by decide)
  have b4 : JB 100 4 = nI at' := by rw [hJB, zs_eq, zs_other (by decide), zs_eq, zs_other (by decide), zs_eq, zs_other (by decide), zs_eq, zs_same]
  have b5 : JB 100 5 = nI at' := by rw [hJB, zs_eq, zs_other (by decide), zs_eq, zs_other (by decide), zs_eq, zs_same]
  have b3 : JB 100 3 = 0 := by rw [hJB, zs_eq, zs_other (by decide), zs_eq, zs_same]
  have b12 : JB 100 12 = -1 := by rw [hJB, zs_eq, zs_same]
  have b2 : JB 100 2 = nI sz := by rw [aB.2 2 (by omega)]; exact h2
  have b101 : JB 101 = J 101 := aB.1 101 (by decide)
  by_cases cend : sz ≤ at'
  · have c1 : ¬ nI at' < nI sz := nI_nlt cend (by omega)
    refine ⟨JB, M, ?_, aB, ⟨fun _ _ => rfl, fun _ _ => rfl⟩, b4, Or.inl ⟨cend, b3, b5, b12⟩⟩
    unfold f_X12_ahead
    rw [h5, s1]
    simp only [Option.bind_some, bnd, ← hJB, b2, if_neg c1]
  have c1 : nI at' < nI sz := nI_lt (by omega) (by omega)
  obtain ⟨t1, t2⟩ := ht at' (by omega)
  have ld : ∀ {α : Type} (k : Int32 → Option α), ldI (J 101) 1800 (nI at') k = k (nI (tp at')) := fun k => by rw [ldI_ok (by omega), t2]
  have ldB : ∀ {α : Type} (k : Int32 → Option α), ldI (JB 101) 1800 (nI at') k = k (nI (tp at')) := fun k => by rw [b101]; exact ld k
  have hL := (letter_C t1).2
  have hDg := (digit_C t1).2
  -- the place of what is wrong by what stands right behind
  obtain ⟨lx, hlx, hlx2⟩ : ∃ lx : Int32, (((0 < at' ∧ (byL (tp (at' - 1)) = true ∨ byD (tp (at' - 1)) = true)) ∧ lx = nI at') ∨ (¬ (0 < at' ∧ (byL (tp (at' - 1)) = true ∨ byD (tp (at' - 1)) = true)) ∧ lx = -1)) ∧ ∀ (j18 : HI → Option (HI × HL)), (if nI at' ≤ 0 then j18 JB else ldI (JB 101) 1800 (nI at' - 1) fun v22 => (f_X12_isLetter v22).bind fun x23 => if x23 = 0 then ldI (JB 101) 1800 (nI at' - 1) fun v25 => (f_X12_isDigit v25).bind fun x26 => if x26 = 0 then j18 JB else j18 (sI JB 100 12 (nI at')) else j18 (sI JB 100 12 (nI at'))) = j18 (sI JB 100 12 lx) := by
    have esame : sI JB 100 12 (-1) = JB := by
      funext x k
      by_cases cx : x = 100
      · subst cx
        rw [zs_eq]
        by_cases ck : k = 12
        · rw [ck, zs_same, b12]
        · rw [zs_other ck]
      · rw [zs_ne cx]
    by_cases c0 : at' = 0
    · refine ⟨-1, Or.inr ⟨fun w => by omega, rfl⟩, fun j18 => ?_⟩
      have z : nI at' ≤ 0 := by rw [c0]; decide
      rw [if_pos z, esame]
    · have z : ¬ nI at' ≤ 0 := nI_nle (by omega) (by omega)
      have es : nI at' - 1 = nI (at' - 1) := by rw [zq1, pk_sub (by omega)]
      obtain ⟨u1, u2⟩ := ht (at' - 1) (by omega)
      have ldm : ∀ (k : Int32 → Option (HI × HL)), ldI (JB 101) 1800 (nI (at' - 1)) k = k (nI (tp (at' - 1))) := fun k => by rw [b101, ldI_ok (by omega), u2]
      have gL := (letter_C u1).2
      have gD := (digit_C u1).2
      by_cases cL : byL (tp (at' - 1)) = true
      · refine ⟨nI at', Or.inl ⟨⟨by omega, Or.inl cL⟩, rfl⟩, fun j18 => ?_⟩
        rw [if_pos cL] at gL
        rw [if_neg z, es, ldm, gL, Option.bind_some, if_neg n3]
      · rw [if_neg cL] at gL
        by_cases cD : byD (tp (at' - 1)) = true
        · refine ⟨nI at', Or.inl ⟨⟨by omega, Or.inr cD⟩, rfl⟩, fun j18 => ?_⟩
          rw [if_pos cD] at gD
          rw [if_neg z, es, ldm, gL, Option.bind_some, if_pos rfl, ldm, gD, Option.bind_some, if_neg n3]
        · refine ⟨-1, Or.inr ⟨fun w => w.2.elim cL cD, rfl⟩, fun j18 => ?_⟩
          rw [if_neg cD] at gD
          rw [if_neg z, es, ldm, gL, Option.bind_some, if_pos rfl, ldm, gD, Option.bind_some, if_pos rfl, esame]
  have hlxz : lx = -1 ∨ ∃ z, z ≤ 1600 ∧ lx = nI z := by
    rcases hlx with ⟨_, w⟩ | ⟨_, w⟩
    · exact Or.inr ⟨at', by omega, w⟩
    · exact Or.inl w
  have es1 : nI at' + 1 = nI (at' + 1) := nI_1 at'
  obtain ⟨M1, hM1⟩ : ∃ M1, M1 = sL M 100 7 0 := ⟨_, rfl⟩
  have oM1 : OnL M M1 := by
    rw [hM1]
    exact ⟨fun x hx => zL_ne hx, fun s hs => by rw [zL_eq, vU_ne hs]⟩
  have m17 : M1 100 7 = lN 0 := by
    rw [hM1, zL_eq, vU_eq]
    rfl
  by_cases cL : byL (tp at') = true
  · rw [if_pos cL] at hL
    have cD0 : ¬ byD (tp at') = true := fun w => by
      have q1 := byL_iff.mp cL
      have q2 := byD_iff.mp w
      omega
    rw [if_neg cD0] at hDg
    obtain ⟨p1, p2, p3, p4⟩ := rn_prop (P := fun k => byL (tp k)) (sz := sz) (sz - at') at' (by omega)
    have p5 : at' < rn (fun k => byL (tp k)) sz at' := by
      have q := (rn_prop (P := fun k => byL (tp k)) (sz := sz) (sz - (at' + 1)) (at' + 1) (by omega)).1
      rw [rn_go (P := fun k => byL (tp k)) (show at' < sz by omega) cL]
      omega
    obtain ⟨J1, hJ1⟩ : ∃ J1, J1 = sI (sI (sI (sI (sI JB 100 12 lx) 100 6 0) 100 3 3) 100 5 (nI (at' + 1))) 100 3 1 := ⟨_, rfl⟩
    have a1 : AdM J J1 := by
      rw [hJ1]
      exact AdM_put (AdM_put (AdM_put (AdM_put (AdM_put aB (by decide)) (by decide)) (by decide)) (by decide)) (by decide)
    have j12 : J1 100 12 = lx := by rw [hJ1, zs_eq, zs_other (by decide), zs_eq, zs_other (by decide), zs_eq, zs_other (by decide), zs_eq, zs_other (by decide), zs_eq, zs_same]
    have j13 : J1 100 3 = 1 := by rw [hJ1, zs_eq, zs_same]
    have j14 : J1 100 4 = nI at' := by rw [hJ1, zs_eq, zs_other (by decide), zs_eq, zs_other (by decide), zs_eq, zs_other (by decide), zs_eq, zs_other (by decide), zs_eq, zs_other (by decide)]; exact b4
    have ht1 : ∀ k, k < 1600 → tp k < 256 ∧ J1 101 k = nI (tp k) := fun k hk => by rw [a1.1 101 (by decide)]; exact ht k hk
    obtain ⟨J2, M2, w1, w2, w3, w4, w5⟩ := words_M (tp := tp) (sz := sz) (at' := at') (J0 := J1) (M0 := M1) hz ht1 (by rw [a1.2 2 (by omega)]; exact h2) hlxz p3 (sz - at') 0 fu J1 M1 (by omega) (by omega) ⟨fun _ _ => rfl, fun _ _ _ => rfl⟩ ⟨fun _ _ => rfl, fun _ _ => rfl⟩ (by rw [j12, if_neg (fun w => by omega)]) m17 rfl (by omega)
    obtain ⟨el, hel⟩ : ∃ el, el = rn (fun k => byL (tp k)) sz at' := ⟨_, rfl⟩
    rw [← hel] at w1 w4 w5 p1 p2 p3 p5 ⊢
    have w1' : f_X12_ahead_L204 fu J1 M1 (nI at') 1 0 6 0 = some (nI el, nI (el - at'), J2, M2) := w1
    have a2 := OnJ_Ad a1 w2
    obtain ⟨J3, hJ3⟩ : ∃ J3, J3 = sI J2 100 5 (nI el) := ⟨_, rfl⟩
    have a3 : AdM J J3 := by rw [hJ3]; exact AdM_put a2 (by decide)
    have j33 : J3 100 3 = 1 := by rw [hJ3, zs_eq, zs_other (by decide), w2.2 3 (by decide) (by decide)]; exact j13
    have j34 : J3 100 4 = nI at' := by rw [hJ3, zs_eq, zs_other (by decide), w2.2 4 (by decide) (by decide)]; exact j14
    have j35 : J3 100 5 = nI el := by rw [hJ3, zs_eq, zs_same]
    have j312 : J3 100 12 = if lx = -1 ∧ 6 < el - at' then nI (at' + 6) else lx := by rw [hJ3, zs_eq, zs_other (by decide)]; exact w4
    have hlet : ∀ j, j < el - at' → 97 ≤ tp (at' + j) ∧ tp (at' + j) ≤ 122 := fun j hj => byL_iff.mp (p3 (at' + j) (by omega) (by omega))
    have oM2 : OnL M M2 := ⟨fun x hx => (w3.1 x hx).trans (oM1.1 x hx), fun s hs => (w3.2 s hs).trans (oM1.2 s hs)⟩
    have pre : f_X12_ahead fu J M = (if 8 < nI (el - at') then some (J3, M2) else if (J3 100 12) = ((J3 100 4) + 6) then (f_X12_isOwn (M2 100 7)).bind fun x79 => if x79 = 0 then some (J3, M2) else some (sI J3 100 12 (-1), M2) else some (J3, M2)) := by
      unfold f_X12_ahead
      rw [h5, s1]
      simp only [Option.bind_some, bnd, ← hJB, b2, if_pos c1, ldB, hL, hDg, jnt, if_neg n3, es1, ← hM1]
      refine (hlx2 (fun J18 => (f_X12_ahead_L204 fu (sI (sI (sI (sI J18 100 6 0) 100 3 3) 100 5 (nI (at' + 1))) 100 3 1) M1 (nI at') 1 0 6 0).bind fun x77 => if 8 < x77.2.1 then some (sI x77.2.2.1 100 5 x77.1, x77.2.2.2) else if sI x77.2.2.1 100 5 x77.1 100 12 = sI x77.2.2.1 100 5 x77.1 100 4 + 6 then (f_X12_isOwn (x77.2.2.2 100 7)).bind fun x79 => if x79 = 0 then some (sI x77.2.2.1 100 5 x77.1, x77.2.2.2) else some (sI (sI x77.2.2.1 100 5 x77.1) 100 12 (-1), x77.2.2.2) else some (sI x77.2.2.1 100 5 x77.1, x77.2.2.2))).trans ?_
      simp only [← hJ1, w1', Option.bind_some, ← hJ3]
    have e6 : J3 100 4 + 6 = nI (at' + 6) := by
      rw [j34]
      exact nI_add at' 6
    have ownIff : (∃ w, w < 25 ∧ P8 (fun j => tp (at' + j)) (el - at') = ownL w) ∧ el - at' ≤ 8 → ∃ w, ownAt tp at' (el - at') w := fun ⟨⟨w, q1, q2⟩, q3⟩ => by
      obtain ⟨⟨o1, o2⟩, o3⟩ := own_ok w q1
      obtain ⟨z1, z2⟩ := P8_inj (g := fun j => tp (at' + j)) (g' := ownG w) (el - at') (ownN w) q3 (by omega) hlet (fun j hj => ((o3 j (by omega)).1 hj).1) q2
      exact ⟨w, q1, z1, z2⟩
    have ownFrom : ∀ w, ownAt tp at' (el - at') w → P8 (fun j => tp (at' + j)) (el - at') = ownL w ∧ el - at' ≤ 7 := fun w ⟨q1, q2, q3⟩ => by
      have := (own_ok w q1).1
      refine ⟨?_, by omega⟩
      unfold ownL
      rw [← q2]
      have key : ∀ n, (∀ j, j < n → tp (at' + j) = ownG w j) → P8 (fun j => tp (at' + j)) n = P8 (ownG w) n := by
        intro n
        induction n with
        | zero => intro _; rfl
        | succ n ih =>
          intro h
          show (if n < 8 then 256 * P8 (fun j => tp (at' + j)) n + tp (at' + n) else P8 (fun j => tp (at' + j)) n) = (if n < 8 then 256 * P8 (ownG w) n + ownG w n else P8 (ownG w) n)
          rw [ih (fun j hj => h j (by omega)), h n (by omega)]
      exact key _ q3
    have hout : ∀ J' : HI, f_X12_ahead fu J M = some (J', M2) → AdM J J' → J' 100 3 = 1 → J' 100 4 = nI at' → J' 100 5 = nI el → (((0 < at' ∧ (byL (tp (at' - 1)) = true ∨ byD (tp (at' - 1)) = true)) ∧ J' 100 12 = nI at') ∨ (¬ (0 < at' ∧ (byL (tp (at' - 1)) = true ∨ byD (tp (at' - 1)) = true)) ∧ (((∃ w, ownAt tp at' (el - at') w) ∧ J' 100 12 = -1) ∨ ((¬ ∃ w, ownAt tp at' (el - at') w) ∧ ((6 < el - at' ∧ J' 100 12 = nI (at' + 6)) ∨ (el - at' ≤ 6 ∧ J' 100 12 = -1)))))) → ∃ J' M', f_X12_ahead fu J M = some (J', M') ∧ AdM J J' ∧ OnL M M' ∧ J' 100 4 = nI at' ∧ ((sz ≤ at' ∧ J' 100 3 = 0 ∧ J' 100 5 = nI at' ∧ J' 100 12 = -1) ∨ (at' < sz ∧ ¬ byL (tp at') = true ∧ ¬ byD (tp at') = true ∧ J' 100 3 = 3 ∧ J' 100 5 = nI (at' + 1) ∧ J' 100 12 = -1 ∧ J' 100 6 = nI (tp at')) ∨ (at' < sz ∧ byL (tp at') = true ∧ J' 100 3 = 1 ∧ J' 100 5 = nI el ∧ M' 100 7 = lN (P8 (fun j => tp (at' + j)) (el - at')) ∧ (((0 < at' ∧ (byL (tp (at' - 1)) = true ∨ byD (tp (at' - 1)) = true)) ∧ J' 100 12 = nI at') ∨ (¬ (0 < at' ∧ (byL (tp (at' - 1)) = true ∨ byD (tp (at' - 1)) = true)) ∧ (((∃ w, ownAt tp at' (el - at') w) ∧ J' 100 12 = -1) ∨ ((¬ ∃ w, ownAt tp at' (el - at') w) ∧ ((6 < el - at' ∧ J' 100 12 = nI (at' + 6)) ∨ (el - at' ≤ 6 ∧ J' 100 12 = -1))))))) ∨ (at' < sz ∧ byD (tp at') = true ∧ J' 100 3 = 2 ∧ J' 100 5 = nI (rn (fun k => byD (tp k)) sz at') ∧ J' 100 6 = nI (dgN (fun j => min (tp (at' + j)) 57) (rn (fun k => byD (tp k)) sz at' - at')) ∧ (((0 < at' ∧ (byL (tp (at' - 1)) = true ∨ byD (tp (at' - 1)) = true)) ∧ J' 100 12 = nI at') ∨ (¬ (0 < at' ∧ (byL (tp (at' - 1)) = true ∨ byD (tp (at' - 1)) = true)) ∧ ((4 < rn (fun k => byD (tp k)) sz at' - at' ∧ J' 100 12 = nI (at' + 4)) ∨ (rn (fun k => byD (tp k)) sz at' - at' ≤ 4 ∧ J' 100 12 = -1)))))) := fun J' q1 q2 q3 q4 q5 q6 => ⟨J', M2, q1, q2, oM2, q4, Or.inr (Or.inr (Or.inl ⟨by omega, cL, q3, q5, w5, q6⟩))⟩
    rcases hlx with ⟨g1, g2⟩ | ⟨g1, g2⟩
    · -- right behind a word or a number
      have z : ¬ lx = -1 := by rw [g2]; exact fun q => (nI_eq_mI (a := at') (b := 1) (by omega) (by decide)).mp q
      rw [if_neg (fun w => z w.1), g2] at j312
      have z6 : ¬ nI at' = nI (at' + 6) := fun w => by
        have := (nI_eq (by omega) (by omega)).mp w
        omega
      refine hout J3 ?_ a3 j33 j34 j35 (Or.inl ⟨g1, j312⟩)
      rw [pre, j312, e6, if_neg z6, ite_self]
    · rw [g2] at j312
      by_cases c6 : 6 < el - at'
      · rw [if_pos ⟨rfl, c6⟩] at j312
        by_cases c8 : 8 < el - at'
        · have c8' : 8 < nI (el - at') := nI_lt (a := 8) c8 (by omega)
          have hno : ¬ ∃ w, ownAt tp at' (el - at') w := fun ⟨w, q⟩ => by have := (ownFrom w q).2; omega
          refine hout J3 ?_ a3 j33 j34 j35 (Or.inr ⟨g1, Or.inr ⟨hno, Or.inl ⟨c6, j312⟩⟩⟩)
          rw [pre, if_pos c8']
        · have c8' : ¬ 8 < nI (el - at') := nI_nlt (a := 8) (b := el - at') (by omega) (by decide)
          have hb8 := (P8_lt (g := fun j => tp (at' + j)) (el - at') (by omega) hlet).1
          have hpw : 256 ^ (el - at' - 1) ≤ 256 ^ 7 := Nat.pow_le_pow_right (by decide) (by omega)
          have hb63 : P8 (fun j => tp (at' + j)) (el - at') < 2 ^ 63 := by omega
          rcases isOwn_M hb63 with ⟨q1, q2⟩ | ⟨q1, q2⟩
          · refine hout (sI J3 100 12 (-1)) ?_ (AdM_put a3 (by decide)) (by rw [zs_eq, zs_other (by decide)]; exact j33) (by rw [zs_eq, zs_other (by decide)]; exact j34) (by rw [zs_eq, zs_other (by decide)]; exact j35) (Or.inr ⟨g1, Or.inl ⟨ownIff ⟨q2, by omega⟩, by rw [zs_eq, zs_same]⟩⟩)
            rw [pre, if_neg c8', j312, e6, if_pos rfl, w5, q1, Option.bind_some, if_neg n3]
          · have hno : ¬ ∃ w, ownAt tp at' (el - at') w := fun ⟨w, q⟩ => q2 ⟨w, q.1, (ownFrom w q).1⟩
            refine hout J3 ?_ a3 j33 j34 j35 (Or.inr ⟨g1, Or.inr ⟨hno, Or.inl ⟨c6, j312⟩⟩⟩)
            rw [pre, if_neg c8', j312, e6, if_pos rfl, w5, q1, Option.bind_some, if_pos rfl]
      · rw [if_neg (fun w => c6 w.2)] at j312
        have z6 : ¬ (-1 : Int32) = nI (at' + 6) := fun w => (mI_eq_nI (a := at' + 6) (b := 1) (by omega) (by decide)).mp w
        have q0 : f_X12_ahead fu J M = some (J3, M2) := by rw [pre, j312, e6, if_neg z6, ite_self]
        by_cases co : ∃ w, ownAt tp at' (el - at') w
        · exact hout J3 q0 a3 j33 j34 j35 (Or.inr ⟨g1, Or.inl ⟨co, j312⟩⟩)
        · exact hout J3 q0 a3 j33 j34 j35 (Or.inr ⟨g1, Or.inr ⟨co, Or.inr ⟨by omega, j312⟩⟩⟩)
  · rw [if_neg cL] at hL
    by_cases cD : byD (tp at') = true
    · rw [if_pos cD] at hDg
      obtain ⟨p1, p2, p3, p4⟩ := rn_prop (P := fun k => byD (tp k)) (sz := sz) (sz - at') at' (by omega)
      obtain ⟨J1, hJ1⟩ : ∃ J1, J1 = sI (sI (sI (sI (sI JB 100 12 lx) 100 6 0) 100 3 3) 100 5 (nI (at' + 1))) 100 3 2 := ⟨_, rfl⟩
      have a1 : AdM J J1 := by
        rw [hJ1]
        exact AdM_put (AdM_put (AdM_put (AdM_put (AdM_put aB (by decide)) (by decide)) (by decide)) (by decide)) (by decide)
      have j12 : J1 100 12 = lx := by rw [hJ1, zs_eq, zs_other (by decide), zs_eq, zs_other (by decide), zs_eq, zs_other (by decide), zs_eq, zs_other (by decide), zs_eq, zs_same]
      have j13 : J1 100 3 = 2 := by rw [hJ1, zs_eq, zs_same]
      have j16 : J1 100 6 = nI 0 := by
        rw [hJ1, zs_eq, zs_other (by decide), zs_eq, zs_other (by decide), zs_eq, zs_other (by decide), zs_eq, zs_same]
        rfl
      have j14 : J1 100 4 = nI at' := by rw [hJ1, zs_eq, zs_other (by decide), zs_eq, zs_other (by decide), zs_eq, zs_other (by decide), zs_eq, zs_other (by decide), zs_eq, zs_other (by decide)]; exact b4
      have ht1 : ∀ k, k < 1600 → tp k < 256 ∧ J1 101 k = nI (tp k) := fun k hk => by rw [a1.1 101 (by decide)]; exact ht k hk
      obtain ⟨J2, w1, w2, w4, w5⟩ := nums_M (tp := tp) (sz := sz) (at' := at') (J0 := J1) (M0 := M1) hz ht1 (by rw [a1.2 2 (by omega)]; exact h2) (lx := lx) (sz - at') 0 fu J1 (by omega) (by omega) ⟨fun _ _ => rfl, fun _ _ _ => rfl⟩ (by rw [j12, if_neg (fun w => by omega)]) j16 rfl (by omega)
      obtain ⟨el, hel⟩ : ∃ el, el = rn (fun k => byD (tp k)) sz at' := ⟨_, rfl⟩
      rw [← hel] at w1 w4 w5 p1 p2 p3 ⊢
      have w1' : f_X12_ahead_L204 fu J1 M1 (nI at') 0 1 4 0 = some (nI el, nI (el - at'), J2, M1) := w1
      have a2 := OnJ_Ad a1 w2
      refine ⟨sI J2 100 5 (nI el), M1, ?_, AdM_put a2 (by decide), oM1, by rw [zs_eq, zs_other (by decide), w2.2 4 (by decide) (by decide)]; exact j14, Or.inr (Or.inr (Or.inr ⟨by omega, cD, by rw [zs_eq, zs_other (by decide), w2.2 3 (by decide) (by decide)]; exact j13, by rw [zs_eq, zs_same], by rw [zs_eq, zs_other (by decide)]; exact w5, ?_⟩))⟩
      · unfold f_X12_ahead
        rw [h5, s1]
        simp only [Option.bind_some, bnd, ← hJB, b2, if_pos c1, ldB, hL, hDg, jnt, if_neg n3, if_true, es1, ← hM1]
        refine (hlx2 (fun J18 => (f_X12_ahead_L204 fu (sI (sI (sI (sI J18 100 6 0) 100 3 3) 100 5 (nI (at' + 1))) 100 3 2) M1 (nI at') 0 1 4 0).bind fun x77 => some (sI x77.2.2.1 100 5 x77.1, x77.2.2.2))).trans ?_
        simp only [← hJ1, w1', Option.bind_some]
      · rw [zs_eq, zs_other (by decide), w4]
        rcases hlx with ⟨g1, g2⟩ | ⟨g1, g2⟩
        · have z : ¬ lx = -1 := by rw [g2]; exact fun q => (nI_eq_mI (a := at') (b := 1) (by omega) (by decide)).mp q
          rw [if_neg (fun w => z w.1), g2]
          exact Or.inl ⟨g1, rfl⟩
        · right
          refine ⟨g1, ?_⟩
          by_cases c4 : 4 < el - at'
          · rw [if_pos ⟨g2, c4⟩]
            exact Or.inl ⟨c4, rfl⟩
          · rw [if_neg (fun w => c4 w.2)]
            exact Or.inr ⟨by omega, g2⟩
    · rw [if_neg cD] at hDg
      obtain ⟨J1, hJ1⟩ : ∃ J1, J1 = sI (sI (sI (sI JB 100 6 0) 100 3 3) 100 5 (nI (at' + 1))) 100 6 (nI (tp at')) := ⟨_, rfl⟩
      have a1 : AdM J J1 := by
        rw [hJ1]
        exact AdM_put (AdM_put (AdM_put (AdM_put aB (by decide)) (by decide)) (by decide)) (by decide)
      refine ⟨J1, M1, ?_, a1, oM1, ?_, Or.inr (Or.inl ⟨by omega, cL, cD, ?_, ?_, ?_, by rw [hJ1, zs_eq, zs_same]⟩)⟩
      · have e101 : (sI (sI (sI JB 100 6 0) 100 3 3) 100 5 (nI (at' + 1))) 101 = J 101 := by rw [zs_ne (by decide), zs_ne (by decide), zs_ne (by decide), b101]
        unfold f_X12_ahead
        rw [h5, s1]
        simp only [Option.bind_some, bnd, ← hJB, b2, if_pos c1, b101, ld, hL, hDg, jnt, if_true, es1, e101, ← hJ1, ← hM1]
      · rw [hJ1, zs_eq, zs_other (by decide), zs_eq, zs_other (by decide), zs_eq, zs_other (by decide), zs_eq, zs_other (by decide)]; exact b4
      · rw [hJ1, zs_eq, zs_other (by decide), zs_eq, zs_other (by decide), zs_eq, zs_same]
      · rw [hJ1, zs_eq, zs_other (by decide), zs_eq, zs_same]
      · rw [hJ1, zs_eq, zs_other (by decide), zs_eq, zs_other (by decide), zs_eq, zs_other (by decide), zs_eq, zs_other (by decide)]; exact b12
/-- a step, on both sides -/
theorem adv_R {I J : HI} {M : HL} {k0 e : Nat} (hz : sz ≤ 1600) (hf : 2000 < fu) (ht : TPc I J tp) (h1 : I 7 1 = nI sz ∧ J 100 2 = nI sz) (h2 : I 7 2 = nI e ∧ J 100 5 = nI e) (h3 : I 7 3 = nI k0) (hk : k0 ≤ 5) (he : e ≤ sz) (hx : (k0 ≠ 0 ∧ k0 ≠ 4) ↔ (0 < e ∧ (byL (tp (e - 1)) = true ∨ byD (tp (e - 1)) = true))) : ∃ K J' M' k at' e', f_X10_advance fu I = some (1, K) ∧ f_X12_ahead fu J M = some (J', M') ∧ TKx tp sz K J' M' k at' e' ∧ e ≤ at' ∧ AdC I K ∧ AdM J J' ∧ OnL M M' := by
  obtain ⟨at', hat⟩ : ∃ at', at' = rn (fun k => byB (tp k)) sz e := ⟨_, rfl⟩
  obtain ⟨r1, r2, r3, r4⟩ := rn_prop (P := fun k => byB (tp k)) (sz := sz) (sz - e) e (by omega)
  rw [← hat] at r1 r2 r3 r4
  have hadj : ((k0 ≠ 0 ∧ k0 ≠ 4) ∧ at' = e) ↔ (0 < at' ∧ (byL (tp (at' - 1)) = true ∨ byD (tp (at' - 1)) = true)) := by
    by_cases ce : at' = e
    · rw [ce]
      exact ⟨fun w => hx.mp w.1, fun w => ⟨hx.mpr w, rfl⟩⟩
    · refine ⟨fun w => absurd w.2 ce, fun ⟨_, w⟩ => ?_⟩
      have hb := byB_iff.mp (r3 (at' - 1) (by omega) (by omega))
      rcases w with w | w
      · have := byL_iff.mp w; omega
      · have := byD_iff.mp w; omega
  obtain ⟨K, c1, c2, c3, c4⟩ := advance_C (tp := tp) (sz := sz) (fu := fu) (I := I) hz hf (fun k hk => ⟨(ht k hk).1, (ht k hk).2.1⟩) h1.1 h2.1 h3 hk he hat
  obtain ⟨J', M', m1, m2, m3, m4, m5⟩ := stepA_M (tp := tp) (sz := sz) (fu := fu) (J := J) (M := M) hz hf (fun k hk => ⟨(ht k hk).1, (ht k hk).2.2⟩) h1.2 h2.2 he hat
  have hsz : K 7 1 = nI sz ∧ J' 100 2 = nI sz := ⟨by rw [c2.2 1 (by omega)]; exact h1.1, by rw [m2.2 2 (by omega)]; exact h1.2⟩
  have mk : ∀ k e', K 7 2 = nI e' ∧ J' 100 5 = nI e' → K 7 3 = nI k → at' ≤ e' → e' ≤ sz → (k ≠ 0 → at' < e') → ((k = 0 ∧ J' 100 3 = 0 ∧ J' 100 12 = -1 ∧ K 7 5 = nI at') ∨ (k = 4 ∧ J' 100 3 = 3 ∧ J' 100 12 = -1 ∧ K 7 5 = nI at' ∧ ∃ c, c < 256 ∧ K 7 6 = nI c ∧ J' 100 6 = nI c) ∨ (k = 3 ∧ J' 100 3 = 2 ∧ J' 100 12 = -1 ∧ K 7 5 = nI at' ∧ ∃ v, v ≤ 9999 ∧ K 7 6 = nI v ∧ J' 100 6 = nI v) ∨ (k = 2 ∧ J' 100 3 = 1 ∧ J' 100 12 = -1 ∧ K 7 5 = nI at' ∧ ∃ w, w < 25 ∧ K 7 6 = nI w ∧ M' 100 7 = lN (ownL w)) ∨ (k = 1 ∧ J' 100 3 = 1 ∧ J' 100 12 = -1 ∧ K 7 5 = nI at' ∧ ∃ (g : Nat → Nat) (n : Nat), (∀ j, j < n → 97 ≤ g j ∧ g j ≤ 122) ∧ (1 ≤ n ∧ n ≤ 6) ∧ K 7 6 = nI (P5 g n) ∧ M' 100 7 = lN (P8 g n) ∧ ¬ ∃ w, w < 25 ∧ P8 g n = ownL w) ∨ (k = 5 ∧ (J' 100 3 = 1 ∨ J' 100 3 = 2) ∧ ∃ pl, pl ≤ 1700 ∧ J' 100 12 = nI pl ∧ K 7 5 = nI pl)) → (k = 0 ∨ (k ≠ 4 ↔ (byL (tp (e' - 1)) = true ∨ byD (tp (e' - 1)) = true))) → ∃ K J' M' k at' e', f_X10_advance fu I = some (1, K) ∧ f_X12_ahead fu J M = some (J', M') ∧ TKx tp sz K J' M' k at' e' ∧ e ≤ at' ∧ AdC I K ∧ AdM J J' ∧ OnL M M' := fun k e' q1 q2 q3 q4 q5 q6 q7 => ⟨K, J', M', k, at', e', c1, m1, ⟨⟨hsz, q1, ⟨c3, m4⟩, q2⟩, ⟨q3, q4, q5⟩, q6, q7⟩, r1, c2, m2, m3⟩
  by_cases cend : sz ≤ at'
  · rcases c4 with ⟨_, x1, x2, x3⟩ | ⟨w, _⟩ | ⟨w, _⟩ | ⟨w, _⟩
    · rcases m5 with ⟨_, y1, y2, y3⟩ | ⟨w, _⟩ | ⟨w, _⟩ | ⟨w, _⟩
      · exact mk 0 at' ⟨x2, y2⟩ x1 (Nat.le_refl _) r2 (fun w => absurd rfl w) (Or.inl ⟨rfl, y1, y3, x3⟩) (Or.inl rfl)
      · omega
      · omega
      · omega
    · omega
    · omega
    · omega
  · by_cases cL : byL (tp at') = true
    · have cD : ¬ byD (tp at') = true := fun w => by
        have h1 := byL_iff.mp cL
        have h2 := byD_iff.mp w
        omega
      obtain ⟨p1, p2, p3, p4⟩ := rn_prop (P := fun k => byL (tp k)) (sz := sz) (sz - at') at' (by omega)
      have p5 : at' < rn (fun k => byL (tp k)) sz at' := by
        have q := (rn_prop (P := fun k => byL (tp k)) (sz := sz) (sz - (at' + 1)) (at' + 1) (by omega)).1
        rw [rn_go (P := fun k => byL (tp k)) (show at' < sz by omega) cL]
        omega
      have tb : byL (tp (rn (fun k => byL (tp k)) sz at' - 1)) = true := p3 _ (by omega) (by omega)
      have hlet : ∀ j, j < rn (fun k => byL (tp k)) sz at' - at' → 97 ≤ tp (at' + j) ∧ tp (at' + j) ≤ 122 := fun j hj => byL_iff.mp (p3 (at' + j) (by omega) (by omega))
      rcases c4 with ⟨w, _⟩ | ⟨_, w, _⟩ | ⟨_, _, x1, x2⟩ | ⟨_, w, _⟩
      · omega
      · exact absurd cL w
      · rcases m5 with ⟨w, _⟩ | ⟨_, w, _⟩ | ⟨_, _, y1, y2, y3, y4⟩ | ⟨_, w, _⟩
        · omega
        · exact absurd cL w
        · rcases x2 with ⟨x3, x4, x5⟩ | ⟨x3, x4⟩
          · have y5 : J' 100 12 = nI at' := by
              rcases y4 with ⟨_, z⟩ | ⟨z, _⟩
              · exact z
              · exact absurd (hadj.mp x3) z
            exact mk 5 _ ⟨x1, y2⟩ x4 p1 p2 (fun _ => p5) (Or.inr (Or.inr (Or.inr (Or.inr (Or.inr ⟨rfl, Or.inl y1, at', by omega, y5, x5⟩))))) (Or.inr ⟨fun _ => Or.inl tb, fun _ => by decide⟩)
          · obtain ⟨_, y5⟩ := y4.resolve_left (fun z => x3 (hadj.mpr z.1))
            rcases x4 with ⟨w, o, x5, x6, x7⟩ | ⟨hno, x5⟩
            · have y6 : J' 100 12 = -1 := by
                rcases y5 with ⟨_, z⟩ | ⟨z, _⟩
                · exact z
                · exact absurd ⟨w, o⟩ z
              have ew : P8 (fun j => tp (at' + j)) (rn (fun k => byL (tp k)) sz at' - at') = ownL w := by
                unfold ownL
                rw [← o.2.1]
                have key : ∀ n, (∀ j, j < n → tp (at' + j) = ownG w j) → P8 (fun j => tp (at' + j)) n = P8 (ownG w) n := by
                  intro n
                  induction n with
                  | zero => intro _; rfl
                  | succ n ih =>
                    intro h
                    show (if n < 8 then 256 * P8 (fun j => tp (at' + j)) n + tp (at' + n) else P8 (fun j => tp (at' + j)) n) = (if n < 8 then 256 * P8 (ownG w) n + ownG w n else P8 (ownG w) n)
                    rw [ih (fun j hj => h j (by omega)), h n (by omega)]
                exact key _ o.2.2
              exact mk 2 _ ⟨x1, y2⟩ x5 p1 p2 (fun _ => p5) (Or.inr (Or.inr (Or.inr (Or.inl ⟨rfl, y1, y6, x7, w, o.1, x6, by rw [y3, ew]⟩)))) (Or.inr ⟨fun _ => Or.inl tb, fun _ => by decide⟩)
            · obtain ⟨_, y6⟩ := y5.resolve_left (fun z => hno z.1)
              rcases x5 with ⟨x6, x7, x8⟩ | ⟨x6, x7, x8, x9⟩
              · have y7 : J' 100 12 = nI (at' + 6) := by
                  rcases y6 with ⟨_, z⟩ | ⟨z, _⟩
                  · exact z
                  · omega
                exact mk 5 _ ⟨x1, y2⟩ x7 p1 p2 (fun _ => p5) (Or.inr (Or.inr (Or.inr (Or.inr (Or.inr ⟨rfl, Or.inl y1, at' + 6, by omega, y7, x8⟩))))) (Or.inr ⟨fun _ => Or.inl tb, fun _ => by decide⟩)
              · have y7 : J' 100 12 = -1 := by
                  rcases y6 with ⟨z, _⟩ | ⟨_, z⟩
                  · omega
                  · exact z
                refine mk 1 _ ⟨x1, y2⟩ x7 p1 p2 (fun _ => p5) (Or.inr (Or.inr (Or.inr (Or.inr (Or.inl ⟨rfl, y1, y7, x9, fun j => tp (at' + j), _, hlet, by omega, x8, y3, fun ⟨w, q1, q2⟩ => hno ?_⟩))))) (Or.inr ⟨fun _ => Or.inl tb, fun _ => by decide⟩)
                obtain ⟨⟨o1, o2⟩, o3⟩ := own_ok w q1
                obtain ⟨z1, z2⟩ := P8_inj (g := fun j => tp (at' + j)) (g' := ownG w) _ (ownN w) (by omega) (by omega) hlet (fun j hj => ((o3 j (by omega)).1 hj).1) q2
                exact ⟨w, q1, z1, z2⟩
        · exact absurd w cD
      · exact absurd w cD
    · by_cases cD : byD (tp at') = true
      · obtain ⟨p1, p2, p3, p4⟩ := rn_prop (P := fun k => byD (tp k)) (sz := sz) (sz - at') at' (by omega)
        have p5 : at' < rn (fun k => byD (tp k)) sz at' := by
          have q := (rn_prop (P := fun k => byD (tp k)) (sz := sz) (sz - (at' + 1)) (at' + 1) (by omega)).1
          rw [rn_go (P := fun k => byD (tp k)) (show at' < sz by omega) cD]
          omega
        have tb : byD (tp (rn (fun k => byD (tp k)) sz at' - 1)) = true := p3 _ (by omega) (by omega)
        rcases c4 with ⟨w, _⟩ | ⟨_, _, w, _⟩ | ⟨_, w, _⟩ | ⟨_, _, x1, x2⟩
        · omega
        · exact absurd cD w
        · exact absurd w cL
        · rcases m5 with ⟨w, _⟩ | ⟨_, _, w, _⟩ | ⟨_, w, _⟩ | ⟨_, _, y1, y2, y3, y4⟩
          · omega
          · exact absurd cD w
          · exact absurd w cL
          · rcases x2 with ⟨x3, x4, x5⟩ | ⟨x3, x4⟩
            · have y5 : J' 100 12 = nI at' := by
                rcases y4 with ⟨_, z⟩ | ⟨z, _⟩
                · exact z
                · exact absurd (hadj.mp x3) z
              exact mk 5 _ ⟨x1, y2⟩ x4 p1 p2 (fun _ => p5) (Or.inr (Or.inr (Or.inr (Or.inr (Or.inr ⟨rfl, Or.inr y1, at', by omega, y5, x5⟩))))) (Or.inr ⟨fun _ => Or.inr tb, fun _ => by decide⟩)
            · obtain ⟨_, y5⟩ := y4.resolve_left (fun z => x3 (hadj.mpr z.1))
              rcases x4 with ⟨x5, x6, x7⟩ | ⟨x5, x6, x7, x8⟩
              · have y6 : J' 100 12 = nI (at' + 4) := by
                  rcases y5 with ⟨_, z⟩ | ⟨z, _⟩
                  · exact z
                  · omega
                exact mk 5 _ ⟨x1, y2⟩ x6 p1 p2 (fun _ => p5) (Or.inr (Or.inr (Or.inr (Or.inr (Or.inr ⟨rfl, Or.inr y1, at' + 4, by omega, y6, x7⟩))))) (Or.inr ⟨fun _ => Or.inr tb, fun _ => by decide⟩)
              · have y6 : J' 100 12 = -1 := by
                  rcases y5 with ⟨z, _⟩ | ⟨_, z⟩
                  · omega
                  · exact z
                exact mk 3 _ ⟨x1, y2⟩ x6 p1 p2 (fun _ => p5) (Or.inr (Or.inr (Or.inl ⟨rfl, y1, y6, x8, _, (dgN_le (fun k => by show min _ 57 ≤ 57; omega) _).1, x7, y3⟩))) (Or.inr ⟨fun _ => Or.inr tb, fun _ => by decide⟩)
      · rcases c4 with ⟨w, _⟩ | ⟨_, _, _, x1, x2, x3, x4⟩ | ⟨_, w, _⟩ | ⟨_, w, _⟩
        · omega
        · rcases m5 with ⟨w, _⟩ | ⟨_, _, _, y1, y2, y3, y4⟩ | ⟨_, w, _⟩ | ⟨_, w, _⟩
          · omega
          · refine mk 4 (at' + 1) ⟨x2, y2⟩ x1 (by omega) (by omega) (fun _ => by omega) (Or.inr (Or.inl ⟨rfl, y1, y3, x3, tp at', (ht at' (by omega)).1, x4, y4⟩)) (Or.inr ⟨fun w => absurd rfl w, fun w => ?_⟩)
            rw [show at' + 1 - 1 = at' by omega] at w
            exact absurd w (fun z => z.elim cL cD)
          · exact absurd w cL
          · exact absurd w cD
        · exact absurd w cL
        · exact absurd w cD
end
