/-! moves: what is told on the tape -/
theorem tgI_up {tg : Nat → Nat} {a h l : Nat} (hh : h < 8) : tgI (upP tg a h l) = if l = a then nI h else tgI (tg l) := by
  by_cases c : l = a
  · rw [if_pos c, c, upP_eq]
    exact if_neg (by omega)
  · rw [if_neg c, upP_ne c]
theorem takeRows_R {I1 : HI} {R : HR} {J1 D : HI} {t b nh no nl T : Nat} {tape : Nat → Nat} (hC : CL I1 R 49 t nh no nl) (hM : ML J1 b nh no nl D) (hE : SEp nl (sc I1 49) (lv J1 0)) (hS : SW D (sc I1 49) nh no nl) (hT : T ≤ 16) (htp : ∀ k, k < 16 → tape k < 256 ∧ I1 2 k = nI (tape k) ∧ J1 101 k = nI (tape k)) :
    ∀ (q i n m : Nat) (K L : HI) (tg : Nat → Nat), i + 2 * q = T → q < n → q + 1 < m → (∀ x, x ≠ 43 → K x = I1 x) → (∀ x, x ≠ 137 → L x = J1 x) → (∀ l, l < 8 → K 43 l = tgI (tg l) ∧ L 137 l = tgI (tg l)) → (∀ l, tg l ≠ 99 → tg l < nh ∧ stS (sc I1 49) nl l = true) → (∃ (K' L' : HI), f_X4_takeRows_L30 n K R 2 1600 (nI T) 49 (nI i) = some (.inl (0, K')) ∧ f_X12_moves_L55 m L (nI T) 1 (nI i) = some (0, L') ∧ (∀ x, x ≠ 43 → K' x = I1 x) ∧ (∀ x, x ≠ 137 → L' x = J1 x)) ∨ (∃ (K' L' : HI) (tg' : Nat → Nat), f_X4_takeRows_L30 n K R 2 1600 (nI T) 49 (nI i) = some (.inr K') ∧ f_X12_moves_L55 m L (nI T) 1 (nI i) = some (1, L') ∧ (∀ x, x ≠ 43 → K' x = I1 x) ∧ (∀ x, x ≠ 137 → L' x = J1 x) ∧ (∀ l, l < 8 → K' 43 l = tgI (tg' l) ∧ L' 137 l = tgI (tg' l)) ∧ (∀ l, tg' l ≠ 99 → tg' l < nh ∧ stS (sc I1 49) nl l = true)) := by
  obtain ⟨g0, g1, g2, g3, g4, g5, g6, g7, g8, g9⟩ := id hC
  have n3 : ¬ (1 : Int32) = 0 := by decide
  intro q
  induction q with
  | zero =>
    intro i n m K L tg e1 e2 e3 k1 k2 k3 k4
    obtain ⟨n, rfl⟩ : ∃ z, n = z + 1 := ⟨n - 1, by omega⟩
    obtain ⟨m, rfl⟩ : ∃ z, m = z + 1 := ⟨m - 1, by omega⟩
    have ei : i = T := by omega
    subst ei
    have c1 : nI i ≤ nI i := Int32.le_refl _
    right
    refine ⟨K, L, tg, ?_, ?_, k1, k2, k3, k4⟩
    · simp only [f_X4_takeRows_L30, if_pos c1]
    · simp only [f_X12_moves_L55, if_pos c1]
  | succ q ih =>
    intro i n m K L tg e1 e2 e3 k1 k2 k3 k4
    obtain ⟨n, rfl⟩ : ∃ z, n = z + 1 := ⟨n - 1, by omega⟩
    obtain ⟨m, rfl⟩ : ∃ z, m = z + 1 + 1 := ⟨m - 2, by omega⟩
    have c1 : ¬ nI T ≤ nI i := nI_ge (by omega) (by omega)
    obtain ⟨a, ha⟩ : ∃ a, a = tape i := ⟨_, rfl⟩
    obtain ⟨h, hh⟩ : ∃ h, h = tape (i + 1) := ⟨_, rfl⟩
    obtain ⟨p1, p2, p3⟩ := htp i (by omega)
    obtain ⟨q1, q2, q3⟩ := htp (i + 1) (by omega)
    rw [← ha] at p1 p2 p3
    rw [← hh] at q1 q2 q3
    have A1 : nI i + 1 = nI (i + 1) := nI_1 i
    have A2 : nI i + 2 = nI (i + 2) := nI_add i 2
    have hCK : CL K R 49 t nh no nl := CLx hC (k1 t (by omega))
    have hML : ML L b nh no nl D := ML_congr (by rw [k2 100 (by decide)]) (fun x x1 x2 => k2 x (by omega)) hM
    have la : ∀ k : Int32 → Option ((Int32 × HI) ⊕ HI), ldI (K 2) 1600 (nI i) k = k (nI a) := fun k => by rw [ldI_ok (by omega), k1 2 (by decide), p2]
    have lh : ∀ k : Int32 → Option ((Int32 × HI) ⊕ HI), ldI (K 2) 1600 (nI (i + 1)) k = k (nI h) := fun k => by rw [ldI_ok (by omega), k1 2 (by decide), q2]
    have ja : ∀ k : Int32 → Option (Int32 × HI), ldI (L 101) 1800 (nI i) k = k (nI a) := fun k => by rw [ldI_ok (by omega), k2 101 (by decide), p3]
    have jh : ∀ k : Int32 → Option (Int32 × HI), ldI (L 101) 1800 (nI (i + 1)) k = k (nI h) := fun k => by rw [ldI_ok (by omega), k2 101 (by decide), q3]
    have iL := isLake_M hML (nI a)
    have iH := isHollow_M hML (nI h)
    have iC := isHollow_C hCK (nI h)
    have hfail : f_X12_moves_L55 (m + 1) L (nI T) 0 (nI (i + 2)) = some (0, L) := by
      by_cases w : nI T ≤ nI (i + 2)
      · simp only [f_X12_moves_L55, if_pos w]
      · simp only [f_X12_moves_L55, if_neg w, if_true]
    have z0 : (0 : Int32) ≤ 0 := by decide
    by_cases ca : a < nl
    · have ca' : 0 ≤ nI a ∧ nI a < nI nl := ⟨nI_pos' (by omega), nI_lt ca (by omega)⟩
      rw [if_pos ca'] at iL
      have st := stands_Cn hCK ca
      obtain ⟨x1, x2⟩ := xb_of hS (l := a) (by omega)
      obtain ⟨y1, y2, y3⟩ := hE.2.1 a (by omega)
      have e50 : K (49 + 1) a = nI (xbS (sc I1 49) a) := by
        rw [k1 (49 + 1) (by decide)]
        exact x1
      have fl : f_X12_fill L 0 (nI a) = some (nI (xbS (sc I1 49) a)) := by
        have f0 : f_X12_fill L 0 (nI a) = _ := fill_M (J := L) (v := 0) (l := a) (by decide) (by omega)
        rw [f0, ← x1, y1]
        congr 1
        show L 128 _ = J1 128 _
        rw [k2 128 (by decide)]
      rw [e50] at st
      obtain ⟨t1, t2⟩ := k3 a (by omega)
      have l43 : ∀ k : Int32 → Option ((Int32 × HI) ⊕ HI), ldI (K 43) 8 (nI a) k = k (tgI (tg a)) := fun k => by rw [ldI_ok (by omega), t1]
      have l137 : ∀ k : Int32 → Option (Int32 × HI), ldI (L 137) 8 (nI a) k = k (tgI (tg a)) := fun k => by rw [ldI_ok (by omega), t2]
      have t8 : tg a < 8 ∨ tg a = 99 := by
        by_cases w : tg a = 99
        · exact Or.inr w
        · have := (k4 a w).1; omega
      by_cases cx : xbS (sc I1 49) a = 0
      · rw [cx] at st fl
        have cz : nI 0 ≤ 0 := by decide
        rw [if_pos cz] at st
        left
        refine ⟨K, L, ?_, ?_, k1, k2⟩
        · simp only [f_X4_takeRows_L30, if_neg c1, la, st, Option.bind_some, if_true, gz_0]
        · by_cases chh : h < nh
          · rw [if_pos (show 0 ≤ nI h ∧ nI h < nI nh from ⟨nI_pos' (by omega), nI_lt chh (by omega)⟩)] at iH
            simp only [f_X12_moves_L55, if_neg c1, if_neg n3, ja, iL, Option.bind_some, jnt, A1, jh, iH, fl, if_pos cz, if_true, A2]
            exact hfail
          · rw [if_neg (show ¬ (0 ≤ nI h ∧ nI h < nI nh) from fun w => absurd w.2 (nI_nlt (by omega) (by omega)))] at iH
            simp only [f_X12_moves_L55, if_neg c1, if_neg n3, ja, iL, Option.bind_some, jnt, A1, jh, iH, if_true, A2]
            exact hfail
      · have cz : ¬ nI (xbS (sc I1 49) a) ≤ 0 := nI_nle (by omega) (by omega)
        rw [if_neg cz] at st
        by_cases ct : tg a = 99
        · have ct' : tgI (tg a) = -1 := (tgI_m t8).mpr ct
          by_cases chh : h < nh
          · have w := (show 0 ≤ nI h ∧ nI h < nI nh from ⟨nI_pos' (by omega), nI_lt chh (by omega)⟩)
            rw [if_pos w] at iH iC
            have sC : f_X4_takeRows_L30 (n + 1) K R 2 1600 (nI T) 49 (nI i) = f_X4_takeRows_L30 n (sI K 43 a (nI h)) R 2 1600 (nI T) 49 (nI (i + 2)) := by
              simp (disch := omega) only [f_X4_takeRows_L30, if_neg c1, la, st, Option.bind_some, if_neg n3, l43, if_pos ct', A1, lh, iC, inb_ok, bnd, nI_clamp, A2]
            have sM : f_X12_moves_L55 (m + 1 + 1) L (nI T) 1 (nI i) = f_X12_moves_L55 (m + 1) (sI L 137 a (nI h)) (nI T) 1 (nI (i + 2)) := by
              have ib : ∀ k : Option (Int32 × HI), inb 8 (nI a) k = k := fun k => by rw [inb_ok (by omega)]
              have ta : (nI a).toNatClampNeg = a := nI_clamp (by omega)
              rw [f_X12_moves_L55]
              simp only [if_neg c1, if_neg n3, ja, iL, Option.bind_some, jnt, A1, jh, iH, fl, if_neg cz, l137, if_pos ct', ib, bnd, ta, A2]
            rw [sC, sM]
            refine ih (i + 2) n (m + 1) (sI K 43 a (nI h)) (sI L 137 a (nI h)) (upP tg a h) (by omega) (by omega) (by omega) (fun x hx => by rw [zs_ne hx]; exact k1 x hx) (fun x hx => by rw [zs_ne hx]; exact k2 x hx) (fun l hl => ?_) (fun l hl => ?_)
            · rw [tgI_up (by omega), zs_eq, zs_eq]
              by_cases cl : l = a
              · rw [cl, zs_same, zs_same, if_pos rfl]
                exact ⟨rfl, rfl⟩
              · rw [zs_other cl, zs_other cl, if_neg cl]
                exact k3 l hl
            · by_cases cl : l = a
              · rw [cl, upP_eq]
                exact ⟨chh, stS_iff.mpr ⟨ca, by omega⟩⟩
              · rw [upP_ne cl] at hl ⊢
                exact k4 l hl
          · have w := (show ¬ (0 ≤ nI h ∧ nI h < nI nh) from fun w => absurd w.2 (nI_nlt (by omega) (by omega)))
            rw [if_neg w] at iH iC
            left
            refine ⟨K, L, ?_, ?_, k1, k2⟩
            · simp only [f_X4_takeRows_L30, if_neg c1, la, st, Option.bind_some, if_neg n3, l43, if_pos ct', A1, lh, iC, if_true, gz_0]
            · simp only [f_X12_moves_L55, if_neg c1, if_neg n3, ja, iL, Option.bind_some, jnt, A1, jh, iH, if_true, A2]
              exact hfail
        · have ct' : ¬ tgI (tg a) = -1 := fun w => ct ((tgI_m t8).mp w)
          left
          refine ⟨K, L, ?_, ?_, k1, k2⟩
          · simp only [f_X4_takeRows_L30, if_neg c1, la, st, Option.bind_some, if_neg n3, l43, if_neg ct', gz_0]
          · by_cases chh : h < nh
            · rw [if_pos (show 0 ≤ nI h ∧ nI h < nI nh from ⟨nI_pos' (by omega), nI_lt chh (by omega)⟩)] at iH
              simp only [f_X12_moves_L55, if_neg c1, if_neg n3, ja, iL, Option.bind_some, jnt, A1, jh, iH, fl, if_neg cz, l137, if_neg ct', if_true, A2]
              exact hfail
            · rw [if_neg (show ¬ (0 ≤ nI h ∧ nI h < nI nh) from fun w => absurd w.2 (nI_nlt (by omega) (by omega)))] at iH
              simp only [f_X12_moves_L55, if_neg c1, if_neg n3, ja, iL, Option.bind_some, jnt, A1, jh, iH, if_true, A2]
              exact hfail
    · have ca' : ¬ (0 ≤ nI a ∧ nI a < nI nl) := fun w => absurd w.2 (nI_nlt (by omega) (by omega))
      rw [if_neg ca'] at iL
      have st := stands_C hCK (nI a)
      rw [if_neg (fun w => ca' w.1)] at st
      left
      refine ⟨K, L, ?_, ?_, k1, k2⟩
      · simp only [f_X4_takeRows_L30, if_neg c1, la, st, Option.bind_some, if_true, gz_0]
      · simp only [f_X12_moves_L55, if_neg c1, if_neg n3, ja, iL, Option.bind_some, jnt, if_true, A2]
        exact hfail
theorem clear_M {fu : Nat} (hf : 8 < fu) (J1 : HI) : ∃ L, f_X12_moves_L34 fu J1 0 = some L ∧ (∀ x, x ≠ 137 → L x = J1 x) ∧ ∀ l, l < 8 → L 137 l = -1 := by
  refine loopP (fun n (a : HI) i => f_X12_moves_L34 n a i) (fun i L => (∀ x, x ≠ 137 → L x = J1 x) ∧ ∀ l, l < i → L 137 l = -1) (fun L => (∀ x, x ≠ 137 → L x = J1 x) ∧ ∀ l, l < 8 → L 137 l = -1) 8 fu J1 ⟨fun _ _ => rfl, fun l hl => absurd hl (by omega)⟩ ?_ ?_ (by omega)
  · intro n i L hi ha
    have c1 : ¬ (8 : Int32) ≤ nI i := nI_ge (b := 8) hi (by decide)
    have A1 : nI i + 1 = nI (i + 1) := nI_1 i
    refine ⟨sI L 137 i (-1), ?_, fun x hx => by rw [zs_ne hx]; exact ha.1 x hx, fun l hl => ?_⟩
    · simp (disch := omega) only [f_X12_moves_L34, if_neg c1, inb_ok, bnd, nI_clamp, A1]
    · rw [zs_eq]
      by_cases c : l = i
      · rw [c, zs_same]
      · rw [zs_other c]
        exact ha.2 l (by omega)
  · intro n L ha
    have c1 : (8 : Int32) ≤ nI 8 := by decide
    refine ⟨L, ?_, ha⟩
    simp only [f_X12_moves_L34, if_pos c1]
theorem eq_moves : Eq_moves Rel := by
  intro n I R J M hn hR
  obtain ⟨t, b, nh, no, nl, h⟩ := hR
  have n3 : ¬ (1 : Int32) = 0 := by decide
  obtain ⟨T, T1, T2, T3, T4⟩ := h.1
  have h0 := Rel_tape (T := 0) h (by omega)
  obtain ⟨I1, hI1⟩ : ∃ I1, I1 = sI I 1 1 (nI 0) := ⟨_, rfl⟩
  obtain ⟨J1, hJ1⟩ : ∃ J1, J1 = sI J 100 1 (nI 0) := ⟨_, rfl⟩
  rw [← hI1, ← hJ1] at h0
  obtain ⟨hC, hL, hM, hE, hS, hB, hB', h1⟩ := h0.get
  have hD : LWf (vw I1 t) nh := h0.2.2.2.2.2.2.1.2.2.2.2.2.1
  obtain ⟨g0, g1, g2, g3, g4, g5, g6, g7, g8, g9⟩ := id hC
  have ht := hC.2.2.1
  have hfu := FU_big.1
  have hfu9 : 100000000 < FU := by unfold FU; omega
  have eI : f_X11_takeTape I = some (nI T, I1) := by
    unfold f_X11_takeTape
    rw [T2, hI1]
    rfl
  obtain ⟨L0, c1, c2, c3⟩ := clear_M (fu := FU) FU_big.2 J1
  have c1' : f_X12_moves_L34 FU (sI J 100 1 0) 0 = some L0 := by rw [hJ1] at c1; exact c1
  have fail : ∀ K' L' : HI, (∀ x, x ≠ 43 → K' x = I1 x) → (∀ x, x ≠ 137 → L' x = J1 x) → ∃ r I' J', ((f_X11_refuse K' 5).bind fun x3 => some (x3.1, x3.2, R)) = some (r, I', R) ∧ ((f_X12_refuses L' 5).bind fun x42 => some (x42.1, x42.2, M)) = some (r, J', M) ∧ Rel (n + 6) I' R J' M := fun K' L' hK hLx => by
    have r1 : f_X11_refuse K' 5 = _ := refuse_C (I := K') (k := 5) (by decide)
    have r2 : f_X12_refuses L' 5 = _ := refuses_M (J := L') (k := 5) (by decide)
    have hsx : SX t I1 K' := fun x hx => hK x (by omega)
    have hsm : SM J1 L' := by
      refine ⟨fun k hk => by rw [hLx 100 (by decide)], fun x hx => hLx x (by omega), fun v hv => ?_, fun k hk => ?_, fun k hk => by rw [hLx 131 (by decide)], fun k hk => by rw [hLx 133 (by decide)]⟩
      · rw [hLx 127 (by decide), hLx 132 (by decide)]; exact ⟨rfl, rfl⟩
      · rw [hLx 128 (by decide), hLx 129 (by decide), hLx 130 (by decide)]; exact ⟨rfl, rfl, rfl⟩
    exact ⟨-1, _, _, by rw [r1]; rfl, by rw [r2]; rfl, (Rel_ref (Rel_same h0 (n' := n + 6) (by omega) hsx SR.refl hsm SL.refl) (k := 5) (by decide)).rel⟩
  unfold f_X11_moves f_X12_moves
  rw [eI, T3]
  simp only [Option.bind_some, bnd, c1']
  -- the reference with a tape that can't be
  have refl0 : ∀ m, 1 ≤ m → f_X12_moves_L55 m L0 (nI T) 0 0 = some (0, L0) := fun m hm => by
    obtain ⟨m, rfl⟩ : ∃ z, m = z + 1 := ⟨m - 1, by omega⟩
    by_cases w : nI T ≤ 0
    · simp only [f_X12_moves_L55, if_pos w]
    · simp only [f_X12_moves_L55, if_neg w, if_true]
  have refl1 := refl0 FU (by omega)
  have dv : ∀ {α : Type} (k : Option α), dvI 2 k = k := fun k => by rw [zq2, dv_ok ⟨by decide, by decide⟩]
  have er : nI T - nI T / 2 * 2 = nI (T % 2) := by rw [zq2, rem_ok ⟨by omega, by decide, by decide⟩]
  have bad : (f_X4_takeRows FU I1 R 2 1600 (nI T) 49 = some (0, I1)) → (∃ (r : Int32) (I' : HI) (R' : HR) (J' : HI) (M' : HL), ((f_X4_takeRows FU I1 R 2 1600 (nI T) 49).bind fun x2 => if x2.1 = 0 then (f_X11_refuse x2.2 5).bind fun x3 => some (x3.1, x3.2, R) else (f_X9_copyFrom x2.2 R 58 49).bind fun x4 => (f_X4_fewest FU x4.1 x4.2 58).bind fun x5 => some (x5.1, x5.2.1, x5.2.2)) = some (r, I', R') ∧ ((f_X12_refuses L0 5).bind fun x42 => some (x42.1, x42.2, M)) = some (r, J', M') ∧ Rel (n + 6) I' R' J' M') := fun hx => by
    obtain ⟨r, I', J', a1, a2, a3⟩ := fail I1 L0 (fun _ _ => rfl) c2
    refine ⟨r, I', R, J', M, ?_, a2, a3⟩
    simp only [hx, Option.bind_some, if_true]
    exact a1
  by_cases ct0 : T = 0
  · have d1 : nI T ≤ 0 := by rw [ct0]; decide
    have d2 : nI T < 2 := by rw [ct0]; decide
    simp only [jnt, if_pos d1, refl1, Option.bind_some, if_true]
    refine bad ?_
    unfold f_X4_takeRows
    rw [if_pos d2, gz_0]
  have d1 : ¬ nI T ≤ 0 := nI_nle (by omega) (by omega)
  by_cases codd : T % 2 = 0
  · have e0 : nI (T % 2) = 0 := by rw [codd]; rfl
    by_cases c16 : 16 < T
    · have d3 : 16 < nI T := nI_lt (a := 16) c16 (by omega)
      simp only [jnt, if_neg d1, dv, er, if_pos e0, if_pos d3, refl1, Option.bind_some, if_true]
      refine bad ?_
      unfold f_X4_takeRows
      rw [if_neg (show ¬ nI T < 2 from nI_nlt (b := 2) (by omega) (by omega)), if_pos d3, gz_0]
    · have d3 : ¬ 16 < nI T := Int32.not_lt.mpr (nI_le (b := 16) (by omega) (by decide))
      have d4 : ¬ nI T < 2 := nI_nlt (b := 2) (by omega) (by omega)
      obtain ⟨K0, f1, f2, f3⟩ := fill_J (fu := FU) (a0 := 43) (n := 8) (v := -1) (by omega) (by decide) I1
      have hred : f_X4_takeRows FU I1 R 2 1600 (nI T) 49 = (f_X4_takeRows_L30 FU K0 R 2 1600 (nI T) 49 0).bind (Sum.elim (fun r => some r) fun x13 => gz 1 (some (1, x13))) := by
        unfold f_X4_takeRows
        rw [if_neg d4, if_neg d3, dv, er, if_pos e0, f1]
        rfl
      simp only [jnt, if_neg d1, dv, er, if_pos e0, if_neg d3]
      rw [hred]
      have htape : ∀ k, k < 16 → (I 2 k).toNatClampNeg < 256 ∧ I1 2 k = nI (I 2 k).toNatClampNeg ∧ J1 101 k = nI (I 2 k).toNatClampNeg := fun k hk => by
        obtain ⟨z1, x, z2, z3⟩ := T4 k (by omega)
        rw [hI1, hJ1, zs_ne (by decide), zs_ne (by decide), ← z1, z3, nI_clamp (by omega)]
        exact ⟨z2, rfl, rfl⟩
      have hrows := takeRows_R (T := T) (tape := fun k => (I 2 k).toNatClampNeg) hC hM hE hS (by omega) htape (T / 2) 0 FU FU K0 L0 (fun _ => 99) (by omega) (by omega) (by omega) f2 c2 (fun l hl => ⟨f3 l hl, c3 l hl⟩) (fun l hl => absurd rfl hl)
      have z00 : nI 0 = (0 : Int32) := rfl
      rw [z00] at hrows
      rcases hrows with ⟨K', L', w1, w2, w3, w4⟩ | ⟨K', L', tg, w1, w2, w3, w4, w5, w6⟩
      · obtain ⟨r, I', J', a1, a2, a3⟩ := fail K' L' w3 w4
        refine ⟨r, I', R, J', M, ?_, ?_, a3⟩
        · simp only [w1, Option.bind_some, Sum.elim_inl, if_true]
          exact a1
        · simp only [w2, Option.bind_some, if_true]
          exact a2
      · obtain ⟨I3, a1, a2, a3⟩ := copyFrom_C (I := K') (R := R) (s := 49) (s' := 58) (by rw [g1]; exact g0) (by decide)
        have es : sc K' 49 = sc I1 49 := sc_congr (fun a ha => w3 _ (by omega))
        rw [es] at a2
        have hS3 : SW (vw I1 t) (sc I3 58) nh no nl := hS.se g9 a2
        have ev : vw I3 t = vw I1 t := vw_congr (fun a ha => by rw [a3 _ (by omega), w3 _ (by omega)])
        have et : I3 t = I1 t := by rw [a3 t (by omega), w3 t (by omega)]
        have hstE : ∀ l, stS (sc I1 49) nl l = true → stS (sc I3 58) nl l = true := fun l hl => by
          obtain ⟨s1, s2⟩ := stS_iff.mp hl
          refine stS_iff.mpr ⟨s1, ?_⟩
          unfold xbS at s2 ⊢
          rw [← (a2.2.1 l (by omega)).1]
          exact s2
        obtain ⟨R1, hR1⟩ : ∃ R1, R1 = sR (sR R 58 0 (R 49 0)) 42 4 58 := ⟨_, rfl⟩
        have hMC : MVC I3 (vw I1 t) R1 t nh no nl tg := by
          refine ⟨⟨g0, ?_, g2, by decide, by rw [et]; exact g4, by rw [et]; exact g5, by rw [et]; exact g6, g7, g8, g9⟩, ?_, ev, hL, hS3, hD, fun l hl => ?_, fun l hl => ⟨(w6 l hl).1, hstE l (w6 l hl).2⟩⟩
          · rw [hR1, zR_ne (by decide), zR_eq]
            exact g1
          · rw [hR1, zR_eq]
          · rw [a3 43 (by decide)]
            exact (w5 l hl).1
        obtain ⟨y, K4, y1, y2, y3⟩ := fewest_C (fu := FU) hR1 hMC (by omega)
        have hML' : ML L' b nh no nl (vw I1 t) := ML_congr (by rw [w4 100 (by decide)]) (fun x x1 x2 => w4 x (by omega)) hM
        have hMM : MVM L' (vw I1 t) (sc I3 58) b nh no nl tg := ⟨hML', hL, hS3, hD, fun l hl => (w5 l hl).2, fun l hl => ⟨(w6 l hl).1, hstE l (w6 l hl).2⟩⟩
        obtain ⟨mp, mp1, mp2⟩ := h0.pays
        have elv : lv L' 0 = lv J1 0 := by
          funext a k
          unfold lv
          rw [w4 127 (by decide), w4 128 (by decide), w4 129 (by decide), w4 130 (by decide), w4 131 (by decide)]
        have hL0 : LYm (sc I3 58) nl L' 0 (p0S (sc I3 58) nl) := by
          refine ⟨?_, mp, mp1, by rw [w4 132 (by decide)]; exact mp2⟩
          rw [scP_p0 hS3 g9 g7, elv]
          exact SEp.lr a2.symm hE ⟨rfl, fun _ _ => ⟨rfl, rfl, rfl⟩, fun _ _ => rfl⟩
        obtain ⟨y', J4, M4, z1, z2, z3, z4⟩ := fewest_M (fu := FU) (M := M) hMM hfu9 hL0
        have eyy : y = y' := LsK_uniq y3 z4 (fun k => Iff.rfl)
        have hsx : SX t I1 K4 := fun x hx => by rw [y2 x (by omega) (by omega) (by omega) (by omega) (by omega), a3 x (by omega), w3 x (by omega)]
        have hsm0 : SM J1 L' := by
          refine ⟨fun k hk => by rw [w4 100 (by decide)], fun x hx => w4 x (by omega), fun v hv => ?_, fun k hk => ?_, fun k hk => by rw [w4 131 (by decide)], fun k hk => by rw [w4 133 (by decide)]⟩
          · rw [w4 127 (by decide), w4 132 (by decide)]; exact ⟨rfl, rfl⟩
          · rw [w4 128 (by decide), w4 129 (by decide), w4 130 (by decide)]; exact ⟨rfl, rfl, rfl⟩
        have hsr : SR R R1 := by
          rw [hR1]
          refine ⟨?_, ?_, ?_⟩ <;> rw [zR_ne (by decide), zR_ne (by decide)]
        refine ⟨y, K4, R1, J4, M4, ?_, ?_, (Rel_same h0 (n' := n + 6) (by omega) hsx hsr (hsm0.trans z2) z3.SL).rel⟩
        · simp only [w1, Option.bind_some, Sum.elim_inr, gz_1, if_neg n3, a1, y1]
        · simp only [w2, Option.bind_some, if_neg n3]
          rw [eyy]
          exact z1
  · have e0 : ¬ nI (T % 2) = 0 := nI_ne0 (by omega) (by omega)
    simp only [jnt, if_neg d1, dv, er, if_neg e0, refl1, Option.bind_some, if_true]
    refine bad ?_
    unfold f_X4_takeRows
    by_cases d4 : nI T < 2
    · rw [if_pos d4, gz_0]
    · rw [if_neg d4]
      by_cases d5 : 16 < nI T
      · rw [if_pos d5, gz_0]
      · rw [if_neg d5, dv, er, if_neg e0, gz_0]
