/-! moves: the reference's search -/
theorem inc1 (a : Nat) : nI a + -1 + 1 = nI a := by
  rw [Int32.add_assoc, show (-1 : Int32) + 1 = 0 from by decide, Int32.add_zero]
section
variable {J0 D S : HI} {b nh no nl fu : Nat} {tg : Nat → Nat} {M0 : HL}
/-- a move that the reference takes: by its number -/
def pasM (D S : HI) (nh nl : Nat) (tg : Nat → Nat) (p : Nat → Nat) (left i : Nat) : Prop := i % 8 < nh ∧ (nS nl tg p = left → tg (i / 8) = i % 8) ∧ mvP (stS S nl) (mayP D S nl) p (i / 8) (i % 8) ∧ nS nl tg (upP p (i / 8) (i % 8)) + 1 ≤ left
theorem En_pas {p : Nat → Nat} {left : Nat} (hh : nh ≤ 8) : EnM D S nh nl tg (left + 1) p ↔ ∃ i, i < 8 * nl ∧ pasM D S nh nl tg p (left + 1) i ∧ EnM D S nh nl tg left (upP p (i / 8) (i % 8)) := by
  constructor
  · rintro ⟨l, h, a1, a2, a3, a4⟩
    have e1 : (8 * l + h) / 8 = l := by omega
    have e2 : (8 * l + h) % 8 = h := by omega
    have hle := En_le _ _ a4
    refine ⟨8 * l + h, by omega, ?_, ?_⟩
    · unfold pasM
      rw [e1, e2]
      refine ⟨a2, fun w => ?_, a3, by omega⟩
      exact (En_step (tg := tg) a1 w hle).2.symm
    · rw [e1, e2]
      exact a4
  · rintro ⟨i, i1, i2, i3⟩
    exact ⟨i / 8, i % 8, by omega, i2.1, i2.2.2.1, i3⟩
theorem loop21_M (hM : MVM J0 D S b nh no nl tg) (hf : 1600 < fu) {d left : Nat} (hd : d ≤ 3) (hleft : 1 ≤ left ∧ left ≤ 8) {p : Nat → Nat} (hp : goodP D S nh nl p) :
    ∀ (q i n : Nat) (J : HI) (M : HL), i + q = 8 * nl → q < n → RBm J0 J → LYm S nl J (d + 1) p → J 138 d = nI i → OtL M0 M → (∃ i' J' M', i ≤ i' ∧ i' < 8 * nl ∧ f_X12_movesNext_L21 fu n J M (nI d) (nI left) (nI (d + 1)) (nI (nS nl tg p)) = some (.inl (1, J', M')) ∧ pasM D S nh nl tg p left i' ∧ (∀ i'', i ≤ i'' → i'' < i' → ¬ pasM D S nh nl tg p left i'') ∧ J' 138 d = nI i' ∧ LYm S nl J' (d + 2) (upP p (i' / 8) (i' % 8)) ∧ RBm J0 J' ∧ FRm d J J' ∧ OtL M0 M') ∨ (∃ J' M', f_X12_movesNext_L21 fu n J M (nI d) (nI left) (nI (d + 1)) (nI (nS nl tg p)) = some (.inr (J', M')) ∧ (∀ i', i ≤ i' → i' < 8 * nl → ¬ pasM D S nh nl tg p left i') ∧ RBm J0 J' ∧ FRm d J J' ∧ OtL M0 M') := by
  have m7 := hM.1.2.2.2.2.2.2.1
  have m5 := hM.1.2.2.2.2.1
  have hs8 : nS nl tg p ≤ 8 := Nat.le_trans (cnt_le nl) m7
  have n3 : ¬ (1 : Int32) = 0 := by decide
  intro q
  induction q with
  | zero =>
    intro i n J M e1 e2 hJ hL h138 hO
    obtain ⟨n, rfl⟩ : ∃ z, n = z + 1 := ⟨n - 1, by omega⟩
    have hMJ := hJ.ML hM
    have m0 := hMJ.1.1
    have m1 := hMJ.1.2
    have m4 := hMJ.2.2.2.1
    have c1 : nI (8 * nl) ≤ nI i := nI_le (by omega) (by omega)
    have e8 : 8 * nI nl = nI (8 * nl) := by rw [zq8, pk_mul]
    right
    refine ⟨J, M, ?_, fun i' z1 z2 => by omega, hJ, FRm.refl, hO⟩
    simp (disch := omega) only [f_X12_movesNext_L21, ldI_ok, h138, m0, m4, e8, if_pos c1]
  | succ q ih =>
    intro i n J M e1 e2 hJ hL h138 hO
    obtain ⟨n, rfl⟩ : ∃ z, n = z + 1 := ⟨n - 1, by omega⟩
    have hMJ := hJ.ML hM
    have m0 := hMJ.1.1
    have m1 := hMJ.1.2
    have m4 := hMJ.2.2.2.1
    have e8 : 8 * nI nl = nI (8 * nl) := by rw [zq8, pk_mul]
    have c1 : ¬ nI (8 * nl) ≤ nI i := nI_ge (by omega) (by omega)
    obtain ⟨l, hl⟩ : ∃ l, l = i / 8 := ⟨_, rfl⟩
    obtain ⟨h, hh⟩ : ∃ h, h = i % 8 := ⟨_, rfl⟩
    have hln : l < nl := by omega
    have h8 : h < 8 := by omega
    have ed : nI i / 8 = nI l := by rw [zq8, div_ok ⟨by omega, by decide, by decide⟩, hl]
    have er : nI i - nI l * 8 = nI h := by rw [zq8, pk_mul, pk_sub (by omega)]; congr 1; omega
    have hIH := isHollow_M hMJ (nI h)
    have l138 : ∀ (K : HI) (k : Int32 → Option ((Int32 × HI × HL) ⊕ (HI × HL))), K 138 d = nI i → ldI (K 138) 5 (nI d) k = k (nI i) := fun K k hk => by rw [ldI_ok (by omega), hk]
    have l138' : ∀ (k : Int32 → Option ((Int32 × HI × HL) ⊕ (HI × HL))), ldI (J 138) 5 (nI d) k = k (nI i) := fun k => l138 J k h138
    have l106 : ∀ (k : Int32 → Option ((Int32 × HI × HL) ⊕ (HI × HL))), ldI (J 106) 2 (nI b) k = k (nI nl) := fun k => by rw [ldI_ok (by omega), m4]
    have dv : ∀ k : Option ((Int32 × HI × HL) ⊕ (HI × HL)), dvI 8 k = k := fun k => by rw [zq8, dv_ok ⟨by decide, by decide⟩]
    have i5 : ∀ k : Option ((Int32 × HI × HL) ⊕ (HI × HL)), inb 5 (nI d) k = k := fun k => by rw [inb_ok (by omega)]
    have td : (nI d).toNatClampNeg = d := nI_clamp (by omega)
    have A1 : nI i + 1 = nI (i + 1) := nI_1 i
    have go : ∀ (K : HI) (L : HL), RBm J0 K → FRm d J K → K 138 d = nI i → OtL M0 L → ¬ pasM D S nh nl tg p left i → f_X12_movesNext_L21 fu (n + 1) J M (nI d) (nI left) (nI (d + 1)) (nI (nS nl tg p)) = f_X12_movesNext_L21 fu n (sI K 138 d (nI (i + 1))) L (nI d) (nI left) (nI (d + 1)) (nI (nS nl tg p)) → (∃ i' J' M', i ≤ i' ∧ i' < 8 * nl ∧ f_X12_movesNext_L21 fu (n + 1) J M (nI d) (nI left) (nI (d + 1)) (nI (nS nl tg p)) = some (.inl (1, J', M')) ∧ pasM D S nh nl tg p left i' ∧ (∀ i'', i ≤ i'' → i'' < i' → ¬ pasM D S nh nl tg p left i'') ∧ J' 138 d = nI i' ∧ LYm S nl J' (d + 2) (upP p (i' / 8) (i' % 8)) ∧ RBm J0 J' ∧ FRm d J J' ∧ OtL M0 M') ∨ (∃ J' M', f_X12_movesNext_L21 fu (n + 1) J M (nI d) (nI left) (nI (d + 1)) (nI (nS nl tg p)) = some (.inr (J', M')) ∧ (∀ i', i ≤ i' → i' < 8 * nl → ¬ pasM D S nh nl tg p left i') ∧ RBm J0 J' ∧ FRm d J J' ∧ OtL M0 M') := fun K L hK hF hK138 hOL hno he => by
      rw [he]
      have hF2 : FRm d J (sI K 138 d (nI (i + 1))) := hF.trans (FRm.put (Nat.le_refl _))
      have hno2 : ∀ i', i ≤ i' → ¬ i + 1 ≤ i' → ¬ pasM D S nh nl tg p left i' := fun i' z1 z2 => by
        have : i' = i := by omega
        rw [this]; exact hno
      rcases ih (i + 1) n (sI K 138 d (nI (i + 1))) L (by omega) (by omega) ⟨hK.1.trans SM_put, by rw [zs_ne (by decide)]; exact hK.2⟩ (hL.fr hF2 (by omega)) (by rw [zs_eq, zs_same]) hOL with ⟨i', J', M', w1, w2, w3, w4, w5, w6, w7, w8, w9, w10⟩ | ⟨J', M', w1, w2, w3, w4, w5⟩
      · left
        refine ⟨i', J', M', by omega, w2, w3, w4, fun i'' z1 z2 => ?_, w6, w7, w8, hF2.trans w9, w10⟩
        by_cases z : i + 1 ≤ i''
        · exact w5 i'' z z2
        · exact hno2 i'' z1 z
      · right
        refine ⟨J', M', w1, fun i' z1 z2 => ?_, w3, hF2.trans w4, w5⟩
        by_cases z : i + 1 ≤ i'
        · exact w2 i' z z2
        · exact hno2 i' z1 z
    have hpas : pasM D S nh nl tg p left i ↔ h < nh ∧ (nS nl tg p = left → tg l = h) ∧ mvP (stS S nl) (mayP D S nl) p l h ∧ nS nl tg (upP p l h) + 1 ≤ left := by
      unfold pasM
      rw [← hl, ← hh]
    by_cases c2 : h < nh
    · have c2' : 0 ≤ nI h ∧ nI h < nI nh := ⟨nI_pos' (by omega), nI_lt c2 (by omega)⟩
      rw [if_pos c2'] at hIH
      have t8 := hM.tg8 l
      have e137 : J 137 l = tgI (tg l) := by rw [hJ.2]; exact hM.2.2.2.2.1 l (by omega)
      have l137 : ∀ (k : Int32 → Option ((Int32 × HI × HL) ⊕ (HI × HL))), ldI (J 137) 8 (nI l) k = k (tgI (tg l)) := fun k => by rw [ldI_ok (by omega), e137]
      obtain ⟨y, J1, M1, y1, y2, y3, y4⟩ := canMv_M (fu := fu) (M := M) hM hf hJ (v := d + 1) (by omega) hp hL hln c2
      have hJ1 : RBm J0 J1 := ⟨hJ.1.trans y2.SM, by rw [y2 137 (by decide)]; exact hJ.2⟩
      have hF1 : FRm d J J1 := FRm.of y2
      have hO1 : OtL M0 M1 := hO.trans y3
      have h1138 : J1 138 d = nI i := by rw [y2 138 (by decide)]; exact h138
      -- as soon as the straight way is asked and isn't this one
      by_cases c3 : nS nl tg p = left ∧ ¬ tg l = h
      · have c3' : nI (nS nl tg p) = nI left := by rw [c3.1]
        have c4 : ¬ tgI (tg l) = nI h := fun w => c3.2 ((tgI_eq t8 h8).mp w)
        refine go J M hJ FRm.refl h138 hO (fun w => c3.2 ((hpas.mp w).2.1 c3.1)) ?_
        simp only [f_X12_movesNext_L21, l138', m0, l106, e8, if_neg c1, dv, ed, er, bnd, hIH, Option.bind_some, jnt, if_neg n3, if_pos c3', l137, if_neg c4, i5, td, A1]
      · have hstr : nS nl tg p = left → tg l = h := fun w => Decidable.not_not.mp (fun z => c3 ⟨w, z⟩)
        -- the way to the move itself
        have red : f_X12_movesNext_L21 fu (n + 1) J M (nI d) (nI left) (nI (d + 1)) (nI (nS nl tg p)) = (if y = 0 then f_X12_movesNext_L21 fu n (sI J1 138 d (nI (i + 1))) M1 (nI d) (nI left) (nI (d + 1)) (nI (nS nl tg p)) else (f_X12_copies fu J1 (nI (d + 1) + 1) (nI (d + 1))).bind fun x19 => inb 208 ((8 * (nI (d + 1) + 1)) + nI l) <| (f_X12_astray fu (sI x19 129 (((8 * (nI (d + 1) + 1)) + nI l) : Int32).toNatClampNeg (nI h)) (nI (d + 1) + 1)).bind fun x21 => if (nI left - 1) < x21 then ldI ((sI x19 129 (((8 * (nI (d + 1) + 1)) + nI l) : Int32).toNatClampNeg (nI h)) 138) 5 (nI d) fun v26 => f_X12_movesNext_L21 fu n (sI (sI x19 129 (((8 * (nI (d + 1) + 1)) + nI l) : Int32).toNatClampNeg (nI h)) 138 d (v26 + 1)) M1 (nI d) (nI left) (nI (d + 1)) (nI (nS nl tg p)) else some (.inl (1, sI x19 129 (((8 * (nI (d + 1) + 1)) + nI l) : Int32).toNatClampNeg (nI h), M1))) := by
          have lj : ∀ (k : Int32 → Option ((Int32 × HI × HL) ⊕ (HI × HL))), ldI (J1 138) 5 (nI d) k = k (nI i) := fun k => l138 J1 k h1138
          by_cases c5 : nS nl tg p = left
          · have c5' : nI (nS nl tg p) = nI left := by rw [c5]
            have c4 : tgI (tg l) = nI h := (tgI_eq t8 h8).mpr (hstr c5)
            simp only [f_X12_movesNext_L21, l138', m0, l106, e8, if_neg c1, dv, ed, er, bnd, hIH, Option.bind_some, jnt, if_neg n3, if_pos c5', l137, if_pos c4, i5, td, A1, y1, lj, gz_1]
          · have c5' : ¬ nI (nS nl tg p) = nI left := fun w => c5 ((nI_eq (by omega) (by omega)).mp w)
            simp only [f_X12_movesNext_L21, l138', m0, l106, e8, if_neg c1, dv, ed, er, bnd, hIH, Option.bind_some, jnt, if_neg n3, if_neg c5', i5, td, A1, y1, lj, gz_1]
        rcases y4 with ⟨w1, w2⟩ | ⟨w1, w2⟩
        · subst w1
          rw [if_neg n3] at red
          have hp' := good_mv hp c2 w2
          obtain ⟨J2, z1, z2, z3, z4, z5⟩ := layer_M (h := h) hM hf hJ1 hd (hL.fr hF1 (by omega)) w2.1
          have ea : nI (d + 1) + 1 = nI (d + 2) := nI_1 (d + 1)
          have ei : 8 * nI (d + 2) + nI l = nI (8 * (d + 2) + l) := by rw [zq8, pk_mul, nI_add]
          have ib : ∀ k : Option ((Int32 × HI × HL) ⊕ (HI × HL)), inb 208 (nI (8 * (d + 2) + l)) k = k := fun k => by rw [inb_ok (by omega)]
          have tt : (nI (8 * (d + 2) + l)).toNatClampNeg = 8 * (d + 2) + l := nI_clamp (by omega)
          have as := astray_M (fu := fu) hM (by omega) z2 (v := d + 2) (by omega) hp' z4
          have e138 : sI J2 129 (8 * (d + 2) + l) (nI h) 138 d = nI i := by rw [zs_ne (by decide), z5]; exact h1138
          have hs8' : nS nl tg (upP p l h) ≤ 8 := Nat.le_trans (cnt_le nl) m7
          have el : nI left - 1 = nI (left - 1) := by rw [zq1, pk_sub (by omega)]
          simp only [ea, ei, z1, Option.bind_some, ib, tt, as, el, l138 _ _ e138, A1] at red
          by_cases c6 : nS nl tg (upP p l h) + 1 ≤ left
          · have c6' : ¬ nI (left - 1) < nI (nS nl tg (upP p l h)) := nI_nlt (by omega) (by omega)
            rw [if_neg c6'] at red
            left
            refine ⟨i, _, M1, Nat.le_refl _, by omega, red, hpas.mpr ⟨c2, hstr, w2, c6⟩, fun i'' q1 q2 => by omega, e138, ?_, z2, hF1.trans z3, hO1⟩
            rw [← hl, ← hh]
            exact z4
          · have c6' : nI (left - 1) < nI (nS nl tg (upP p l h)) := nI_lt (by omega) (by omega)
            rw [if_pos c6'] at red
            exact go _ M1 z2 (hF1.trans z3) e138 hO1 (fun w => c6 (hpas.mp w).2.2.2) red
        · subst w1
          rw [if_pos rfl] at red
          exact go J1 M1 hJ1 hF1 h1138 hO1 (fun w => w2 (hpas.mp w).2.2.1) red
    · have c2' : ¬ (0 ≤ nI h ∧ nI h < nI nh) := fun w => absurd w.2 (nI_nlt (by omega) (by omega))
      rw [if_neg c2'] at hIH
      refine go J M hJ FRm.refl h138 hO (fun w => c2 (hpas.mp w).1) ?_
      simp only [f_X12_movesNext_L21, l138', m0, l106, e8, if_neg c1, dv, ed, er, bnd, hIH, Option.bind_some, jnt, if_true, i5, td, A1]
theorem next_M (hM : MVM J0 D S b nh no nl tg) (hf : 1600 < fu) {d left : Nat} (hd : d ≤ 3) (hleft : 1 ≤ left ∧ left ≤ 8) {p : Nat → Nat} (hp : goodP D S nh nl p) {i : Nat} {J : HI} {M : HL} (hi : i ≤ 8 * nl) (hJ : RBm J0 J) (hL : LYm S nl J (d + 1) p) (h138 : J 138 d = nI i + -1) (hO : OtL M0 M) : (∃ i' J' M', i ≤ i' ∧ i' < 8 * nl ∧ f_X12_movesNext fu J M (nI d) (nI left) = some (1, J', M') ∧ pasM D S nh nl tg p left i' ∧ (∀ i'', i ≤ i'' → i'' < i' → ¬ pasM D S nh nl tg p left i'') ∧ J' 138 d = nI i' ∧ LYm S nl J' (d + 2) (upP p (i' / 8) (i' % 8)) ∧ RBm J0 J' ∧ FRm d J J' ∧ OtL M0 M') ∨ (∃ J' M', f_X12_movesNext fu J M (nI d) (nI left) = some (0, J', M') ∧ (∀ i', i ≤ i' → i' < 8 * nl → ¬ pasM D S nh nl tg p left i') ∧ RBm J0 J' ∧ FRm d J J' ∧ OtL M0 M') := by
  have m7 := hM.1.2.2.2.2.2.2.1
  have hF : FRm d J (sI J 138 d (nI i)) := FRm.put (Nat.le_refl _)
  have hJ1 : RBm J0 (sI J 138 d (nI i)) := ⟨hJ.1.trans SM_put, by rw [zs_ne (by decide)]; exact hJ.2⟩
  have as := astray_M (fu := fu) hM (by omega) hJ (v := d + 1) (by omega) hp hL
  have e1 : 1 + nI d = nI (d + 1) := by rw [Int32.add_comm]; exact nI_1 d
  have l138 : ∀ k : Int32 → Option (Int32 × HI × HL), ldI (J 138) 5 (nI d) k = k (nI i + -1) := fun k => by rw [ldI_ok (by omega), h138]
  have ib : ∀ k : Option (Int32 × HI × HL), inb 5 (nI d) k = k := fun k => by rw [inb_ok (by omega)]
  have td : (nI d).toNatClampNeg = d := nI_clamp (by omega)
  have red : f_X12_movesNext fu J M (nI d) (nI left) = (f_X12_movesNext_L21 fu fu (sI J 138 d (nI i)) M (nI d) (nI left) (nI (d + 1)) (nI (nS nl tg p))).bind (Sum.elim (fun r => some r) fun x29 => gz 0 (some (0, x29.1, x29.2))) := by
    unfold f_X12_movesNext
    simp only [bnd, e1, as, Option.bind_some, l138, ib, td, inc1]
  rcases loop21_M (fu := fu) (M0 := M0) hM hf hd hleft hp (8 * nl - i) i fu (sI J 138 d (nI i)) M (by omega) (by omega) hJ1 (hL.fr hF (by omega)) (by rw [zs_eq, zs_same]) hO with ⟨i', J', M', w1, w2, w3, w4⟩ | ⟨J', M', w1, w2, w3, w4, w5⟩
  · left
    refine ⟨i', J', M', w1, w2, ?_, w4.1, w4.2.1, w4.2.2.1, w4.2.2.2.1, w4.2.2.2.2.1, hF.trans w4.2.2.2.2.2.1, w4.2.2.2.2.2.2⟩
    rw [red, w3]
    rfl
  · right
    refine ⟨J', M', ?_, w2, w3, hF.trans w4, w5⟩
    rw [red, w1]
    exact gz_0
end
