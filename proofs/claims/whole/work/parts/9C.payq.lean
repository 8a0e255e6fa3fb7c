theorem eq_pay : Eq_pay Rel := by
  intro n I R J M a0 a1 a2 hn hR
  obtain ⟨t, b, nh, no, nl, h⟩ := hR
  obtain ⟨hC, hL, hM, hE, hS, hB, hB', h1⟩ := h.get
  have h8 := hC.2.2.2.2.2.2.2.2.1
  have h9 := hC.2.2.2.2.2.2.2.2.2
  have ht := hC.2.2.1
  have n3 : ¬ (1 : Int32) = 0 := by decide
  have fail : ∀ I1 J1 M1, SX t I I1 → SM J J1 → SL M M1 → ∃ (r : Int32) (I' : HI) (J' : HI) (M' : HL), ((f_X11_refuse I1 3).bind fun x2 => some (x2.1, x2.2)) = some (r, I') ∧ ((f_X12_refuses J1 3).bind fun x28 => some (x28.1, x28.2, M1)) = some (r, J', M') ∧ Rel (n + 6) I' R J' M' := by
    intro I1 J1 M1 z1 z2 z3
    have r1 : f_X11_refuse I1 3 = _ := refuse_C (I := I1) (k := 3) (by decide)
    have r2 : f_X12_refuses J1 3 = _ := refuses_M (J := J1) (k := 3) (by decide)
    exact ⟨-1, _, _, M1, by rw [r1]; rfl, by rw [r2]; rfl, (Rel_ref (Rel_same h (by omega) z1 SR.refl z2 z3) (k := 3) (by decide)).rel⟩
  have fail0 := fail I J M SX.refl SM.refl SL.refl
  unfold f_X11_pay f_X12_pay f_X9_areTwoOwners
  rw [isOwner_C hC, isOwner_C hC, isOwner_M hM, isOwner_M hM]
  simp only [jnt, Option.bind_some]
  rcases own_cases (x := a0) (no := no) (by omega) with c | ⟨p, hp, rfl, c⟩
  · simp only [if_neg c, if_true, gz_0, Option.bind_some]
    exact fail0
  rcases own_cases (x := a1) (no := no) (by omega) with d | ⟨q, hq, rfl, d⟩
  · simp only [if_neg d, if_pos c, if_neg n3, if_true, gz_0, Option.bind_some]
    exact fail0
  simp only [if_pos c, if_pos d, if_neg n3]
  by_cases cpq : p = q
  · have : nI p = nI q := by rw [cpq]
    simp only [if_pos this, gz_0, Option.bind_some, if_true]
    exact fail0
  have cpq' : ¬ nI p = nI q := fun z => cpq ((nI_eq (by omega) (by omega)).mp z)
  simp only [if_neg cpq', gz_1, Option.bind_some, if_neg n3]
  by_cases c0 : a2 ≤ 0
  · simp only [if_pos c0]
    exact fail0
  simp only [if_neg c0]
  obtain ⟨B, hB2, rfl⟩ := nI_of (x := a2) (fun z => c0 (Int32.le_of_lt z))
  obtain ⟨Bo, b1, b2, b3, b4⟩ := lakesOf_R (fu := FU) h FU_big.2 (nI p)
  simp only [b3, b4, Option.bind_some]
  by_cases cb : nI B &&& (nI Bo ^^^ (-1)) = 0
  · simp only [if_pos cb]
    obtain ⟨W, I1, J1, M1, w1, w2, w3, w4, w5, w6⟩ := worths_R (fu := FU) (M := M) h FU_big.1 (B := B) (B' := B) hB2 hB2 (fun _ _ => rfl)
    have hrel := Rel_same h (n' := n) (by omega) w3 SR.refl w4 w5
    have hW : W ≤ 79992 := by
      rw [w6]
      have := smN_le (f := fun l => if B.testBit l = true then woN (vw I t) (sc I 49) nl l else 0) (m := 9999) nl (fun i hi => by
        show (if B.testBit i = true then woN (vw I t) (sc I 49) nl i else 0) ≤ 9999
        split
        · unfold woN
          split
          · omega
          · split
            · exact clN_le
            · obtain ⟨y, hy, ey⟩ := hB.1 i (by omega)
              rw [ey, nI_clamp (by omega)]
              omega
        · omega)
      have h10 : nl * 9999 ≤ 8 * 9999 := Nat.mul_le_mul_right _ h9
      omega
    obtain ⟨hC1, hL1, hM1, hE1, hS1, hB1, hB1', h11⟩ := hrel.get
    have hk := hrel.LC.2.2.2.2.2.2
    obtain ⟨x, x1, x2⟩ := hS1.2.2.1 (6 * p + q) (by omega)
    obtain ⟨y, y1, y2⟩ := hS1.2.2.1 (6 * q + p) (by omega)
    have x2' : I1 53 (6 * p + q) = nI x := x2
    have y2' : I1 53 (6 * q + p) = nI y := y2
    have x3 : J1 131 (6 * p + q) = nI x := by rw [← hk _ (by omega)]; exact x2
    have y3 : J1 131 (6 * q + p) = nI y := by rw [← hk _ (by omega)]; exact y2
    have e1 : p * 6 = 6 * p := Nat.mul_comm _ _
    have e2 : q * 6 = 6 * q := Nat.mul_comm _ _
    have dx : f_X12_debt J1 (nI p) (nI q) = some (nI x) := by
      unfold f_X12_debt
      simp (disch := omega) only [sdm, ↓zm1, ↓zm2, ↓zm3, ↓zm4, ↓zm5, ↓zm6, ↓zm7, ↓zm8, ↓zm9, ↓zm10, ↓zm11, ↓zm12, ↓zm13, ↓zm14, ↓zm15, ↓zm16, ↓zm17, ↓zm18, ↓zm19, ↓zm20, ↓zm1000000000, zq0, zq1, zq2, zq3, zq4, zq5, zq6, zq7, zq8, zq9, zq10, zq11, zq12, zq13, zq14, zq15, zq16, zq17, zq18, zq19, zq20, zq21, zq22, zq23, zq24, zq25, zq26, zq30, zq31, zq32, zq33, zq34, zq35, zq36, zq37, zq38, zq39, zq40, zq41, zq42, zq43, zq44, zq45, zq47, zq48, zq57, zq59, zq60, zq61, zq62, zq80, zq91, zq93, zq97, zq99, zq100, zq107, zq110, zq120, zq122, zq128, zq149, zq160, zq208, zq240, zq251, zq255, zq256, zq500, zq936, zq999, zq1600, zq1800, zq2048, zq3200, zq4160, zq9999, zq12345, zq1000000, zq1048576, zq100000000, bnd, jnt, zg_ok, gz_0, gz_1, gz_n0, gz_n1, zs_eq, zs_ne, zs_same, zs_other, zA_eq, zA_ne, Option.bind_some, Option.bind_none, nI_add, pk_mul, nI_clamp, nI_leI, nI_ltI, nI_eq, pk_sub, nI_mI, nI_eq_mI, mI_eq_nI, nI_lt_m, ldI_ok, inb_ok, if_pos, if_neg, dv_ok, rem_ok, div_ok, if_true, if_false, x3]
    have dy : f_X12_debt J1 (nI q) (nI p) = some (nI y) := by
      unfold f_X12_debt
      simp (disch := omega) only [sdm, ↓zm1, ↓zm2, ↓zm3, ↓zm4, ↓zm5, ↓zm6, ↓zm7, ↓zm8, ↓zm9, ↓zm10, ↓zm11, ↓zm12, ↓zm13, ↓zm14, ↓zm15, ↓zm16, ↓zm17, ↓zm18, ↓zm19, ↓zm20, ↓zm1000000000, zq0, zq1, zq2, zq3, zq4, zq5, zq6, zq7, zq8, zq9, zq10, zq11, zq12, zq13, zq14, zq15, zq16, zq17, zq18, zq19, zq20, zq21, zq22, zq23, zq24, zq25, zq26, zq30, zq31, zq32, zq33, zq34, zq35, zq36, zq37, zq38, zq39, zq40, zq41, zq42, zq43, zq44, zq45, zq47, zq48, zq57, zq59, zq60, zq61, zq62, zq80, zq91, zq93, zq97, zq99, zq100, zq107, zq110, zq120, zq122, zq128, zq149, zq160, zq208, zq240, zq251, zq255, zq256, zq500, zq936, zq999, zq1600, zq1800, zq2048, zq3200, zq4160, zq9999, zq12345, zq1000000, zq1048576, zq100000000, bnd, jnt, zg_ok, gz_0, gz_1, gz_n0, gz_n1, zs_eq, zs_ne, zs_same, zs_other, zA_eq, zA_ne, Option.bind_some, Option.bind_none, nI_add, pk_mul, nI_clamp, nI_leI, nI_ltI, nI_eq, pk_sub, nI_mI, nI_eq_mI, mI_eq_nI, nI_lt_m, ldI_ok, inb_ok, if_pos, if_neg, dv_ok, rem_ok, div_ok, if_true, if_false, y3]
    have m1 : f_J9_max_7cf53 0 (nI W - nI x) = some (nI (W - x)) := by
      unfold f_J9_max_7cf53
      by_cases cw : x < W
      · have z : (0 : Int32) < nI (W - x) := nI_lt (a := 0) (b := W - x) (by omega) (by omega)
        rw [pk_sub (by omega), if_pos z]
      · rw [show W - x = 0 by omega]
        rw [if_neg]
        · rfl
        · by_cases cw2 : x = W
          · subst cw2
            rw [pk_sub (Nat.le_refl _), Nat.sub_self]
            decide
          · exact Int32.not_lt.mpr (Int32.le_of_lt (pk_sneg (by omega) (by omega)))
    have m2 : f_J9_max_7cf53 0 (nI x - nI W) = some (nI (x - W)) := by
      unfold f_J9_max_7cf53
      by_cases cw : W < x
      · have z : (0 : Int32) < nI (x - W) := nI_lt (a := 0) (b := x - W) (by omega) (by omega)
        rw [pk_sub (by omega), if_pos z]
      · rw [show x - W = 0 by omega]
        rw [if_neg]
        · rfl
        · by_cases cw2 : x = W
          · subst cw2
            rw [pk_sub (Nat.le_refl _), Nat.sub_self]
            decide
          · exact Int32.not_lt.mpr (Int32.le_of_lt (pk_sneg (by omega) (by omega)))
    have hv7 : nI W - nI x ≤ 0 ↔ W ≤ x := by
      rw [Int32.le_iff_toInt_le, pk_sub_toInt (by omega) (by omega), zt0]
      omega
    simp (disch := omega) only [w1, w2, Option.bind_some, zq6, pk_mul, nI_add, e1, e2, ldI_ok, x2', y2', m1, dx, dy, bnd]
    by_cases cr : y + (W - x) ≤ 9999
    · have cr' : nI (y + (W - x)) ≤ 9999 := nI_le (b := 9999) cr (by decide)
      obtain ⟨I2, J2, q1, q2, q3, q4, q5, q6, q7, q8, q9, q10, q11⟩ := push_R (fu := FU) hrel FU_big.1
      obtain ⟨hC2, hL2, hM2, hE2, hS2, hB2', hB2'', h12⟩ := q3.get
      have es : sc I2 49 = sc I1 49 := sc_congr (fun a ha => q5 _ (by omega))
      have ev : vw I2 t = vw I1 t := vw_congr (fun a ha => q5 _ (by omega))
      have hD2 : LWf (vw I2 t) nh := q3.2.2.2.2.2.2.1.2.2.2.2.2.1
      obtain ⟨I3, hI3⟩ : ∃ I3, I3 = sI (sI I2 53 (6 * p + q) (nI (x - W))) 53 (6 * q + p) (nI (y + (W - x))) := ⟨_, rfl⟩
      obtain ⟨J3, hJ3⟩ : ∃ J3, J3 = sI (sI J2 131 (6 * p + q) (nI (x - W))) 131 (6 * q + p) (nI (y + (W - x))) := ⟨_, rfl⟩
      have o3 : ∀ z, z ≠ 53 → I3 z = I2 z := fun z hz => by rw [hI3, zs_ne hz, zs_ne hz]
      have oj3 : ∀ z, z ≠ 131 → J3 z = J2 z := fun z hz => by rw [hJ3, zs_ne hz, zs_ne hz]
      have hC3 : CL I3 R 49 t nh no nl := by
        obtain ⟨h0, h1, h2, h3, h4, h5, h6, h7, h8, h9⟩ := hC2
        have et : I3 t = I2 t := o3 t (by omega)
        exact ⟨h0, h1, h2, h3, by rw [et]; exact h4, by rw [et]; exact h5, by rw [et]; exact h6, h7, h8, h9⟩
      have hM3 : ML J3 b nh no nl (vw I2 t) := ML_congr (by rw [oj3 100 (by decide)]) (fun z z1 z2 => oj3 z (by omega)) hM2
      obtain ⟨I4, g1, g2, g3⟩ := give_C (fu := FU) (v := nI q) hC3 FU_big.2 hB2
      obtain ⟨J4, k1, k2, k3⟩ := give_M (fu := FU) (v := nI q) hM3 FU_big.2 hB2
      have y4 : sI J2 131 (6 * p + q) (nI (x - W)) 131 (6 * q + p) = nI y := by
        rw [zs_eq, zs_other (by omega), q9 _ (by omega)]
        exact y3
      have ac : AC J2 J4 := by
        refine ⟨fun z hz => by rw [k2 z (by omega), oj3 z (by omega)], fun z _ => by rw [k2 127 (by decide), oj3 127 (by decide)], fun z hz => ?_, fun z hz => ?_⟩
        · rw [k2 128 (by decide), oj3 128 (by decide), k2 129 (by decide), oj3 129 (by decide), k3]
          refine ⟨rfl, rfl, ?_⟩
          unfold gv
          rw [if_neg (fun w => absurd w.1 (by omega)), oj3 130 (by decide)]
        · rw [k2 131 (by decide), hJ3, zs_eq, zs_eq, zs_other (by omega), zs_other (by omega)]
      have hE4 : SEp nl (sc I4 49) (lv J4 0) := by
        refine ⟨?_, fun k hk => ⟨?_, ?_, ?_⟩, fun k hk => ?_, fun k hk => by
          show I4 50 k = J4 128 (8 * 0 + k)
          rw [g2 50 (by decide), o3 50 (by decide), k2 128 (by decide), oj3 128 (by decide)]
          exact hE2.2.2.2 k hk⟩
        · show I4 49 1 = J4 127 0
          rw [g2 49 (by decide), o3 49 (by decide), k2 127 (by decide), oj3 127 (by decide)]
          exact hE2.1
        · show I4 50 k = J4 128 (8 * 0 + k)
          rw [g2 50 (by decide), o3 50 (by decide), k2 128 (by decide), oj3 128 (by decide)]
          exact (hE2.2.1 k hk).1
        · show I4 51 k = J4 129 (8 * 0 + k)
          rw [g2 51 (by decide), o3 51 (by decide), k2 129 (by decide), oj3 129 (by decide)]
          exact (hE2.2.1 k hk).2.1
        · show I4 52 k = J4 130 (8 * 0 + k)
          rw [g3, o3 52 (by decide), k3, oj3 130 (by decide), Nat.mul_zero, Nat.zero_add]
          have := (hE2.2.1 k hk).2.2
          have z : I2 52 k = J2 130 (8 * 0 + k) := this
          rw [Nat.mul_zero, Nat.zero_add] at z
          unfold gv
          rw [z]
        · have z : SEp nl (sI (sI (sc I2 49) 4 (6 * p + q) (nI (x - W))) 4 (6 * q + p) (nI (y + (W - x)))) (lv J3 0) := by
            rw [hJ3]
            exact SE_131 (SE_131 hE2)
          rw [← sc53, ← sc53, ← hI3] at z
          have z2 := z.2.2.1 k hk
          have z3 : I3 53 k = J3 131 (36 * 0 + k) := z2
          show I4 53 k = J4 131 (36 * 0 + k)
          rw [g2 53 (by decide), k2 131 (by decide), z3]
      have hS4 : SW (vw I2 t) (sc I4 49) nh no nl := by
        have e : ∀ a, a < 3 → sc I4 49 a = sc I2 49 a := fun a ha => by
          unfold sc
          rw [if_pos (by omega), if_pos (by omega), g2 _ (by omega), o3 _ (by omega)]
        have e3 : sc I4 49 3 = gv (sc I2 49 3) B (nI q) nl := by
          show I4 52 = gv (I2 52) B (nI q) nl
          rw [g3, o3 52 (by decide)]
        refine SW.mk' ⟨by rw [e 0 (by decide)]; exact hS2.1, fun l hl => ?_, fun k hk => ?_⟩ hS2 hD2 h9 (fun h' H' hh' z3 z4 z5 => ?_)
        · rw [e 1 (by decide), e 2 (by decide), e3]
          obtain ⟨u, u1, u2, u3, u4⟩ := hS2.2.1 l hl
          unfold gv
          by_cases cl : l < nl ∧ B.testBit l = true
          · rw [if_pos cl]
            have hbo := sub_bits (l := l) (by omega) cb cl.2
            rw [b2, btN_bit] at hbo
            simp only [Bool.and_eq_true, decide_eq_true_eq] at hbo
            have hown : sc I2 49 3 l = nI p := by
              rw [es]
              show I1 52 l = nI p
              rw [w3 52 (by omega)]
              exact hbo.2
            have hu : 0 < u := by
              rcases Nat.eq_zero_or_pos u with z | z
              · have := (u3 z).2
                rw [hown] at this
                exact absurd this (fun w => (nI_eq_mI (by omega) (by decide)).mp w)
              · exact z
            obtain ⟨v1, v2, v3⟩ := u4 hu
            exact ⟨u, u1, u2, fun z => absurd z (by omega), fun _ => ⟨v1, v2, q, hq, rfl⟩⟩
          · rw [if_neg cl]
            exact ⟨u, u1, u2, u3, u4⟩
        · show ∃ z, z ≤ 9999 ∧ I4 53 k = nI z
          rw [g2 53 (by decide), hI3, zs_eq, zs_eq]
          by_cases z1 : k = 6 * q + p
          · subst z1
            rw [zs_same]
            exact ⟨_, cr, rfl⟩
          · rw [zs_other z1]
            by_cases z2 : k = 6 * p + q
            · subst z2
              rw [zs_same]
              exact ⟨_, by omega, rfl⟩
            · rw [zs_other z2]
              exact hS2.2.2.1 k hk
        · unfold rs at *
          rw [e 1 (by decide), e 2 (by decide)]
          exact z5
      have hrel4 : RelB n I4 R J4 M1 t b nh no nl := Rel_act (n' := n) q3 (by omega) (fun z _ hz => by rw [g2 z (by omega), o3 z (by omega)]) (fun k _ => by rw [g2 1 (by decide), o3 1 (by decide)]) ac (RLt_c q3.2.2.2.1 (by rw [g2 1 (by decide), o3 1 (by decide)]) rfl) (fun _ _ => rfl) hE4 hS4
      have ev4 : vw I4 t = vw I1 t := (vw_congr (fun a ha => by rw [g2 _ (by omega), o3 _ (by omega)])).trans ev
      have hf4 : RHf n I4 J4 (vw I4 t) nh no nl := by
        obtain ⟨nx, dp, f, tt, hh, htt⟩ := q4
        rw [ev4]
        exact ⟨nx, dp, f, tt, RHx_act hh (Nat.le_refl n) (fun z z1 z2 => by rw [g2 z (by omega), o3 z (by omega)]) ac, htt⟩
      obtain ⟨I5, J5, s1, s2, s3⟩ := Rel_paid hrel4 hf4 hn FU_big.1 (nI p) (nI q) (nI W)
      have g1' : f_X9_give FU (sI (sI I2 53 (6 * p + q) (nI (x - W))) 53 (6 * q + p) (nI (y + (W - x)))) R 49 (nI B) (nI q) = some I4 := by rw [← hI3]; exact g1
      have k1' : f_X12_pay_L144 FU (sI (sI J2 131 (6 * p + q) (nI (x - W))) 131 (6 * q + p) (nI (y + (W - x)))) (nI q) (nI B) 0 = some J4 := by rw [← hJ3]; exact k1
      refine ⟨nI W, I5, J5, M1, ?_, ?_, s3.rel⟩
      · simp (disch := omega) only [if_pos cr', q1, Option.bind_some, m2, inb_ok, nI_clamp, g1', s1]
      · by_cases cw : W ≤ x
        · have cw' := hv7.mpr cw
          have ez : -(nI W - nI x) = nI (x - W) := by rw [Int32.neg_sub, pk_sub cw]
          have ew : W - x = 0 := by omega
          have ey : nI y + 0 = nI (y + (W - x)) := by rw [ew]; exact Int32.add_zero _
          simp (disch := omega) only [if_pos cw', q2, Option.bind_some, ez, inb_ok, nI_clamp, ldI_ok, y4, ey, k1', s2]
        · have cw' : ¬ nI W - nI x ≤ 0 := fun z => cw (hv7.mp z)
          have ez : nI W - nI x = nI (W - x) := pk_sub (by omega)
          have ew : x - W = 0 := by omega
          have ey : (0 : Int32) = nI (x - W) := by rw [ew]; rfl
          rw [ez] at cw'
          simp (disch := omega) only [ez, if_neg cw', nI_add, if_pos cr', q2, Option.bind_some]
          rw [ew] at k1' y4
          simp (disch := omega) only [zq0, inb_ok, nI_clamp, ldI_ok, y4, nI_add]
          have k1'' : f_X12_pay_L144 FU (sI (sI J2 131 (6 * p + q) (nI 0)) 131 (6 * q + p) (nI (y + (W - x)))) (nI q) (nI B) (nI 0) = some J4 := k1'
          simp only [k1'', Option.bind_some, s2]
    · have cr' : ¬ nI (y + (W - x)) ≤ 9999 := nI_ge (a := 9999) (by omega) (by omega)
      have cw' : ¬ nI W - nI x ≤ 0 := fun z => by
        have := hv7.mp z
        omega
      have ez : nI W - nI x = nI (W - x) := pk_sub (by omega)
      rw [ez] at cw'
      simp only [if_neg cr', ez, if_neg cw', nI_add]
      exact fail I1 J1 M1 w3 w4 w5
  · simp only [if_neg cb]
    exact fail0
