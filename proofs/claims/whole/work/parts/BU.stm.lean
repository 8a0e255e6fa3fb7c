/-! a statement, both sides -/
section
variable {tp : Nat → Nat} {sz fu t b nh no nl cj k at' e n : Nat} {I J : HI} {M : HL} {R : HR}
theorem fail_O {K J' : HI} {f pl : Nat} (c2 : BadC I K f pl) (m2 : BadM J J' f pl) (ok : okF f pl) : OutS tp sz t b e I J M 0 K J' M := ⟨⟨c2.fr, m2.fr, FrL.refl⟩, Or.inr (Or.inr ⟨rfl, f, pl, c2.2.1, c2.2.2, m2.2.1, m2.2.2.1, ok⟩)⟩
theorem holM_m {J' : HI} (h33 : J 100 33 = nI b) (hb : b < 2) (h : J 102 b = nI 8) (cn : f_X12_counts fu J M 1 = some (0, J', M)) : f_X12_hollowing fu J M = some (J', M) := by
  have l5 : ∀ (k : Int32 → Option (HI × HL)), ldI (J 102) 2 (nI b) k = k (nI 8) := fun k => by rw [ldI_ok (by omega), h]
  unfold f_X12_hollowing
  simp only [h33, l5, if_pos (show (nI 8 : Int32) = 8 from rfl), jnt, cn, Option.bind_some, if_true]
theorem ownM_m {J' : HI} (h33 : J 100 33 = nI b) (hb : b < 2) (h : J 105 b = nI 6) (cn : f_X12_counts fu J M 1 = some (0, J', M)) : f_X12_owning fu J M = some (J', M) := by
  have l5 : ∀ (k : Int32 → Option (HI × HL)), ldI (J 105) 2 (nI b) k = k (nI 6) := fun k => by rw [ldI_ok (by omega), h]
  unfold f_X12_owning
  simp only [h33, l5, if_pos (show (nI 6 : Int32) = 6 from rfl), jnt, cn, Option.bind_some, if_true]
theorem lakM_m {J' : HI} (h33 : J 100 33 = nI b) (hb : b < 2) (h : J 106 b = nI 8) (cn : f_X12_counts fu J M 1 = some (0, J', M)) : f_X12_laking fu J M = some (J', M) := by
  have l5 : ∀ (k : Int32 → Option (HI × HL)), ldI (J 106) 2 (nI b) k = k (nI 8) := fun k => by rw [ldI_ok (by omega), h]
  unfold f_X12_laking
  simp only [h33, l5, if_pos (show (nI 8 : Int32) = 8 from rfl), jnt, cn, Option.bind_some, if_true]
theorem rulM_m {J' : HI} {r0 a : Nat} (h33 : J 100 33 = nI b) (hb : b < 2) (hr : r0 < 3) (h : J 113 (3 * b + r0) = nI a) (ha : a ≤ 1600) (cn : f_X12_counts fu J M 1 = some (0, J', M)) : f_X12_reading fu J M (nI r0) = some (J', M) := by
  have ix : 3 * nI b + nI r0 = nI (3 * b + r0) := by rw [zq3, pk_mul, nI_add]
  have l5 : ∀ (k : Int32 → Option (HI × HL)), ldI (J 113) 6 (nI (3 * b + r0)) k = k (nI a) := fun k => by rw [ldI_ok (by omega), h]
  have z : ¬ nI a = (-1 : Int32) := fun w => (nI_eq_mI (a := a) (b := 1) (by omega) (by decide)).mp w
  unfold f_X12_reading
  simp only [bnd, h33, ix, l5, if_neg z, jnt, cn, Option.bind_some, if_true]
theorem rule_has {r : Nat} (hr : r < 3) (h : RU1 I J t b cj r) (hcj : cj ≤ 1600) : (f_X2_hasRule I t (nI r) = some 0 ∧ J 113 (3 * b + r) = mI 1) ∨ (f_X2_hasRule I t (nI r) = some 1 ∧ ∃ a, a ≤ 1600 ∧ J 113 (3 * b + r) = nI a) := by
  have l1 : ∀ (k : Int32 → Option Int32), ldI (I (t + 12)) 3 (nI r) k = k (I (t + 12) r) := fun k => by rw [ldI_ok (by omega)]
  have l2 : ∀ (k : Int32 → Option Int32), ldI (I (t + 11)) 3 (nI r) k = k (I (t + 11) r) := fun k => by rw [ldI_ok (by omega)]
  unfold f_X2_hasRule
  rcases h with ⟨q1, q2, q3⟩ | ⟨a, n, q1, q2, q3, q4, q5, q6, q7⟩
  · left
    have z : (nI 0 : Int32) ≤ nI 0 := by decide
    refine ⟨?_, q3⟩
    simp only [l1, l2, q1, q2, if_pos z, gz_0]
  · right
    have z : ¬ nI (a + n) ≤ nI a := nI_ge (by omega) (by omega)
    refine ⟨?_, a, by omega, q5⟩
    simp only [l1, l2, q3, q4, if_neg z, gz_1]
theorem many8 : f_X7_isOneTooMany I R (nI 8) = some 0 := by
  unfold f_X7_isOneTooMany
  simp only [if_neg (show ¬ (nI 8 : Int32) = 0 by decide), if_neg (show ¬ (nI 8 : Int32) = 3 by decide), if_neg (show ¬ (nI 8 : Int32) = 4 by decide), if_neg (show ¬ (nI 8 : Int32) = 9 by decide), if_neg (show ¬ (nI 8 : Int32) = 10 by decide), if_neg (show ¬ (nI 8 : Int32) = 11 by decide), gz_0]
theorem many12 : f_X7_isOneTooMany I R (nI 12) = some 0 := by
  unfold f_X7_isOneTooMany
  simp only [if_neg (show ¬ (nI 12 : Int32) = 0 by decide), if_neg (show ¬ (nI 12 : Int32) = 3 by decide), if_neg (show ¬ (nI 12 : Int32) = 4 by decide), if_neg (show ¬ (nI 12 : Int32) = 9 by decide), if_neg (show ¬ (nI 12 : Int32) = 10 by decide), if_neg (show ¬ (nI 12 : Int32) = 11 by decide), gz_0]
theorem many24 : f_X7_isOneTooMany I R (nI 24) = some 0 := by
  unfold f_X7_isOneTooMany
  simp only [if_neg (show ¬ (nI 24 : Int32) = 0 by decide), if_neg (show ¬ (nI 24 : Int32) = 3 by decide), if_neg (show ¬ (nI 24 : Int32) = 4 by decide), if_neg (show ¬ (nI 24 : Int32) = 9 by decide), if_neg (show ¬ (nI 24 : Int32) = 10 by decide), if_neg (show ¬ (nI 24 : Int32) = 11 by decide), gz_0]
theorem many0 {c : Nat} (hR : R 6 2 = t) (ho : okLd t = true) (h : I t 1 = nI c) (hc : c ≤ 8) : (c < 8 ∧ f_X7_isOneTooMany I R (nI 0) = some 0) ∨ (c = 8 ∧ f_X7_isOneTooMany I R (nI 0) = some 1) := by
  unfold f_X7_isOneTooMany
  by_cases q : c < 8
  · have z : nI c < (8 : Int32) := nI_lt (b := 8) q (by decide)
    left
    refine ⟨q, ?_⟩
    simp only [if_pos (show (nI 0 : Int32) = 0 from rfl), hR, zg_ok ho, h, if_pos z, gz_0]
  · have e : c = 8 := by omega
    have z : ¬ nI c < (8 : Int32) := by rw [e]; decide
    right
    refine ⟨e, ?_⟩
    simp only [if_pos (show (nI 0 : Int32) = 0 from rfl), hR, zg_ok ho, h, if_neg z, gz_1]
theorem many3 {c : Nat} (hR : R 6 2 = t) (ho : okLd t = true) (h : I t 2 = nI c) (hc : c ≤ 6) : (c < 6 ∧ f_X7_isOneTooMany I R (nI 3) = some 0) ∨ (c = 6 ∧ f_X7_isOneTooMany I R (nI 3) = some 1) := by
  unfold f_X7_isOneTooMany
  by_cases q : c < 6
  · have z : nI c < (6 : Int32) := nI_lt (b := 6) q (by decide)
    left
    refine ⟨q, ?_⟩
    simp only [if_neg (show ¬ (nI 3 : Int32) = 0 by decide), if_pos (show (nI 3 : Int32) = 3 from rfl), hR, zg_ok ho, h, if_pos z, gz_0]
  · have e : c = 6 := by omega
    have z : ¬ nI c < (6 : Int32) := by rw [e]; decide
    right
    refine ⟨e, ?_⟩
    simp only [if_neg (show ¬ (nI 3 : Int32) = 0 by decide), if_pos (show (nI 3 : Int32) = 3 from rfl), hR, zg_ok ho, h, if_neg z, gz_1]
theorem many4 {c : Nat} (hR : R 6 2 = t) (ho : okLd t = true) (h : I t 3 = nI c) (hc : c ≤ 8) : (c < 8 ∧ f_X7_isOneTooMany I R (nI 4) = some 0) ∨ (c = 8 ∧ f_X7_isOneTooMany I R (nI 4) = some 1) := by
  unfold f_X7_isOneTooMany
  by_cases q : c < 8
  · have z : nI c < (8 : Int32) := nI_lt (b := 8) q (by decide)
    left
    refine ⟨q, ?_⟩
    simp only [if_neg (show ¬ (nI 4 : Int32) = 0 by decide), if_neg (show ¬ (nI 4 : Int32) = 3 by decide), if_pos (show (nI 4 : Int32) = 4 from rfl), hR, zg_ok ho, h, if_pos z, gz_0]
  · have e : c = 8 := by omega
    have z : ¬ nI c < (8 : Int32) := by rw [e]; decide
    right
    refine ⟨e, ?_⟩
    simp only [if_neg (show ¬ (nI 4 : Int32) = 0 by decide), if_neg (show ¬ (nI 4 : Int32) = 3 by decide), if_pos (show (nI 4 : Int32) = 4 from rfl), hR, zg_ok ho, h, if_neg z, gz_1]
theorem many9_0 (hR : R 6 2 = t) (ho : okLd t = true) (h : f_X2_hasRule I t (nI 0) = some 0) : f_X7_isOneTooMany I R (nI 9) = some 0 := by
  have h' : f_X2_hasRule I t 0 = some 0 := h
  unfold f_X7_isOneTooMany
  simp only [if_neg (show ¬ (nI 9 : Int32) = 0 by decide), if_neg (show ¬ (nI 9 : Int32) = 3 by decide), if_neg (show ¬ (nI 9 : Int32) = 4 by decide), if_pos (show (nI 9 : Int32) = 9 from rfl), hR, zg_ok ho, h', Option.bind_some, gz_0]
theorem many9_1 (hR : R 6 2 = t) (ho : okLd t = true) (h : f_X2_hasRule I t (nI 0) = some 1) : f_X7_isOneTooMany I R (nI 9) = some 1 := by
  have h' : f_X2_hasRule I t 0 = some 1 := h
  unfold f_X7_isOneTooMany
  simp only [if_neg (show ¬ (nI 9 : Int32) = 0 by decide), if_neg (show ¬ (nI 9 : Int32) = 3 by decide), if_neg (show ¬ (nI 9 : Int32) = 4 by decide), if_pos (show (nI 9 : Int32) = 9 from rfl), hR, zg_ok ho, h', Option.bind_some, gz_1]
theorem many10_0 (hR : R 6 2 = t) (ho : okLd t = true) (h : f_X2_hasRule I t (nI 1) = some 0) : f_X7_isOneTooMany I R (nI 10) = some 0 := by
  have h' : f_X2_hasRule I t 1 = some 0 := h
  unfold f_X7_isOneTooMany
  simp only [if_neg (show ¬ (nI 10 : Int32) = 0 by decide), if_neg (show ¬ (nI 10 : Int32) = 3 by decide), if_neg (show ¬ (nI 10 : Int32) = 4 by decide), if_neg (show ¬ (nI 10 : Int32) = 9 by decide), if_pos (show (nI 10 : Int32) = 10 from rfl), hR, zg_ok ho, h', Option.bind_some, gz_0]
theorem many10_1 (hR : R 6 2 = t) (ho : okLd t = true) (h : f_X2_hasRule I t (nI 1) = some 1) : f_X7_isOneTooMany I R (nI 10) = some 1 := by
  have h' : f_X2_hasRule I t 1 = some 1 := h
  unfold f_X7_isOneTooMany
  simp only [if_neg (show ¬ (nI 10 : Int32) = 0 by decide), if_neg (show ¬ (nI 10 : Int32) = 3 by decide), if_neg (show ¬ (nI 10 : Int32) = 4 by decide), if_neg (show ¬ (nI 10 : Int32) = 9 by decide), if_pos (show (nI 10 : Int32) = 10 from rfl), hR, zg_ok ho, h', Option.bind_some, gz_1]
theorem many11_0 (hR : R 6 2 = t) (ho : okLd t = true) (h : f_X2_hasRule I t (nI 2) = some 0) : f_X7_isOneTooMany I R (nI 11) = some 0 := by
  have h' : f_X2_hasRule I t 2 = some 0 := h
  unfold f_X7_isOneTooMany
  simp only [if_neg (show ¬ (nI 11 : Int32) = 0 by decide), if_neg (show ¬ (nI 11 : Int32) = 3 by decide), if_neg (show ¬ (nI 11 : Int32) = 4 by decide), if_neg (show ¬ (nI 11 : Int32) = 9 by decide), if_neg (show ¬ (nI 11 : Int32) = 10 by decide), if_pos (show (nI 11 : Int32) = 11 from rfl), hR, zg_ok ho, h', Option.bind_some, gz_0]
theorem many11_1 (hR : R 6 2 = t) (ho : okLd t = true) (h : f_X2_hasRule I t (nI 2) = some 1) : f_X7_isOneTooMany I R (nI 11) = some 1 := by
  have h' : f_X2_hasRule I t 2 = some 1 := h
  unfold f_X7_isOneTooMany
  simp only [if_neg (show ¬ (nI 11 : Int32) = 0 by decide), if_neg (show ¬ (nI 11 : Int32) = 3 by decide), if_neg (show ¬ (nI 11 : Int32) = 4 by decide), if_neg (show ¬ (nI 11 : Int32) = 9 by decide), if_neg (show ¬ (nI 11 : Int32) = 10 by decide), if_pos (show (nI 11 : Int32) = 11 from rfl), hR, zg_ok ho, h', Option.bind_some, gz_1]
theorem stm_A (h : StR tp sz I J M k at' e) (hk : k ≠ 0) (hT : TOLD I J M t b nh no nl cj) (hc : cj ≤ at') (h0 : I t 0 = nI n) (hn : n < 80) (hR : R 6 2 = t) (ho : okLd t = true) (ht : t = 67 ∨ t = 80) (hf : 2000 < fu) : ∃ y K R' J1 M1, f_X7_readStatement fu I R = tailC fu y K R' ∧ (R' = R ∨ R' = sR R 8 1 t) ∧ f_X12_statement fu J M = some (J1, M1) ∧ OutS tp sz t b e I J M y K J1 M1 := by
  have h3 : I 7 3 = nI k := h.2.1.1.2.2.2
  have h8 := h.2.2.1
  have hk5 := h.k5
  have hb := hT.1.2.2.2.2.2.2.2
  have b33 := hT.1.2.2.2.2.2.2.1
  have j4 : J 100 4 = nI at' := h.2.1.1.2.2.1.2
  have i4 : I 7 4 = nI at' := h.2.1.1.2.2.1.1
  rcases lexS h with ⟨l1, l2, l3, l4⟩ | ⟨l1, pl, J1, l2, l3, l4, l5⟩
  · obtain ⟨Kf, f1, f2⟩ := failFormC l3
    obtain ⟨Jf, g1, g2⟩ := blameS (f := 1) (pl := at') h8
    have g1' : f_X12_blame J 1 (J 100 4) = some Jf := by rw [j4]; exact g1
    have ok1 : okF 1 at' := ⟨by decide, l4⟩
    by_cases q2 : k = 2
    · subst q2
      obtain ⟨w, hw, w6⟩ : ∃ w, w < 25 ∧ I 7 6 = nI w := by
        rcases h.2.1.2.2.1 with v | v | v | v | v | v
        · exact absurd v.1 (by decide)
        · exact absurd v.1 (by decide)
        · exact absurd v.1 (by decide)
        · obtain ⟨_, _, _, _, w, w1, w2, _⟩ := v
          exact ⟨w, w1, w2⟩
        · exact absurd v.1 (by decide)
        · exact absurd v.1 (by decide)
      have iw : isW J M w := fun d hd => by
        rcases wordB h l1 d hd with ⟨_, v2, _, v4⟩ | ⟨_, v2, v3⟩
        · rw [v2, if_pos ((nI_eq (a := w) (b := d) (by omega) (by omega)).mp (w6.symm.trans v4))]
        · rw [v2, if_neg (fun v => v3 ⟨rfl, by rw [w6, v]⟩)]
      obtain ⟨Km, m1, m2⟩ := failC (f := 6) i4
      have m1' : f_X10_fail I 6 = some (0, Km) := m1
      obtain ⟨Jm, c1, c2⟩ := cntN (fu := fu) (M := M) h8 j4
      have ok6 : okF 6 at' := ⟨by decide, l4⟩
      by_cases e0 : w = 0
      · subst e0
        rcases many0 hR ho hT.1.1.1 hT.1.1.2.2 with ⟨u1, u2⟩ | ⟨u1, u2⟩
        · obtain ⟨y, K, J', M', r1, r2, r3⟩ := hollow_S (R := R) h hk hT hc u1 hR ho ht hf
          exact ⟨y, K, R, J', M', stC0 hR ho h0 hn h3 w6 u2 r1, Or.inl rfl, stM0 l2 h8 iw r2, r3⟩
        · exact ⟨0, Km, R, Jm, M, stC_m hR ho h0 hn h3 w6 u2 m1', Or.inl rfl, stM0 l2 h8 iw (holM_m b33 hb (by rw [hT.1.1.2.1, u1]) c1), fail_O m2 c2 ok6⟩
      by_cases e3 : w = 3
      · subst e3
        rcases many3 hR ho hT.1.2.1.1 hT.1.2.1.2.2 with ⟨u1, u2⟩ | ⟨u1, u2⟩
        · obtain ⟨y, K, J', M', r1, r2, r3⟩ := owner_S (R := R) h hk hT hc u1 hR ho ht hf
          exact ⟨y, K, R, J', M', stC3 hR ho h0 hn h3 w6 u2 r1, Or.inl rfl, stM3 l2 h8 iw r2, r3⟩
        · exact ⟨0, Km, R, Jm, M, stC_m hR ho h0 hn h3 w6 u2 m1', Or.inl rfl, stM3 l2 h8 iw (ownM_m b33 hb (by rw [hT.1.2.1.2.1, u1]) c1), fail_O m2 c2 ok6⟩
      by_cases e4 : w = 4
      · subst e4
        rcases many4 hR ho hT.1.2.2.1.1 hT.1.2.2.1.2.2 with ⟨u1, u2⟩ | ⟨u1, u2⟩
        · obtain ⟨y, K, J', M', r1, r2, r3⟩ := lake_S (R := R) h hk hT hc u1 hR ho ht hf
          exact ⟨y, K, R, J', M', stC4 hR ho h0 hn h3 w6 u2 r1, Or.inl rfl, stM4 l2 h8 iw r2, r3⟩
        · exact ⟨0, Km, R, Jm, M, stC_m hR ho h0 hn h3 w6 u2 m1', Or.inl rfl, stM4 l2 h8 iw (lakM_m b33 hb (by rw [hT.1.2.2.1.2.1, u1]) c1), fail_O m2 c2 ok6⟩
      by_cases e8 : w = 8
      · subst e8
        obtain ⟨y, K, J', M', r1, r2, r3⟩ := debt_S (R := R) h hk hT hc hR ho ht hf
        exact ⟨y, K, R, J', M', stC8 hR ho h0 hn h3 w6 many8 r1, Or.inl rfl, stM8 l2 h8 iw r2, r3⟩
      by_cases e12 : w = 12
      · subst e12
        obtain ⟨y, K, J', M', r1, r2, r3⟩ := carts_S (R := R) h hk hT hc hR ho ht hf
        exact ⟨y, K, R, J', M', stC12 hR ho h0 hn h3 w6 many12 r1, Or.inl rfl, stM12 l2 h8 iw r2, r3⟩
      by_cases e24 : w = 24
      · subst e24
        obtain ⟨y, K, J', M', r1, r2, r3⟩ := drought_S (R := R) h hk hT hc hR ho ht hf
        exact ⟨y, K, R, J', M', stC24 hR ho h0 hn h3 w6 many24 r1, Or.inl rfl, stM24 l2 h8 iw r2, r3⟩
      have hcj := hT.2.2.2.2.2.2.2.1.2.2
      have ru := hT.2.2.2.2.2.2.2.2.2
      by_cases e9 : w = 9
      · subst e9
        rcases rule_has (r := 0) (by decide) (ru 0 (by decide)) hcj with ⟨u1, u2⟩ | ⟨u1, a, u2, u3⟩
        · obtain ⟨y, K, J', M', r1, r2, r3⟩ := rule_S' (r0 := 0) (R := R) h hk hT hc (by decide) u2 ho ht hf
          exact ⟨y, K, sR R 8 1 t, J', M', stC9 hR ho h0 hn h3 w6 (many9_0 hR ho u1) r1, Or.inr rfl, stM9 l2 h8 iw r2, r3⟩
        · exact ⟨0, Km, R, Jm, M, stC_m hR ho h0 hn h3 w6 (many9_1 hR ho u1) m1', Or.inl rfl, stM9 l2 h8 iw (rulM_m (r0 := 0) b33 hb (by decide) u3 u2 c1), fail_O m2 c2 ok6⟩
      by_cases e10 : w = 10
      · subst e10
        rcases rule_has (r := 1) (by decide) (ru 1 (by decide)) hcj with ⟨u1, u2⟩ | ⟨u1, a, u2, u3⟩
        · obtain ⟨y, K, J', M', r1, r2, r3⟩ := rule_S' (r0 := 1) (R := R) h hk hT hc (by decide) u2 ho ht hf
          exact ⟨y, K, sR R 8 1 t, J', M', stC10 hR ho h0 hn h3 w6 (many10_0 hR ho u1) r1, Or.inr rfl, stM10 l2 h8 iw r2, r3⟩
        · exact ⟨0, Km, R, Jm, M, stC_m hR ho h0 hn h3 w6 (many10_1 hR ho u1) m1', Or.inl rfl, stM10 l2 h8 iw (rulM_m (r0 := 1) b33 hb (by decide) u3 u2 c1), fail_O m2 c2 ok6⟩
      by_cases e11 : w = 11
      · subst e11
        rcases rule_has (r := 2) (by decide) (ru 2 (by decide)) hcj with ⟨u1, u2⟩ | ⟨u1, a, u2, u3⟩
        · obtain ⟨y, K, J', M', r1, r2, r3⟩ := rule_S' (r0 := 2) (R := R) h hk hT hc (by decide) u2 ho ht hf
          exact ⟨y, K, sR R 8 1 t, J', M', stC11 hR ho h0 hn h3 w6 (many11_0 hR ho u1) r1, Or.inr rfl, stM11 l2 h8 iw r2, r3⟩
        · exact ⟨0, Km, R, Jm, M, stC_m hR ho h0 hn h3 w6 (many11_1 hR ho u1) m1', Or.inl rfl, stM11 l2 h8 iw (rulM_m (r0 := 2) b33 hb (by decide) u3 u2 c1), fail_O m2 c2 ok6⟩
      exact ⟨0, Kf, R, Jf, M, stC_o hR ho h0 hn h3 w6 hw ⟨e0, e3, e4, e8, e9, e10, e11, e12, e24⟩ f1, Or.inl rfl, stM_o l2 h8 iw ⟨e0, e3, e4, e8, e9, e10, e11, e12, e24⟩ g1', fail_O f2 g2 ok1⟩
    · have n2 : ¬ I 7 3 = 2 := by
        rw [h3]
        exact fun v => q2 ((nI_eq (a := k) (b := 2) (by omega) (by decide)).mp v)
      have iw : isW J M 99 := fun d hd => by
        rcases wordB h l1 d hd with ⟨_, _, v3, _⟩ | ⟨_, v2, _⟩
        · exact absurd v3 q2
        · rw [v2, if_neg (by omega)]
      exact ⟨0, Kf, R, Jf, M, stC_k hR ho h0 hn n2 f1, Or.inl rfl, stM_o l2 h8 iw (by decide) g1', fail_O f2 g2 ok1⟩
  · have n2 : ¬ I 7 3 = 2 := by
      rw [h3, l1]
      decide
    obtain ⟨Kf, f1, f2⟩ := failFormC l3
    exact ⟨0, Kf, R, J1, M, stC_k hR ho h0 hn n2 f1, Or.inl rfl, stM_k l4 (by rw [l5.2.1]; decide), fail_O f2 l5 ⟨by decide, l2⟩⟩
/-- a whole statement, and the sign behind it -/
theorem stm_R (h : StR tp sz I J M k at' e) (hk : k ≠ 0) (hT : TOLD I J M t b nh no nl cj) (hc : cj ≤ at') (h0 : I t 0 = nI n) (hn : n < 80) (hR : R 6 2 = t) (ho : okLd t = true) (ht : t = 67 ∨ t = 80) (hf : 2000 < fu) : ∃ y K R' J1 M1 J' M', f_X7_readStatement fu I R = some (y, K, R') ∧ (R' = R ∨ R' = sR R 8 1 t) ∧ f_X12_statement fu J M = some (J1, M1) ∧ f_X12_finishes fu J1 M1 (nI (n + 1)) = some (J', M') ∧ OutW tp sz t b n I J M y K J' M' := by
  obtain ⟨y, K, R', J1, M1, a1, a2, a3, a4⟩ := stm_A h hk hT hc h0 hn hR ho ht hf
  have hR' : R' 6 2 = t := by
    rcases a2 with v | v
    · rw [v]; exact hR
    · rw [v, zR_ne (by decide)]; exact hR
  obtain ⟨y2, K2, J2, M2, b1, b2, b3⟩ := fin_S (R := R') h0 hn a4 hR' ho ht hf
  exact ⟨y2, K2, R', J1, M1, J2, M2, a1.trans b1, a2, a3, b2, b3⟩
end
