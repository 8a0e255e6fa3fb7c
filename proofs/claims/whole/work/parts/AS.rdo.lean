/-! the rules' reader: the reference reads an operand -/
theorem sg_ext {J J' : HI} {c : Nat} (h : sgJ J c) (h3 : J' 100 3 = J 100 3) (h6 : J' 100 6 = J 100 6) : sgJ J' c := fun d hd => by
  rw [← h d hd]
  unfold f_X12_isSign
  rw [h3, h6]
theorem wd_ext {J J' : HI} {M : HL} {w : Nat} (h : wdJ J M w) (h3 : J' 100 3 = J 100 3) : wdJ J' M w := fun d hd => by
  rw [← h d hd]
  unfold f_X12_isWord
  rw [h3]
theorem opens_M {fu op dp om : Nat} {J J3 : HI} {M M3 : HL} {v : Int32} (h8 : J 100 8 = 0) (h41 : J 100 41 = nI op) (hop : op < 7) (ha : f_X12_ahead fu (sI J 100 41 (nI (op + 1))) M = some (J3, M3)) (h3 : J3 100 40 = nI dp) (hd : dp < 20) (h43 : J3 100 43 = nI om) : f_X12_opens fu J M v = some (sI (sI (sI (sI (sI J3 120 dp v) 121 dp 0) 122 dp 1) 124 dp (nI om)) 100 40 (nI (dp + 1)), M3) := by
  have z8 : (0 : Int32) ≤ 0 := by decide
  have z : ¬ nI op = 7 := fun w => by
    have := (nI_eq (b := 7) (by omega) (by decide)).mp w
    omega
  have A1 : nI op + 1 = nI (op + 1) := nI_1 op
  unfold f_X12_opens
  simp only [jnt, h41, if_neg z, h8, if_pos z8, bnd, A1, ha, Option.bind_some, pushes_M h3 hd h43]
theorem opens7_M {fu at' : Nat} {J : HI} {M : HL} {v : Int32} (h8 : J 100 8 = 0) (h41 : J 100 41 = nI 7) (h4 : J 100 4 = nI at') : ∃ J', f_X12_opens fu J M v = some (J', M) ∧ BadM J J' 5 at' := by
  obtain ⟨J', m1, m2⟩ := blameS (J := J) (f := 5) (pl := at') h8
  have m1' : f_X12_blame J 5 (nI at') = some J' := m1
  have z : nI 7 = 7 := rfl
  have zb : ¬ J' 100 8 ≤ 0 := by rw [m2.2.1]; decide
  refine ⟨J', ?_, m2⟩
  unfold f_X12_opens
  simp only [jnt, h41, if_pos z, h4, m1', Option.bind_some, if_neg zb]
theorem opensF_M {fu f : Nat} {J : HI} {M : HL} {v : Int32} (hf : 1 ≤ f ∧ f ≤ 6) (h8 : J 100 8 = nI f) : f_X12_opens fu J M v = some (J, M) := by
  have hb := blameF (J := J) (x := 5) (y := J 100 4) hf h8
  have zb : ¬ J 100 8 ≤ 0 := by rw [h8]; exact nI_nle (by omega) (by omega)
  unfold f_X12_opens
  by_cases z : J 100 41 = 7
  · simp only [jnt, if_pos z, hb, Option.bind_some, if_neg zb]
  · simp only [jnt, if_neg z, if_neg zb]
section
variable {fu dp fk bg : Nat} {J : HI} {M : HL}
theorem oN_M {w op om : Nat} {J3 : HI} {M3 : HL} (h8 : J 100 8 = 0) (hlex : f_X12_lex J = some J) (h40 : J 100 40 = nI (dp + 1)) (hdp : dp < 12) (h120 : J 120 dp = nI fk) (hfk : fk < 10) (h122 : J 122 dp = nI bg) (hbg : bg ≤ 1) (hts : tsF fk) (hb1 : bg = 1) (hw : wdJ J M w) (hww : w = 20) (h41 : J 100 41 = nI op) (hop : op < 7) (h43 : J 100 43 = nI om) (hom : om < 500) (ha : f_X12_ahead fu (sI (sI (sI J 100 41 (nI (op + 1))) 125 om (nI 43)) 100 43 (nI (om + 1))) M = some (J3, M3)) : f_X12_operand fu J M = some (0, J3, M3) := by
  have n3 : ¬ (1 : Int32) = 0 := by decide
  have z8 : (0 : Int32) ≤ 0 := by decide
  have ed : nI (dp + 1) - 1 = nI dp := by rw [sub1, dec1]
  have l120 : ∀ k : Int32 → Option (Int32 × HI × HL), ldI (J 120) 20 (nI dp) k = k (nI fk) := fun k => by rw [ldI_ok (by omega), h120]
  have l122 : ∀ k : Int32 → Option (Int32 × HI × HL), ldI (J 122) 20 (nI dp) k = k (nI bg) := fun k => by rw [ldI_ok (by omega), h122]
  have ib : ∀ k : Option (Int32 × HI × HL), inb 20 (nI dp) k = k := fun k => by rw [inb_ok (by omega)]
  have td : (nI dp).toNatClampNeg = dp := nI_clamp (by omega)
  have hx4 : f_X12_isTest (nI fk) = some 1 := by
    rcases isTest_M hfk with ⟨_, w⟩ | ⟨w, _⟩
    · exact w
    · exact absurd hts w
  have zb1 : ¬ nI bg = 0 := nI_ne0 (by omega) (by omega)
  have w20 := wl20 hw
  rw [if_pos hww] at w20
  have z7 : ¬ nI op = 7 := fun w => by
    have := (nI_eq (b := 7) (by omega) (by decide)).mp w
    omega
  have A1 : nI op + 1 = nI (op + 1) := nI_1 op
  have hh := holds_M (J := sI J 100 41 (nI (op + 1))) (om := om) (v := nI 43) (by rw [zs_eq, zs_other (by decide)]; exact h43) hom
  have hh' : f_X12_holdsBack (sI J 100 41 (nI (op + 1))) 43 = _ := hh
  unfold f_X12_operand
  simp only [hlex, Option.bind_some, h8, if_pos z8, bnd, h40, ed, l120, hx4, jnt, if_neg n3, l122, if_neg zb1, w20, h41, if_neg z7, A1, hh', ha, gz_0]
theorem oN7_M {w at' : Nat} (h8 : J 100 8 = 0) (hlex : f_X12_lex J = some J) (h40 : J 100 40 = nI (dp + 1)) (hdp : dp < 12) (h120 : J 120 dp = nI fk) (hfk : fk < 10) (h122 : J 122 dp = nI bg) (hbg : bg ≤ 1) (hts : tsF fk) (hb1 : bg = 1) (hw : wdJ J M w) (hww : w = 20) (h41 : J 100 41 = nI 7) (h4 : J 100 4 = nI at') : ∃ J', f_X12_operand fu J M = some (1, J', M) ∧ BadM J J' 5 at' := by
  have n3 : ¬ (1 : Int32) = 0 := by decide
  have z8 : (0 : Int32) ≤ 0 := by decide
  have ed : nI (dp + 1) - 1 = nI dp := by rw [sub1, dec1]
  have l120 : ∀ k : Int32 → Option (Int32 × HI × HL), ldI (J 120) 20 (nI dp) k = k (nI fk) := fun k => by rw [ldI_ok (by omega), h120]
  have l122 : ∀ k : Int32 → Option (Int32 × HI × HL), ldI (J 122) 20 (nI dp) k = k (nI bg) := fun k => by rw [ldI_ok (by omega), h122]
  have ib : ∀ k : Option (Int32 × HI × HL), inb 20 (nI dp) k = k := fun k => by rw [inb_ok (by omega)]
  have td : (nI dp).toNatClampNeg = dp := nI_clamp (by omega)
  have hx4 : f_X12_isTest (nI fk) = some 1 := by
    rcases isTest_M hfk with ⟨_, w⟩ | ⟨w, _⟩
    · exact w
    · exact absurd hts w
  have zb1 : ¬ nI bg = 0 := nI_ne0 (by omega) (by omega)
  have w20 := wl20 hw
  rw [if_pos hww] at w20
  have z7 : nI 7 = 7 := rfl
  obtain ⟨J', m1, m2⟩ := blameS (J := J) (f := 5) (pl := at') h8
  have m1' : f_X12_blame J 5 (nI at') = some J' := m1
  have zb : ¬ J' 100 8 ≤ 0 := by rw [m2.2.1]; decide
  refine ⟨J', ?_, m2⟩
  unfold f_X12_operand
  simp only [hlex, Option.bind_some, h8, if_pos z8, bnd, h40, ed, l120, hx4, jnt, if_neg n3, l122, if_neg zb1, w20, h41, if_pos z7, h4, m1', if_neg zb, gz_1]
theorem oB_M {c w : Nat} {Y : HI × HL} (h8 : J 100 8 = 0) (hlex : f_X12_lex J = some J) (h40 : J 100 40 = nI (dp + 1)) (hdp : dp < 12) (h120 : J 120 dp = nI fk) (hfk : fk < 10) (h122 : J 122 dp = nI bg) (hbg : bg ≤ 1) (hts : tsF fk) (hb1 : bg = 1) (hw : wdJ J M w) (hww : w ≠ 20) (hs : sgJ J c) (hc : c = 91) (ho : f_X12_opens fu (sI J 122 dp 0) M 5 = some Y) : f_X12_operand fu J M = some (0, Y.1, Y.2) := by
  have n3 : ¬ (1 : Int32) = 0 := by decide
  have z8 : (0 : Int32) ≤ 0 := by decide
  have ed : nI (dp + 1) - 1 = nI dp := by rw [sub1, dec1]
  have l120 : ∀ k : Int32 → Option (Int32 × HI × HL), ldI (J 120) 20 (nI dp) k = k (nI fk) := fun k => by rw [ldI_ok (by omega), h120]
  have l122 : ∀ k : Int32 → Option (Int32 × HI × HL), ldI (J 122) 20 (nI dp) k = k (nI bg) := fun k => by rw [ldI_ok (by omega), h122]
  have ib : ∀ k : Option (Int32 × HI × HL), inb 20 (nI dp) k = k := fun k => by rw [inb_ok (by omega)]
  have td : (nI dp).toNatClampNeg = dp := nI_clamp (by omega)
  have hx4 : f_X12_isTest (nI fk) = some 1 := by
    rcases isTest_M hfk with ⟨_, w⟩ | ⟨w, _⟩
    · exact w
    · exact absurd hts w
  have zb1 : ¬ nI bg = 0 := nI_ne0 (by omega) (by omega)
  have w20 := wl20 hw
  rw [if_neg hww] at w20
  have s91 := (sgJ_at (sg_ext (J' := sI J 122 dp 0) hs (by rw [zs_ne (by decide)]) (by rw [zs_ne (by decide)]))).2.2.2.2.2.2
  rw [if_pos hc] at s91
  unfold f_X12_operand
  simp only [hlex, Option.bind_some, h8, if_pos z8, bnd, h40, ed, l120, hx4, jnt, if_neg n3, l122, if_neg zb1, w20, if_true, ib, td, nz01.1, s91, ho, gz_0]
theorem oA_M {c w : Nat} {J1 J3 : HI} {M3 : HL} (h8 : J 100 8 = 0) (hlex : f_X12_lex J = some J) (h40 : J 100 40 = nI (dp + 1)) (hdp : dp < 12) (h120 : J 120 dp = nI fk) (hfk : fk < 10) (h122 : J 122 dp = nI bg) (hbg : bg ≤ 1) (hts : tsF fk) (hb1 : bg = 1) (hw : wdJ J M w) (hww : w = 21) (hs : sgJ J c) (hc : c ≠ 91) (hadd : f_X12_add (sI J 122 dp 0) 30 0 = some J1) (ha : f_X12_ahead fu (sI J1 121 dp 2) M = some (J3, M3)) : f_X12_operand fu J M = some (1, J3, M3) := by
  have n3 : ¬ (1 : Int32) = 0 := by decide
  have z8 : (0 : Int32) ≤ 0 := by decide
  have ed : nI (dp + 1) - 1 = nI dp := by rw [sub1, dec1]
  have l120 : ∀ k : Int32 → Option (Int32 × HI × HL), ldI (J 120) 20 (nI dp) k = k (nI fk) := fun k => by rw [ldI_ok (by omega), h120]
  have l122 : ∀ k : Int32 → Option (Int32 × HI × HL), ldI (J 122) 20 (nI dp) k = k (nI bg) := fun k => by rw [ldI_ok (by omega), h122]
  have ib : ∀ k : Option (Int32 × HI × HL), inb 20 (nI dp) k = k := fun k => by rw [inb_ok (by omega)]
  have td : (nI dp).toNatClampNeg = dp := nI_clamp (by omega)
  have hx4 : f_X12_isTest (nI fk) = some 1 := by
    rcases isTest_M hfk with ⟨_, w⟩ | ⟨w, _⟩
    · exact w
    · exact absurd hts w
  have zb1 : ¬ nI bg = 0 := nI_ne0 (by omega) (by omega)
  have w20 := wl20 hw
  rw [if_neg (by omega)] at w20
  have w21 := wl21 (wd_ext (J' := sI J 122 dp 0) hw (by rw [zs_ne (by decide)]))
  rw [if_pos hww] at w21
  have s91 := (sgJ_at (sg_ext (J' := sI J 122 dp 0) hs (by rw [zs_ne (by decide)]) (by rw [zs_ne (by decide)]))).2.2.2.2.2.2
  rw [if_neg hc] at s91
  unfold f_X12_operand
  simp only [hlex, Option.bind_some, h8, if_pos z8, bnd, h40, ed, l120, hx4, jnt, if_neg n3, l122, if_neg zb1, w20, if_true, ib, td, nz01.1, s91, w21, hadd, ha, gz_1]
theorem oP_M {c w : Nat} {Y : HI × HL} (h8 : J 100 8 = 0) (hlex : f_X12_lex J = some J) (h40 : J 100 40 = nI (dp + 1)) (hdp : dp < 12) (h120 : J 120 dp = nI fk) (hfk : fk < 10) (h122 : J 122 dp = nI bg) (hbg : bg ≤ 1) (hw : wdJ J M w) (hs : sgJ J c) (hno : tsF fk ∧ bg = 1 → w ≠ 20 ∧ c ≠ 91 ∧ w ≠ 21) (hc : c = 40) (ho : f_X12_opens fu (sI J 122 dp 0) M 2 = some Y) : f_X12_operand fu J M = some (0, Y.1, Y.2) := by
  have n3 : ¬ (1 : Int32) = 0 := by decide
  have z8 : (0 : Int32) ≤ 0 := by decide
  have ed : nI (dp + 1) - 1 = nI dp := by rw [sub1, dec1]
  have l120 : ∀ k : Int32 → Option (Int32 × HI × HL), ldI (J 120) 20 (nI dp) k = k (nI fk) := fun k => by rw [ldI_ok (by omega), h120]
  have l122 : ∀ k : Int32 → Option (Int32 × HI × HL), ldI (J 122) 20 (nI dp) k = k (nI bg) := fun k => by rw [ldI_ok (by omega), h122]
  have ib : ∀ k : Option (Int32 × HI × HL), inb 20 (nI dp) k = k := fun k => by rw [inb_ok (by omega)]
  have td : (nI dp).toNatClampNeg = dp := nI_clamp (by omega)
  have hs5 := sgJ_at (sg_ext (J' := sI J 122 dp 0) hs (by rw [zs_ne (by decide)]) (by rw [zs_ne (by decide)]))
  have hw5 := wd_ext (J' := sI J 122 dp 0) hw (by rw [zs_ne (by decide)])
  obtain ⟨-, -, -, -, -, s40, s91⟩ := hs5
  have w20 := wl20 hw
  have w21 := wl21 hw5
  have w22 := wl22 hw5
  have w23 := wl23 hw5
  have w17 := wl17 hw5
  have w5 := wl5 hw5
  have w13 := wl13 hw5
  have w14 := wl14 hw5
  have w24 := wl24 hw5
  have w15 := wl15 hw5
  have w16 := wl16 hw5
  rw [if_pos hc] at s40
  unfold f_X12_operand
  rcases isTest_M hfk with ⟨ht1, hx4⟩ | ⟨ht1, hx4⟩
  · by_cases cb : bg = 1
    · have zb1 : ¬ nI bg = 0 := nI_ne0 (by omega) (by omega)
      obtain ⟨q1, q2, q3⟩ := hno ⟨ht1, cb⟩
      rw [if_neg q1] at w20
      rw [if_neg q2] at s91
      rw [if_neg q3] at w21
      simp only [hlex, Option.bind_some, h8, if_pos z8, bnd, h40, ed, l120, hx4, jnt, if_neg n3, l122, if_neg zb1, w20, if_true, ib, td, nz01.1, s91, w21, s40, if_neg n3, ho, gz_0]
    · have zb1 : nI bg = 0 := by rw [show bg = 0 by omega]; rfl
      simp only [hlex, Option.bind_some, h8, if_pos z8, bnd, h40, ed, l120, hx4, jnt, if_neg n3, l122, if_pos zb1, if_true, ib, td, nz01.1, s40, if_neg n3, ho, gz_0]
  · simp only [hlex, Option.bind_some, h8, if_pos z8, bnd, h40, ed, l120, hx4, jnt, if_true, ib, td, nz01.1, s40, if_neg n3, ho, gz_0]
theorem oMin_M {c w d : Nat} {J1 J3 : HI} {M1 M3 : HL} (h8 : J 100 8 = 0) (hlex : f_X12_lex J = some J) (h40 : J 100 40 = nI (dp + 1)) (hdp : dp < 12) (h120 : J 120 dp = nI fk) (hfk : fk < 10) (h122 : J 122 dp = nI bg) (hbg : bg ≤ 1) (hw : wdJ J M w) (hs : sgJ J c) (hno : tsF fk ∧ bg = 1 → w ≠ 20 ∧ c ≠ 91 ∧ w ≠ 21) (hc : c ≠ 40) (hww : w = 22) (ha : f_X12_ahead fu (sI J 122 dp 0) M = some (J1, M1)) (hl1 : f_X12_lex J1 = some J1) (hs1 : f_X12_isSign J1 40 = some 1) (ho : f_X12_opens fu J1 M1 3 = some (J3, M3)) (h38 : J3 100 8 = 0) (h340 : J3 100 40 = nI (d + 1)) (hd : d < 19) : f_X12_operand fu J M = some (0, sI J3 123 d 36, M3) := by
  have n3 : ¬ (1 : Int32) = 0 := by decide
  have z8 : (0 : Int32) ≤ 0 := by decide
  have ed : nI (dp + 1) - 1 = nI dp := by rw [sub1, dec1]
  have l120 : ∀ k : Int32 → Option (Int32 × HI × HL), ldI (J 120) 20 (nI dp) k = k (nI fk) := fun k => by rw [ldI_ok (by omega), h120]
  have l122 : ∀ k : Int32 → Option (Int32 × HI × HL), ldI (J 122) 20 (nI dp) k = k (nI bg) := fun k => by rw [ldI_ok (by omega), h122]
  have ib : ∀ k : Option (Int32 × HI × HL), inb 20 (nI dp) k = k := fun k => by rw [inb_ok (by omega)]
  have td : (nI dp).toNatClampNeg = dp := nI_clamp (by omega)
  have hs5 := sgJ_at (sg_ext (J' := sI J 122 dp 0) hs (by rw [zs_ne (by decide)]) (by rw [zs_ne (by decide)]))
  have hw5 := wd_ext (J' := sI J 122 dp 0) hw (by rw [zs_ne (by decide)])
  obtain ⟨-, -, -, -, -, s40, s91⟩ := hs5
  have w20 := wl20 hw
  have w21 := wl21 hw5
  have w22 := wl22 hw5
  have w23 := wl23 hw5
  have w17 := wl17 hw5
  have w5 := wl5 hw5
  have w13 := wl13 hw5
  have w14 := wl14 hw5
  have w24 := wl24 hw5
  have w15 := wl15 hw5
  have w16 := wl16 hw5
  rw [if_neg hc] at s40
  rw [if_pos hww] at w22
  have k44 : ¬ (36 : Int32) = 44 := by decide
  have ed3 : nI (d + 1) - 1 = nI d := by rw [sub1, dec1]
  have ib3 : ∀ k : Option (Int32 × HI × HL), inb 20 (nI d) k = k := fun k => by rw [inb_ok (by omega)]
  have td3 : (nI d).toNatClampNeg = d := nI_clamp (by omega)
  unfold f_X12_operand
  rcases isTest_M hfk with ⟨ht1, hx4⟩ | ⟨ht1, hx4⟩
  · by_cases cb : bg = 1
    · have zb1 : ¬ nI bg = 0 := nI_ne0 (by omega) (by omega)
      obtain ⟨q1, q2, q3⟩ := hno ⟨ht1, cb⟩
      rw [if_neg q1] at w20
      rw [if_neg q2] at s91
      rw [if_neg q3] at w21
      simp only [hlex, Option.bind_some, h8, if_pos z8, bnd, h40, ed, l120, hx4, jnt, if_neg n3, l122, if_neg zb1, w20, if_true, ib, td, nz01.1, s91, w21, s40, w22, if_true, if_neg n3, ha, hl1, hs1, if_neg k44, ho, h38, h340, ed3, ib3, td3, gz_0]
    · have zb1 : nI bg = 0 := by rw [show bg = 0 by omega]; rfl
      simp only [hlex, Option.bind_some, h8, if_pos z8, bnd, h40, ed, l120, hx4, jnt, if_neg n3, l122, if_pos zb1, if_true, ib, td, nz01.1, s40, w22, if_true, if_neg n3, ha, hl1, hs1, if_neg k44, ho, h38, h340, ed3, ib3, td3, gz_0]
  · simp only [hlex, Option.bind_some, h8, if_pos z8, bnd, h40, ed, l120, hx4, jnt, if_true, ib, td, nz01.1, s40, w22, if_true, if_neg n3, ha, hl1, hs1, if_neg k44, ho, h38, h340, ed3, ib3, td3, gz_0]
theorem oMin_M7 {c w f : Nat} {J1 J3 : HI} {M1 M3 : HL} (h8 : J 100 8 = 0) (hlex : f_X12_lex J = some J) (h40 : J 100 40 = nI (dp + 1)) (hdp : dp < 12) (h120 : J 120 dp = nI fk) (hfk : fk < 10) (h122 : J 122 dp = nI bg) (hbg : bg ≤ 1) (hw : wdJ J M w) (hs : sgJ J c) (hno : tsF fk ∧ bg = 1 → w ≠ 20 ∧ c ≠ 91 ∧ w ≠ 21) (hc : c ≠ 40) (hww : w = 22) (ha : f_X12_ahead fu (sI J 122 dp 0) M = some (J1, M1)) (hl1 : f_X12_lex J1 = some J1) (hs1 : f_X12_isSign J1 40 = some 1) (ho : f_X12_opens fu J1 M1 3 = some (J3, M3)) (hf : 1 ≤ f ∧ f ≤ 6) (h38 : J3 100 8 = nI f) : f_X12_operand fu J M = some (0, J3, M3) := by
  have n3 : ¬ (1 : Int32) = 0 := by decide
  have z8 : (0 : Int32) ≤ 0 := by decide
  have ed : nI (dp + 1) - 1 = nI dp := by rw [sub1, dec1]
  have l120 : ∀ k : Int32 → Option (Int32 × HI × HL), ldI (J 120) 20 (nI dp) k = k (nI fk) := fun k => by rw [ldI_ok (by omega), h120]
  have l122 : ∀ k : Int32 → Option (Int32 × HI × HL), ldI (J 122) 20 (nI dp) k = k (nI bg) := fun k => by rw [ldI_ok (by omega), h122]
  have ib : ∀ k : Option (Int32 × HI × HL), inb 20 (nI dp) k = k := fun k => by rw [inb_ok (by omega)]
  have td : (nI dp).toNatClampNeg = dp := nI_clamp (by omega)
  have hs5 := sgJ_at (sg_ext (J' := sI J 122 dp 0) hs (by rw [zs_ne (by decide)]) (by rw [zs_ne (by decide)]))
  have hw5 := wd_ext (J' := sI J 122 dp 0) hw (by rw [zs_ne (by decide)])
  obtain ⟨-, -, -, -, -, s40, s91⟩ := hs5
  have w20 := wl20 hw
  have w21 := wl21 hw5
  have w22 := wl22 hw5
  have w23 := wl23 hw5
  have w17 := wl17 hw5
  have w5 := wl5 hw5
  have w13 := wl13 hw5
  have w14 := wl14 hw5
  have w24 := wl24 hw5
  have w15 := wl15 hw5
  have w16 := wl16 hw5
  rw [if_neg hc] at s40
  rw [if_pos hww] at w22
  have k44 : ¬ (36 : Int32) = 44 := by decide
  have z38 : ¬ J3 100 8 = 0 := by rw [h38]; exact nI_ne0 (by omega) (by omega)
  unfold f_X12_operand
  rcases isTest_M hfk with ⟨ht1, hx4⟩ | ⟨ht1, hx4⟩
  · by_cases cb : bg = 1
    · have zb1 : ¬ nI bg = 0 := nI_ne0 (by omega) (by omega)
      obtain ⟨q1, q2, q3⟩ := hno ⟨ht1, cb⟩
      rw [if_neg q1] at w20
      rw [if_neg q2] at s91
      rw [if_neg q3] at w21
      simp only [hlex, Option.bind_some, h8, if_pos z8, bnd, h40, ed, l120, hx4, jnt, if_neg n3, l122, if_neg zb1, w20, if_true, ib, td, nz01.1, s91, w21, s40, w22, if_true, if_neg n3, ha, hl1, hs1, if_neg k44, ho, if_neg z38, gz_0]
    · have zb1 : nI bg = 0 := by rw [show bg = 0 by omega]; rfl
      simp only [hlex, Option.bind_some, h8, if_pos z8, bnd, h40, ed, l120, hx4, jnt, if_neg n3, l122, if_pos zb1, if_true, ib, td, nz01.1, s40, w22, if_true, if_neg n3, ha, hl1, hs1, if_neg k44, ho, if_neg z38, gz_0]
  · simp only [hlex, Option.bind_some, h8, if_pos z8, bnd, h40, ed, l120, hx4, jnt, if_true, ib, td, nz01.1, s40, w22, if_true, if_neg n3, ha, hl1, hs1, if_neg k44, ho, if_neg z38, gz_0]
theorem oMin_MF {c w at1 : Nat} {J1 : HI} {M1 : HL} (h8 : J 100 8 = 0) (hlex : f_X12_lex J = some J) (h40 : J 100 40 = nI (dp + 1)) (hdp : dp < 12) (h120 : J 120 dp = nI fk) (hfk : fk < 10) (h122 : J 122 dp = nI bg) (hbg : bg ≤ 1) (hw : wdJ J M w) (hs : sgJ J c) (hno : tsF fk ∧ bg = 1 → w ≠ 20 ∧ c ≠ 91 ∧ w ≠ 21) (hc : c ≠ 40) (hww : w = 22) (ha : f_X12_ahead fu (sI J 122 dp 0) M = some (J1, M1)) (h18 : J1 100 8 = 0) (h14 : J1 100 4 = nI at1) (hl1 : f_X12_lex J1 = some J1) (hs1 : f_X12_isSign J1 40 = some 0) : ∃ J', f_X12_operand fu J M = some (0, J', M1) ∧ BadM J1 J' 1 at1 := by
  have n3 : ¬ (1 : Int32) = 0 := by decide
  have z8 : (0 : Int32) ≤ 0 := by decide
  have ed : nI (dp + 1) - 1 = nI dp := by rw [sub1, dec1]
  have l120 : ∀ k : Int32 → Option (Int32 × HI × HL), ldI (J 120) 20 (nI dp) k = k (nI fk) := fun k => by rw [ldI_ok (by omega), h120]
  have l122 : ∀ k : Int32 → Option (Int32 × HI × HL), ldI (J 122) 20 (nI dp) k = k (nI bg) := fun k => by rw [ldI_ok (by omega), h122]
  have ib : ∀ k : Option (Int32 × HI × HL), inb 20 (nI dp) k = k := fun k => by rw [inb_ok (by omega)]
  have td : (nI dp).toNatClampNeg = dp := nI_clamp (by omega)
  have hs5 := sgJ_at (sg_ext (J' := sI J 122 dp 0) hs (by rw [zs_ne (by decide)]) (by rw [zs_ne (by decide)]))
  have hw5 := wd_ext (J' := sI J 122 dp 0) hw (by rw [zs_ne (by decide)])
  obtain ⟨-, -, -, -, -, s40, s91⟩ := hs5
  have w20 := wl20 hw
  have w21 := wl21 hw5
  have w22 := wl22 hw5
  have w23 := wl23 hw5
  have w17 := wl17 hw5
  have w5 := wl5 hw5
  have w13 := wl13 hw5
  have w14 := wl14 hw5
  have w24 := wl24 hw5
  have w15 := wl15 hw5
  have w16 := wl16 hw5
  rw [if_neg hc] at s40
  rw [if_pos hww] at w22
  have k44 : ¬ (36 : Int32) = 44 := by decide
  obtain ⟨J', m1, m2⟩ := blameS (J := J1) (f := 1) (pl := at1) h18
  have m1' : f_X12_blame J1 1 (nI at1) = some J' := m1
  have hof := opensF_M (fu := fu) (J := J') (M := M1) (f := 1) (v := 3) (by decide) m2.2.1
  have z38 : ¬ J' 100 8 = 0 := by rw [m2.2.1]; decide
  refine ⟨J', ?_, m2⟩
  unfold f_X12_operand
  rcases isTest_M hfk with ⟨ht1, hx4⟩ | ⟨ht1, hx4⟩
  · by_cases cb : bg = 1
    · have zb1 : ¬ nI bg = 0 := nI_ne0 (by omega) (by omega)
      obtain ⟨q1, q2, q3⟩ := hno ⟨ht1, cb⟩
      rw [if_neg q1] at w20
      rw [if_neg q2] at s91
      rw [if_neg q3] at w21
      simp only [hlex, Option.bind_some, h8, if_pos z8, bnd, h40, ed, l120, hx4, jnt, if_neg n3, l122, if_neg zb1, w20, if_true, ib, td, nz01.1, s91, w21, s40, w22, if_true, if_neg n3, ha, hl1, hs1, h14, m1', if_neg k44, hof, if_neg z38, gz_0]
    · have zb1 : nI bg = 0 := by rw [show bg = 0 by omega]; rfl
      simp only [hlex, Option.bind_some, h8, if_pos z8, bnd, h40, ed, l120, hx4, jnt, if_neg n3, l122, if_pos zb1, if_true, ib, td, nz01.1, s40, w22, if_true, if_neg n3, ha, hl1, hs1, h14, m1', if_neg k44, hof, if_neg z38, gz_0]
  · simp only [hlex, Option.bind_some, h8, if_pos z8, bnd, h40, ed, l120, hx4, jnt, if_true, ib, td, nz01.1, s40, w22, if_true, if_neg n3, ha, hl1, hs1, h14, m1', if_neg k44, hof, if_neg z38, gz_0]
theorem oMin_ML {c w pl : Nat} {J1 J' : HI} {M1 : HL} (h8 : J 100 8 = 0) (hlex : f_X12_lex J = some J) (h40 : J 100 40 = nI (dp + 1)) (hdp : dp < 12) (h120 : J 120 dp = nI fk) (hfk : fk < 10) (h122 : J 122 dp = nI bg) (hbg : bg ≤ 1) (hw : wdJ J M w) (hs : sgJ J c) (hno : tsF fk ∧ bg = 1 → w ≠ 20 ∧ c ≠ 91 ∧ w ≠ 21) (hc : c ≠ 40) (hww : w = 22) (ha : f_X12_ahead fu (sI J 122 dp 0) M = some (J1, M1)) (hl1 : f_X12_lex J1 = some J') (hb1 : BadM J1 J' 1 pl) (hs1 : f_X12_isSign J' 40 = some 0) : f_X12_operand fu J M = some (0, J', M1) := by
  have n3 : ¬ (1 : Int32) = 0 := by decide
  have z8 : (0 : Int32) ≤ 0 := by decide
  have ed : nI (dp + 1) - 1 = nI dp := by rw [sub1, dec1]
  have l120 : ∀ k : Int32 → Option (Int32 × HI × HL), ldI (J 120) 20 (nI dp) k = k (nI fk) := fun k => by rw [ldI_ok (by omega), h120]
  have l122 : ∀ k : Int32 → Option (Int32 × HI × HL), ldI (J 122) 20 (nI dp) k = k (nI bg) := fun k => by rw [ldI_ok (by omega), h122]
  have ib : ∀ k : Option (Int32 × HI × HL), inb 20 (nI dp) k = k := fun k => by rw [inb_ok (by omega)]
  have td : (nI dp).toNatClampNeg = dp := nI_clamp (by omega)
  have hs5 := sgJ_at (sg_ext (J' := sI J 122 dp 0) hs (by rw [zs_ne (by decide)]) (by rw [zs_ne (by decide)]))
  have hw5 := wd_ext (J' := sI J 122 dp 0) hw (by rw [zs_ne (by decide)])
  obtain ⟨-, -, -, -, -, s40, s91⟩ := hs5
  have w20 := wl20 hw
  have w21 := wl21 hw5
  have w22 := wl22 hw5
  have w23 := wl23 hw5
  have w17 := wl17 hw5
  have w5 := wl5 hw5
  have w13 := wl13 hw5
  have w14 := wl14 hw5
  have w24 := wl24 hw5
  have w15 := wl15 hw5
  have w16 := wl16 hw5
  rw [if_neg hc] at s40
  rw [if_pos hww] at w22
  have k44 : ¬ (36 : Int32) = 44 := by decide
  have hbf := blameF (J := J') (f := 1) (x := 1) (y := J' 100 4) (by decide) hb1.2.1
  have hof := opensF_M (fu := fu) (J := J') (M := M1) (f := 1) (v := 3) (by decide) hb1.2.1
  have z38 : ¬ J' 100 8 = 0 := by rw [hb1.2.1]; decide
  unfold f_X12_operand
  rcases isTest_M hfk with ⟨ht1, hx4⟩ | ⟨ht1, hx4⟩
  · by_cases cb : bg = 1
    · have zb1 : ¬ nI bg = 0 := nI_ne0 (by omega) (by omega)
      obtain ⟨q1, q2, q3⟩ := hno ⟨ht1, cb⟩
      rw [if_neg q1] at w20
      rw [if_neg q2] at s91
      rw [if_neg q3] at w21
      simp only [hlex, Option.bind_some, h8, if_pos z8, bnd, h40, ed, l120, hx4, jnt, if_neg n3, l122, if_neg zb1, w20, if_true, ib, td, nz01.1, s91, w21, s40, w22, if_true, if_neg n3, ha, hl1, hs1, hbf, if_neg k44, hof, if_neg z38, gz_0]
    · have zb1 : nI bg = 0 := by rw [show bg = 0 by omega]; rfl
      simp only [hlex, Option.bind_some, h8, if_pos z8, bnd, h40, ed, l120, hx4, jnt, if_neg n3, l122, if_pos zb1, if_true, ib, td, nz01.1, s40, w22, if_true, if_neg n3, ha, hl1, hs1, hbf, if_neg k44, hof, if_neg z38, gz_0]
  · simp only [hlex, Option.bind_some, h8, if_pos z8, bnd, h40, ed, l120, hx4, jnt, if_true, ib, td, nz01.1, s40, w22, if_true, if_neg n3, ha, hl1, hs1, hbf, if_neg k44, hof, if_neg z38, gz_0]
theorem oMax_M {c w d : Nat} {J1 J3 : HI} {M1 M3 : HL} (h8 : J 100 8 = 0) (hlex : f_X12_lex J = some J) (h40 : J 100 40 = nI (dp + 1)) (hdp : dp < 12) (h120 : J 120 dp = nI fk) (hfk : fk < 10) (h122 : J 122 dp = nI bg) (hbg : bg ≤ 1) (hw : wdJ J M w) (hs : sgJ J c) (hno : tsF fk ∧ bg = 1 → w ≠ 20 ∧ c ≠ 91 ∧ w ≠ 21) (hc : c ≠ 40) (hww : w = 23) (ha : f_X12_ahead fu (sI J 122 dp 0) M = some (J1, M1)) (hl1 : f_X12_lex J1 = some J1) (hs1 : f_X12_isSign J1 40 = some 1) (ho : f_X12_opens fu J1 M1 3 = some (J3, M3)) (h38 : J3 100 8 = 0) (h340 : J3 100 40 = nI (d + 1)) (hd : d < 19) : f_X12_operand fu J M = some (0, sI J3 123 d 37, M3) := by
  have n3 : ¬ (1 : Int32) = 0 := by decide
  have z8 : (0 : Int32) ≤ 0 := by decide
  have ed : nI (dp + 1) - 1 = nI dp := by rw [sub1, dec1]
  have l120 : ∀ k : Int32 → Option (Int32 × HI × HL), ldI (J 120) 20 (nI dp) k = k (nI fk) := fun k => by rw [ldI_ok (by omega), h120]
  have l122 : ∀ k : Int32 → Option (Int32 × HI × HL), ldI (J 122) 20 (nI dp) k = k (nI bg) := fun k => by rw [ldI_ok (by omega), h122]
  have ib : ∀ k : Option (Int32 × HI × HL), inb 20 (nI dp) k = k := fun k => by rw [inb_ok (by omega)]
  have td : (nI dp).toNatClampNeg = dp := nI_clamp (by omega)
  have hs5 := sgJ_at (sg_ext (J' := sI J 122 dp 0) hs (by rw [zs_ne (by decide)]) (by rw [zs_ne (by decide)]))
  have hw5 := wd_ext (J' := sI J 122 dp 0) hw (by rw [zs_ne (by decide)])
  obtain ⟨-, -, -, -, -, s40, s91⟩ := hs5
  have w20 := wl20 hw
  have w21 := wl21 hw5
  have w22 := wl22 hw5
  have w23 := wl23 hw5
  have w17 := wl17 hw5
  have w5 := wl5 hw5
  have w13 := wl13 hw5
  have w14 := wl14 hw5
  have w24 := wl24 hw5
  have w15 := wl15 hw5
  have w16 := wl16 hw5
  rw [if_neg hc] at s40
  rw [if_neg (by omega)] at w22
  rw [if_pos hww] at w23
  have k44 : ¬ (37 : Int32) = 44 := by decide
  have ed3 : nI (d + 1) - 1 = nI d := by rw [sub1, dec1]
  have ib3 : ∀ k : Option (Int32 × HI × HL), inb 20 (nI d) k = k := fun k => by rw [inb_ok (by omega)]
  have td3 : (nI d).toNatClampNeg = d := nI_clamp (by omega)
  unfold f_X12_operand
  rcases isTest_M hfk with ⟨ht1, hx4⟩ | ⟨ht1, hx4⟩
  · by_cases cb : bg = 1
    · have zb1 : ¬ nI bg = 0 := nI_ne0 (by omega) (by omega)
      obtain ⟨q1, q2, q3⟩ := hno ⟨ht1, cb⟩
      rw [if_neg q1] at w20
      rw [if_neg q2] at s91
      rw [if_neg q3] at w21
      simp only [hlex, Option.bind_some, h8, if_pos z8, bnd, h40, ed, l120, hx4, jnt, if_neg n3, l122, if_neg zb1, w20, if_true, ib, td, nz01.1, s91, w21, s40, w22, w23, if_true, if_neg n3, ha, hl1, hs1, if_neg k44, ho, h38, h340, ed3, ib3, td3, gz_0]
    · have zb1 : nI bg = 0 := by rw [show bg = 0 by omega]; rfl
      simp only [hlex, Option.bind_some, h8, if_pos z8, bnd, h40, ed, l120, hx4, jnt, if_neg n3, l122, if_pos zb1, if_true, ib, td, nz01.1, s40, w22, w23, if_true, if_neg n3, ha, hl1, hs1, if_neg k44, ho, h38, h340, ed3, ib3, td3, gz_0]
  · simp only [hlex, Option.bind_some, h8, if_pos z8, bnd, h40, ed, l120, hx4, jnt, if_true, ib, td, nz01.1, s40, w22, w23, if_true, if_neg n3, ha, hl1, hs1, if_neg k44, ho, h38, h340, ed3, ib3, td3, gz_0]
theorem oMax_M7 {c w f : Nat} {J1 J3 : HI} {M1 M3 : HL} (h8 : J 100 8 = 0) (hlex : f_X12_lex J = some J) (h40 : J 100 40 = nI (dp + 1)) (hdp : dp < 12) (h120 : J 120 dp = nI fk) (hfk : fk < 10) (h122 : J 122 dp = nI bg) (hbg : bg ≤ 1) (hw : wdJ J M w) (hs : sgJ J c) (hno : tsF fk ∧ bg = 1 → w ≠ 20 ∧ c ≠ 91 ∧ w ≠ 21) (hc : c ≠ 40) (hww : w = 23) (ha : f_X12_ahead fu (sI J 122 dp 0) M = some (J1, M1)) (hl1 : f_X12_lex J1 = some J1) (hs1 : f_X12_isSign J1 40 = some 1) (ho : f_X12_opens fu J1 M1 3 = some (J3, M3)) (hf : 1 ≤ f ∧ f ≤ 6) (h38 : J3 100 8 = nI f) : f_X12_operand fu J M = some (0, J3, M3) := by
  have n3 : ¬ (1 : Int32) = 0 := by decide
  have z8 : (0 : Int32) ≤ 0 := by decide
  have ed : nI (dp + 1) - 1 = nI dp := by rw [sub1, dec1]
  have l120 : ∀ k : Int32 → Option (Int32 × HI × HL), ldI (J 120) 20 (nI dp) k = k (nI fk) := fun k => by rw [ldI_ok (by omega), h120]
  have l122 : ∀ k : Int32 → Option (Int32 × HI × HL), ldI (J 122) 20 (nI dp) k = k (nI bg) := fun k => by rw [ldI_ok (by omega), h122]
  have ib : ∀ k : Option (Int32 × HI × HL), inb 20 (nI dp) k = k := fun k => by rw [inb_ok (by omega)]
  have td : (nI dp).toNatClampNeg = dp := nI_clamp (by omega)
  have hs5 := sgJ_at (sg_ext (J' := sI J 122 dp 0) hs (by rw [zs_ne (by decide)]) (by rw [zs_ne (by decide)]))
  have hw5 := wd_ext (J' := sI J 122 dp 0) hw (by rw [zs_ne (by decide)])
  obtain ⟨-, -, -, -, -, s40, s91⟩ := hs5
  have w20 := wl20 hw
  have w21 := wl21 hw5
  have w22 := wl22 hw5
  have w23 := wl23 hw5
  have w17 := wl17 hw5
  have w5 := wl5 hw5
  have w13 := wl13 hw5
  have w14 := wl14 hw5
  have w24 := wl24 hw5
  have w15 := wl15 hw5
  have w16 := wl16 hw5
  rw [if_neg hc] at s40
  rw [if_neg (by omega)] at w22
  rw [if_pos hww] at w23
  have k44 : ¬ (37 : Int32) = 44 := by decide
  have z38 : ¬ J3 100 8 = 0 := by rw [h38]; exact nI_ne0 (by omega) (by omega)
  unfold f_X12_operand
  rcases isTest_M hfk with ⟨ht1, hx4⟩ | ⟨ht1, hx4⟩
  · by_cases cb : bg = 1
    · have zb1 : ¬ nI bg = 0 := nI_ne0 (by omega) (by omega)
      obtain ⟨q1, q2, q3⟩ := hno ⟨ht1, cb⟩
      rw [if_neg q1] at w20
      rw [if_neg q2] at s91
      rw [if_neg q3] at w21
      simp only [hlex, Option.bind_some, h8, if_pos z8, bnd, h40, ed, l120, hx4, jnt, if_neg n3, l122, if_neg zb1, w20, if_true, ib, td, nz01.1, s91, w21, s40, w22, w23, if_true, if_neg n3, ha, hl1, hs1, if_neg k44, ho, if_neg z38, gz_0]
    · have zb1 : nI bg = 0 := by rw [show bg = 0 by omega]; rfl
      simp only [hlex, Option.bind_some, h8, if_pos z8, bnd, h40, ed, l120, hx4, jnt, if_neg n3, l122, if_pos zb1, if_true, ib, td, nz01.1, s40, w22, w23, if_true, if_neg n3, ha, hl1, hs1, if_neg k44, ho, if_neg z38, gz_0]
  · simp only [hlex, Option.bind_some, h8, if_pos z8, bnd, h40, ed, l120, hx4, jnt, if_true, ib, td, nz01.1, s40, w22, w23, if_true, if_neg n3, ha, hl1, hs1, if_neg k44, ho, if_neg z38, gz_0]
theorem oMax_MF {c w at1 : Nat} {J1 : HI} {M1 : HL} (h8 : J 100 8 = 0) (hlex : f_X12_lex J = some J) (h40 : J 100 40 = nI (dp + 1)) (hdp : dp < 12) (h120 : J 120 dp = nI fk) (hfk : fk < 10) (h122 : J 122 dp = nI bg) (hbg : bg ≤ 1) (hw : wdJ J M w) (hs : sgJ J c) (hno : tsF fk ∧ bg = 1 → w ≠ 20 ∧ c ≠ 91 ∧ w ≠ 21) (hc : c ≠ 40) (hww : w = 23) (ha : f_X12_ahead fu (sI J 122 dp 0) M = some (J1, M1)) (h18 : J1 100 8 = 0) (h14 : J1 100 4 = nI at1) (hl1 : f_X12_lex J1 = some J1) (hs1 : f_X12_isSign J1 40 = some 0) : ∃ J', f_X12_operand fu J M = some (0, J', M1) ∧ BadM J1 J' 1 at1 := by
  have n3 : ¬ (1 : Int32) = 0 := by decide
  have z8 : (0 : Int32) ≤ 0 := by decide
  have ed : nI (dp + 1) - 1 = nI dp := by rw [sub1, dec1]
  have l120 : ∀ k : Int32 → Option (Int32 × HI × HL), ldI (J 120) 20 (nI dp) k = k (nI fk) := fun k => by rw [ldI_ok (by omega), h120]
  have l122 : ∀ k : Int32 → Option (Int32 × HI × HL), ldI (J 122) 20 (nI dp) k = k (nI bg) := fun k => by rw [ldI_ok (by omega), h122]
  have ib : ∀ k : Option (Int32 × HI × HL), inb 20 (nI dp) k = k := fun k => by rw [inb_ok (by omega)]
  have td : (nI dp).toNatClampNeg = dp := nI_clamp (by omega)
  have hs5 := sgJ_at (sg_ext (J' := sI J 122 dp 0) hs (by rw [zs_ne (by decide)]) (by rw [zs_ne (by decide)]))
  have hw5 := wd_ext (J' := sI J 122 dp 0) hw (by rw [zs_ne (by decide)])
  obtain ⟨-, -, -, -, -, s40, s91⟩ := hs5
  have w20 := wl20 hw
  have w21 := wl21 hw5
  have w22 := wl22 hw5
  have w23 := wl23 hw5
  have w17 := wl17 hw5
  have w5 := wl5 hw5
  have w13 := wl13 hw5
  have w14 := wl14 hw5
  have w24 := wl24 hw5
  have w15 := wl15 hw5
  have w16 := wl16 hw5
  rw [if_neg hc] at s40
  rw [if_neg (by omega)] at w22
  rw [if_pos hww] at w23
  have k44 : ¬ (37 : Int32) = 44 := by decide
  obtain ⟨J', m1, m2⟩ := blameS (J := J1) (f := 1) (pl := at1) h18
  have m1' : f_X12_blame J1 1 (nI at1) = some J' := m1
  have hof := opensF_M (fu := fu) (J := J') (M := M1) (f := 1) (v := 3) (by decide) m2.2.1
  have z38 : ¬ J' 100 8 = 0 := by rw [m2.2.1]; decide
  refine ⟨J', ?_, m2⟩
  unfold f_X12_operand
  rcases isTest_M hfk with ⟨ht1, hx4⟩ | ⟨ht1, hx4⟩
  · by_cases cb : bg = 1
    · have zb1 : ¬ nI bg = 0 := nI_ne0 (by omega) (by omega)
      obtain ⟨q1, q2, q3⟩ := hno ⟨ht1, cb⟩
      rw [if_neg q1] at w20
      rw [if_neg q2] at s91
      rw [if_neg q3] at w21
      simp only [hlex, Option.bind_some, h8, if_pos z8, bnd, h40, ed, l120, hx4, jnt, if_neg n3, l122, if_neg zb1, w20, if_true, ib, td, nz01.1, s91, w21, s40, w22, w23, if_true, if_neg n3, ha, hl1, hs1, h14, m1', if_neg k44, hof, if_neg z38, gz_0]
    · have zb1 : nI bg = 0 := by rw [show bg = 0 by omega]; rfl
      simp only [hlex, Option.bind_some, h8, if_pos z8, bnd, h40, ed, l120, hx4, jnt, if_neg n3, l122, if_pos zb1, if_true, ib, td, nz01.1, s40, w22, w23, if_true, if_neg n3, ha, hl1, hs1, h14, m1', if_neg k44, hof, if_neg z38, gz_0]
  · simp only [hlex, Option.bind_some, h8, if_pos z8, bnd, h40, ed, l120, hx4, jnt, if_true, ib, td, nz01.1, s40, w22, w23, if_true, if_neg n3, ha, hl1, hs1, h14, m1', if_neg k44, hof, if_neg z38, gz_0]
theorem oMax_ML {c w pl : Nat} {J1 J' : HI} {M1 : HL} (h8 : J 100 8 = 0) (hlex : f_X12_lex J = some J) (h40 : J 100 40 = nI (dp + 1)) (hdp : dp < 12) (h120 : J 120 dp = nI fk) (hfk : fk < 10) (h122 : J 122 dp = nI bg) (hbg : bg ≤ 1) (hw : wdJ J M w) (hs : sgJ J c) (hno : tsF fk ∧ bg = 1 → w ≠ 20 ∧ c ≠ 91 ∧ w ≠ 21) (hc : c ≠ 40) (hww : w = 23) (ha : f_X12_ahead fu (sI J 122 dp 0) M = some (J1, M1)) (hl1 : f_X12_lex J1 = some J') (hb1 : BadM J1 J' 1 pl) (hs1 : f_X12_isSign J' 40 = some 0) : f_X12_operand fu J M = some (0, J', M1) := by
  have n3 : ¬ (1 : Int32) = 0 := by decide
  have z8 : (0 : Int32) ≤ 0 := by decide
  have ed : nI (dp + 1) - 1 = nI dp := by rw [sub1, dec1]
  have l120 : ∀ k : Int32 → Option (Int32 × HI × HL), ldI (J 120) 20 (nI dp) k = k (nI fk) := fun k => by rw [ldI_ok (by omega), h120]
  have l122 : ∀ k : Int32 → Option (Int32 × HI × HL), ldI (J 122) 20 (nI dp) k = k (nI bg) := fun k => by rw [ldI_ok (by omega), h122]
  have ib : ∀ k : Option (Int32 × HI × HL), inb 20 (nI dp) k = k := fun k => by rw [inb_ok (by omega)]
  have td : (nI dp).toNatClampNeg = dp := nI_clamp (by omega)
  have hs5 := sgJ_at (sg_ext (J' := sI J 122 dp 0) hs (by rw [zs_ne (by decide)]) (by rw [zs_ne (by decide)]))
  have hw5 := wd_ext (J' := sI J 122 dp 0) hw (by rw [zs_ne (by decide)])
  obtain ⟨-, -, -, -, -, s40, s91⟩ := hs5
  have w20 := wl20 hw
  have w21 := wl21 hw5
  have w22 := wl22 hw5
  have w23 := wl23 hw5
  have w17 := wl17 hw5
  have w5 := wl5 hw5
  have w13 := wl13 hw5
  have w14 := wl14 hw5
  have w24 := wl24 hw5
  have w15 := wl15 hw5
  have w16 := wl16 hw5
  rw [if_neg hc] at s40
  rw [if_neg (by omega)] at w22
  rw [if_pos hww] at w23
  have k44 : ¬ (37 : Int32) = 44 := by decide
  have hbf := blameF (J := J') (f := 1) (x := 1) (y := J' 100 4) (by decide) hb1.2.1
  have hof := opensF_M (fu := fu) (J := J') (M := M1) (f := 1) (v := 3) (by decide) hb1.2.1
  have z38 : ¬ J' 100 8 = 0 := by rw [hb1.2.1]; decide
  unfold f_X12_operand
  rcases isTest_M hfk with ⟨ht1, hx4⟩ | ⟨ht1, hx4⟩
  · by_cases cb : bg = 1
    · have zb1 : ¬ nI bg = 0 := nI_ne0 (by omega) (by omega)
      obtain ⟨q1, q2, q3⟩ := hno ⟨ht1, cb⟩
      rw [if_neg q1] at w20
      rw [if_neg q2] at s91
      rw [if_neg q3] at w21
      simp only [hlex, Option.bind_some, h8, if_pos z8, bnd, h40, ed, l120, hx4, jnt, if_neg n3, l122, if_neg zb1, w20, if_true, ib, td, nz01.1, s91, w21, s40, w22, w23, if_true, if_neg n3, ha, hl1, hs1, hbf, if_neg k44, hof, if_neg z38, gz_0]
    · have zb1 : nI bg = 0 := by rw [show bg = 0 by omega]; rfl
      simp only [hlex, Option.bind_some, h8, if_pos z8, bnd, h40, ed, l120, hx4, jnt, if_neg n3, l122, if_pos zb1, if_true, ib, td, nz01.1, s40, w22, w23, if_true, if_neg n3, ha, hl1, hs1, hbf, if_neg k44, hof, if_neg z38, gz_0]
  · simp only [hlex, Option.bind_some, h8, if_pos z8, bnd, h40, ed, l120, hx4, jnt, if_true, ib, td, nz01.1, s40, w22, w23, if_true, if_neg n3, ha, hl1, hs1, hbf, if_neg k44, hof, if_neg z38, gz_0]
theorem oIf_M {c w d : Nat} {J1 J3 : HI} {M1 M3 : HL} (h8 : J 100 8 = 0) (hlex : f_X12_lex J = some J) (h40 : J 100 40 = nI (dp + 1)) (hdp : dp < 12) (h120 : J 120 dp = nI fk) (hfk : fk < 10) (h122 : J 122 dp = nI bg) (hbg : bg ≤ 1) (hw : wdJ J M w) (hs : sgJ J c) (hno : tsF fk ∧ bg = 1 → w ≠ 20 ∧ c ≠ 91 ∧ w ≠ 21) (hc : c ≠ 40) (hww : w = 17) (ha : f_X12_ahead fu (sI J 122 dp 0) M = some (J1, M1)) (hl1 : f_X12_lex J1 = some J1) (hs1 : f_X12_isSign J1 40 = some 1) (ho : f_X12_opens fu J1 M1 6 = some (J3, M3)) (h38 : J3 100 8 = 0) (h340 : J3 100 40 = nI (d + 1)) (hd : d < 19) : f_X12_operand fu J M = some (0, sI J3 123 d 44, M3) := by
  have n3 : ¬ (1 : Int32) = 0 := by decide
  have z8 : (0 : Int32) ≤ 0 := by decide
  have ed : nI (dp + 1) - 1 = nI dp := by rw [sub1, dec1]
  have l120 : ∀ k : Int32 → Option (Int32 × HI × HL), ldI (J 120) 20 (nI dp) k = k (nI fk) := fun k => by rw [ldI_ok (by omega), h120]
  have l122 : ∀ k : Int32 → Option (Int32 × HI × HL), ldI (J 122) 20 (nI dp) k = k (nI bg) := fun k => by rw [ldI_ok (by omega), h122]
  have ib : ∀ k : Option (Int32 × HI × HL), inb 20 (nI dp) k = k := fun k => by rw [inb_ok (by omega)]
  have td : (nI dp).toNatClampNeg = dp := nI_clamp (by omega)
  have hs5 := sgJ_at (sg_ext (J' := sI J 122 dp 0) hs (by rw [zs_ne (by decide)]) (by rw [zs_ne (by decide)]))
  have hw5 := wd_ext (J' := sI J 122 dp 0) hw (by rw [zs_ne (by decide)])
  obtain ⟨-, -, -, -, -, s40, s91⟩ := hs5
  have w20 := wl20 hw
  have w21 := wl21 hw5
  have w22 := wl22 hw5
  have w23 := wl23 hw5
  have w17 := wl17 hw5
  have w5 := wl5 hw5
  have w13 := wl13 hw5
  have w14 := wl14 hw5
  have w24 := wl24 hw5
  have w15 := wl15 hw5
  have w16 := wl16 hw5
  rw [if_neg hc] at s40
  rw [if_neg (by omega)] at w22 w23
  rw [if_pos hww] at w17
  have k44 :  (44 : Int32) = 44 := by decide
  have ed3 : nI (d + 1) - 1 = nI d := by rw [sub1, dec1]
  have ib3 : ∀ k : Option (Int32 × HI × HL), inb 20 (nI d) k = k := fun k => by rw [inb_ok (by omega)]
  have td3 : (nI d).toNatClampNeg = d := nI_clamp (by omega)
  unfold f_X12_operand
  rcases isTest_M hfk with ⟨ht1, hx4⟩ | ⟨ht1, hx4⟩
  · by_cases cb : bg = 1
    · have zb1 : ¬ nI bg = 0 := nI_ne0 (by omega) (by omega)
      obtain ⟨q1, q2, q3⟩ := hno ⟨ht1, cb⟩
      rw [if_neg q1] at w20
      rw [if_neg q2] at s91
      rw [if_neg q3] at w21
      simp only [hlex, Option.bind_some, h8, if_pos z8, bnd, h40, ed, l120, hx4, jnt, if_neg n3, l122, if_neg zb1, w20, if_true, ib, td, nz01.1, s91, w21, s40, w22, w23, w17, if_true, if_neg n3, ha, hl1, hs1, if_pos k44, ho, h38, h340, ed3, ib3, td3, gz_0]
    · have zb1 : nI bg = 0 := by rw [show bg = 0 by omega]; rfl
      simp only [hlex, Option.bind_some, h8, if_pos z8, bnd, h40, ed, l120, hx4, jnt, if_neg n3, l122, if_pos zb1, if_true, ib, td, nz01.1, s40, w22, w23, w17, if_true, if_neg n3, ha, hl1, hs1, if_pos k44, ho, h38, h340, ed3, ib3, td3, gz_0]
  · simp only [hlex, Option.bind_some, h8, if_pos z8, bnd, h40, ed, l120, hx4, jnt, if_true, ib, td, nz01.1, s40, w22, w23, w17, if_true, if_neg n3, ha, hl1, hs1, if_pos k44, ho, h38, h340, ed3, ib3, td3, gz_0]
theorem oIf_M7 {c w f : Nat} {J1 J3 : HI} {M1 M3 : HL} (h8 : J 100 8 = 0) (hlex : f_X12_lex J = some J) (h40 : J 100 40 = nI (dp + 1)) (hdp : dp < 12) (h120 : J 120 dp = nI fk) (hfk : fk < 10) (h122 : J 122 dp = nI bg) (hbg : bg ≤ 1) (hw : wdJ J M w) (hs : sgJ J c) (hno : tsF fk ∧ bg = 1 → w ≠ 20 ∧ c ≠ 91 ∧ w ≠ 21) (hc : c ≠ 40) (hww : w = 17) (ha : f_X12_ahead fu (sI J 122 dp 0) M = some (J1, M1)) (hl1 : f_X12_lex J1 = some J1) (hs1 : f_X12_isSign J1 40 = some 1) (ho : f_X12_opens fu J1 M1 6 = some (J3, M3)) (hf : 1 ≤ f ∧ f ≤ 6) (h38 : J3 100 8 = nI f) : f_X12_operand fu J M = some (0, J3, M3) := by
  have n3 : ¬ (1 : Int32) = 0 := by decide
  have z8 : (0 : Int32) ≤ 0 := by decide
  have ed : nI (dp + 1) - 1 = nI dp := by rw [sub1, dec1]
  have l120 : ∀ k : Int32 → Option (Int32 × HI × HL), ldI (J 120) 20 (nI dp) k = k (nI fk) := fun k => by rw [ldI_ok (by omega), h120]
  have l122 : ∀ k : Int32 → Option (Int32 × HI × HL), ldI (J 122) 20 (nI dp) k = k (nI bg) := fun k => by rw [ldI_ok (by omega), h122]
  have ib : ∀ k : Option (Int32 × HI × HL), inb 20 (nI dp) k = k := fun k => by rw [inb_ok (by omega)]
  have td : (nI dp).toNatClampNeg = dp := nI_clamp (by omega)
  have hs5 := sgJ_at (sg_ext (J' := sI J 122 dp 0) hs (by rw [zs_ne (by decide)]) (by rw [zs_ne (by decide)]))
  have hw5 := wd_ext (J' := sI J 122 dp 0) hw (by rw [zs_ne (by decide)])
  obtain ⟨-, -, -, -, -, s40, s91⟩ := hs5
  have w20 := wl20 hw
  have w21 := wl21 hw5
  have w22 := wl22 hw5
  have w23 := wl23 hw5
  have w17 := wl17 hw5
  have w5 := wl5 hw5
  have w13 := wl13 hw5
  have w14 := wl14 hw5
  have w24 := wl24 hw5
  have w15 := wl15 hw5
  have w16 := wl16 hw5
  rw [if_neg hc] at s40
  rw [if_neg (by omega)] at w22 w23
  rw [if_pos hww] at w17
  have k44 :  (44 : Int32) = 44 := by decide
  have z38 : ¬ J3 100 8 = 0 := by rw [h38]; exact nI_ne0 (by omega) (by omega)
  unfold f_X12_operand
  rcases isTest_M hfk with ⟨ht1, hx4⟩ | ⟨ht1, hx4⟩
  · by_cases cb : bg = 1
    · have zb1 : ¬ nI bg = 0 := nI_ne0 (by omega) (by omega)
      obtain ⟨q1, q2, q3⟩ := hno ⟨ht1, cb⟩
      rw [if_neg q1] at w20
      rw [if_neg q2] at s91
      rw [if_neg q3] at w21
      simp only [hlex, Option.bind_some, h8, if_pos z8, bnd, h40, ed, l120, hx4, jnt, if_neg n3, l122, if_neg zb1, w20, if_true, ib, td, nz01.1, s91, w21, s40, w22, w23, w17, if_true, if_neg n3, ha, hl1, hs1, if_pos k44, ho, if_neg z38, gz_0]
    · have zb1 : nI bg = 0 := by rw [show bg = 0 by omega]; rfl
      simp only [hlex, Option.bind_some, h8, if_pos z8, bnd, h40, ed, l120, hx4, jnt, if_neg n3, l122, if_pos zb1, if_true, ib, td, nz01.1, s40, w22, w23, w17, if_true, if_neg n3, ha, hl1, hs1, if_pos k44, ho, if_neg z38, gz_0]
  · simp only [hlex, Option.bind_some, h8, if_pos z8, bnd, h40, ed, l120, hx4, jnt, if_true, ib, td, nz01.1, s40, w22, w23, w17, if_true, if_neg n3, ha, hl1, hs1, if_pos k44, ho, if_neg z38, gz_0]
theorem oIf_MF {c w at1 : Nat} {J1 : HI} {M1 : HL} (h8 : J 100 8 = 0) (hlex : f_X12_lex J = some J) (h40 : J 100 40 = nI (dp + 1)) (hdp : dp < 12) (h120 : J 120 dp = nI fk) (hfk : fk < 10) (h122 : J 122 dp = nI bg) (hbg : bg ≤ 1) (hw : wdJ J M w) (hs : sgJ J c) (hno : tsF fk ∧ bg = 1 → w ≠ 20 ∧ c ≠ 91 ∧ w ≠ 21) (hc : c ≠ 40) (hww : w = 17) (ha : f_X12_ahead fu (sI J 122 dp 0) M = some (J1, M1)) (h18 : J1 100 8 = 0) (h14 : J1 100 4 = nI at1) (hl1 : f_X12_lex J1 = some J1) (hs1 : f_X12_isSign J1 40 = some 0) : ∃ J', f_X12_operand fu J M = some (0, J', M1) ∧ BadM J1 J' 1 at1 := by
  have n3 : ¬ (1 : Int32) = 0 := by decide
  have z8 : (0 : Int32) ≤ 0 := by decide
  have ed : nI (dp + 1) - 1 = nI dp := by rw [sub1, dec1]
  have l120 : ∀ k : Int32 → Option (Int32 × HI × HL), ldI (J 120) 20 (nI dp) k = k (nI fk) := fun k => by rw [ldI_ok (by omega), h120]
  have l122 : ∀ k : Int32 → Option (Int32 × HI × HL), ldI (J 122) 20 (nI dp) k = k (nI bg) := fun k => by rw [ldI_ok (by omega), h122]
  have ib : ∀ k : Option (Int32 × HI × HL), inb 20 (nI dp) k = k := fun k => by rw [inb_ok (by omega)]
  have td : (nI dp).toNatClampNeg = dp := nI_clamp (by omega)
  have hs5 := sgJ_at (sg_ext (J' := sI J 122 dp 0) hs (by rw [zs_ne (by decide)]) (by rw [zs_ne (by decide)]))
  have hw5 := wd_ext (J' := sI J 122 dp 0) hw (by rw [zs_ne (by decide)])
  obtain ⟨-, -, -, -, -, s40, s91⟩ := hs5
  have w20 := wl20 hw
  have w21 := wl21 hw5
  have w22 := wl22 hw5
  have w23 := wl23 hw5
  have w17 := wl17 hw5
  have w5 := wl5 hw5
  have w13 := wl13 hw5
  have w14 := wl14 hw5
  have w24 := wl24 hw5
  have w15 := wl15 hw5
  have w16 := wl16 hw5
  rw [if_neg hc] at s40
  rw [if_neg (by omega)] at w22 w23
  rw [if_pos hww] at w17
  have k44 :  (44 : Int32) = 44 := by decide
  obtain ⟨J', m1, m2⟩ := blameS (J := J1) (f := 1) (pl := at1) h18
  have m1' : f_X12_blame J1 1 (nI at1) = some J' := m1
  have hof := opensF_M (fu := fu) (J := J') (M := M1) (f := 1) (v := 6) (by decide) m2.2.1
  have z38 : ¬ J' 100 8 = 0 := by rw [m2.2.1]; decide
  refine ⟨J', ?_, m2⟩
  unfold f_X12_operand
  rcases isTest_M hfk with ⟨ht1, hx4⟩ | ⟨ht1, hx4⟩
  · by_cases cb : bg = 1
    · have zb1 : ¬ nI bg = 0 := nI_ne0 (by omega) (by omega)
      obtain ⟨q1, q2, q3⟩ := hno ⟨ht1, cb⟩
      rw [if_neg q1] at w20
      rw [if_neg q2] at s91
      rw [if_neg q3] at w21
      simp only [hlex, Option.bind_some, h8, if_pos z8, bnd, h40, ed, l120, hx4, jnt, if_neg n3, l122, if_neg zb1, w20, if_true, ib, td, nz01.1, s91, w21, s40, w22, w23, w17, if_true, if_neg n3, ha, hl1, hs1, h14, m1', if_pos k44, hof, if_neg z38, gz_0]
    · have zb1 : nI bg = 0 := by rw [show bg = 0 by omega]; rfl
      simp only [hlex, Option.bind_some, h8, if_pos z8, bnd, h40, ed, l120, hx4, jnt, if_neg n3, l122, if_pos zb1, if_true, ib, td, nz01.1, s40, w22, w23, w17, if_true, if_neg n3, ha, hl1, hs1, h14, m1', if_pos k44, hof, if_neg z38, gz_0]
  · simp only [hlex, Option.bind_some, h8, if_pos z8, bnd, h40, ed, l120, hx4, jnt, if_true, ib, td, nz01.1, s40, w22, w23, w17, if_true, if_neg n3, ha, hl1, hs1, h14, m1', if_pos k44, hof, if_neg z38, gz_0]
theorem oIf_ML {c w pl : Nat} {J1 J' : HI} {M1 : HL} (h8 : J 100 8 = 0) (hlex : f_X12_lex J = some J) (h40 : J 100 40 = nI (dp + 1)) (hdp : dp < 12) (h120 : J 120 dp = nI fk) (hfk : fk < 10) (h122 : J 122 dp = nI bg) (hbg : bg ≤ 1) (hw : wdJ J M w) (hs : sgJ J c) (hno : tsF fk ∧ bg = 1 → w ≠ 20 ∧ c ≠ 91 ∧ w ≠ 21) (hc : c ≠ 40) (hww : w = 17) (ha : f_X12_ahead fu (sI J 122 dp 0) M = some (J1, M1)) (hl1 : f_X12_lex J1 = some J') (hb1 : BadM J1 J' 1 pl) (hs1 : f_X12_isSign J' 40 = some 0) : f_X12_operand fu J M = some (0, J', M1) := by
  have n3 : ¬ (1 : Int32) = 0 := by decide
  have z8 : (0 : Int32) ≤ 0 := by decide
  have ed : nI (dp + 1) - 1 = nI dp := by rw [sub1, dec1]
  have l120 : ∀ k : Int32 → Option (Int32 × HI × HL), ldI (J 120) 20 (nI dp) k = k (nI fk) := fun k => by rw [ldI_ok (by omega), h120]
  have l122 : ∀ k : Int32 → Option (Int32 × HI × HL), ldI (J 122) 20 (nI dp) k = k (nI bg) := fun k => by rw [ldI_ok (by omega), h122]
  have ib : ∀ k : Option (Int32 × HI × HL), inb 20 (nI dp) k = k := fun k => by rw [inb_ok (by omega)]
  have td : (nI dp).toNatClampNeg = dp := nI_clamp (by omega)
  have hs5 := sgJ_at (sg_ext (J' := sI J 122 dp 0) hs (by rw [zs_ne (by decide)]) (by rw [zs_ne (by decide)]))
  have hw5 := wd_ext (J' := sI J 122 dp 0) hw (by rw [zs_ne (by decide)])
  obtain ⟨-, -, -, -, -, s40, s91⟩ := hs5
  have w20 := wl20 hw
  have w21 := wl21 hw5
  have w22 := wl22 hw5
  have w23 := wl23 hw5
  have w17 := wl17 hw5
  have w5 := wl5 hw5
  have w13 := wl13 hw5
  have w14 := wl14 hw5
  have w24 := wl24 hw5
  have w15 := wl15 hw5
  have w16 := wl16 hw5
  rw [if_neg hc] at s40
  rw [if_neg (by omega)] at w22 w23
  rw [if_pos hww] at w17
  have k44 :  (44 : Int32) = 44 := by decide
  have hbf := blameF (J := J') (f := 1) (x := 1) (y := J' 100 4) (by decide) hb1.2.1
  have hof := opensF_M (fu := fu) (J := J') (M := M1) (f := 1) (v := 6) (by decide) hb1.2.1
  have z38 : ¬ J' 100 8 = 0 := by rw [hb1.2.1]; decide
  unfold f_X12_operand
  rcases isTest_M hfk with ⟨ht1, hx4⟩ | ⟨ht1, hx4⟩
  · by_cases cb : bg = 1
    · have zb1 : ¬ nI bg = 0 := nI_ne0 (by omega) (by omega)
      obtain ⟨q1, q2, q3⟩ := hno ⟨ht1, cb⟩
      rw [if_neg q1] at w20
      rw [if_neg q2] at s91
      rw [if_neg q3] at w21
      simp only [hlex, Option.bind_some, h8, if_pos z8, bnd, h40, ed, l120, hx4, jnt, if_neg n3, l122, if_neg zb1, w20, if_true, ib, td, nz01.1, s91, w21, s40, w22, w23, w17, if_true, if_neg n3, ha, hl1, hs1, hbf, if_pos k44, hof, if_neg z38, gz_0]
    · have zb1 : nI bg = 0 := by rw [show bg = 0 by omega]; rfl
      simp only [hlex, Option.bind_some, h8, if_pos z8, bnd, h40, ed, l120, hx4, jnt, if_neg n3, l122, if_pos zb1, if_true, ib, td, nz01.1, s40, w22, w23, w17, if_true, if_neg n3, ha, hl1, hs1, hbf, if_pos k44, hof, if_neg z38, gz_0]
  · simp only [hlex, Option.bind_some, h8, if_pos z8, bnd, h40, ed, l120, hx4, jnt, if_true, ib, td, nz01.1, s40, w22, w23, w17, if_true, if_neg n3, ha, hl1, hs1, hbf, if_pos k44, hof, if_neg z38, gz_0]
theorem oV_M {c w : Nat} {J1 J3 : HI} {M3 : HL} (h8 : J 100 8 = 0) (hlex : f_X12_lex J = some J) (h40 : J 100 40 = nI (dp + 1)) (hdp : dp < 12) (h120 : J 120 dp = nI fk) (hfk : fk < 10) (h122 : J 122 dp = nI bg) (hbg : bg ≤ 1) (hw : wdJ J M w) (hs : sgJ J c) (hno : tsF fk ∧ bg = 1 → w ≠ 20 ∧ c ≠ 91 ∧ w ≠ 21) (hc : c ≠ 40) (hww : w ≠ 22 ∧ w ≠ 23 ∧ w ≠ 17) (h3 : J 100 3 = 2) (hadd : f_X12_add (sI J 122 dp 0) 0 (J 100 6) = some J1) (ha : f_X12_ahead fu J1 M = some (J3, M3)) : f_X12_operand fu J M = some (1, J3, M3) := by
  have n3 : ¬ (1 : Int32) = 0 := by decide
  have z8 : (0 : Int32) ≤ 0 := by decide
  have ed : nI (dp + 1) - 1 = nI dp := by rw [sub1, dec1]
  have l120 : ∀ k : Int32 → Option (Int32 × HI × HL), ldI (J 120) 20 (nI dp) k = k (nI fk) := fun k => by rw [ldI_ok (by omega), h120]
  have l122 : ∀ k : Int32 → Option (Int32 × HI × HL), ldI (J 122) 20 (nI dp) k = k (nI bg) := fun k => by rw [ldI_ok (by omega), h122]
  have ib : ∀ k : Option (Int32 × HI × HL), inb 20 (nI dp) k = k := fun k => by rw [inb_ok (by omega)]
  have td : (nI dp).toNatClampNeg = dp := nI_clamp (by omega)
  have hs5 := sgJ_at (sg_ext (J' := sI J 122 dp 0) hs (by rw [zs_ne (by decide)]) (by rw [zs_ne (by decide)]))
  have hw5 := wd_ext (J' := sI J 122 dp 0) hw (by rw [zs_ne (by decide)])
  obtain ⟨-, -, -, -, -, s40, s91⟩ := hs5
  have w20 := wl20 hw
  have w21 := wl21 hw5
  have w22 := wl22 hw5
  have w23 := wl23 hw5
  have w17 := wl17 hw5
  have w5 := wl5 hw5
  have w13 := wl13 hw5
  have w14 := wl14 hw5
  have w24 := wl24 hw5
  have w15 := wl15 hw5
  have w16 := wl16 hw5
  rw [if_neg hc] at s40
  rw [if_neg hww.1] at w22
  rw [if_neg hww.2.1] at w23
  rw [if_neg hww.2.2] at w17
  have e3 : (sI J 122 dp 0) 100 3 = 2 := by rw [zs_ne (by decide)]; exact h3
  have e8 : (sI J 122 dp 0) 100 8 = 0 := by rw [zs_ne (by decide)]; exact h8
  have e6 : (sI J 122 dp 0) 100 6 = J 100 6 := by rw [zs_ne (by decide)]
  have m1 : ¬ (0 : Int32) = -1 := by decide
  unfold f_X12_operand
  rcases isTest_M hfk with ⟨ht1, hx4⟩ | ⟨ht1, hx4⟩
  · by_cases cb : bg = 1
    · have zb1 : ¬ nI bg = 0 := nI_ne0 (by omega) (by omega)
      obtain ⟨q1, q2, q3⟩ := hno ⟨ht1, cb⟩
      rw [if_neg q1] at w20
      rw [if_neg q2] at s91
      rw [if_neg q3] at w21
      simp only [hlex, Option.bind_some, h8, if_pos z8, bnd, h40, ed, l120, hx4, jnt, if_neg n3, l122, if_neg zb1, w20, if_true, ib, td, nz01.1, s91, w21, s40, w22, w23, w17, if_true, e3, if_pos z8, if_neg m1, e8, e6, hadd, ha, gz_1]
    · have zb1 : nI bg = 0 := by rw [show bg = 0 by omega]; rfl
      simp only [hlex, Option.bind_some, h8, if_pos z8, bnd, h40, ed, l120, hx4, jnt, if_neg n3, l122, if_pos zb1, if_true, ib, td, nz01.1, s40, w22, w23, w17, if_true, e3, if_pos z8, if_neg m1, e8, e6, hadd, ha, gz_1]
  · simp only [hlex, Option.bind_some, h8, if_pos z8, bnd, h40, ed, l120, hx4, jnt, if_true, ib, td, nz01.1, s40, w22, w23, w17, if_true, e3, if_pos z8, if_neg m1, e8, e6, hadd, ha, gz_1]
theorem oF5_M {c w ak at' : Nat} {J1 J3 : HI} {M3 : HL} (h8 : J 100 8 = 0) (hlex : f_X12_lex J = some J) (h40 : J 100 40 = nI (dp + 1)) (hdp : dp < 12) (h120 : J 120 dp = nI fk) (hfk : fk < 10) (h122 : J 122 dp = nI bg) (hbg : bg ≤ 1) (hw : wdJ J M w) (hs : sgJ J c) (hno : tsF fk ∧ bg = 1 → w ≠ 20 ∧ c ≠ 91 ∧ w ≠ 21) (hc : c ≠ 40) (hww : w = 5) (h3 : ¬ J 100 3 = 2) (h4 : J 100 4 = nI at') (h34 : J 100 34 = nI ak) (hak : ak < 200) (hbit : ak / 2 ^ 1 % 2 = 1) (hadd : f_X12_add (sI J 122 dp 0) 1 (J 100 6) = some J1) (ha : f_X12_ahead fu J1 M = some (J3, M3)) : f_X12_operand fu J M = some (1, J3, M3) := by
  have n3 : ¬ (1 : Int32) = 0 := by decide
  have z8 : (0 : Int32) ≤ 0 := by decide
  have ed : nI (dp + 1) - 1 = nI dp := by rw [sub1, dec1]
  have l120 : ∀ k : Int32 → Option (Int32 × HI × HL), ldI (J 120) 20 (nI dp) k = k (nI fk) := fun k => by rw [ldI_ok (by omega), h120]
  have l122 : ∀ k : Int32 → Option (Int32 × HI × HL), ldI (J 122) 20 (nI dp) k = k (nI bg) := fun k => by rw [ldI_ok (by omega), h122]
  have ib : ∀ k : Option (Int32 × HI × HL), inb 20 (nI dp) k = k := fun k => by rw [inb_ok (by omega)]
  have td : (nI dp).toNatClampNeg = dp := nI_clamp (by omega)
  have hs5 := sgJ_at (sg_ext (J' := sI J 122 dp 0) hs (by rw [zs_ne (by decide)]) (by rw [zs_ne (by decide)]))
  have hw5 := wd_ext (J' := sI J 122 dp 0) hw (by rw [zs_ne (by decide)])
  obtain ⟨-, -, -, -, -, s40, s91⟩ := hs5
  have w20 := wl20 hw
  have w21 := wl21 hw5
  have w22 := wl22 hw5
  have w23 := wl23 hw5
  have w17 := wl17 hw5
  have w5 := wl5 hw5
  have w13 := wl13 hw5
  have w14 := wl14 hw5
  have w24 := wl24 hw5
  have w15 := wl15 hw5
  have w16 := wl16 hw5
  rw [if_neg hc] at s40
  rw [if_neg (by omega)] at w22 w23 w17
  have e3 : ¬ (sI J 122 dp 0) 100 3 = 2 := by rw [zs_ne (by decide)]; exact h3
  have e8 : (sI J 122 dp 0) 100 8 = 0 := by rw [zs_ne (by decide)]; exact h8
  have e6 : (sI J 122 dp 0) 100 6 = J 100 6 := by rw [zs_ne (by decide)]
  have e4 : (sI J 122 dp 0) 100 4 = nI at' := by rw [zs_ne (by decide)]; exact h4
  have e34 : (sI J 122 dp 0) 100 34 = nI ak := by rw [zs_ne (by decide)]; exact h34
  have p0 : ¬ (1 : Int32) ≤ 0 := by decide
  have m1 : ¬ (1 : Int32) = -1 := by decide
  have bt : ((nI ak >>> (1 &&& 31)) &&& 1) = nI (ak / 2 ^ 1 % 2) := by
    have e1 : nI ak >>> ((1 : Int32) &&& 31) = nI (ak / 2 ^ 1) := pk_shrN (by omega) _ 1 (by decide)
    rw [e1]
    exact pk_andN (by have : ak / 2 ^ 1 ≤ ak := Nat.div_le_self _ _; omega) 1 (by decide)
  rw [if_pos hww] at w5
  have zb2 : ¬ nI (ak / 2 ^ 1 % 2) = 0 := by rw [hbit]; decide
  unfold f_X12_operand
  rcases isTest_M hfk with ⟨ht1, hx4⟩ | ⟨ht1, hx4⟩
  · by_cases cb : bg = 1
    · have zb1 : ¬ nI bg = 0 := nI_ne0 (by omega) (by omega)
      obtain ⟨q1, q2, q3⟩ := hno ⟨ht1, cb⟩
      rw [if_neg q1] at w20
      rw [if_neg q2] at s91
      rw [if_neg q3] at w21
      simp only [hlex, Option.bind_some, h8, if_pos z8, bnd, h40, ed, l120, hx4, jnt, if_neg n3, l122, if_neg zb1, w20, if_true, ib, td, nz01.1, s91, w21, s40, w22, w23, w17, if_true, if_neg e3, if_neg n3, w5, if_neg p0, e34, bt, if_neg zb2, if_neg m1, e8, if_pos z8, e6, hadd, ha, gz_1]
    · have zb1 : nI bg = 0 := by rw [show bg = 0 by omega]; rfl
      simp only [hlex, Option.bind_some, h8, if_pos z8, bnd, h40, ed, l120, hx4, jnt, if_neg n3, l122, if_pos zb1, if_true, ib, td, nz01.1, s40, w22, w23, w17, if_true, if_neg e3, if_neg n3, w5, if_neg p0, e34, bt, if_neg zb2, if_neg m1, e8, if_pos z8, e6, hadd, ha, gz_1]
  · simp only [hlex, Option.bind_some, h8, if_pos z8, bnd, h40, ed, l120, hx4, jnt, if_true, ib, td, nz01.1, s40, w22, w23, w17, if_true, if_neg e3, if_neg n3, w5, if_neg p0, e34, bt, if_neg zb2, if_neg m1, e8, if_pos z8, e6, hadd, ha, gz_1]
theorem oF13_M {c w ak at' : Nat} {J1 J3 : HI} {M3 : HL} (h8 : J 100 8 = 0) (hlex : f_X12_lex J = some J) (h40 : J 100 40 = nI (dp + 1)) (hdp : dp < 12) (h120 : J 120 dp = nI fk) (hfk : fk < 10) (h122 : J 122 dp = nI bg) (hbg : bg ≤ 1) (hw : wdJ J M w) (hs : sgJ J c) (hno : tsF fk ∧ bg = 1 → w ≠ 20 ∧ c ≠ 91 ∧ w ≠ 21) (hc : c ≠ 40) (hww : w = 13) (h3 : ¬ J 100 3 = 2) (h4 : J 100 4 = nI at') (h34 : J 100 34 = nI ak) (hak : ak < 200) (hbit : ak / 2 ^ 2 % 2 = 1) (hadd : f_X12_add (sI J 122 dp 0) 2 (J 100 6) = some J1) (ha : f_X12_ahead fu J1 M = some (J3, M3)) : f_X12_operand fu J M = some (1, J3, M3) := by
  have n3 : ¬ (1 : Int32) = 0 := by decide
  have z8 : (0 : Int32) ≤ 0 := by decide
  have ed : nI (dp + 1) - 1 = nI dp := by rw [sub1, dec1]
  have l120 : ∀ k : Int32 → Option (Int32 × HI × HL), ldI (J 120) 20 (nI dp) k = k (nI fk) := fun k => by rw [ldI_ok (by omega), h120]
  have l122 : ∀ k : Int32 → Option (Int32 × HI × HL), ldI (J 122) 20 (nI dp) k = k (nI bg) := fun k => by rw [ldI_ok (by omega), h122]
  have ib : ∀ k : Option (Int32 × HI × HL), inb 20 (nI dp) k = k := fun k => by rw [inb_ok (by omega)]
  have td : (nI dp).toNatClampNeg = dp := nI_clamp (by omega)
  have hs5 := sgJ_at (sg_ext (J' := sI J 122 dp 0) hs (by rw [zs_ne (by decide)]) (by rw [zs_ne (by decide)]))
  have hw5 := wd_ext (J' := sI J 122 dp 0) hw (by rw [zs_ne (by decide)])
  obtain ⟨-, -, -, -, -, s40, s91⟩ := hs5
  have w20 := wl20 hw
  have w21 := wl21 hw5
  have w22 := wl22 hw5
  have w23 := wl23 hw5
  have w17 := wl17 hw5
  have w5 := wl5 hw5
  have w13 := wl13 hw5
  have w14 := wl14 hw5
  have w24 := wl24 hw5
  have w15 := wl15 hw5
  have w16 := wl16 hw5
  rw [if_neg hc] at s40
  rw [if_neg (by omega)] at w22 w23 w17
  have e3 : ¬ (sI J 122 dp 0) 100 3 = 2 := by rw [zs_ne (by decide)]; exact h3
  have e8 : (sI J 122 dp 0) 100 8 = 0 := by rw [zs_ne (by decide)]; exact h8
  have e6 : (sI J 122 dp 0) 100 6 = J 100 6 := by rw [zs_ne (by decide)]
  have e4 : (sI J 122 dp 0) 100 4 = nI at' := by rw [zs_ne (by decide)]; exact h4
  have e34 : (sI J 122 dp 0) 100 34 = nI ak := by rw [zs_ne (by decide)]; exact h34
  have p0 : ¬ (2 : Int32) ≤ 0 := by decide
  have m1 : ¬ (2 : Int32) = -1 := by decide
  have bt : ((nI ak >>> (2 &&& 31)) &&& 1) = nI (ak / 2 ^ 2 % 2) := by
    have e1 : nI ak >>> ((2 : Int32) &&& 31) = nI (ak / 2 ^ 2) := pk_shrN (by omega) _ 2 (by decide)
    rw [e1]
    exact pk_andN (by have : ak / 2 ^ 2 ≤ ak := Nat.div_le_self _ _; omega) 1 (by decide)
  rw [if_neg (by omega)] at w5
  rw [if_pos hww] at w13
  have zb2 : ¬ nI (ak / 2 ^ 2 % 2) = 0 := by rw [hbit]; decide
  unfold f_X12_operand
  rcases isTest_M hfk with ⟨ht1, hx4⟩ | ⟨ht1, hx4⟩
  · by_cases cb : bg = 1
    · have zb1 : ¬ nI bg = 0 := nI_ne0 (by omega) (by omega)
      obtain ⟨q1, q2, q3⟩ := hno ⟨ht1, cb⟩
      rw [if_neg q1] at w20
      rw [if_neg q2] at s91
      rw [if_neg q3] at w21
      simp only [hlex, Option.bind_some, h8, if_pos z8, bnd, h40, ed, l120, hx4, jnt, if_neg n3, l122, if_neg zb1, w20, if_true, ib, td, nz01.1, s91, w21, s40, w22, w23, w17, if_true, if_neg e3, if_neg n3, w5, w13, if_neg p0, e34, bt, if_neg zb2, if_neg m1, e8, if_pos z8, e6, hadd, ha, gz_1]
    · have zb1 : nI bg = 0 := by rw [show bg = 0 by omega]; rfl
      simp only [hlex, Option.bind_some, h8, if_pos z8, bnd, h40, ed, l120, hx4, jnt, if_neg n3, l122, if_pos zb1, if_true, ib, td, nz01.1, s40, w22, w23, w17, if_true, if_neg e3, if_neg n3, w5, w13, if_neg p0, e34, bt, if_neg zb2, if_neg m1, e8, if_pos z8, e6, hadd, ha, gz_1]
  · simp only [hlex, Option.bind_some, h8, if_pos z8, bnd, h40, ed, l120, hx4, jnt, if_true, ib, td, nz01.1, s40, w22, w23, w17, if_true, if_neg e3, if_neg n3, w5, w13, if_neg p0, e34, bt, if_neg zb2, if_neg m1, e8, if_pos z8, e6, hadd, ha, gz_1]
theorem oF14_M {c w ak at' : Nat} {J1 J3 : HI} {M3 : HL} (h8 : J 100 8 = 0) (hlex : f_X12_lex J = some J) (h40 : J 100 40 = nI (dp + 1)) (hdp : dp < 12) (h120 : J 120 dp = nI fk) (hfk : fk < 10) (h122 : J 122 dp = nI bg) (hbg : bg ≤ 1) (hw : wdJ J M w) (hs : sgJ J c) (hno : tsF fk ∧ bg = 1 → w ≠ 20 ∧ c ≠ 91 ∧ w ≠ 21) (hc : c ≠ 40) (hww : w = 14) (h3 : ¬ J 100 3 = 2) (h4 : J 100 4 = nI at') (h34 : J 100 34 = nI ak) (hak : ak < 200) (hbit : ak / 2 ^ 3 % 2 = 1) (hadd : f_X12_add (sI J 122 dp 0) 3 (J 100 6) = some J1) (ha : f_X12_ahead fu J1 M = some (J3, M3)) : f_X12_operand fu J M = some (1, J3, M3) := by
  have n3 : ¬ (1 : Int32) = 0 := by decide
  have z8 : (0 : Int32) ≤ 0 := by decide
  have ed : nI (dp + 1) - 1 = nI dp := by rw [sub1, dec1]
  have l120 : ∀ k : Int32 → Option (Int32 × HI × HL), ldI (J 120) 20 (nI dp) k = k (nI fk) := fun k => by rw [ldI_ok (by omega), h120]
  have l122 : ∀ k : Int32 → Option (Int32 × HI × HL), ldI (J 122) 20 (nI dp) k = k (nI bg) := fun k => by rw [ldI_ok (by omega), h122]
  have ib : ∀ k : Option (Int32 × HI × HL), inb 20 (nI dp) k = k := fun k => by rw [inb_ok (by omega)]
  have td : (nI dp).toNatClampNeg = dp := nI_clamp (by omega)
  have hs5 := sgJ_at (sg_ext (J' := sI J 122 dp 0) hs (by rw [zs_ne (by decide)]) (by rw [zs_ne (by decide)]))
  have hw5 := wd_ext (J' := sI J 122 dp 0) hw (by rw [zs_ne (by decide)])
  obtain ⟨-, -, -, -, -, s40, s91⟩ := hs5
  have w20 := wl20 hw
  have w21 := wl21 hw5
  have w22 := wl22 hw5
  have w23 := wl23 hw5
  have w17 := wl17 hw5
  have w5 := wl5 hw5
  have w13 := wl13 hw5
  have w14 := wl14 hw5
  have w24 := wl24 hw5
  have w15 := wl15 hw5
  have w16 := wl16 hw5
  rw [if_neg hc] at s40
  rw [if_neg (by omega)] at w22 w23 w17
  have e3 : ¬ (sI J 122 dp 0) 100 3 = 2 := by rw [zs_ne (by decide)]; exact h3
  have e8 : (sI J 122 dp 0) 100 8 = 0 := by rw [zs_ne (by decide)]; exact h8
  have e6 : (sI J 122 dp 0) 100 6 = J 100 6 := by rw [zs_ne (by decide)]
  have e4 : (sI J 122 dp 0) 100 4 = nI at' := by rw [zs_ne (by decide)]; exact h4
  have e34 : (sI J 122 dp 0) 100 34 = nI ak := by rw [zs_ne (by decide)]; exact h34
  have p0 : ¬ (3 : Int32) ≤ 0 := by decide
  have m1 : ¬ (3 : Int32) = -1 := by decide
  have bt : ((nI ak >>> (3 &&& 31)) &&& 1) = nI (ak / 2 ^ 3 % 2) := by
    have e1 : nI ak >>> ((3 : Int32) &&& 31) = nI (ak / 2 ^ 3) := pk_shrN (by omega) _ 3 (by decide)
    rw [e1]
    exact pk_andN (by have : ak / 2 ^ 3 ≤ ak := Nat.div_le_self _ _; omega) 1 (by decide)
  rw [if_neg (by omega)] at w5
  rw [if_neg (by omega)] at w13
  rw [if_pos hww] at w14
  have zb2 : ¬ nI (ak / 2 ^ 3 % 2) = 0 := by rw [hbit]; decide
  unfold f_X12_operand
  rcases isTest_M hfk with ⟨ht1, hx4⟩ | ⟨ht1, hx4⟩
  · by_cases cb : bg = 1
    · have zb1 : ¬ nI bg = 0 := nI_ne0 (by omega) (by omega)
      obtain ⟨q1, q2, q3⟩ := hno ⟨ht1, cb⟩
      rw [if_neg q1] at w20
      rw [if_neg q2] at s91
      rw [if_neg q3] at w21
      simp only [hlex, Option.bind_some, h8, if_pos z8, bnd, h40, ed, l120, hx4, jnt, if_neg n3, l122, if_neg zb1, w20, if_true, ib, td, nz01.1, s91, w21, s40, w22, w23, w17, if_true, if_neg e3, if_neg n3, w5, w13, w14, if_neg p0, e34, bt, if_neg zb2, if_neg m1, e8, if_pos z8, e6, hadd, ha, gz_1]
    · have zb1 : nI bg = 0 := by rw [show bg = 0 by omega]; rfl
      simp only [hlex, Option.bind_some, h8, if_pos z8, bnd, h40, ed, l120, hx4, jnt, if_neg n3, l122, if_pos zb1, if_true, ib, td, nz01.1, s40, w22, w23, w17, if_true, if_neg e3, if_neg n3, w5, w13, w14, if_neg p0, e34, bt, if_neg zb2, if_neg m1, e8, if_pos z8, e6, hadd, ha, gz_1]
  · simp only [hlex, Option.bind_some, h8, if_pos z8, bnd, h40, ed, l120, hx4, jnt, if_true, ib, td, nz01.1, s40, w22, w23, w17, if_true, if_neg e3, if_neg n3, w5, w13, w14, if_neg p0, e34, bt, if_neg zb2, if_neg m1, e8, if_pos z8, e6, hadd, ha, gz_1]
theorem oF24_M {c w ak at' : Nat} {J1 J3 : HI} {M3 : HL} (h8 : J 100 8 = 0) (hlex : f_X12_lex J = some J) (h40 : J 100 40 = nI (dp + 1)) (hdp : dp < 12) (h120 : J 120 dp = nI fk) (hfk : fk < 10) (h122 : J 122 dp = nI bg) (hbg : bg ≤ 1) (hw : wdJ J M w) (hs : sgJ J c) (hno : tsF fk ∧ bg = 1 → w ≠ 20 ∧ c ≠ 91 ∧ w ≠ 21) (hc : c ≠ 40) (hww : w = 24) (h3 : ¬ J 100 3 = 2) (h4 : J 100 4 = nI at') (h34 : J 100 34 = nI ak) (hak : ak < 200) (hbit : ak / 2 ^ 4 % 2 = 1) (hadd : f_X12_add (sI J 122 dp 0) 4 (J 100 6) = some J1) (ha : f_X12_ahead fu J1 M = some (J3, M3)) : f_X12_operand fu J M = some (1, J3, M3) := by
  have n3 : ¬ (1 : Int32) = 0 := by decide
  have z8 : (0 : Int32) ≤ 0 := by decide
  have ed : nI (dp + 1) - 1 = nI dp := by rw [sub1, dec1]
  have l120 : ∀ k : Int32 → Option (Int32 × HI × HL), ldI (J 120) 20 (nI dp) k = k (nI fk) := fun k => by rw [ldI_ok (by omega), h120]
  have l122 : ∀ k : Int32 → Option (Int32 × HI × HL), ldI (J 122) 20 (nI dp) k = k (nI bg) := fun k => by rw [ldI_ok (by omega), h122]
  have ib : ∀ k : Option (Int32 × HI × HL), inb 20 (nI dp) k = k := fun k => by rw [inb_ok (by omega)]
  have td : (nI dp).toNatClampNeg = dp := nI_clamp (by omega)
  have hs5 := sgJ_at (sg_ext (J' := sI J 122 dp 0) hs (by rw [zs_ne (by decide)]) (by rw [zs_ne (by decide)]))
  have hw5 := wd_ext (J' := sI J 122 dp 0) hw (by rw [zs_ne (by decide)])
  obtain ⟨-, -, -, -, -, s40, s91⟩ := hs5
  have w20 := wl20 hw
  have w21 := wl21 hw5
  have w22 := wl22 hw5
  have w23 := wl23 hw5
  have w17 := wl17 hw5
  have w5 := wl5 hw5
  have w13 := wl13 hw5
  have w14 := wl14 hw5
  have w24 := wl24 hw5
  have w15 := wl15 hw5
  have w16 := wl16 hw5
  rw [if_neg hc] at s40
  rw [if_neg (by omega)] at w22 w23 w17
  have e3 : ¬ (sI J 122 dp 0) 100 3 = 2 := by rw [zs_ne (by decide)]; exact h3
  have e8 : (sI J 122 dp 0) 100 8 = 0 := by rw [zs_ne (by decide)]; exact h8
  have e6 : (sI J 122 dp 0) 100 6 = J 100 6 := by rw [zs_ne (by decide)]
  have e4 : (sI J 122 dp 0) 100 4 = nI at' := by rw [zs_ne (by decide)]; exact h4
  have e34 : (sI J 122 dp 0) 100 34 = nI ak := by rw [zs_ne (by decide)]; exact h34
  have p0 : ¬ (4 : Int32) ≤ 0 := by decide
  have m1 : ¬ (4 : Int32) = -1 := by decide
  have bt : ((nI ak >>> (4 &&& 31)) &&& 1) = nI (ak / 2 ^ 4 % 2) := by
    have e1 : nI ak >>> ((4 : Int32) &&& 31) = nI (ak / 2 ^ 4) := pk_shrN (by omega) _ 4 (by decide)
    rw [e1]
    exact pk_andN (by have : ak / 2 ^ 4 ≤ ak := Nat.div_le_self _ _; omega) 1 (by decide)
  rw [if_neg (by omega)] at w5
  rw [if_neg (by omega)] at w13
  rw [if_neg (by omega)] at w14
  rw [if_pos hww] at w24
  have zb2 : ¬ nI (ak / 2 ^ 4 % 2) = 0 := by rw [hbit]; decide
  unfold f_X12_operand
  rcases isTest_M hfk with ⟨ht1, hx4⟩ | ⟨ht1, hx4⟩
  · by_cases cb : bg = 1
    · have zb1 : ¬ nI bg = 0 := nI_ne0 (by omega) (by omega)
      obtain ⟨q1, q2, q3⟩ := hno ⟨ht1, cb⟩
      rw [if_neg q1] at w20
      rw [if_neg q2] at s91
      rw [if_neg q3] at w21
      simp only [hlex, Option.bind_some, h8, if_pos z8, bnd, h40, ed, l120, hx4, jnt, if_neg n3, l122, if_neg zb1, w20, if_true, ib, td, nz01.1, s91, w21, s40, w22, w23, w17, if_true, if_neg e3, if_neg n3, w5, w13, w14, w24, if_neg p0, e34, bt, if_neg zb2, if_neg m1, e8, if_pos z8, e6, hadd, ha, gz_1]
    · have zb1 : nI bg = 0 := by rw [show bg = 0 by omega]; rfl
      simp only [hlex, Option.bind_some, h8, if_pos z8, bnd, h40, ed, l120, hx4, jnt, if_neg n3, l122, if_pos zb1, if_true, ib, td, nz01.1, s40, w22, w23, w17, if_true, if_neg e3, if_neg n3, w5, w13, w14, w24, if_neg p0, e34, bt, if_neg zb2, if_neg m1, e8, if_pos z8, e6, hadd, ha, gz_1]
  · simp only [hlex, Option.bind_some, h8, if_pos z8, bnd, h40, ed, l120, hx4, jnt, if_true, ib, td, nz01.1, s40, w22, w23, w17, if_true, if_neg e3, if_neg n3, w5, w13, w14, w24, if_neg p0, e34, bt, if_neg zb2, if_neg m1, e8, if_pos z8, e6, hadd, ha, gz_1]
theorem oF24_Mx {c w ak at' : Nat} (h8 : J 100 8 = 0) (hlex : f_X12_lex J = some J) (h40 : J 100 40 = nI (dp + 1)) (hdp : dp < 12) (h120 : J 120 dp = nI fk) (hfk : fk < 10) (h122 : J 122 dp = nI bg) (hbg : bg ≤ 1) (hw : wdJ J M w) (hs : sgJ J c) (hno : tsF fk ∧ bg = 1 → w ≠ 20 ∧ c ≠ 91 ∧ w ≠ 21) (hc : c ≠ 40) (hww : w = 24) (h3 : ¬ J 100 3 = 2) (h4 : J 100 4 = nI at') (h34 : J 100 34 = nI ak) (hak : ak < 200) (hbit : ak / 2 ^ 4 % 2 = 0) : ∃ J', f_X12_operand fu J M = some (1, J', M) ∧ BadM (sI J 122 dp 0) J' 1 at' := by
  have n3 : ¬ (1 : Int32) = 0 := by decide
  have z8 : (0 : Int32) ≤ 0 := by decide
  have ed : nI (dp + 1) - 1 = nI dp := by rw [sub1, dec1]
  have l120 : ∀ k : Int32 → Option (Int32 × HI × HL), ldI (J 120) 20 (nI dp) k = k (nI fk) := fun k => by rw [ldI_ok (by omega), h120]
  have l122 : ∀ k : Int32 → Option (Int32 × HI × HL), ldI (J 122) 20 (nI dp) k = k (nI bg) := fun k => by rw [ldI_ok (by omega), h122]
  have ib : ∀ k : Option (Int32 × HI × HL), inb 20 (nI dp) k = k := fun k => by rw [inb_ok (by omega)]
  have td : (nI dp).toNatClampNeg = dp := nI_clamp (by omega)
  have hs5 := sgJ_at (sg_ext (J' := sI J 122 dp 0) hs (by rw [zs_ne (by decide)]) (by rw [zs_ne (by decide)]))
  have hw5 := wd_ext (J' := sI J 122 dp 0) hw (by rw [zs_ne (by decide)])
  obtain ⟨-, -, -, -, -, s40, s91⟩ := hs5
  have w20 := wl20 hw
  have w21 := wl21 hw5
  have w22 := wl22 hw5
  have w23 := wl23 hw5
  have w17 := wl17 hw5
  have w5 := wl5 hw5
  have w13 := wl13 hw5
  have w14 := wl14 hw5
  have w24 := wl24 hw5
  have w15 := wl15 hw5
  have w16 := wl16 hw5
  rw [if_neg hc] at s40
  rw [if_neg (by omega)] at w22 w23 w17
  have e3 : ¬ (sI J 122 dp 0) 100 3 = 2 := by rw [zs_ne (by decide)]; exact h3
  have e8 : (sI J 122 dp 0) 100 8 = 0 := by rw [zs_ne (by decide)]; exact h8
  have e6 : (sI J 122 dp 0) 100 6 = J 100 6 := by rw [zs_ne (by decide)]
  have e4 : (sI J 122 dp 0) 100 4 = nI at' := by rw [zs_ne (by decide)]; exact h4
  have e34 : (sI J 122 dp 0) 100 34 = nI ak := by rw [zs_ne (by decide)]; exact h34
  have p0 : ¬ (4 : Int32) ≤ 0 := by decide
  have m1 : ¬ (4 : Int32) = -1 := by decide
  have bt : ((nI ak >>> (4 &&& 31)) &&& 1) = nI (ak / 2 ^ 4 % 2) := by
    have e1 : nI ak >>> ((4 : Int32) &&& 31) = nI (ak / 2 ^ 4) := pk_shrN (by omega) _ 4 (by decide)
    rw [e1]
    exact pk_andN (by have : ak / 2 ^ 4 ≤ ak := Nat.div_le_self _ _; omega) 1 (by decide)
  rw [if_neg (by omega)] at w5
  rw [if_neg (by omega)] at w13
  rw [if_neg (by omega)] at w14
  rw [if_pos hww] at w24
  have zb2 : nI (ak / 2 ^ 4 % 2) = 0 := by rw [hbit]; rfl
  obtain ⟨J', q1, q2⟩ := blameS (J := sI J 122 dp 0) (f := 1) (pl := at') e8
  have q1' : f_X12_blame (sI J 122 dp 0) 1 (nI at') = some J' := q1
  have zb : ¬ J' 100 8 ≤ 0 := by rw [q2.2.1]; decide
  refine ⟨J', ?_, q2⟩
  unfold f_X12_operand
  rcases isTest_M hfk with ⟨ht1, hx4⟩ | ⟨ht1, hx4⟩
  · by_cases cb : bg = 1
    · have zb1 : ¬ nI bg = 0 := nI_ne0 (by omega) (by omega)
      obtain ⟨q1, q2, q3⟩ := hno ⟨ht1, cb⟩
      rw [if_neg q1] at w20
      rw [if_neg q2] at s91
      rw [if_neg q3] at w21
      simp only [hlex, Option.bind_some, h8, if_pos z8, bnd, h40, ed, l120, hx4, jnt, if_neg n3, l122, if_neg zb1, w20, if_true, ib, td, nz01.1, s91, w21, s40, w22, w23, w17, if_true, if_neg e3, if_neg n3, w5, w13, w14, w24, if_neg p0, e34, bt, if_pos zb2, e4, q1', if_neg zb, gz_1]
    · have zb1 : nI bg = 0 := by rw [show bg = 0 by omega]; rfl
      simp only [hlex, Option.bind_some, h8, if_pos z8, bnd, h40, ed, l120, hx4, jnt, if_neg n3, l122, if_pos zb1, if_true, ib, td, nz01.1, s40, w22, w23, w17, if_true, if_neg e3, if_neg n3, w5, w13, w14, w24, if_neg p0, e34, bt, if_pos zb2, e4, q1', if_neg zb, gz_1]
  · simp only [hlex, Option.bind_some, h8, if_pos z8, bnd, h40, ed, l120, hx4, jnt, if_true, ib, td, nz01.1, s40, w22, w23, w17, if_true, if_neg e3, if_neg n3, w5, w13, w14, w24, if_neg p0, e34, bt, if_pos zb2, e4, q1', if_neg zb, gz_1]
theorem oF15_M {c w ak at' : Nat} {J1 J3 : HI} {M3 : HL} (h8 : J 100 8 = 0) (hlex : f_X12_lex J = some J) (h40 : J 100 40 = nI (dp + 1)) (hdp : dp < 12) (h120 : J 120 dp = nI fk) (hfk : fk < 10) (h122 : J 122 dp = nI bg) (hbg : bg ≤ 1) (hw : wdJ J M w) (hs : sgJ J c) (hno : tsF fk ∧ bg = 1 → w ≠ 20 ∧ c ≠ 91 ∧ w ≠ 21) (hc : c ≠ 40) (hww : w = 15) (h3 : ¬ J 100 3 = 2) (h4 : J 100 4 = nI at') (h34 : J 100 34 = nI ak) (hak : ak < 200) (hbit : ak / 2 ^ 5 % 2 = 1) (hadd : f_X12_add (sI J 122 dp 0) 5 (J 100 6) = some J1) (ha : f_X12_ahead fu J1 M = some (J3, M3)) : f_X12_operand fu J M = some (1, J3, M3) := by
  have n3 : ¬ (1 : Int32) = 0 := by decide
  have z8 : (0 : Int32) ≤ 0 := by decide
  have ed : nI (dp + 1) - 1 = nI dp := by rw [sub1, dec1]
  have l120 : ∀ k : Int32 → Option (Int32 × HI × HL), ldI (J 120) 20 (nI dp) k = k (nI fk) := fun k => by rw [ldI_ok (by omega), h120]
  have l122 : ∀ k : Int32 → Option (Int32 × HI × HL), ldI (J 122) 20 (nI dp) k = k (nI bg) := fun k => by rw [ldI_ok (by omega), h122]
  have ib : ∀ k : Option (Int32 × HI × HL), inb 20 (nI dp) k = k := fun k => by rw [inb_ok (by omega)]
  have td : (nI dp).toNatClampNeg = dp := nI_clamp (by omega)
  have hs5 := sgJ_at (sg_ext (J' := sI J 122 dp 0) hs (by rw [zs_ne (by decide)]) (by rw [zs_ne (by decide)]))
  have hw5 := wd_ext (J' := sI J 122 dp 0) hw (by rw [zs_ne (by decide)])
  obtain ⟨-, -, -, -, -, s40, s91⟩ := hs5
  have w20 := wl20 hw
  have w21 := wl21 hw5
  have w22 := wl22 hw5
  have w23 := wl23 hw5
  have w17 := wl17 hw5
  have w5 := wl5 hw5
  have w13 := wl13 hw5
  have w14 := wl14 hw5
  have w24 := wl24 hw5
  have w15 := wl15 hw5
  have w16 := wl16 hw5
  rw [if_neg hc] at s40
  rw [if_neg (by omega)] at w22 w23 w17
  have e3 : ¬ (sI J 122 dp 0) 100 3 = 2 := by rw [zs_ne (by decide)]; exact h3
  have e8 : (sI J 122 dp 0) 100 8 = 0 := by rw [zs_ne (by decide)]; exact h8
  have e6 : (sI J 122 dp 0) 100 6 = J 100 6 := by rw [zs_ne (by decide)]
  have e4 : (sI J 122 dp 0) 100 4 = nI at' := by rw [zs_ne (by decide)]; exact h4
  have e34 : (sI J 122 dp 0) 100 34 = nI ak := by rw [zs_ne (by decide)]; exact h34
  have p0 : ¬ (5 : Int32) ≤ 0 := by decide
  have m1 : ¬ (5 : Int32) = -1 := by decide
  have bt : ((nI ak >>> (5 &&& 31)) &&& 1) = nI (ak / 2 ^ 5 % 2) := by
    have e1 : nI ak >>> ((5 : Int32) &&& 31) = nI (ak / 2 ^ 5) := pk_shrN (by omega) _ 5 (by decide)
    rw [e1]
    exact pk_andN (by have : ak / 2 ^ 5 ≤ ak := Nat.div_le_self _ _; omega) 1 (by decide)
  rw [if_neg (by omega)] at w5
  rw [if_neg (by omega)] at w13
  rw [if_neg (by omega)] at w14
  rw [if_neg (by omega)] at w24
  rw [if_pos hww] at w15
  have zb2 : ¬ nI (ak / 2 ^ 5 % 2) = 0 := by rw [hbit]; decide
  unfold f_X12_operand
  rcases isTest_M hfk with ⟨ht1, hx4⟩ | ⟨ht1, hx4⟩
  · by_cases cb : bg = 1
    · have zb1 : ¬ nI bg = 0 := nI_ne0 (by omega) (by omega)
      obtain ⟨q1, q2, q3⟩ := hno ⟨ht1, cb⟩
      rw [if_neg q1] at w20
      rw [if_neg q2] at s91
      rw [if_neg q3] at w21
      simp only [hlex, Option.bind_some, h8, if_pos z8, bnd, h40, ed, l120, hx4, jnt, if_neg n3, l122, if_neg zb1, w20, if_true, ib, td, nz01.1, s91, w21, s40, w22, w23, w17, if_true, if_neg e3, if_neg n3, w5, w13, w14, w24, w15, if_neg p0, e34, bt, if_neg zb2, if_neg m1, e8, if_pos z8, e6, hadd, ha, gz_1]
    · have zb1 : nI bg = 0 := by rw [show bg = 0 by omega]; rfl
      simp only [hlex, Option.bind_some, h8, if_pos z8, bnd, h40, ed, l120, hx4, jnt, if_neg n3, l122, if_pos zb1, if_true, ib, td, nz01.1, s40, w22, w23, w17, if_true, if_neg e3, if_neg n3, w5, w13, w14, w24, w15, if_neg p0, e34, bt, if_neg zb2, if_neg m1, e8, if_pos z8, e6, hadd, ha, gz_1]
  · simp only [hlex, Option.bind_some, h8, if_pos z8, bnd, h40, ed, l120, hx4, jnt, if_true, ib, td, nz01.1, s40, w22, w23, w17, if_true, if_neg e3, if_neg n3, w5, w13, w14, w24, w15, if_neg p0, e34, bt, if_neg zb2, if_neg m1, e8, if_pos z8, e6, hadd, ha, gz_1]
theorem oF15_Mx {c w ak at' : Nat} (h8 : J 100 8 = 0) (hlex : f_X12_lex J = some J) (h40 : J 100 40 = nI (dp + 1)) (hdp : dp < 12) (h120 : J 120 dp = nI fk) (hfk : fk < 10) (h122 : J 122 dp = nI bg) (hbg : bg ≤ 1) (hw : wdJ J M w) (hs : sgJ J c) (hno : tsF fk ∧ bg = 1 → w ≠ 20 ∧ c ≠ 91 ∧ w ≠ 21) (hc : c ≠ 40) (hww : w = 15) (h3 : ¬ J 100 3 = 2) (h4 : J 100 4 = nI at') (h34 : J 100 34 = nI ak) (hak : ak < 200) (hbit : ak / 2 ^ 5 % 2 = 0) : ∃ J', f_X12_operand fu J M = some (1, J', M) ∧ BadM (sI J 122 dp 0) J' 1 at' := by
  have n3 : ¬ (1 : Int32) = 0 := by decide
  have z8 : (0 : Int32) ≤ 0 := by decide
  have ed : nI (dp + 1) - 1 = nI dp := by rw [sub1, dec1]
  have l120 : ∀ k : Int32 → Option (Int32 × HI × HL), ldI (J 120) 20 (nI dp) k = k (nI fk) := fun k => by rw [ldI_ok (by omega), h120]
  have l122 : ∀ k : Int32 → Option (Int32 × HI × HL), ldI (J 122) 20 (nI dp) k = k (nI bg) := fun k => by rw [ldI_ok (by omega), h122]
  have ib : ∀ k : Option (Int32 × HI × HL), inb 20 (nI dp) k = k := fun k => by rw [inb_ok (by omega)]
  have td : (nI dp).toNatClampNeg = dp := nI_clamp (by omega)
  have hs5 := sgJ_at (sg_ext (J' := sI J 122 dp 0) hs (by rw [zs_ne (by decide)]) (by rw [zs_ne (by decide)]))
  have hw5 := wd_ext (J' := sI J 122 dp 0) hw (by rw [zs_ne (by decide)])
  obtain ⟨-, -, -, -, -, s40, s91⟩ := hs5
  have w20 := wl20 hw
  have w21 := wl21 hw5
  have w22 := wl22 hw5
  have w23 := wl23 hw5
  have w17 := wl17 hw5
  have w5 := wl5 hw5
  have w13 := wl13 hw5
  have w14 := wl14 hw5
  have w24 := wl24 hw5
  have w15 := wl15 hw5
  have w16 := wl16 hw5
  rw [if_neg hc] at s40
  rw [if_neg (by omega)] at w22 w23 w17
  have e3 : ¬ (sI J 122 dp 0) 100 3 = 2 := by rw [zs_ne (by decide)]; exact h3
  have e8 : (sI J 122 dp 0) 100 8 = 0 := by rw [zs_ne (by decide)]; exact h8
  have e6 : (sI J 122 dp 0) 100 6 = J 100 6 := by rw [zs_ne (by decide)]
  have e4 : (sI J 122 dp 0) 100 4 = nI at' := by rw [zs_ne (by decide)]; exact h4
  have e34 : (sI J 122 dp 0) 100 34 = nI ak := by rw [zs_ne (by decide)]; exact h34
  have p0 : ¬ (5 : Int32) ≤ 0 := by decide
  have m1 : ¬ (5 : Int32) = -1 := by decide
  have bt : ((nI ak >>> (5 &&& 31)) &&& 1) = nI (ak / 2 ^ 5 % 2) := by
    have e1 : nI ak >>> ((5 : Int32) &&& 31) = nI (ak / 2 ^ 5) := pk_shrN (by omega) _ 5 (by decide)
    rw [e1]
    exact pk_andN (by have : ak / 2 ^ 5 ≤ ak := Nat.div_le_self _ _; omega) 1 (by decide)
  rw [if_neg (by omega)] at w5
  rw [if_neg (by omega)] at w13
  rw [if_neg (by omega)] at w14
  rw [if_neg (by omega)] at w24
  rw [if_pos hww] at w15
  have zb2 : nI (ak / 2 ^ 5 % 2) = 0 := by rw [hbit]; rfl
  obtain ⟨J', q1, q2⟩ := blameS (J := sI J 122 dp 0) (f := 1) (pl := at') e8
  have q1' : f_X12_blame (sI J 122 dp 0) 1 (nI at') = some J' := q1
  have zb : ¬ J' 100 8 ≤ 0 := by rw [q2.2.1]; decide
  refine ⟨J', ?_, q2⟩
  unfold f_X12_operand
  rcases isTest_M hfk with ⟨ht1, hx4⟩ | ⟨ht1, hx4⟩
  · by_cases cb : bg = 1
    · have zb1 : ¬ nI bg = 0 := nI_ne0 (by omega) (by omega)
      obtain ⟨q1, q2, q3⟩ := hno ⟨ht1, cb⟩
      rw [if_neg q1] at w20
      rw [if_neg q2] at s91
      rw [if_neg q3] at w21
      simp only [hlex, Option.bind_some, h8, if_pos z8, bnd, h40, ed, l120, hx4, jnt, if_neg n3, l122, if_neg zb1, w20, if_true, ib, td, nz01.1, s91, w21, s40, w22, w23, w17, if_true, if_neg e3, if_neg n3, w5, w13, w14, w24, w15, if_neg p0, e34, bt, if_pos zb2, e4, q1', if_neg zb, gz_1]
    · have zb1 : nI bg = 0 := by rw [show bg = 0 by omega]; rfl
      simp only [hlex, Option.bind_some, h8, if_pos z8, bnd, h40, ed, l120, hx4, jnt, if_neg n3, l122, if_pos zb1, if_true, ib, td, nz01.1, s40, w22, w23, w17, if_true, if_neg e3, if_neg n3, w5, w13, w14, w24, w15, if_neg p0, e34, bt, if_pos zb2, e4, q1', if_neg zb, gz_1]
  · simp only [hlex, Option.bind_some, h8, if_pos z8, bnd, h40, ed, l120, hx4, jnt, if_true, ib, td, nz01.1, s40, w22, w23, w17, if_true, if_neg e3, if_neg n3, w5, w13, w14, w24, w15, if_neg p0, e34, bt, if_pos zb2, e4, q1', if_neg zb, gz_1]
theorem oF16_M {c w ak at' : Nat} {J1 J3 : HI} {M3 : HL} (h8 : J 100 8 = 0) (hlex : f_X12_lex J = some J) (h40 : J 100 40 = nI (dp + 1)) (hdp : dp < 12) (h120 : J 120 dp = nI fk) (hfk : fk < 10) (h122 : J 122 dp = nI bg) (hbg : bg ≤ 1) (hw : wdJ J M w) (hs : sgJ J c) (hno : tsF fk ∧ bg = 1 → w ≠ 20 ∧ c ≠ 91 ∧ w ≠ 21) (hc : c ≠ 40) (hww : w = 16) (h3 : ¬ J 100 3 = 2) (h4 : J 100 4 = nI at') (h34 : J 100 34 = nI ak) (hak : ak < 200) (hbit : ak / 2 ^ 6 % 2 = 1) (hadd : f_X12_add (sI J 122 dp 0) 6 (J 100 6) = some J1) (ha : f_X12_ahead fu J1 M = some (J3, M3)) : f_X12_operand fu J M = some (1, J3, M3) := by
  have n3 : ¬ (1 : Int32) = 0 := by decide
  have z8 : (0 : Int32) ≤ 0 := by decide
  have ed : nI (dp + 1) - 1 = nI dp := by rw [sub1, dec1]
  have l120 : ∀ k : Int32 → Option (Int32 × HI × HL), ldI (J 120) 20 (nI dp) k = k (nI fk) := fun k => by rw [ldI_ok (by omega), h120]
  have l122 : ∀ k : Int32 → Option (Int32 × HI × HL), ldI (J 122) 20 (nI dp) k = k (nI bg) := fun k => by rw [ldI_ok (by omega), h122]
  have ib : ∀ k : Option (Int32 × HI × HL), inb 20 (nI dp) k = k := fun k => by rw [inb_ok (by omega)]
  have td : (nI dp).toNatClampNeg = dp := nI_clamp (by omega)
  have hs5 := sgJ_at (sg_ext (J' := sI J 122 dp 0) hs (by rw [zs_ne (by decide)]) (by rw [zs_ne (by decide)]))
  have hw5 := wd_ext (J' := sI J 122 dp 0) hw (by rw [zs_ne (by decide)])
  obtain ⟨-, -, -, -, -, s40, s91⟩ := hs5
  have w20 := wl20 hw
  have w21 := wl21 hw5
  have w22 := wl22 hw5
  have w23 := wl23 hw5
  have w17 := wl17 hw5
  have w5 := wl5 hw5
  have w13 := wl13 hw5
  have w14 := wl14 hw5
  have w24 := wl24 hw5
  have w15 := wl15 hw5
  have w16 := wl16 hw5
  rw [if_neg hc] at s40
  rw [if_neg (by omega)] at w22 w23 w17
  have e3 : ¬ (sI J 122 dp 0) 100 3 = 2 := by rw [zs_ne (by decide)]; exact h3
  have e8 : (sI J 122 dp 0) 100 8 = 0 := by rw [zs_ne (by decide)]; exact h8
  have e6 : (sI J 122 dp 0) 100 6 = J 100 6 := by rw [zs_ne (by decide)]
  have e4 : (sI J 122 dp 0) 100 4 = nI at' := by rw [zs_ne (by decide)]; exact h4
  have e34 : (sI J 122 dp 0) 100 34 = nI ak := by rw [zs_ne (by decide)]; exact h34
  have p0 : ¬ (6 : Int32) ≤ 0 := by decide
  have m1 : ¬ (6 : Int32) = -1 := by decide
  have bt : ((nI ak >>> (6 &&& 31)) &&& 1) = nI (ak / 2 ^ 6 % 2) := by
    have e1 : nI ak >>> ((6 : Int32) &&& 31) = nI (ak / 2 ^ 6) := pk_shrN (by omega) _ 6 (by decide)
    rw [e1]
    exact pk_andN (by have : ak / 2 ^ 6 ≤ ak := Nat.div_le_self _ _; omega) 1 (by decide)
  rw [if_neg (by omega)] at w5
  rw [if_neg (by omega)] at w13
  rw [if_neg (by omega)] at w14
  rw [if_neg (by omega)] at w24
  rw [if_neg (by omega)] at w15
  rw [if_pos hww] at w16
  have zb2 : ¬ nI (ak / 2 ^ 6 % 2) = 0 := by rw [hbit]; decide
  unfold f_X12_operand
  rcases isTest_M hfk with ⟨ht1, hx4⟩ | ⟨ht1, hx4⟩
  · by_cases cb : bg = 1
    · have zb1 : ¬ nI bg = 0 := nI_ne0 (by omega) (by omega)
      obtain ⟨q1, q2, q3⟩ := hno ⟨ht1, cb⟩
      rw [if_neg q1] at w20
      rw [if_neg q2] at s91
      rw [if_neg q3] at w21
      simp only [hlex, Option.bind_some, h8, if_pos z8, bnd, h40, ed, l120, hx4, jnt, if_neg n3, l122, if_neg zb1, w20, if_true, ib, td, nz01.1, s91, w21, s40, w22, w23, w17, if_true, if_neg e3, if_neg n3, w5, w13, w14, w24, w15, w16, if_neg p0, e34, bt, if_neg zb2, if_neg m1, e8, if_pos z8, e6, hadd, ha, gz_1]
    · have zb1 : nI bg = 0 := by rw [show bg = 0 by omega]; rfl
      simp only [hlex, Option.bind_some, h8, if_pos z8, bnd, h40, ed, l120, hx4, jnt, if_neg n3, l122, if_pos zb1, if_true, ib, td, nz01.1, s40, w22, w23, w17, if_true, if_neg e3, if_neg n3, w5, w13, w14, w24, w15, w16, if_neg p0, e34, bt, if_neg zb2, if_neg m1, e8, if_pos z8, e6, hadd, ha, gz_1]
  · simp only [hlex, Option.bind_some, h8, if_pos z8, bnd, h40, ed, l120, hx4, jnt, if_true, ib, td, nz01.1, s40, w22, w23, w17, if_true, if_neg e3, if_neg n3, w5, w13, w14, w24, w15, w16, if_neg p0, e34, bt, if_neg zb2, if_neg m1, e8, if_pos z8, e6, hadd, ha, gz_1]
theorem oF16_Mx {c w ak at' : Nat} (h8 : J 100 8 = 0) (hlex : f_X12_lex J = some J) (h40 : J 100 40 = nI (dp + 1)) (hdp : dp < 12) (h120 : J 120 dp = nI fk) (hfk : fk < 10) (h122 : J 122 dp = nI bg) (hbg : bg ≤ 1) (hw : wdJ J M w) (hs : sgJ J c) (hno : tsF fk ∧ bg = 1 → w ≠ 20 ∧ c ≠ 91 ∧ w ≠ 21) (hc : c ≠ 40) (hww : w = 16) (h3 : ¬ J 100 3 = 2) (h4 : J 100 4 = nI at') (h34 : J 100 34 = nI ak) (hak : ak < 200) (hbit : ak / 2 ^ 6 % 2 = 0) : ∃ J', f_X12_operand fu J M = some (1, J', M) ∧ BadM (sI J 122 dp 0) J' 1 at' := by
  have n3 : ¬ (1 : Int32) = 0 := by decide
  have z8 : (0 : Int32) ≤ 0 := by decide
  have ed : nI (dp + 1) - 1 = nI dp := by rw [sub1, dec1]
  have l120 : ∀ k : Int32 → Option (Int32 × HI × HL), ldI (J 120) 20 (nI dp) k = k (nI fk) := fun k => by rw [ldI_ok (by omega), h120]
  have l122 : ∀ k : Int32 → Option (Int32 × HI × HL), ldI (J 122) 20 (nI dp) k = k (nI bg) := fun k => by rw [ldI_ok (by omega), h122]
  have ib : ∀ k : Option (Int32 × HI × HL), inb 20 (nI dp) k = k := fun k => by rw [inb_ok (by omega)]
  have td : (nI dp).toNatClampNeg = dp := nI_clamp (by omega)
  have hs5 := sgJ_at (sg_ext (J' := sI J 122 dp 0) hs (by rw [zs_ne (by decide)]) (by rw [zs_ne (by decide)]))
  have hw5 := wd_ext (J' := sI J 122 dp 0) hw (by rw [zs_ne (by decide)])
  obtain ⟨-, -, -, -, -, s40, s91⟩ := hs5
  have w20 := wl20 hw
  have w21 := wl21 hw5
  have w22 := wl22 hw5
  have w23 := wl23 hw5
  have w17 := wl17 hw5
  have w5 := wl5 hw5
  have w13 := wl13 hw5
  have w14 := wl14 hw5
  have w24 := wl24 hw5
  have w15 := wl15 hw5
  have w16 := wl16 hw5
  rw [if_neg hc] at s40
  rw [if_neg (by omega)] at w22 w23 w17
  have e3 : ¬ (sI J 122 dp 0) 100 3 = 2 := by rw [zs_ne (by decide)]; exact h3
  have e8 : (sI J 122 dp 0) 100 8 = 0 := by rw [zs_ne (by decide)]; exact h8
  have e6 : (sI J 122 dp 0) 100 6 = J 100 6 := by rw [zs_ne (by decide)]
  have e4 : (sI J 122 dp 0) 100 4 = nI at' := by rw [zs_ne (by decide)]; exact h4
  have e34 : (sI J 122 dp 0) 100 34 = nI ak := by rw [zs_ne (by decide)]; exact h34
  have p0 : ¬ (6 : Int32) ≤ 0 := by decide
  have m1 : ¬ (6 : Int32) = -1 := by decide
  have bt : ((nI ak >>> (6 &&& 31)) &&& 1) = nI (ak / 2 ^ 6 % 2) := by
    have e1 : nI ak >>> ((6 : Int32) &&& 31) = nI (ak / 2 ^ 6) := pk_shrN (by omega) _ 6 (by decide)
    rw [e1]
    exact pk_andN (by have : ak / 2 ^ 6 ≤ ak := Nat.div_le_self _ _; omega) 1 (by decide)
  rw [if_neg (by omega)] at w5
  rw [if_neg (by omega)] at w13
  rw [if_neg (by omega)] at w14
  rw [if_neg (by omega)] at w24
  rw [if_neg (by omega)] at w15
  rw [if_pos hww] at w16
  have zb2 : nI (ak / 2 ^ 6 % 2) = 0 := by rw [hbit]; rfl
  obtain ⟨J', q1, q2⟩ := blameS (J := sI J 122 dp 0) (f := 1) (pl := at') e8
  have q1' : f_X12_blame (sI J 122 dp 0) 1 (nI at') = some J' := q1
  have zb : ¬ J' 100 8 ≤ 0 := by rw [q2.2.1]; decide
  refine ⟨J', ?_, q2⟩
  unfold f_X12_operand
  rcases isTest_M hfk with ⟨ht1, hx4⟩ | ⟨ht1, hx4⟩
  · by_cases cb : bg = 1
    · have zb1 : ¬ nI bg = 0 := nI_ne0 (by omega) (by omega)
      obtain ⟨q1, q2, q3⟩ := hno ⟨ht1, cb⟩
      rw [if_neg q1] at w20
      rw [if_neg q2] at s91
      rw [if_neg q3] at w21
      simp only [hlex, Option.bind_some, h8, if_pos z8, bnd, h40, ed, l120, hx4, jnt, if_neg n3, l122, if_neg zb1, w20, if_true, ib, td, nz01.1, s91, w21, s40, w22, w23, w17, if_true, if_neg e3, if_neg n3, w5, w13, w14, w24, w15, w16, if_neg p0, e34, bt, if_pos zb2, e4, q1', if_neg zb, gz_1]
    · have zb1 : nI bg = 0 := by rw [show bg = 0 by omega]; rfl
      simp only [hlex, Option.bind_some, h8, if_pos z8, bnd, h40, ed, l120, hx4, jnt, if_neg n3, l122, if_pos zb1, if_true, ib, td, nz01.1, s40, w22, w23, w17, if_true, if_neg e3, if_neg n3, w5, w13, w14, w24, w15, w16, if_neg p0, e34, bt, if_pos zb2, e4, q1', if_neg zb, gz_1]
  · simp only [hlex, Option.bind_some, h8, if_pos z8, bnd, h40, ed, l120, hx4, jnt, if_true, ib, td, nz01.1, s40, w22, w23, w17, if_true, if_neg e3, if_neg n3, w5, w13, w14, w24, w15, w16, if_neg p0, e34, bt, if_pos zb2, e4, q1', if_neg zb, gz_1]
theorem oX_M {c w at' : Nat} (h8 : J 100 8 = 0) (hlex : f_X12_lex J = some J) (h40 : J 100 40 = nI (dp + 1)) (hdp : dp < 12) (h120 : J 120 dp = nI fk) (hfk : fk < 10) (h122 : J 122 dp = nI bg) (hbg : bg ≤ 1) (hw : wdJ J M w) (hs : sgJ J c) (hno : tsF fk ∧ bg = 1 → w ≠ 20 ∧ c ≠ 91 ∧ w ≠ 21) (hc : c ≠ 40) (hww : w ≠ 22 ∧ w ≠ 23 ∧ w ≠ 17 ∧ w ≠ 5 ∧ w ≠ 13 ∧ w ≠ 14 ∧ w ≠ 24 ∧ w ≠ 15 ∧ w ≠ 16) (h3 : ¬ J 100 3 = 2) (h4 : J 100 4 = nI at') : ∃ J', f_X12_operand fu J M = some (1, J', M) ∧ BadM (sI J 122 dp 0) J' 1 at' := by
  have n3 : ¬ (1 : Int32) = 0 := by decide
  have z8 : (0 : Int32) ≤ 0 := by decide
  have ed : nI (dp + 1) - 1 = nI dp := by rw [sub1, dec1]
  have l120 : ∀ k : Int32 → Option (Int32 × HI × HL), ldI (J 120) 20 (nI dp) k = k (nI fk) := fun k => by rw [ldI_ok (by omega), h120]
  have l122 : ∀ k : Int32 → Option (Int32 × HI × HL), ldI (J 122) 20 (nI dp) k = k (nI bg) := fun k => by rw [ldI_ok (by omega), h122]
  have ib : ∀ k : Option (Int32 × HI × HL), inb 20 (nI dp) k = k := fun k => by rw [inb_ok (by omega)]
  have td : (nI dp).toNatClampNeg = dp := nI_clamp (by omega)
  have hs5 := sgJ_at (sg_ext (J' := sI J 122 dp 0) hs (by rw [zs_ne (by decide)]) (by rw [zs_ne (by decide)]))
  have hw5 := wd_ext (J' := sI J 122 dp 0) hw (by rw [zs_ne (by decide)])
  obtain ⟨-, -, -, -, -, s40, s91⟩ := hs5
  have w20 := wl20 hw
  have w21 := wl21 hw5
  have w22 := wl22 hw5
  have w23 := wl23 hw5
  have w17 := wl17 hw5
  have w5 := wl5 hw5
  have w13 := wl13 hw5
  have w14 := wl14 hw5
  have w24 := wl24 hw5
  have w15 := wl15 hw5
  have w16 := wl16 hw5
  rw [if_neg hc] at s40
  rw [if_neg hww.1] at w22
  rw [if_neg hww.2.1] at w23
  rw [if_neg hww.2.2.1] at w17
  rw [if_neg hww.2.2.2.1] at w5
  rw [if_neg hww.2.2.2.2.1] at w13
  rw [if_neg hww.2.2.2.2.2.1] at w14
  rw [if_neg hww.2.2.2.2.2.2.1] at w24
  rw [if_neg hww.2.2.2.2.2.2.2.1] at w15
  rw [if_neg hww.2.2.2.2.2.2.2.2] at w16
  have e3 : ¬ (sI J 122 dp 0) 100 3 = 2 := by rw [zs_ne (by decide)]; exact h3
  have e8 : (sI J 122 dp 0) 100 8 = 0 := by rw [zs_ne (by decide)]; exact h8
  have e4 : (sI J 122 dp 0) 100 4 = nI at' := by rw [zs_ne (by decide)]; exact h4
  obtain ⟨J', q1, q2⟩ := blameS (J := sI J 122 dp 0) (f := 1) (pl := at') e8
  have q1' : f_X12_blame (sI J 122 dp 0) 1 (nI at') = some J' := q1
  have zb : ¬ J' 100 8 ≤ 0 := by rw [q2.2.1]; decide
  have p0 : (-1 : Int32) ≤ 0 := by decide
  refine ⟨J', ?_, q2⟩
  unfold f_X12_operand
  rcases isTest_M hfk with ⟨ht1, hx4⟩ | ⟨ht1, hx4⟩
  · by_cases cb : bg = 1
    · have zb1 : ¬ nI bg = 0 := nI_ne0 (by omega) (by omega)
      obtain ⟨q1, q2, q3⟩ := hno ⟨ht1, cb⟩
      rw [if_neg q1] at w20
      rw [if_neg q2] at s91
      rw [if_neg q3] at w21
      simp only [hlex, Option.bind_some, h8, if_pos z8, bnd, h40, ed, l120, hx4, jnt, if_neg n3, l122, if_neg zb1, w20, if_true, ib, td, nz01.1, s91, w21, s40, w22, w23, w17, if_true, if_neg e3, w5, w13, w14, w24, w15, w16, if_pos p0, e4, q1', if_neg zb, gz_1]
    · have zb1 : nI bg = 0 := by rw [show bg = 0 by omega]; rfl
      simp only [hlex, Option.bind_some, h8, if_pos z8, bnd, h40, ed, l120, hx4, jnt, if_neg n3, l122, if_pos zb1, if_true, ib, td, nz01.1, s40, w22, w23, w17, if_true, if_neg e3, w5, w13, w14, w24, w15, w16, if_pos p0, e4, q1', if_neg zb, gz_1]
  · simp only [hlex, Option.bind_some, h8, if_pos z8, bnd, h40, ed, l120, hx4, jnt, if_true, ib, td, nz01.1, s40, w22, w23, w17, if_true, if_neg e3, w5, w13, w14, w24, w15, w16, if_pos p0, e4, q1', if_neg zb, gz_1]
end
theorem oL_M {fu pl : Nat} {J J' : HI} {M : HL} (hl : f_X12_lex J = some J') (hb : BadM J J' 1 pl) : f_X12_operand fu J M = some (1, J', M) := by
  have z : ¬ J' 100 8 ≤ 0 := by rw [hb.2.1]; decide
  unfold f_X12_operand
  simp only [hl, Option.bind_some, if_neg z, gz_1]
