/-! the rules' reader: the reference goes on, commas and ends -/
section
variable {fu dp ph : Nat} {J J1 J3 : HI} {M M3 : HL}
theorem goE0_M {c : Nat} (h8 : J 100 8 = 0) (hlex : f_X12_lex J = some J) (h40 : J 100 40 = nI (dp + 1)) (hdp : dp < 12) (h120 : J 120 dp = nI 0) (h121 : J 121 dp = nI ph) (hph : ph ≤ 2) (hs : sgJ J c) (hA : ph < 2 → noA c) (hj : f_X12_joins fu J 1 = some J1) : f_X12_goesOn fu J M = some (0, J1, M) := by
  have n3 : ¬ (1 : Int32) = 0 := by decide
  have z8 : (0 : Int32) ≤ 0 := by decide
  have ed : nI (dp + 1) - 1 = nI dp := by rw [sub1, dec1]
  have l120 : ∀ k : Int32 → Option (Int32 × HI × HL), ldI (J 120) 20 (nI dp) k = k (nI 0) := fun k => by rw [ldI_ok (by omega), h120]
  have l121 : ∀ k : Int32 → Option (Int32 × HI × HL), ldI (J 121) 20 (nI dp) k = k (nI ph) := fun k => by rw [ldI_ok (by omega), h121]
  have hx4 : f_X12_isTest (nI 0) = some 0 := by decide
  have ib : ∀ k : Option (Int32 × HI × HL), inb 20 (nI dp) k = k := fun k => by rw [inb_ok (by omega)]
  have td : (nI dp).toNatClampNeg = dp := nI_clamp (by omega)
  have g2 : ¬ (2 : Int32) ≤ nI 0 := by decide
  have g3 : ¬ nI 0 = 3 := by decide
  have g4 : ¬ nI 0 = 4 := by decide
  have g5 : ¬ nI 0 = 5 := by decide
  have g6 : ¬ nI 0 = 6 := by decide
  unfold f_X12_goesOn
  simp only [hlex, Option.bind_some, h8, if_pos z8, bnd, h40, ed, l120, hx4, l121, jnt]
  refine go0_M hs hA hph (fun _ => _) (X := fun _ => _) ?_
  simp only [if_true, Option.bind_some, if_neg g2, h8, hj, gz_0]
theorem goE1_M {c w : Nat} (h8 : J 100 8 = 0) (hlex : f_X12_lex J = some J) (h40 : J 100 40 = nI (dp + 1)) (hdp : dp < 12) (h120 : J 120 dp = nI 1) (h121 : J 121 dp = nI ph) (hph : 1 ≤ ph ∧ ph ≤ 2) (hs : sgJ J c) (hA : ph < 2 → noA c) (hw : wdJ J M w) (hww : w ≠ 19 ∧ w ≠ 18) (hj : f_X12_joins fu J 1 = some J1) : f_X12_goesOn fu J M = some (0, J1, M) := by
  have n3 : ¬ (1 : Int32) = 0 := by decide
  have z8 : (0 : Int32) ≤ 0 := by decide
  have ed : nI (dp + 1) - 1 = nI dp := by rw [sub1, dec1]
  have l120 : ∀ k : Int32 → Option (Int32 × HI × HL), ldI (J 120) 20 (nI dp) k = k (nI 1) := fun k => by rw [ldI_ok (by omega), h120]
  have l121 : ∀ k : Int32 → Option (Int32 × HI × HL), ldI (J 121) 20 (nI dp) k = k (nI ph) := fun k => by rw [ldI_ok (by omega), h121]
  have hx4 : f_X12_isTest (nI 1) = some 1 := by decide
  have ib : ∀ k : Option (Int32 × HI × HL), inb 20 (nI dp) k = k := fun k => by rw [inb_ok (by omega)]
  have td : (nI dp).toNatClampNeg = dp := nI_clamp (by omega)
  have g2 : ¬ (2 : Int32) ≤ nI 1 := by decide
  have g3 : ¬ nI 1 = 3 := by decide
  have g4 : ¬ nI 1 = 4 := by decide
  have g5 : ¬ nI 1 = 5 := by decide
  have g6 : ¬ nI 1 = 6 := by decide
  have p0 : ¬ nI ph = 0 := nI_ne0 (by omega) (by omega)
  have w19 := wl19 hw
  have w18 := wl18 hw
  rw [if_neg hww.1] at w19
  rw [if_neg hww.2] at w18
  unfold f_X12_goesOn
  simp only [hlex, Option.bind_some, h8, if_pos z8, bnd, h40, ed, l120, hx4, l121, jnt]
  refine go0_M hs hA hph.2 (fun _ => _) (X := fun _ => _) ?_
  simp only [if_neg n3, if_neg p0, w19, w18, if_true, Option.bind_some, if_neg g2, h8, hj, gz_0]
theorem goK3_M {c : Nat} (h8 : J 100 8 = 0) (hlex : f_X12_lex J = some J) (h40 : J 100 40 = nI (dp + 1)) (hdp : dp < 12) (h120 : J 120 dp = nI 3) (h121 : J 121 dp = nI ph) (hph : ph ≤ 2) (hs : sgJ J c) (hA : ph < 2 → noA c) (hc : c = 44) (hj : f_X12_joins fu J 1 = some J1) (ha : f_X12_ahead fu (sI (sI J1 120 dp (nI 4)) 121 dp 0) M = some (J3, M3)) : f_X12_goesOn fu J M = some (1, sI J3 100 44 0, M3) := by
  have n3 : ¬ (1 : Int32) = 0 := by decide
  have z8 : (0 : Int32) ≤ 0 := by decide
  have ed : nI (dp + 1) - 1 = nI dp := by rw [sub1, dec1]
  have l120 : ∀ k : Int32 → Option (Int32 × HI × HL), ldI (J 120) 20 (nI dp) k = k (nI 3) := fun k => by rw [ldI_ok (by omega), h120]
  have l121 : ∀ k : Int32 → Option (Int32 × HI × HL), ldI (J 121) 20 (nI dp) k = k (nI ph) := fun k => by rw [ldI_ok (by omega), h121]
  have hx4 : f_X12_isTest (nI 3) = some 0 := by decide
  have ib : ∀ k : Option (Int32 × HI × HL), inb 20 (nI dp) k = k := fun k => by rw [inb_ok (by omega)]
  have td : (nI dp).toNatClampNeg = dp := nI_clamp (by omega)
  have g2 :  (2 : Int32) ≤ nI 3 := by decide
  have g3 :  nI 3 = 3 := by decide
  have g4 : ¬ nI 3 = 4 := by decide
  have g5 : ¬ nI 3 = 5 := by decide
  have g6 : ¬ nI 3 = 6 := by decide
  have r44 := (sgJ_at hs).2.2.1
  rw [if_pos hc] at r44
  have ha' : f_X12_ahead fu (sI (sI J1 120 dp 4) 121 dp 0) M = some (J3, M3) := ha
  unfold f_X12_goesOn
  simp only [hlex, Option.bind_some, h8, if_pos z8, bnd, h40, ed, l120, hx4, l121, jnt]
  refine go0_M hs hA hph (fun _ => _) (X := fun _ => _) ?_
  simp only [if_true, Option.bind_some, if_pos g2, if_pos g3, if_neg n3, r44, h8, if_pos z8, hj, ib, td, ha', gz_0, gz_1]
theorem goK6_M {c w : Nat} (h8 : J 100 8 = 0) (hlex : f_X12_lex J = some J) (h40 : J 100 40 = nI (dp + 1)) (hdp : dp < 12) (h120 : J 120 dp = nI 6) (h121 : J 121 dp = nI ph) (hph : 1 ≤ ph ∧ ph ≤ 2) (hs : sgJ J c) (hA : ph < 2 → noA c) (hw : wdJ J M w) (hww : w ≠ 19 ∧ w ≠ 18) (hc : c = 44) (hj : f_X12_joins fu J 1 = some J1) (ha : f_X12_ahead fu (sI (sI J1 120 dp (nI 3)) 121 dp 0) M = some (J3, M3)) : f_X12_goesOn fu J M = some (1, sI J3 100 44 0, M3) := by
  have n3 : ¬ (1 : Int32) = 0 := by decide
  have z8 : (0 : Int32) ≤ 0 := by decide
  have ed : nI (dp + 1) - 1 = nI dp := by rw [sub1, dec1]
  have l120 : ∀ k : Int32 → Option (Int32 × HI × HL), ldI (J 120) 20 (nI dp) k = k (nI 6) := fun k => by rw [ldI_ok (by omega), h120]
  have l121 : ∀ k : Int32 → Option (Int32 × HI × HL), ldI (J 121) 20 (nI dp) k = k (nI ph) := fun k => by rw [ldI_ok (by omega), h121]
  have hx4 : f_X12_isTest (nI 6) = some 1 := by decide
  have ib : ∀ k : Option (Int32 × HI × HL), inb 20 (nI dp) k = k := fun k => by rw [inb_ok (by omega)]
  have td : (nI dp).toNatClampNeg = dp := nI_clamp (by omega)
  have g2 :  (2 : Int32) ≤ nI 6 := by decide
  have g3 : ¬ nI 6 = 3 := by decide
  have g4 : ¬ nI 6 = 4 := by decide
  have g5 : ¬ nI 6 = 5 := by decide
  have g6 :  nI 6 = 6 := by decide
  have p0 : ¬ nI ph = 0 := nI_ne0 (by omega) (by omega)
  have w19 := wl19 hw
  have w18 := wl18 hw
  rw [if_neg hww.1] at w19
  rw [if_neg hww.2] at w18
  have r44 := (sgJ_at hs).2.2.1
  rw [if_pos hc] at r44
  have ha' : f_X12_ahead fu (sI (sI J1 120 dp 3) 121 dp 0) M = some (J3, M3) := ha
  unfold f_X12_goesOn
  simp only [hlex, Option.bind_some, h8, if_pos z8, bnd, h40, ed, l120, hx4, l121, jnt]
  refine go0_M hs hA hph.2 (fun _ => _) (X := fun _ => _) ?_
  simp only [if_neg n3, if_neg p0, w19, w18, if_true, Option.bind_some, if_pos g2, if_neg g3, if_pos g6, if_neg n3, r44, h8, if_pos z8, hj, ib, td, ha', gz_0, gz_1]
theorem goX2_M {c : Nat} {op : Nat} {v : Int32} {J2 : HI} (h8 : J 100 8 = 0) (hlex : f_X12_lex J = some J) (h40 : J 100 40 = nI (dp + 1)) (hdp : dp < 12) (h120 : J 120 dp = nI 2) (h121 : J 121 dp = nI ph) (hph : ph ≤ 2) (hs : sgJ J c) (hA : ph < 2 → noA c) (hc : c = 41) (hj : f_X12_joins fu J 1 = some J1) (j40 : J1 100 40 = nI (dp + 1)) (j41 : J1 100 41 = nI (op + 1)) (ha : f_X12_ahead fu (sI (sI J1 100 40 (nI dp)) 100 41 (nI op)) M = some (J3, M3)) : f_X12_goesOn fu J M = some (1, J3, M3) := by
  have n3 : ¬ (1 : Int32) = 0 := by decide
  have z8 : (0 : Int32) ≤ 0 := by decide
  have ed : nI (dp + 1) - 1 = nI dp := by rw [sub1, dec1]
  have l120 : ∀ k : Int32 → Option (Int32 × HI × HL), ldI (J 120) 20 (nI dp) k = k (nI 2) := fun k => by rw [ldI_ok (by omega), h120]
  have l121 : ∀ k : Int32 → Option (Int32 × HI × HL), ldI (J 121) 20 (nI dp) k = k (nI ph) := fun k => by rw [ldI_ok (by omega), h121]
  have hx4 : f_X12_isTest (nI 2) = some 0 := by decide
  have ib : ∀ k : Option (Int32 × HI × HL), inb 20 (nI dp) k = k := fun k => by rw [inb_ok (by omega)]
  have td : (nI dp).toNatClampNeg = dp := nI_clamp (by omega)
  have g2 :  (2 : Int32) ≤ nI 2 := by decide
  have g3 : ¬ nI 2 = 3 := by decide
  have g4 : ¬ nI 2 = 4 := by decide
  have g5 : ¬ nI 2 = 5 := by decide
  have g6 : ¬ nI 2 = 6 := by decide
  have rr := (sgJ_at hs).2.2.2.1
  rw [if_pos hc] at rr
  have e40 : J1 100 40 - 1 = nI dp := by rw [j40]; exact ed
  have e41 : (sI J1 100 40 (nI dp)) 100 41 - 1 = nI op := by rw [zs_eq, zs_other (by decide), j41, sub1, dec1]
  unfold f_X12_goesOn
  simp only [hlex, Option.bind_some, h8, if_pos z8, bnd, h40, ed, l120, hx4, l121, jnt]
  refine go0_M hs hA hph (fun _ => _) (X := fun _ => _) ?_
  simp only [if_true, Option.bind_some, if_pos g2, if_neg g3, if_neg g6, if_neg g5, if_neg g4, if_neg n3, rr, h8, if_pos z8, hj, e40, e41, ha, gz_1]
theorem goX4_M {c : Nat} {op : Nat} {v : Int32} {J2 : HI} (h8 : J 100 8 = 0) (hlex : f_X12_lex J = some J) (h40 : J 100 40 = nI (dp + 1)) (hdp : dp < 12) (h120 : J 120 dp = nI 4) (h121 : J 121 dp = nI ph) (hph : ph ≤ 2) (hs : sgJ J c) (hA : ph < 2 → noA c) (hc : c = 41) (hj : f_X12_joins fu J 1 = some J1) (j40 : J1 100 40 = nI (dp + 1)) (j41 : J1 100 41 = nI (op + 1)) (j123 : J1 123 dp = v) (hadd : f_X12_add (sI (sI J1 100 40 (nI dp)) 100 41 (nI op)) v 0 = some J2) (ha : f_X12_ahead fu J2 M = some (J3, M3)) : f_X12_goesOn fu J M = some (1, J3, M3) := by
  have n3 : ¬ (1 : Int32) = 0 := by decide
  have z8 : (0 : Int32) ≤ 0 := by decide
  have ed : nI (dp + 1) - 1 = nI dp := by rw [sub1, dec1]
  have l120 : ∀ k : Int32 → Option (Int32 × HI × HL), ldI (J 120) 20 (nI dp) k = k (nI 4) := fun k => by rw [ldI_ok (by omega), h120]
  have l121 : ∀ k : Int32 → Option (Int32 × HI × HL), ldI (J 121) 20 (nI dp) k = k (nI ph) := fun k => by rw [ldI_ok (by omega), h121]
  have hx4 : f_X12_isTest (nI 4) = some 0 := by decide
  have ib : ∀ k : Option (Int32 × HI × HL), inb 20 (nI dp) k = k := fun k => by rw [inb_ok (by omega)]
  have td : (nI dp).toNatClampNeg = dp := nI_clamp (by omega)
  have g2 :  (2 : Int32) ≤ nI 4 := by decide
  have g3 : ¬ nI 4 = 3 := by decide
  have g4 :  nI 4 = 4 := by decide
  have g5 : ¬ nI 4 = 5 := by decide
  have g6 : ¬ nI 4 = 6 := by decide
  have rr := (sgJ_at hs).2.2.2.1
  rw [if_pos hc] at rr
  have e40 : J1 100 40 - 1 = nI dp := by rw [j40]; exact ed
  have e41 : (sI J1 100 40 (nI dp)) 100 41 - 1 = nI op := by rw [zs_eq, zs_other (by decide), j41, sub1, dec1]
  have l123 : ∀ k : Int32 → Option (Int32 × HI × HL), ldI ((sI (sI J1 100 40 (nI dp)) 100 41 (nI op)) 123) 20 (nI dp) k = k v := fun k => by rw [ldI_ok (by omega), zs_ne (by decide), zs_ne (by decide), j123]
  unfold f_X12_goesOn
  simp only [hlex, Option.bind_some, h8, if_pos z8, bnd, h40, ed, l120, hx4, l121, jnt]
  refine go0_M hs hA hph (fun _ => _) (X := fun _ => _) ?_
  simp only [if_true, Option.bind_some, if_pos g2, if_neg g3, if_neg g6, if_neg g5, if_pos g4, if_neg n3, rr, h8, if_pos z8, hj, e40, e41, l123, hadd, Option.bind_some, ha, gz_1]
theorem goX5_M {c w : Nat} {op : Nat} {v : Int32} {J2 : HI} (h8 : J 100 8 = 0) (hlex : f_X12_lex J = some J) (h40 : J 100 40 = nI (dp + 1)) (hdp : dp < 12) (h120 : J 120 dp = nI 5) (h121 : J 121 dp = nI ph) (hph : 1 ≤ ph ∧ ph ≤ 2) (hs : sgJ J c) (hA : ph < 2 → noA c) (hw : wdJ J M w) (hww : w ≠ 19 ∧ w ≠ 18) (hc : c = 93) (hj : f_X12_joins fu J 1 = some J1) (j40 : J1 100 40 = nI (dp + 1)) (j41 : J1 100 41 = nI (op + 1)) (hd1 : 1 ≤ dp) (ha : f_X12_ahead fu (sI (sI (sI J1 100 40 (nI dp)) 100 41 (nI op)) 121 (dp - 1) 2) M = some (J3, M3)) : f_X12_goesOn fu J M = some (1, J3, M3) := by
  have n3 : ¬ (1 : Int32) = 0 := by decide
  have z8 : (0 : Int32) ≤ 0 := by decide
  have ed : nI (dp + 1) - 1 = nI dp := by rw [sub1, dec1]
  have l120 : ∀ k : Int32 → Option (Int32 × HI × HL), ldI (J 120) 20 (nI dp) k = k (nI 5) := fun k => by rw [ldI_ok (by omega), h120]
  have l121 : ∀ k : Int32 → Option (Int32 × HI × HL), ldI (J 121) 20 (nI dp) k = k (nI ph) := fun k => by rw [ldI_ok (by omega), h121]
  have hx4 : f_X12_isTest (nI 5) = some 1 := by decide
  have ib : ∀ k : Option (Int32 × HI × HL), inb 20 (nI dp) k = k := fun k => by rw [inb_ok (by omega)]
  have td : (nI dp).toNatClampNeg = dp := nI_clamp (by omega)
  have g2 :  (2 : Int32) ≤ nI 5 := by decide
  have g3 : ¬ nI 5 = 3 := by decide
  have g4 : ¬ nI 5 = 4 := by decide
  have g5 :  nI 5 = 5 := by decide
  have g6 : ¬ nI 5 = 6 := by decide
  have p0 : ¬ nI ph = 0 := nI_ne0 (by omega) (by omega)
  have w19 := wl19 hw
  have w18 := wl18 hw
  rw [if_neg hww.1] at w19
  rw [if_neg hww.2] at w18
  have rr := (sgJ_at hs).2.2.2.2.1
  rw [if_pos hc] at rr
  have e40 : J1 100 40 - 1 = nI dp := by rw [j40]; exact ed
  have e41 : (sI J1 100 40 (nI dp)) 100 41 - 1 = nI op := by rw [zs_eq, zs_other (by decide), j41, sub1, dec1]
  have e40b : (sI (sI J1 100 40 (nI dp)) 100 41 (nI op)) 100 40 - 1 = nI (dp - 1) := by rw [zs_eq, zs_other (by decide), zs_eq, zs_same, zq1, pk_sub (by omega)]
  have ib2 : ∀ k : Option (Int32 × HI × HL), inb 20 (nI (dp - 1)) k = k := fun k => by rw [inb_ok (by omega)]
  have td2 : (nI (dp - 1)).toNatClampNeg = dp - 1 := nI_clamp (by omega)
  unfold f_X12_goesOn
  simp only [hlex, Option.bind_some, h8, if_pos z8, bnd, h40, ed, l120, hx4, l121, jnt]
  refine go0_M hs hA hph.2 (fun _ => _) (X := fun _ => _) ?_
  simp only [if_neg n3, if_neg p0, w19, w18, if_true, Option.bind_some, if_pos g2, if_neg g3, if_neg g6, if_pos g5, if_neg g4, if_neg n3, rr, h8, if_pos z8, hj, e40, e41, e40b, ib2, td2, ha, gz_1]
theorem goF2_M {c : Nat} {at' : Nat} (h8 : J 100 8 = 0) (hlex : f_X12_lex J = some J) (h40 : J 100 40 = nI (dp + 1)) (hdp : dp < 12) (h120 : J 120 dp = nI 2) (h121 : J 121 dp = nI ph) (hph : ph ≤ 2) (hs : sgJ J c) (hA : ph < 2 → noA c) (h4 : J 100 4 = nI at') (hc : c ≠ 41) : ∃ J', f_X12_goesOn fu J M = some (0, J', M) ∧ BadM J J' 1 at' := by
  have n3 : ¬ (1 : Int32) = 0 := by decide
  have z8 : (0 : Int32) ≤ 0 := by decide
  have ed : nI (dp + 1) - 1 = nI dp := by rw [sub1, dec1]
  have l120 : ∀ k : Int32 → Option (Int32 × HI × HL), ldI (J 120) 20 (nI dp) k = k (nI 2) := fun k => by rw [ldI_ok (by omega), h120]
  have l121 : ∀ k : Int32 → Option (Int32 × HI × HL), ldI (J 121) 20 (nI dp) k = k (nI ph) := fun k => by rw [ldI_ok (by omega), h121]
  have hx4 : f_X12_isTest (nI 2) = some 0 := by decide
  have ib : ∀ k : Option (Int32 × HI × HL), inb 20 (nI dp) k = k := fun k => by rw [inb_ok (by omega)]
  have td : (nI dp).toNatClampNeg = dp := nI_clamp (by omega)
  have g2 :  (2 : Int32) ≤ nI 2 := by decide
  have g3 : ¬ nI 2 = 3 := by decide
  have g4 : ¬ nI 2 = 4 := by decide
  have g5 : ¬ nI 2 = 5 := by decide
  have g6 : ¬ nI 2 = 6 := by decide
  have rr := (sgJ_at hs).2.2.2.1
  rw [if_neg hc] at rr
  obtain ⟨J', m1, m2⟩ := blameS (J := J) (f := 1) (pl := at') h8
  have m1' : f_X12_blame J 1 (nI at') = some J' := m1
  have zb : ¬ J' 100 8 ≤ 0 := by rw [m2.2.1]; decide
  refine ⟨J', ?_, m2⟩
  unfold f_X12_goesOn
  simp only [hlex, Option.bind_some, h8, if_pos z8, bnd, h40, ed, l120, hx4, l121, jnt]
  refine go0_M hs hA hph (fun _ => _) (X := fun _ => _) ?_
  simp only [if_true, Option.bind_some, if_pos g2, if_neg g3, if_neg g6, if_neg g5, rr, h4, m1', if_neg zb, gz_0]
theorem goF3_M {c : Nat} {at' : Nat} (h8 : J 100 8 = 0) (hlex : f_X12_lex J = some J) (h40 : J 100 40 = nI (dp + 1)) (hdp : dp < 12) (h120 : J 120 dp = nI 3) (h121 : J 121 dp = nI ph) (hph : ph ≤ 2) (hs : sgJ J c) (hA : ph < 2 → noA c) (h4 : J 100 4 = nI at') (hc : c ≠ 44) : ∃ J', f_X12_goesOn fu J M = some (0, J', M) ∧ BadM J J' 1 at' := by
  have n3 : ¬ (1 : Int32) = 0 := by decide
  have z8 : (0 : Int32) ≤ 0 := by decide
  have ed : nI (dp + 1) - 1 = nI dp := by rw [sub1, dec1]
  have l120 : ∀ k : Int32 → Option (Int32 × HI × HL), ldI (J 120) 20 (nI dp) k = k (nI 3) := fun k => by rw [ldI_ok (by omega), h120]
  have l121 : ∀ k : Int32 → Option (Int32 × HI × HL), ldI (J 121) 20 (nI dp) k = k (nI ph) := fun k => by rw [ldI_ok (by omega), h121]
  have hx4 : f_X12_isTest (nI 3) = some 0 := by decide
  have ib : ∀ k : Option (Int32 × HI × HL), inb 20 (nI dp) k = k := fun k => by rw [inb_ok (by omega)]
  have td : (nI dp).toNatClampNeg = dp := nI_clamp (by omega)
  have g2 :  (2 : Int32) ≤ nI 3 := by decide
  have g3 :  nI 3 = 3 := by decide
  have g4 : ¬ nI 3 = 4 := by decide
  have g5 : ¬ nI 3 = 5 := by decide
  have g6 : ¬ nI 3 = 6 := by decide
  have rr := (sgJ_at hs).2.2.1
  rw [if_neg hc] at rr
  obtain ⟨J', m1, m2⟩ := blameS (J := J) (f := 1) (pl := at') h8
  have m1' : f_X12_blame J 1 (nI at') = some J' := m1
  have zb : ¬ J' 100 8 ≤ 0 := by rw [m2.2.1]; decide
  refine ⟨J', ?_, m2⟩
  unfold f_X12_goesOn
  simp only [hlex, Option.bind_some, h8, if_pos z8, bnd, h40, ed, l120, hx4, l121, jnt]
  refine go0_M hs hA hph (fun _ => _) (X := fun _ => _) ?_
  simp only [if_true, Option.bind_some, if_pos g2, if_pos g3, rr, h4, m1', if_neg zb, gz_0]
theorem goF4_M {c : Nat} {at' : Nat} (h8 : J 100 8 = 0) (hlex : f_X12_lex J = some J) (h40 : J 100 40 = nI (dp + 1)) (hdp : dp < 12) (h120 : J 120 dp = nI 4) (h121 : J 121 dp = nI ph) (hph : ph ≤ 2) (hs : sgJ J c) (hA : ph < 2 → noA c) (h4 : J 100 4 = nI at') (hc : c ≠ 41) : ∃ J', f_X12_goesOn fu J M = some (0, J', M) ∧ BadM J J' 1 at' := by
  have n3 : ¬ (1 : Int32) = 0 := by decide
  have z8 : (0 : Int32) ≤ 0 := by decide
  have ed : nI (dp + 1) - 1 = nI dp := by rw [sub1, dec1]
  have l120 : ∀ k : Int32 → Option (Int32 × HI × HL), ldI (J 120) 20 (nI dp) k = k (nI 4) := fun k => by rw [ldI_ok (by omega), h120]
  have l121 : ∀ k : Int32 → Option (Int32 × HI × HL), ldI (J 121) 20 (nI dp) k = k (nI ph) := fun k => by rw [ldI_ok (by omega), h121]
  have hx4 : f_X12_isTest (nI 4) = some 0 := by decide
  have ib : ∀ k : Option (Int32 × HI × HL), inb 20 (nI dp) k = k := fun k => by rw [inb_ok (by omega)]
  have td : (nI dp).toNatClampNeg = dp := nI_clamp (by omega)
  have g2 :  (2 : Int32) ≤ nI 4 := by decide
  have g3 : ¬ nI 4 = 3 := by decide
  have g4 :  nI 4 = 4 := by decide
  have g5 : ¬ nI 4 = 5 := by decide
  have g6 : ¬ nI 4 = 6 := by decide
  have rr := (sgJ_at hs).2.2.2.1
  rw [if_neg hc] at rr
  obtain ⟨J', m1, m2⟩ := blameS (J := J) (f := 1) (pl := at') h8
  have m1' : f_X12_blame J 1 (nI at') = some J' := m1
  have zb : ¬ J' 100 8 ≤ 0 := by rw [m2.2.1]; decide
  refine ⟨J', ?_, m2⟩
  unfold f_X12_goesOn
  simp only [hlex, Option.bind_some, h8, if_pos z8, bnd, h40, ed, l120, hx4, l121, jnt]
  refine go0_M hs hA hph (fun _ => _) (X := fun _ => _) ?_
  simp only [if_true, Option.bind_some, if_pos g2, if_neg g3, if_neg g6, if_neg g5, rr, h4, m1', if_neg zb, gz_0]
theorem goF5_M {c w : Nat} {at' : Nat} (h8 : J 100 8 = 0) (hlex : f_X12_lex J = some J) (h40 : J 100 40 = nI (dp + 1)) (hdp : dp < 12) (h120 : J 120 dp = nI 5) (h121 : J 121 dp = nI ph) (hph : 1 ≤ ph ∧ ph ≤ 2) (hs : sgJ J c) (hA : ph < 2 → noA c) (hw : wdJ J M w) (hww : w ≠ 19 ∧ w ≠ 18) (h4 : J 100 4 = nI at') (hc : c ≠ 93) : ∃ J', f_X12_goesOn fu J M = some (0, J', M) ∧ BadM J J' 1 at' := by
  have n3 : ¬ (1 : Int32) = 0 := by decide
  have z8 : (0 : Int32) ≤ 0 := by decide
  have ed : nI (dp + 1) - 1 = nI dp := by rw [sub1, dec1]
  have l120 : ∀ k : Int32 → Option (Int32 × HI × HL), ldI (J 120) 20 (nI dp) k = k (nI 5) := fun k => by rw [ldI_ok (by omega), h120]
  have l121 : ∀ k : Int32 → Option (Int32 × HI × HL), ldI (J 121) 20 (nI dp) k = k (nI ph) := fun k => by rw [ldI_ok (by omega), h121]
  have hx4 : f_X12_isTest (nI 5) = some 1 := by decide
  have ib : ∀ k : Option (Int32 × HI × HL), inb 20 (nI dp) k = k := fun k => by rw [inb_ok (by omega)]
  have td : (nI dp).toNatClampNeg = dp := nI_clamp (by omega)
  have g2 :  (2 : Int32) ≤ nI 5 := by decide
  have g3 : ¬ nI 5 = 3 := by decide
  have g4 : ¬ nI 5 = 4 := by decide
  have g5 :  nI 5 = 5 := by decide
  have g6 : ¬ nI 5 = 6 := by decide
  have p0 : ¬ nI ph = 0 := nI_ne0 (by omega) (by omega)
  have w19 := wl19 hw
  have w18 := wl18 hw
  rw [if_neg hww.1] at w19
  rw [if_neg hww.2] at w18
  have rr := (sgJ_at hs).2.2.2.2.1
  rw [if_neg hc] at rr
  obtain ⟨J', m1, m2⟩ := blameS (J := J) (f := 1) (pl := at') h8
  have m1' : f_X12_blame J 1 (nI at') = some J' := m1
  have zb : ¬ J' 100 8 ≤ 0 := by rw [m2.2.1]; decide
  refine ⟨J', ?_, m2⟩
  unfold f_X12_goesOn
  simp only [hlex, Option.bind_some, h8, if_pos z8, bnd, h40, ed, l120, hx4, l121, jnt]
  refine go0_M hs hA hph.2 (fun _ => _) (X := fun _ => _) ?_
  simp only [if_neg n3, if_neg p0, w19, w18, if_true, Option.bind_some, if_pos g2, if_neg g3, if_neg g6, if_pos g5, rr, h4, m1', if_neg zb, gz_0]
theorem goF6_M {c w : Nat} {at' : Nat} (h8 : J 100 8 = 0) (hlex : f_X12_lex J = some J) (h40 : J 100 40 = nI (dp + 1)) (hdp : dp < 12) (h120 : J 120 dp = nI 6) (h121 : J 121 dp = nI ph) (hph : 1 ≤ ph ∧ ph ≤ 2) (hs : sgJ J c) (hA : ph < 2 → noA c) (hw : wdJ J M w) (hww : w ≠ 19 ∧ w ≠ 18) (h4 : J 100 4 = nI at') (hc : c ≠ 44) : ∃ J', f_X12_goesOn fu J M = some (0, J', M) ∧ BadM J J' 1 at' := by
  have n3 : ¬ (1 : Int32) = 0 := by decide
  have z8 : (0 : Int32) ≤ 0 := by decide
  have ed : nI (dp + 1) - 1 = nI dp := by rw [sub1, dec1]
  have l120 : ∀ k : Int32 → Option (Int32 × HI × HL), ldI (J 120) 20 (nI dp) k = k (nI 6) := fun k => by rw [ldI_ok (by omega), h120]
  have l121 : ∀ k : Int32 → Option (Int32 × HI × HL), ldI (J 121) 20 (nI dp) k = k (nI ph) := fun k => by rw [ldI_ok (by omega), h121]
  have hx4 : f_X12_isTest (nI 6) = some 1 := by decide
  have ib : ∀ k : Option (Int32 × HI × HL), inb 20 (nI dp) k = k := fun k => by rw [inb_ok (by omega)]
  have td : (nI dp).toNatClampNeg = dp := nI_clamp (by omega)
  have g2 :  (2 : Int32) ≤ nI 6 := by decide
  have g3 : ¬ nI 6 = 3 := by decide
  have g4 : ¬ nI 6 = 4 := by decide
  have g5 : ¬ nI 6 = 5 := by decide
  have g6 :  nI 6 = 6 := by decide
  have p0 : ¬ nI ph = 0 := nI_ne0 (by omega) (by omega)
  have w19 := wl19 hw
  have w18 := wl18 hw
  rw [if_neg hww.1] at w19
  rw [if_neg hww.2] at w18
  have rr := (sgJ_at hs).2.2.1
  rw [if_neg hc] at rr
  obtain ⟨J', m1, m2⟩ := blameS (J := J) (f := 1) (pl := at') h8
  have m1' : f_X12_blame J 1 (nI at') = some J' := m1
  have zb : ¬ J' 100 8 ≤ 0 := by rw [m2.2.1]; decide
  refine ⟨J', ?_, m2⟩
  unfold f_X12_goesOn
  simp only [hlex, Option.bind_some, h8, if_pos z8, bnd, h40, ed, l120, hx4, l121, jnt]
  refine go0_M hs hA hph.2 (fun _ => _) (X := fun _ => _) ?_
  simp only [if_neg n3, if_neg p0, w19, w18, if_true, Option.bind_some, if_pos g2, if_neg g3, if_pos g6, rr, h4, m1', if_neg zb, gz_0]
end
theorem goL_M {fu pl : Nat} {J J' : HI} {M : HL} (hl : f_X12_lex J = some J') (hb : BadM J J' 1 pl) : f_X12_goesOn fu J M = some (0, J', M) := by
  have z : ¬ J' 100 8 ≤ 0 := by rw [hb.2.1]; decide
  unfold f_X12_goesOn
  simp only [hl, Option.bind_some, if_neg z, gz_0]
