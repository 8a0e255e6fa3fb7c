/-! moves of one lake -/
def stN (p q : Nat) : Nat := (q - p) + (p - q)
def stpD (D : HI) (x : Int32) (h : Nat) : Nat := stN (D 5 x.toNatClampNeg).toNatClampNeg (D 5 h).toNatClampNeg
def mayV (D S : HI) (l h r c : Nat) : Int := ruV D 2 (fg 2 (S 1 l).toInt (S 0 1).toInt (c : Int) 0 (stpD D (S 2 l) h : Int) (r : Int))
def mayB (D S : HI) (l h r c : Nat) : Bool := if D 0 5 < S 1 l then false else if ¬ (S 1 l).toNatClampNeg ≤ r then false else if rt D 2 = true then (if mayV D S l h r c = 0 then false else true) else true
theorem mb1 {D S : HI} {l h r c : Nat} (h1 : D 0 5 < S 1 l) : mayB D S l h r c = false := by
  unfold mayB
  rw [if_pos h1]
theorem mb2 {D S : HI} {l h r c : Nat} (h1 : ¬ D 0 5 < S 1 l) (h2 : ¬ (S 1 l).toNatClampNeg ≤ r) : mayB D S l h r c = false := by
  unfold mayB
  rw [if_neg h1, if_pos h2]
theorem mb3 {D S : HI} {l h r c : Nat} (h1 : ¬ D 0 5 < S 1 l) (h2 : (S 1 l).toNatClampNeg ≤ r) (h3 : rt D 2 = true) (h4 : mayV D S l h r c = 0) : mayB D S l h r c = false := by
  unfold mayB
  rw [if_neg h1, if_neg (Decidable.not_not.mpr h2), if_pos h3, if_pos h4]
theorem mb4 {D S : HI} {l h r c : Nat} (h1 : ¬ D 0 5 < S 1 l) (h2 : (S 1 l).toNatClampNeg ≤ r) (h3 : rt D 2 = true) (h4 : ¬ mayV D S l h r c = 0) : mayB D S l h r c = true := by
  unfold mayB
  rw [if_neg h1, if_neg (Decidable.not_not.mpr h2), if_pos h3, if_neg h4]
theorem mb5 {D S : HI} {l h r c : Nat} (h1 : ¬ D 0 5 < S 1 l) (h2 : (S 1 l).toNatClampNeg ≤ r) (h3 : ¬ rt D 2 = true) : mayB D S l h r c = true := by
  unfold mayB
  rw [if_neg h1, if_neg (Decidable.not_not.mpr h2), if_neg h3]
theorem abs_C {p q : Nat} (hp : p ≤ 99) (hq : q ≤ 99) : f_J9_abs_0f7a4 (nI q - nI p) = some (nI (stN p q)) := by
  unfold f_J9_abs_0f7a4 stN
  by_cases c : p ≤ q
  · rw [pk_sub c, if_pos (nI_pos' (by omega)), show p - q = 0 by omega, Nat.add_zero]
  · rw [if_neg (Int32.not_le.mpr (pk_sneg (by omega) (by omega))), Int32.neg_sub, pk_sub (by omega), show q - p = 0 by omega, Nat.zero_add]
section
variable {I : HI} {R : HR} {s t nh no nl fu : Nat}
theorem mayGo_C (hC : CL I R s t nh no nl) (hL : LR (vw I t)) (hW : BW (sc I s)) (hD : LWf (vw I t) nh) (hf : 1600 < fu) {l h g r c : Nat} (hl : l < nl) (hh : h < nh) (hg : g < nh) (eg : I (s + 2) l = nI g) (hr : r ≤ 9999) (hc : c ≤ 8) : ∃ I', f_X9_mayGo fu I R s (nI l) (nI h) (nI r) (nI c) = some (if mayB (vw I t) (sc I s) l h r c = true then 1 else 0, I') ∧ MO s I I' := by
  have hC' := hC
  obtain ⟨h0, h1, h2, h3, h4, h5, h6, h7, h8, h9⟩ := hC'
  obtain ⟨x, hx, ex⟩ := hW.1 l (by omega)
  obtain ⟨nn, hnn, en⟩ := hW.2
  have ex' : I (s + 1) l = nI x := ex
  have en' : I s 1 = nI nn := en
  obtain ⟨_, q, q1, q2⟩ := hD.2.2 h hh
  obtain ⟨_, p, p1, p2⟩ := hD.2.2 g hg
  have q2' : I (t + 5) h = nI q := q2
  have p2' : I (t + 5) g = nI p := p2
  obtain ⟨ca, ca1, ca2⟩ := hD.1
  have ca2' : I t 5 = nI ca := ca2
  have n3 : ¬ (1 : Int32) = 0 := by decide
  have exc : (sc I s 1 l).toNatClampNeg = x := by rw [ex, nI_clamp (by omega)]
  have e51 : (vw I t 0 5 < sc I s 1 l) ↔ (nI ca < nI x) := by rw [ex, ca2]
  unfold f_X9_mayGo
  by_cases c1 : nI ca < nI x
  · refine ⟨I, ?_, MO.refl⟩
    rw [ldI_ok (by omega), h1, zg_ok h0, ca2', ex', if_pos c1, mb1 (e51.mpr c1)]
    rfl
  have d1 : ¬ vw I t 0 5 < sc I s 1 l := fun q => c1 (e51.mp q)
  by_cases c2 : x ≤ r
  · have c2' : nI x ≤ nI r := nI_le c2 (by omega)
    by_cases cr : rt (vw I t) 2 = true
    · have hr0 : f_X2_hasRule I t 2 = some (if rt (vw I t) 2 = true then 1 else 0) := hasRule_C (r := 2) (by decide)
      rw [if_pos cr] at hr0
      have est : stpD (vw I t) (sc I s 2 l) h = stN p q := by
        unfold stpD
        have : sc I s 2 l = nI g := eg
        rw [this, nI_clamp (by omega), p2, q2, nI_clamp (by omega), nI_clamp (by omega)]
      have hst : stN p q ≤ 99 := by unfold stN; omega
      obtain ⟨w, I', f1, f2, f3⟩ := rule_C (fu := fu) (r := 2) hC hL (by decide) cr (K := sI (sI (sI (sI (sI I (s + 6 + 2) 0 (nI x)) (s + 6 + 2) 1 (I s 1)) (s + 6 + 2) 2 (nI c)) (s + 6 + 2) 4 (nI (stN p q))) (s + 6 + 2) 5 (nI r)) (fun y hy => by rw [zs_ne (by omega), zs_ne (by omega), zs_ne (by omega), zs_ne (by omega), zs_ne (by omega)])
        (fig := fg 2 (sc I s 1 l).toInt (sc I s 0 1).toInt (c : Int) 0 (stpD (vw I t) (sc I s 2 l) h : Int) (r : Int))
        (fg_bd (by rw [ex, nI_toInt (by omega)]; unfold bdZ; omega) (by rw [en, nI_toInt (by omega)]; unfold bdZ; omega) (by unfold bdZ; omega) (by unfold bdZ; omega) (by rw [est]; unfold bdZ; omega) (by unfold bdZ; omega)) fg_ask
        (fg_three (by simp (disch := omega) only [bnd, jnt, zg_ok, gz_0, gz_1, gz_n0, gz_n1, zs_eq, zs_ne, zs_same, zs_other, zA_eq, zA_ne, Option.bind_some, Option.bind_none]; rw [ex]) (by simp (disch := omega) only [bnd, jnt, zg_ok, gz_0, gz_1, gz_n0, gz_n1, zs_eq, zs_ne, zs_same, zs_other, zA_eq, zA_ne, Option.bind_some, Option.bind_none]; rfl) (by simp (disch := omega) only [bnd, jnt, zg_ok, gz_0, gz_1, gz_n0, gz_n1, zs_eq, zs_ne, zs_same, zs_other, zA_eq, zA_ne, Option.bind_some, Option.bind_none]; rw [nI_toInt (by omega)]) (fun q => absurd q (by decide)) (fun _ => by simp (disch := omega) only [bnd, jnt, zg_ok, gz_0, gz_1, gz_n0, gz_n1, zs_eq, zs_ne, zs_same, zs_other, zA_eq, zA_ne, Option.bind_some, Option.bind_none]; rw [est, nI_toInt (by omega)]) (fun _ => by simp (disch := omega) only [bnd, jnt, zg_ok, gz_0, gz_1, gz_n0, gz_n1, zs_eq, zs_ne, zs_same, zs_other, zA_eq, zA_ne, Option.bind_some, Option.bind_none]; rw [nI_toInt (by omega)])) hf
      have f1' : f_X3_run fu (sI (sI (sI (sI (sI I (s + 6 + 2) 0 (nI x)) (s + 6 + 2) 1 (I s 1)) (s + 6 + 2) 2 (nI c)) (s + 6 + 2) 4 (nI (stN p q))) (s + 6 + 2) 5 (nI r)) (s + 6) t 2 = some (w, I') := f1
      refine ⟨I', ?_, f3⟩
      have hw : w = 0 ↔ mayV (vw I t) (sc I s) l h r c = 0 := by
        unfold mayV
        rw [← f2, ← Int32.toInt_inj, zt0]
      have k5 : ∀ a, sI (sI (sI I (s + 6 + 2) 0 (nI x)) (s + 6 + 2) 1 (I s 1)) (s + 6 + 2) 2 (nI c) (t + 5) a = I (t + 5) a := fun a => by rw [zs_ne (by omega), zs_ne (by omega), zs_ne (by omega)]
      have k2 : ∀ a, sI (sI (sI I (s + 6 + 2) 0 (nI x)) (s + 6 + 2) 1 (I s 1)) (s + 6 + 2) 2 (nI c) (s + 2) a = I (s + 2) a := fun a => by rw [zs_ne (by omega), zs_ne (by omega), zs_ne (by omega)]
      simp (disch := omega) only [ldI_ok, h1, zg_ok h0, ca2', ex', if_neg c1, if_pos c2', hr0, Option.bind_some, if_neg n3, setLake_C, k5, k2, eg, q2', p2', abs_C, setWay_C, f1']
      by_cases cw : w = 0
      · rw [if_pos cw, mb3 d1 (by rw [exc]; exact c2) cr (hw.mp cw), gz_0]
        rfl
      · rw [if_neg cw, mb4 d1 (by rw [exc]; exact c2) cr (fun q => cw (hw.mpr q)), gz_1]
        rfl
    · have hr0 : f_X2_hasRule I t 2 = some (if rt (vw I t) 2 = true then 1 else 0) := hasRule_C (r := 2) (by decide)
      rw [if_neg cr] at hr0
      refine ⟨I, ?_, MO.refl⟩
      simp (disch := omega) only [ldI_ok, h1, zg_ok h0, ca2', ex', if_neg c1, if_pos c2', hr0, Option.bind_some, if_true]
      rw [mb5 d1 (by rw [exc]; exact c2) cr, gz_1]
      rfl
  · have c2' : ¬ nI x ≤ nI r := nI_ge (by omega) (by omega)
    refine ⟨I, ?_, MO.refl⟩
    simp (disch := omega) only [ldI_ok, h1, zg_ok h0, ca2', ex', if_neg c1, if_neg c2']
    rw [mb2 d1 (by rw [exc]; exact c2), gz_0]
    rfl
end
section
variable {J : HI} {M : HL} {b nh no nl fu v : Nat} {D : HI}
theorem steps_M (h : ML J b nh no nl D) (hD : LWf D nh) {g x : Nat} (hg : g < nh) (hx : x < nh) : f_X12_steps J (nI g) (nI x) = some (nI (stN (D 5 g).toNatClampNeg (D 5 x).toNatClampNeg)) := by
  obtain ⟨⟨h0, h1⟩, h2, h3, h4, h5, h6, h7, h8, h9, h10⟩ := h
  obtain ⟨_, q, q1, q2⟩ := hD.2.2 x hx
  obtain ⟨_, p, p1, p2⟩ := hD.2.2 g hg
  have e1 := (h8 g hg).2
  have e2 := (h8 x hx).2
  rw [q2] at e2
  rw [p2] at e1
  rw [p2, q2, nI_clamp (by omega), nI_clamp (by omega)]
  unfold f_X12_steps stN
  by_cases c : q ≤ p
  · rw [show q - p = 0 by omega, Nat.zero_add]
    simp (disch := omega) only [sdm, ↓zm1, ↓zm2, ↓zm3, ↓zm4, ↓zm5, ↓zm6, ↓zm7, ↓zm8, ↓zm9, ↓zm10, ↓zm11, ↓zm12, ↓zm13, ↓zm14, ↓zm15, ↓zm16, ↓zm17, ↓zm18, ↓zm19, ↓zm20, ↓zm1000000000, zq0, zq1, zq2, zq3, zq4, zq5, zq6, zq7, zq8, zq9, zq10, zq11, zq12, zq13, zq14, zq15, zq16, zq17, zq18, zq19, zq20, zq21, zq22, zq23, zq24, zq25, zq26, zq30, zq31, zq32, zq33, zq34, zq35, zq36, zq37, zq38, zq39, zq40, zq41, zq42, zq43, zq44, zq45, zq47, zq48, zq57, zq59, zq60, zq61, zq62, zq80, zq91, zq93, zq97, zq99, zq100, zq107, zq110, zq120, zq122, zq128, zq149, zq160, zq208, zq240, zq251, zq255, zq256, zq500, zq936, zq999, zq1600, zq1800, zq2048, zq3200, zq4160, zq9999, zq12345, zq1000000, zq1048576, zq100000000, bnd, jnt, zg_ok, gz_0, gz_1, gz_n0, gz_n1, zs_eq, zs_ne, zs_same, zs_other, zA_eq, zA_ne, Option.bind_some, Option.bind_none, nI_add, pk_mul, nI_clamp, nI_leI, nI_ltI, nI_eq, pk_sub, nI_mI, nI_eq_mI, mI_eq_nI, nI_lt_m, ldI_ok, inb_ok, if_pos, if_neg, dv_ok, rem_ok, div_ok, if_true, if_false, h0, e1, e2]
  · rw [show p - q = 0 by omega, Nat.add_zero]
    simp (disch := omega) only [sdm, ↓zm1, ↓zm2, ↓zm3, ↓zm4, ↓zm5, ↓zm6, ↓zm7, ↓zm8, ↓zm9, ↓zm10, ↓zm11, ↓zm12, ↓zm13, ↓zm14, ↓zm15, ↓zm16, ↓zm17, ↓zm18, ↓zm19, ↓zm20, ↓zm1000000000, zq0, zq1, zq2, zq3, zq4, zq5, zq6, zq7, zq8, zq9, zq10, zq11, zq12, zq13, zq14, zq15, zq16, zq17, zq18, zq19, zq20, zq21, zq22, zq23, zq24, zq25, zq26, zq30, zq31, zq32, zq33, zq34, zq35, zq36, zq37, zq38, zq39, zq40, zq41, zq42, zq43, zq44, zq45, zq47, zq48, zq57, zq59, zq60, zq61, zq62, zq80, zq91, zq93, zq97, zq99, zq100, zq107, zq110, zq120, zq122, zq128, zq149, zq160, zq208, zq240, zq251, zq255, zq256, zq500, zq936, zq999, zq1600, zq1800, zq2048, zq3200, zq4160, zq9999, zq12345, zq1000000, zq1048576, zq100000000, bnd, jnt, zg_ok, gz_0, gz_1, gz_n0, gz_n1, zs_eq, zs_ne, zs_same, zs_other, zA_eq, zA_ne, Option.bind_some, Option.bind_none, nI_add, pk_mul, nI_clamp, nI_leI, nI_ltI, nI_eq, pk_sub, nI_mI, nI_eq_mI, mI_eq_nI, nI_lt_m, ldI_ok, inb_ok, if_pos, if_neg, dv_ok, rem_ok, div_ok, if_true, if_false, h0, e1, e2]
/-- a lake that stands, into another hollow -/
theorem canMove_M (h : ML J b nh no nl D) (hL : LR D) (hW : BW (lv J v)) (hD : LWf D nh) (hf : 1600 < fu) (hv : v < 26) {l x g r : Nat} (hl : l < nl) (hx : x < nh) (hg : g < nh) (eg : lv J v 2 l = nI g) (hne : g ≠ x) (h0 : ¬ lv J v 1 l = nI 0) (hr : rmI D (lv J v) x nl = nI r) (hr2 : r ≤ 9999) : ∃ J' M', f_X12_canMove fu J M (nI v) (nI l) (nI x) = some (if mayB D (lv J v) l x r (besI (lv J v) nl (nI x) l) = true then 1 else 0, J', M') ∧ AO J J' ∧ OtL M M' := by
  have h' := h
  obtain ⟨⟨m0, m1⟩, m2, m3, m4, m5, m6, m7, m8, m9, m10⟩ := h'
  have hq := fill_M (J := J) (v := v) (l := l) hv (by omega)
  have hq2 := liesIn_M (J := J) (v := v) (l := l) hv (by omega)
  have hro := room_M (fu := fu) h (by omega) hv hx
  rw [hr] at hro
  have ht : f_X12_isTold J 2 = _ := isTold_M (r := 2) h hL (by decide)
  have ha := asks_M (fu := fu) h (by omega) hv (nI x) (show l < 8 by omega)
  obtain ⟨y, hy, ey⟩ := hW.1 l (by omega)
  obtain ⟨nn, hnn, en⟩ := hW.2
  obtain ⟨ca, ca1, ca2⟩ := hD.1
  have ec : J 112 b = nI ca := by rw [m9.2 (by omega)]; exact ca2
  have hbs : besI (lv J v) nl (nI x) l ≤ 8 := Nat.le_trans (cnt_le nl) m7
  have n3 : ¬ (1 : Int32) = 0 := by decide
  have y0 : ¬ nI y = 0 := by rw [← nI_0, ← ey]; exact h0
  have gx : ¬ nI g = nI x := fun q => hne ((nI_eq (by omega) (by omega)).mp q)
  have exc : (lv J v 1 l).toNatClampNeg = y := by rw [ey, nI_clamp (by omega)]
  have e51 : (D 0 5 < lv J v 1 l) ↔ (nI ca < nI y) := by rw [ey, ca2]
  unfold f_X12_canMove
  rw [ey] at hq
  rw [eg] at hq2
  by_cases c1 : nI ca < nI y
  · refine ⟨J, M, ?_, AO.refl, fun _ _ => rfl⟩
    simp (disch := omega) only [hq, Option.bind_some, if_neg y0, hq2, if_neg gx, m0, ldI_ok, ec, if_pos c1, gz_0]
    rw [mb1 (e51.mpr c1)]
    rfl
  have d1 : ¬ D 0 5 < lv J v 1 l := fun q => c1 (e51.mp q)
  by_cases c2 : y ≤ r
  · have c2' : nI y ≤ nI r := nI_le c2 (by omega)
    by_cases cr : rt D 2 = true
    · rw [if_pos cr] at ht
      obtain ⟨K1, hK1⟩ : ∃ K1, K1 = sI (sI (sI J 135 1 (lv J v 1 l)) 135 2 (lv J v 0 1)) 135 3 (nI (besI (lv J v) nl (nI x) l)) := ⟨_, rfl⟩
      have A1 : AO J K1 := fun z hz => by rw [hK1, zs_ne hz, zs_ne hz, zs_ne hz]
      rw [← hK1] at ha
      have hst := steps_M (A1.ML h) hD hg hx
      obtain ⟨sp, hsp⟩ : ∃ sp, sp = stN (D 5 g).toNatClampNeg (D 5 x).toNatClampNeg := ⟨_, rfl⟩
      have hsp2 : sp ≤ 99 := by
        obtain ⟨_, q, q1, q2⟩ := hD.2.2 x hx
        obtain ⟨_, p, p1, p2⟩ := hD.2.2 g hg
        rw [hsp, p2, q2, nI_clamp (by omega), nI_clamp (by omega)]
        unfold stN
        omega
      rw [← hsp] at hst
      have est : stpD D (lv J v 2 l) x = sp := by
        unfold stpD
        rw [eg, nI_clamp (by omega), hsp]
      have A2 : AO J (sI K1 135 5 (nI sp)) := A1.trans (fun z hz => zs_ne hz)
      have hro2 := room_M (fu := fu) (A2.ML h) (by omega) hv hx
      rw [A2.lvE, hr] at hro2
      obtain ⟨w, M', f1, f2, f3⟩ := rule_M (fu := fu) (M := M) (r := 2) h hL (by decide) cr (K := sI (sI K1 135 5 (nI sp)) 135 6 (nI r)) (A2.trans (fun z hz => zs_ne hz))
        (fig := fg 2 (lv J v 1 l).toInt (lv J v 0 1).toInt (besI (lv J v) nl (nI x) l : Int) 0 (stpD D (lv J v 2 l) x : Int) (r : Int))
        (fg_bd (by rw [ey, nI_toInt (by omega)]; unfold bdZ; omega) (by rw [en, nI_toInt (by omega)]; unfold bdZ; omega) (by unfold bdZ; omega) (by unfold bdZ; omega) (by rw [est]; unfold bdZ; omega) (by unfold bdZ; omega)) fg_ask
        (fg_three (K := fun _ k => sI (sI K1 135 5 (nI sp)) 135 6 (nI r) 135 (k + 1)) (m := 0) (by rw [hK1]; simp (disch := omega) only [bnd, jnt, zg_ok, gz_0, gz_1, gz_n0, gz_n1, zs_eq, zs_ne, zs_same, zs_other, zA_eq, zA_ne, Option.bind_some, Option.bind_none]) (by rw [hK1]; simp (disch := omega) only [bnd, jnt, zg_ok, gz_0, gz_1, gz_n0, gz_n1, zs_eq, zs_ne, zs_same, zs_other, zA_eq, zA_ne, Option.bind_some, Option.bind_none]) (by rw [hK1]; simp (disch := omega) only [bnd, jnt, zg_ok, gz_0, gz_1, gz_n0, gz_n1, zs_eq, zs_ne, zs_same, zs_other, zA_eq, zA_ne, Option.bind_some, Option.bind_none]; rw [nI_toInt (by omega)]) (fun q => absurd q (by decide)) (fun _ => by simp (disch := omega) only [bnd, jnt, zg_ok, gz_0, gz_1, gz_n0, gz_n1, zs_eq, zs_ne, zs_same, zs_other, zA_eq, zA_ne, Option.bind_some, Option.bind_none]; rw [est, nI_toInt (by omega)]) (fun _ => by simp (disch := omega) only [bnd, jnt, zg_ok, gz_0, gz_1, gz_n0, gz_n1, zs_eq, zs_ne, zs_same, zs_other, zA_eq, zA_ne, Option.bind_some, Option.bind_none]; rw [nI_toInt (by omega)])) hf
      have f1' : f_X12_reckons fu (sI (sI K1 135 5 (nI sp)) 135 6 (nI r)) M 2 = some (w, M') := f1
      have hz01 : ruV D 2 (fg 2 (lv J v 1 l).toInt (lv J v 0 1).toInt (besI (lv J v) nl (nI x) l : Int) 0 (stpD D (lv J v 2 l) x : Int) (r : Int)) = 0 ∨ ruV D 2 (fg 2 (lv J v 1 l).toInt (lv J v 0 1).toInt (besI (lv J v) nl (nI x) l : Int) 0 (stpD D (lv J v 2 l) x : Int) (r : Int)) = 1 := by
        obtain ⟨a, n, hR, hO⟩ := hL 2 (by decide)
        exact (ruV_ev hR (hO ((rt_iff hR).mp cr)) (fg_bd (by rw [ey, nI_toInt (by omega)]; unfold bdZ; omega) (by rw [en, nI_toInt (by omega)]; unfold bdZ; omega) (by unfold bdZ; omega) (by unfold bdZ; omega) (by rw [est]; unfold bdZ; omega) (by unfold bdZ; omega)) fg_ask).2 rfl
      obtain ⟨t1, t2, t3, t4, t5⟩ := t64_lit
      have hw : lg_cmp w 1 = 0 ↔ ¬ mayV D (lv J v) l x r (besI (lv J v) nl (nI x) l) = 0 := by
        unfold mayV
        rw [lg_cmp_eq, ← Int64.toInt_inj, t4, f2]
        omega
      have e5 : (5 : Int32).toNatClampNeg = 5 := by decide
      have e6 : (6 : Int32).toNatClampNeg = 6 := by decide
      have l2 : f_X12_liesIn K1 (nI v) (nI l) = some (nI g) := by
        rw [liesIn_M hv (by omega), A1.lvE, eg]
      refine ⟨sI (sI K1 135 5 (nI sp)) 135 6 (nI r), M', ?_, A2.trans (fun z hz => zs_ne hz), f3⟩
      have i5 : ∀ k : Option (Int32 × HI × HL), inb 10 5 k = k := fun k => by rw [zq5, inb_ok (by decide)]
      have i6 : ∀ k : Option (Int32 × HI × HL), inb 10 6 k = k := fun k => by rw [zq6, inb_ok (by decide)]
      simp (disch := omega) only [hq, Option.bind_some, if_neg y0, hq2, if_neg gx, m0, ldI_ok, ec, if_neg c1, hro, if_pos c2', ht, if_neg n3, ha, l2, hst, i5, i6, bnd, e5, e6, hro2, f1']
      by_cases cw : lg_cmp w 1 = 0
      · rw [if_pos cw, mb4 d1 (by rw [exc]; exact c2) cr (hw.mp cw), gz_1]
        rfl
      · rw [if_neg cw, mb3 d1 (by rw [exc]; exact c2) cr (Decidable.not_not.mp (fun q => cw (hw.mpr q))), gz_0]
        rfl
    · rw [if_neg cr] at ht
      refine ⟨J, M, ?_, AO.refl, fun _ _ => rfl⟩
      simp (disch := omega) only [hq, Option.bind_some, if_neg y0, hq2, if_neg gx, m0, ldI_ok, ec, if_neg c1, hro, if_pos c2', ht, if_true]
      rw [mb5 d1 (by rw [exc]; exact c2) cr, gz_1]
      rfl
  · have c2' : ¬ nI y ≤ nI r := nI_ge (by omega) (by omega)
    refine ⟨J, M, ?_, AO.refl, fun _ _ => rfl⟩
    simp (disch := omega) only [hq, Option.bind_some, if_neg y0, hq2, if_neg gx, m0, ldI_ok, ec, if_neg c1, hro, if_neg c2']
    rw [mb2 d1 (by rw [exc]; exact c2), gz_0]
    rfl
end
theorem cnt_ne {p : Nat → Bool} {l n : Nat} (hp : ¬ p l = true) : cnt (fun j => decide (j ≠ l) && p j) n = cnt p n := cnt_congr (fun i _ => by
  by_cases c : i = l
  · subst c
    cases hq : p i
    · simp
    · exact absurd hq hp
  · simp [c])
theorem sc_put {I : HI} {s a k : Nat} {v : Int32} (ha : a < 5) : sc (sI I (s + a) k v) s = sI (sc I s) a k v := by
  funext x j
  unfold sc
  by_cases c : x = a
  · subst c
    rw [if_pos ha, zs_eq, zs_eq, if_pos ha]
  · rw [zs_ne c, zs_ne (show s + x ≠ s + a by omega)]
theorem lv_put {J : HI} {v a k : Nat} {w : Int32} (ha : 1 ≤ a ∧ a ≤ 3) : lv (sI J (127 + a) (8 * v + k) w) v = sI (lv J v) a k w := by
  have hz : a = 1 ∨ a = 2 ∨ a = 3 := by omega
  funext x j
  have hx : x = 0 ∨ x = 1 ∨ x = 2 ∨ x = 3 ∨ 4 ≤ x := by omega
  by_cases cj : j = k
  · subst cj
    rcases hz with q | q | q <;> subst q <;> rcases hx with q | q | q | q | q
    all_goals first
      | (subst q; simp [lv, sI, upd])
      | (have q1 : ¬ x = 0 := by omega
         have q2 : ¬ x = 1 := by omega
         have q3 : ¬ x = 2 := by omega
         have q4 : ¬ x = 3 := by omega
         simp [lv, sI, q1, q2, q3, q4])
  · rcases hz with q | q | q <;> subst q <;> rcases hx with q | q | q | q | q
    all_goals first
      | (subst q; simp [lv, sI, upd, cj])
      | (have q1 : ¬ x = 0 := by omega
         have q2 : ¬ x = 1 := by omega
         have q3 : ¬ x = 2 := by omega
         have q4 : ¬ x = 3 := by omega
         simp [lv, sI, q1, q2, q3, q4])
theorem lv_put0 {J : HI} {a k : Nat} {w : Int32} (ha : 1 ≤ a ∧ a ≤ 3) : lv (sI J (127 + a) k w) 0 = sI (lv J 0) a k w := by
  have := lv_put (J := J) (v := 0) (k := k) (w := w) ha
  rw [Nat.mul_zero, Nat.zero_add] at this
  exact this
theorem SEp.put {n : Nat} {S S' : HI} (h : SEp n S S') {a k : Nat} {v : Int32} (ha : 1 ≤ a) : SEp n (sI S a k v) (sI S' a k v) := by
  obtain ⟨h1, h2, h3, h4⟩ := h
  have key : ∀ x j, S x j = S' x j → sI S a k v x j = sI S' a k v x j := fun x j e => by
    by_cases c : x = a
    · subst c
      rw [zs_eq, zs_eq]
      by_cases cj : j = k
      · subst cj; rw [zs_same, zs_same]
      · rw [zs_other cj, zs_other cj]; exact e
    · rw [zs_ne c, zs_ne c]; exact e
  exact ⟨key 0 1 h1, fun j hj => ⟨key 1 j (h2 j hj).1, key 2 j (h2 j hj).2.1, key 3 j (h2 j hj).2.2⟩, fun j hj => key 4 j (h3 j hj), fun j hj => key 1 j (h4 j hj)⟩
theorem AC.put {J : HI} {a k : Nat} {v : Int32} (ha : 1 ≤ a ∧ a ≤ 3) (hk : k < 8) : AC J (sI J (127 + a) k v) := by
  refine ⟨fun x hx => zs_ne (by omega), fun w _ => by rw [zs_ne (by omega)], fun j hj => ?_, fun j _ => by rw [zs_ne (by omega)]⟩
  have o : ∀ x, sI J (127 + a) k v x j = J x j := fun x => by
    by_cases c : x = 127 + a
    · subst c
      rw [zs_eq, zs_other (by omega)]
    · rw [zs_ne c]
  exact ⟨o _, o _, o _⟩
theorem mayB_congr {D S S' : HI} {n l h r c : Nat} (hE : SEp n S S') (hl : l < min n 8) : mayB D S l h r c = mayB D S' l h r c := by
  obtain ⟨e1, e2, e3⟩ := hE.2.1 l hl
  unfold mayB mayV
  rw [e1, e2, hE.1]
theorem besI_congr {S S' : HI} {nl l : Nat} {x : Int32} (hE : SEp nl S S') (hn : nl ≤ 8) : besI S nl x l = besI S' nl x l := cnt_congr (fun i hi => by rw [(hE.2.1 i (by omega)).2.1])
theorem mayB_lt {D S : HI} {l h r c : Nat} (hm : mayB D S l h r c = true) : (S 1 l).toNatClampNeg ≤ r := by
  unfold mayB at hm
  split at hm
  · cases hm
  · split at hm
    · cases hm
    · rename_i q
      exact Decidable.not_not.mp q
theorem eq_move : Eq_move Rel := by
  intro n I R J M a0 a1 hn hR
  obtain ⟨t, b, nh, no, nl, h⟩ := hR
  obtain ⟨hC, hL, hM, hE, hS, hB, hB', h1⟩ := h.get
  have h7 := hC.2.2.2.2.2.2.2.1
  have h9 := hC.2.2.2.2.2.2.2.2.2
  have ht := hC.2.2.1
  have hD : LWf (vw I t) nh := h.2.2.2.2.2.2.1.2.2.2.2.2.1
  have n3 : ¬ (1 : Int32) = 0 := by decide
  have nn : (-1 : Int32) < 0 := by decide
  have fail : ∀ I1 J1 M1, SX t I I1 → SM J J1 → SL M M1 → ∃ (r : Int32) (I' : HI) (J' : HI) (M' : HL), ((f_X11_refuse I1 3).bind fun x2 => gz 0 (some ((0 : Int32), x2.2))) = some (r, I') ∧ ((f_X12_refuses J1 3).bind fun x11 => if x11.1 < 0 then gz 0 (some ((0 : Int32), x11.2, M1)) else gz 1 (some (1, x11.2, M1))) = some (r, J', M') ∧ Rel (n + 6) I' R J' M' := by
    intro I1 J1 M1 z1 z2 z3
    have r1 : f_X11_refuse I1 3 = _ := refuse_C (I := I1) (k := 3) (by decide)
    have r2 : f_X12_refuses J1 3 = _ := refuses_M (J := J1) (k := 3) (by decide)
    refine ⟨0, _, _, M1, by rw [r1]; rfl, by rw [r2]; rfl, (Rel_ref (Rel_same h (by omega) z1 SR.refl z2 z3) (k := 3) (by decide)).rel⟩
  unfold f_X11_move f_X12_move f_X9_canMove
  rw [isLake_M hM]
  rcases own_cases (x := a0) (no := nl) h9 with c | ⟨l, hl, rfl, c⟩
  · rw [stands_C hC, if_neg (fun q => c q.1), if_neg c]
    simp only [jnt, Option.bind_some, if_true, gz_0]
    exact fail I J M SX.refl SM.refl SL.refl
  rw [if_pos c, stands_Cn hC hl]
  obtain ⟨x, x1, x2, x3, x4⟩ := hS.2.1 l (by omega)
  have x2' : I (49 + 1) l = nI x := x2
  rw [isHollow_C hC, isHollow_M hM, x2']
  have ef : f_X12_fill J 0 (nI l) = _ := fill_M (J := J) (v := 0) (l := l) (by decide) (by omega)
  rw [← (hE.2.1 l (by omega)).1, x2] at ef
  by_cases cx : x = 0
  · subst cx
    have z0 : nI 0 ≤ 0 := by decide
    simp only [jnt, Option.bind_some, if_pos z0, if_true, gz_0, if_neg n3]
    rcases own_cases (x := a1) (no := nh) h7 with d | ⟨g, hg, rfl, d⟩
    · simp only [if_neg d, if_true]
      exact fail I J M SX.refl SM.refl SL.refl
    · have em : f_X12_canMove FU J M 0 (nI l) (nI g) = some (0, J, M) := by
        unfold f_X12_canMove
        rw [ef]
        rfl
      simp only [if_pos d, if_neg n3, em, Option.bind_some, if_true]
      exact fail I J M SX.refl SM.refl SL.refl
  have x0 : ¬ nI x ≤ 0 := nI_nle (by omega) (by omega)
  have x00 : ¬ nI x = 0 := nI_ne0 (by omega) (by omega)
  simp only [jnt, Option.bind_some, if_neg x0, if_neg n3]
  obtain ⟨-, ⟨g, hg, eg⟩, -⟩ := x4 (by omega)
  have eg' : I (49 + 2) l = nI g := eg
  have el : f_X12_liesIn J 0 (nI l) = _ := liesIn_M (J := J) (v := 0) (l := l) (by decide) (by omega)
  rw [← (hE.2.1 l (by omega)).2.1, eg] at el
  rcases own_cases (x := a1) (no := nh) h7 with d | ⟨to, hto, rfl, d⟩
  · simp only [if_neg d, if_true, gz_0, Option.bind_some]
    exact fail I J M SX.refl SM.refl SL.refl
  simp only [if_pos d, if_neg n3]
  rw [ldI_ok (by omega), eg']
  by_cases cg : g = to
  · subst cg
    have em : f_X12_canMove FU J M 0 (nI l) (nI g) = some (0, J, M) := by
      unfold f_X12_canMove
      simp only [ef, el, Option.bind_some, if_neg x00, if_true, gz_0]
    simp only [if_true, gz_0, em, Option.bind_some]
    exact fail I J M SX.refl SM.refl SL.refl
  have cg' : ¬ nI g = nI to := fun q => cg ((nI_eq (by omega) (by omega)).mp q)
  obtain ⟨⟨H, H1, H2⟩, -⟩ := hD.2.2 to hto
  obtain ⟨rm1, rm2⟩ := hS.room h9 hto H2 H1
  obtain ⟨r, hr⟩ : ∃ r, r = H - rs (sc I 49) to nl := ⟨_, rfl⟩
  rw [← hr] at rm2
  have ro := roomIn_C (fu := FU) hC FU_big.2 (show to < 8 by omega)
  rw [rm2] at ro
  have co := countIn_C (fu := FU) hC FU_big.2 (nI to)
  obtain ⟨cc, hcc⟩ : ∃ cc, cc = cnt (fun l => decide (I (49 + 2) l = nI to)) nl := ⟨_, rfl⟩
  rw [← hcc] at co
  have hcc8 : cc ≤ 8 := by rw [hcc]; exact Nat.le_trans (cnt_le nl) h9
  obtain ⟨I1, b1, b2⟩ := mayGo_C (fu := FU) hC hL hB hD FU_big.1 hl hto hg eg' (r := r) (c := cc) (by omega) hcc8
  obtain ⟨J1, M1, d1, d2, d3⟩ := canMove_M (fu := FU) (M := M) (v := 0) (l := l) (x := to) (g := g) (r := r) hM hL hB' hD FU_big.1 (by decide) hl hto hg (by rw [← (hE.2.1 l (by omega)).2.1]; exact eg) cg (by rw [← (hE.2.1 l (by omega)).1, x2]; exact x00) (by rw [← hE.rmE nl (Nat.le_refl nl) h9]; exact rm2) (by omega)
  have ecc : besI (lv J 0) nl (nI to) l = cc := by
    rw [← besI_congr hE h9, hcc]
    exact cnt_ne (p := fun j => decide (I (49 + 2) j = nI to)) (by rw [decide_eq_true_iff, eg']; exact cg')
  rw [ecc, ← mayB_congr hE (by omega)] at d1
  have d1' : f_X12_canMove FU J M 0 (nI l) (nI to) = _ := d1
  simp only [if_neg cg', ro, co, Option.bind_some, b1, d1']
  by_cases cm : mayB (vw I t) (sc I 49) l to r cc = true
  · have hrel := Rel_same h (n' := n) (by omega) (b2.SX (by decide) ht) SR.refl d2.SM d3.SL
    obtain ⟨I2, J2, q1, q2, q3, q4, q5, q6, q7, q8, q9, q10, q11⟩ := push_R (fu := FU) hrel FU_big.1
    simp only [if_pos cm, if_neg n3, gz_1, Option.bind_some, q1, q2]
    have ev1 : vw I2 t = vw I1 t := vw_congr (fun a ha => q5 _ (by clear x3 x4; omega))
    have es1 : sc I2 49 = sc I1 49 := sc_congr (fun a ha => q5 _ (by clear x3 x4; omega))
    have ev : vw I2 t = vw I t := ev1.trans (b2.vw ht (by decide))
    have es : sc I2 49 = sc I 49 := es1.trans b2.sc
    refine ⟨1, sI I2 51 l (nI to), sI J2 129 l (nI to), M1, ?_, ?_, (Rel_act (n' := n + 6) q3 (by omega) (fun x _ hx => zs_ne (by omega)) (fun k _ => by rw [zs_ne (by decide)]) (AC.put (a := 2) (by decide) (by omega)) (RLt_c q3.2.2.2.1 (by rw [zs_ne (by decide)]) rfl) (fun _ _ => rfl) ?_ ?_).rel⟩
    · simp (disch := omega) only [inb_ok, bnd, nI_clamp, gz_1]
    · simp (disch := omega) only [inb_ok, bnd, nI_clamp, gz_1]
    · have e1 : sc (sI I2 51 l (nI to)) 49 = sI (sc I2 49) 2 l (nI to) := sc_put (s := 49) (a := 2) (by decide)
      have e2 : lv (sI J2 129 l (nI to)) 0 = sI (lv J2 0) 2 l (nI to) := lv_put0 (a := 2) (by decide)
      rw [e1, e2]
      exact q3.get.2.2.2.1.put (by decide)
    · have e1 : sc (sI I2 51 l (nI to)) 49 = sI (sc I2 49) 2 l (nI to) := sc_put (s := 49) (a := 2) (by decide)
      rw [e1, es, ev]
      refine SW.mk' ⟨by rw [zs_ne (by decide)]; exact hS.1, fun j hj => ?_, by rw [zs_ne (by decide)]; exact hS.2.2.1⟩ hS hD h9 (fun h' H' hh' e3 e4 e5 => ?_)
      · rw [zs_ne (by decide), zs_ne (show 3 ≠ 2 by decide), zs_eq]
        by_cases cj : j = l
        · subst cj
          rw [zs_same]
          obtain ⟨_, _, z⟩ := x4 (by omega)
          exact ⟨x, x1, x2, fun q => absurd q cx, fun _ => ⟨hl, ⟨to, hto, rfl⟩, z⟩⟩
        · rw [zs_other cj]
          exact hS.2.1 j hj
      · have hle := mayB_lt cm
        rw [x2, nI_clamp (by omega)] at hle
        have hup := (smN_upd (f := fun j => if sc I 49 2 j = nI h' then (sc I 49 1 j).toNatClampNeg else 0) (g := fun j => if sI (sc I 49) 2 l (nI to) 2 j = nI h' then (sI (sc I 49) 2 l (nI to) 1 j).toNatClampNeg else 0) (a := l) (u := if nI to = nI h' then x else 0) (by
          show (if sI (sc I 49) 2 l (nI to) 2 l = nI h' then (sI (sc I 49) 2 l (nI to) 1 l).toNatClampNeg else 0) = _
          rw [zs_eq, zs_same, zs_ne (by decide), x2, nI_clamp (by omega)]) (fun j hj => by
          show (if sI (sc I 49) 2 l (nI to) 2 j = nI h' then (sI (sc I 49) 2 l (nI to) 1 j).toNatClampNeg else 0) = _
          rw [zs_eq, zs_other hj, zs_ne (by decide)]) nl).1 hl
        have d1 : rs (sI (sc I 49) 2 l (nI to)) h' nl = smN (fun j => if sI (sc I 49) 2 l (nI to) 2 j = nI h' then (sI (sc I 49) 2 l (nI to) 1 j).toNatClampNeg else 0) nl := rfl
        have d2 : rs (sc I 49) h' nl = smN (fun j => if sc I 49 2 j = nI h' then (sc I 49 1 j).toNatClampNeg else 0) nl := rfl
        rw [← d1, ← d2] at hup
        by_cases ce : to = h'
        · subst ce
          rw [if_pos rfl] at hup
          have : H' = H := (nI_eq (by omega) (by omega)).mp (e3.symm.trans H2)
          omega
        · rw [if_neg (fun q => ce ((nI_eq (by omega) (by omega)).mp q))] at hup
          omega
  · simp only [if_neg cm, if_true, gz_0, Option.bind_some]
    exact fail I1 J1 M1 (b2.SX (by decide) ht) d2.SM d3.SL
