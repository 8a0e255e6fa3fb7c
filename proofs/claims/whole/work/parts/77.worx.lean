/-! what the class's lakes are worth, what they leak -/
theorem cnt_but {p : Nat → Bool} {l : Nat} (hp : p l = true) : ∀ n, (l < n → cnt p n = cnt (fun j => decide (j ≠ l) && p j) n + 1) ∧ (n ≤ l → cnt p n = cnt (fun j => decide (j ≠ l) && p j) n) := by
  intro n
  induction n with
  | zero => exact ⟨fun h => absurd h (by omega), fun _ => rfl⟩
  | succ n ih =>
    have e1 : cnt p (n + 1) = cnt p n + (if p n = true then 1 else 0) := rfl
    have e2 : cnt (fun j => decide (j ≠ l) && p j) (n + 1) = cnt (fun j => decide (j ≠ l) && p j) n + (if (decide (n ≠ l) && p n) = true then 1 else 0) := rfl
    rw [e1, e2]
    by_cases hn : n = l
    · have h2 := ih.2 (by omega)
      rw [hn] at h2 ⊢
      rw [hp, h2]
      constructor
      · intro _; simp
      · intro h; omega
    · have hd : decide (n ≠ l) = true := decide_eq_true hn
      rw [hd, Bool.true_and]
      constructor
      · intro h; have := ih.1 (by omega); omega
      · intro h; have := ih.2 (by omega); omega
theorem vw_congr {I I' : HI} {t : Nat} (h : ∀ a, a < 13 → I' (t + a) = I (t + a)) : vw I' t = vw I t := by
  funext a
  unfold vw
  by_cases c : a < 13
  · rw [if_pos c, if_pos c, h a c]
  · rw [if_neg c, if_neg c]
theorem sc_congr {I I' : HI} {s : Nat} (h : ∀ a, a < 5 → I' (s + a) = I (s + a)) : sc I' s = sc I s := by
  funext a
  unfold sc
  by_cases c : a < 5
  · rw [if_pos c, if_pos c, h a c]
  · rw [if_neg c, if_neg c]
def MO (s : Nat) (I I' : HI) : Prop := ∀ x, x < s + 6 ∨ s + 9 ≤ x → I' x = I x
theorem MO.refl {s : Nat} {I : HI} : MO s I I := fun _ _ => rfl
theorem MO.trans {s : Nat} {I I' I'' : HI} (h : MO s I I') (h' : MO s I' I'') : MO s I I'' := fun x hx => (h' x hx).trans (h x hx)
theorem MO.sc {s : Nat} {I I' : HI} (h : MO s I I') : sc I' s = sc I s := sc_congr (fun a ha => h _ (by omega))
theorem MO.vw {s t : Nat} {I I' : HI} (h : MO s I I') (ht : t = 67 ∨ t = 80) (hs : s = 49 ∨ s = 58) : vw I' t = vw I t := vw_congr (fun a ha => h _ (by omega))
theorem MO.CL {I I' : HI} {R : HR} {s t nh no nl : Nat} (h : MO s I I') (hC : CL I R s t nh no nl) : CL I' R s t nh no nl := by
  obtain ⟨h0, h1, h2, h3, h4, h5, h6, h7, h8, h9⟩ := hC
  have e : I' t = I t := h t (by omega)
  exact ⟨h0, h1, h2, h3, by rw [e]; exact h4, by rw [e]; exact h5, by rw [e]; exact h6, h7, h8, h9⟩
theorem clamp_C {w : Int32} {v : Int} {m : Nat} (hw : w.toInt = v) (hm : m < 2 ^ 31) : ∃ y, f_J9_min_7cf53 (nI m) w = some y ∧ f_J9_max_7cf53 0 y = some (nI (clN m v)) := by
  have t0 : (0 : Int32).toInt = 0 := by decide
  have hmI := nI_toInt hm
  unfold f_J9_min_7cf53 f_J9_max_7cf53 clN
  simp only [Int32.lt_iff_toInt_lt, t0, hmI, hw]
  by_cases c1 : v < m
  · refine ⟨w, by rw [if_pos c1], ?_⟩
    rw [hw]
    by_cases c2 : 0 < v
    · rw [if_pos c2, if_neg (by omega), if_neg (by omega)]
      congr 1
      apply Int32.toInt_inj.mp
      rw [hw, nI_toInt (by omega)]
      omega
    · rw [if_neg c2]
      by_cases c3 : v < 0
      · rw [if_pos c3]; rfl
      · rw [if_neg c3, if_neg (by omega), show v.toNat = 0 by omega]; rfl
  · refine ⟨nI m, by rw [if_neg c1], ?_⟩
    rw [hmI]
    by_cases c2 : 0 < (m : Int)
    · rw [if_pos c2, if_neg (by omega)]
      by_cases c3 : (m : Int) < v
      · rw [if_pos c3]
      · rw [if_neg c3, show v.toNat = m by omega]
    · rw [if_neg c2]
      have : m = 0 := by omega
      subst this
      rw [if_neg (by omega)]
      split
      · rfl
      · rw [show v.toNat = 0 by omega]; rfl
section
variable {I : HI} {R : HR} {s t nh no nl fu : Nat}
theorem hasRule_C {r : Nat} (hr : r < 3) : f_X2_hasRule I t (nI r) = some (if rt (vw I t) r = true then 1 else 0) := by
  unfold f_X2_hasRule
  simp (disch := omega) only [ldI_ok]
  have e : rt (vw I t) r = true ↔ ¬ I (t + 12) r ≤ I (t + 11) r := by
    unfold rt
    rw [decide_eq_true_iff, Int32.not_le]
    exact Iff.rfl
  by_cases c : I (t + 12) r ≤ I (t + 11) r
  · rw [if_pos c, gz_0, if_neg (fun q => e.mp q c)]
  · rw [if_neg c, gz_1, if_pos (e.mpr c)]
/-- the machine's figures of a lake -/
theorem setLake_C {m : Nat} {a b c : Int32} : f_X3_setLake I m a b c = some (sI (sI (sI I (m + 2) 0 a) (m + 2) 1 b) (m + 2) 2 c) := by
  unfold f_X3_setLake
  simp (disch := omega) only [↓zm1, ↓zm2, ↓zm3, ↓zm4, ↓zm5, ↓zm6, ↓zm7, ↓zm8, ↓zm9, ↓zm10, ↓zm11, ↓zm12, ↓zm13, ↓zm14, ↓zm15, ↓zm16, ↓zm17, ↓zm18, ↓zm19, ↓zm20, ↓zm1000000000, zq0, zq1, zq2, zq3, zq4, zq5, zq6, zq7, zq8, zq9, zq10, zq11, zq12, zq13, zq14, zq15, zq16, zq17, zq18, zq19, zq20, zq21, zq22, zq23, zq24, zq25, zq26, zq30, zq31, zq32, zq33, zq34, zq35, zq36, zq37, zq38, zq39, zq40, zq41, zq42, zq43, zq44, zq45, zq47, zq48, zq57, zq59, zq60, zq61, zq62, zq80, zq91, zq93, zq97, zq99, zq100, zq107, zq110, zq120, zq122, zq128, zq149, zq160, zq208, zq240, zq251, zq255, zq256, zq500, zq936, zq999, zq1600, zq1800, zq2048, zq3200, zq4160, zq9999, zq12345, zq1000000, zq1048576, zq100000000, bnd, jnt, zg_ok, gz_0, gz_1, gz_n0, gz_n1, zs_eq, zs_ne, zs_same, zs_other, zA_eq, zA_ne, Option.bind_some, Option.bind_none, nI_add, pk_mul, nI_clamp, nI_leI, nI_ltI, nI_eq, pk_sub, nI_mI, nI_eq_mI, mI_eq_nI, nI_lt_m, ldI_ok, inb_ok, if_pos, if_neg, dv_ok, rem_ok, div_ok, if_true, if_false]
theorem setDrought_C {m : Nat} {a : Int32} : f_X3_setDrought I m a = some (sI I (m + 2) 3 a) := by
  unfold f_X3_setDrought
  simp (disch := omega) only [↓zm1, ↓zm2, ↓zm3, ↓zm4, ↓zm5, ↓zm6, ↓zm7, ↓zm8, ↓zm9, ↓zm10, ↓zm11, ↓zm12, ↓zm13, ↓zm14, ↓zm15, ↓zm16, ↓zm17, ↓zm18, ↓zm19, ↓zm20, ↓zm1000000000, zq0, zq1, zq2, zq3, zq4, zq5, zq6, zq7, zq8, zq9, zq10, zq11, zq12, zq13, zq14, zq15, zq16, zq17, zq18, zq19, zq20, zq21, zq22, zq23, zq24, zq25, zq26, zq30, zq31, zq32, zq33, zq34, zq35, zq36, zq37, zq38, zq39, zq40, zq41, zq42, zq43, zq44, zq45, zq47, zq48, zq57, zq59, zq60, zq61, zq62, zq80, zq91, zq93, zq97, zq99, zq100, zq107, zq110, zq120, zq122, zq128, zq149, zq160, zq208, zq240, zq251, zq255, zq256, zq500, zq936, zq999, zq1600, zq1800, zq2048, zq3200, zq4160, zq9999, zq12345, zq1000000, zq1048576, zq100000000, bnd, jnt, zg_ok, gz_0, gz_1, gz_n0, gz_n1, zs_eq, zs_ne, zs_same, zs_other, zA_eq, zA_ne, Option.bind_some, Option.bind_none, nI_add, pk_mul, nI_clamp, nI_leI, nI_ltI, nI_eq, pk_sub, nI_mI, nI_eq_mI, mI_eq_nI, nI_lt_m, ldI_ok, inb_ok, if_pos, if_neg, dv_ok, rem_ok, div_ok, if_true, if_false]
theorem setWay_C {m : Nat} {a b : Int32} : f_X3_setWay I m a b = some (sI (sI I (m + 2) 4 a) (m + 2) 5 b) := by
  unfold f_X3_setWay
  simp (disch := omega) only [↓zm1, ↓zm2, ↓zm3, ↓zm4, ↓zm5, ↓zm6, ↓zm7, ↓zm8, ↓zm9, ↓zm10, ↓zm11, ↓zm12, ↓zm13, ↓zm14, ↓zm15, ↓zm16, ↓zm17, ↓zm18, ↓zm19, ↓zm20, ↓zm1000000000, zq0, zq1, zq2, zq3, zq4, zq5, zq6, zq7, zq8, zq9, zq10, zq11, zq12, zq13, zq14, zq15, zq16, zq17, zq18, zq19, zq20, zq21, zq22, zq23, zq24, zq25, zq26, zq30, zq31, zq32, zq33, zq34, zq35, zq36, zq37, zq38, zq39, zq40, zq41, zq42, zq43, zq44, zq45, zq47, zq48, zq57, zq59, zq60, zq61, zq62, zq80, zq91, zq93, zq97, zq99, zq100, zq107, zq110, zq120, zq122, zq128, zq149, zq160, zq208, zq240, zq251, zq255, zq256, zq500, zq936, zq999, zq1600, zq1800, zq2048, zq3200, zq4160, zq9999, zq12345, zq1000000, zq1048576, zq100000000, bnd, jnt, zg_ok, gz_0, gz_1, gz_n0, gz_n1, zs_eq, zs_ne, zs_same, zs_other, zA_eq, zA_ne, Option.bind_some, Option.bind_none, nI_add, pk_mul, nI_clamp, nI_leI, nI_ltI, nI_eq, pk_sub, nI_mI, nI_eq_mI, mI_eq_nI, nI_lt_m, ldI_ok, inb_ok, if_pos, if_neg, dv_ok, rem_ok, div_ok, if_true, if_false]
/-- a rule is worked out over figures that the machine holds -/
theorem rule_C (hC : CL I R s t nh no nl) (hL : LR (vw I t)) {r : Nat} (hr : r < 3) (hrt : rt (vw I t) r = true) {K : HI} (hK : MO s I K) {fig : Nat → Option Int} (hb : ∀ k v, fig k = some v → bdZ v) (ha : ∀ k, Ask r k → ∃ v, fig k = some v) (hfig : ∀ k v, k < 6 → fig k = some v → (K (s + 6 + 2) k).toInt = v) (hfu : 1600 < fu) :
    ∃ w I', f_X3_run fu K (s + 6) t (nI r) = some (w, I') ∧ w.toInt = ruV (vw I t) r fig ∧ MO s I I' := by
  obtain ⟨h0, h1, h2, h3, h4, h5, h6, h7, h8, h9⟩ := hC
  obtain ⟨a, n, hR, hO⟩ := hL r hr
  have hn := (rt_iff hR).mp hrt
  obtain ⟨e1, e2⟩ := ruV_ev hR (hO hn) hb ha
  have ev : vw K t = vw I t := hK.vw h2 h3
  have e10 : K (t + 10) = vw I t 10 := by rw [← ev]; rfl
  obtain ⟨w, I', f1, f2, f3⟩ := run_C (m := s + 6) (t := t) (fu := fu) (I := K) (fig := fig) (v := ruV (vw I t) r fig) (by omega) hr (by rw [ev]; exact hR) (by rw [e10]; exact e1) hb hfig hfu
  exact ⟨w, I', f1, f2, fun x hx => (f3 x (by omega) (by omega)).trans (hK x hx)⟩
theorem bes_C (hC : CL I R s t nh no nl) (hf : 8 < fu) {l : Nat} (hl : l < nl) : ∃ c, f_X9_countIn fu I R s (I (s + 2) l) = some c ∧ c - 1 = nI (besI (sc I s) nl (I (s + 2) l) l) ∧ (c - 1).toInt = (besI (sc I s) nl (I (s + 2) l) l : Int) ∧ besI (sc I s) nl (I (s + 2) l) l ≤ 8 := by
  have h9 := hC.2.2.2.2.2.2.2.2.2
  refine ⟨_, countIn_C hC hf _, ?_⟩
  have e := (cnt_but (p := fun j => decide (I (s + 2) j = I (s + 2) l)) (l := l) (by simp) nl).1 hl
  have e2 : besI (sc I s) nl (I (s + 2) l) l = cnt (fun j => decide (j ≠ l) && decide (I (s + 2) j = I (s + 2) l)) nl := rfl
  have e3 := cnt_le (p := fun j => decide (j ≠ l) && decide (I (s + 2) j = I (s + 2) l)) nl
  have e4 : nI (cnt (fun j => decide (I (s + 2) j = I (s + 2) l)) nl) - 1 = nI (besI (sc I s) nl (I (s + 2) l) l) := by rw [e, nI_pred, ← e2]
  refine ⟨e4, ?_, by omega⟩
  rw [e4, nI_toInt (by omega)]
theorem fg_three {r : Nat} {K : HI} {m : Nat} {a b c d e f : Int} (h0 : (K m 0).toInt = a) (h1 : (K m 1).toInt = b) (h2 : (K m 2).toInt = c) (h3 : r = 0 → (K m 3).toInt = d) (h4 : r = 2 → (K m 4).toInt = e) (h5 : r = 2 → (K m 5).toInt = f) : ∀ k v, k < 6 → fg r a b c d e f k = some v → (K m k).toInt = v := by
  intro k v hk h
  have hz : k = 0 ∨ k = 1 ∨ k = 2 ∨ k = 3 ∨ k = 4 ∨ k = 5 := by omega
  unfold fg at h
  rcases hz with q | q | q | q | q | q
  · subst q; injection h with h; rw [h0, h]
  · subst q; injection h with h; rw [h1, h]
  · subst q; injection h with h; rw [h2, h]
  · subst q
    by_cases c : r = 0
    · subst c; injection h with h; rw [h3 rfl, h]
    · have h' : (if r = 0 then some d else none) = some v := h
      rw [if_neg c] at h'; cases h'
  · subst q
    by_cases c : r = 2
    · subst c; injection h with h; rw [h4 rfl, h]
    · have h' : (if r = 2 then some e else none) = some v := h
      rw [if_neg c] at h'; cases h'
  · subst q
    by_cases c : r = 2
    · subst c; injection h with h; rw [h5 rfl, h]
    · have h' : (if r = 2 then some f else none) = some v := h
      rw [if_neg c] at h'; cases h'
/-- barrels of 0 to 999, a night of 0 to 9999 -/
def BW (S : HI) : Prop := (∀ l, l < 8 → ∃ x, x ≤ 999 ∧ S 1 l = nI x) ∧ ∃ n, n ≤ 9999 ∧ S 0 1 = nI n
theorem worthOf_C (hC : CL I R s t nh no nl) (hL : LR (vw I t)) (hW : BW (sc I s)) (hf : 1600 < fu) {l : Nat} (hl : l < nl) : ∃ I', f_X9_worthOf fu I R s (nI l) = some (nI (woN (vw I t) (sc I s) nl l), I') ∧ MO s I I' := by
  have hst := stands_Cn hC hl
  obtain ⟨c, b1, b2, b3, b4⟩ := bes_C (fu := fu) hC (by omega) hl
  have hC' := hC
  obtain ⟨h0, h1, h2, h3, h4, h5, h6, h7, h8, h9⟩ := hC'
  obtain ⟨x, hx, ex⟩ := hW.1 l (by omega)
  obtain ⟨nn, hnn, en⟩ := hW.2
  have ex' : I (s + 1) l = nI x := ex
  have en' : I s 1 = nI nn := en
  unfold f_X9_worthOf
  rw [hst, ex']
  unfold woN
  rw [ex]
  by_cases c0 : x = 0
  · subst c0
    exact ⟨I, by rw [if_pos (by decide), if_pos rfl]; simp only [Option.bind_some]; rw [if_pos trivial]; rfl, MO.refl⟩
  · have n1 : ¬ nI x ≤ 0 := nI_nle (by omega) (by omega)
    have n2 : ¬ nI x = nI 0 := fun q => c0 ((nI_eq (by omega) (by omega)).mp q)
    rw [if_neg n1, if_neg n2]
    simp only [Option.bind_some]
    rw [if_neg (show ¬ (1 : Int32) = 0 by decide), h1, zg_ok h0, show (1 : Int32) = nI 1 from rfl, hasRule_C (by decide)]
    by_cases cr : rt (vw I t) 1 = true
    · rw [if_pos cr, if_pos cr]
      simp only [Option.bind_some]
      rw [if_neg (show ¬ (1 : Int32) = 0 by decide), ldI_ok (by omega), ldI_ok (by omega), b1]
      simp only [Option.bind_some]
      rw [setLake_C]
      simp only [Option.bind_some]
      obtain ⟨w, I', f1, f2, f3⟩ := rule_C (fu := fu) (r := 1) hC hL (by decide) cr (K := sI (sI (sI I (s + 6 + 2) 0 (I (s + 1) l)) (s + 6 + 2) 1 (I s 1)) (s + 6 + 2) 2 (c - nI 1)) (fun y hy => by rw [zs_ne (by omega), zs_ne (by omega), zs_ne (by omega)])
        (fig := fg 1 (sc I s 1 l).toInt (sc I s 0 1).toInt (besI (sc I s) nl (sc I s 2 l) l) 0 0 0)
        (fg_bd (by rw [ex, nI_toInt (by omega)]; unfold bdZ; omega) (by rw [en, nI_toInt (by omega)]; unfold bdZ; omega) (by unfold bdZ; have : besI (sc I s) nl (sc I s 2 l) l ≤ 8 := b4; omega) (by unfold bdZ; omega) (by unfold bdZ; omega) (by unfold bdZ; omega)) fg_ask
        (fg_three (by simp (disch := omega) only [bnd, jnt, zg_ok, gz_0, gz_1, gz_n0, gz_n1, zs_eq, zs_ne, zs_same, zs_other, zA_eq, zA_ne, Option.bind_some, Option.bind_none]; rfl) (by simp (disch := omega) only [bnd, jnt, zg_ok, gz_0, gz_1, gz_n0, gz_n1, zs_eq, zs_ne, zs_same, zs_other, zA_eq, zA_ne, Option.bind_some, Option.bind_none]; rfl) (by simp (disch := omega) only [bnd, jnt, zg_ok, gz_0, gz_1, gz_n0, gz_n1, zs_eq, zs_ne, zs_same, zs_other, zA_eq, zA_ne, Option.bind_some, Option.bind_none]; exact b3) (fun q => absurd q (by decide)) (fun q => absurd q (by decide)) (fun q => absurd q (by decide))) hf
      rw [f1]
      simp only [Option.bind_some]
      obtain ⟨y, g1, g2⟩ := clamp_C (m := 9999) f2 (by decide)
      have g1' : f_J9_min_7cf53 9999 w = some y := g1
      rw [g1']
      simp only [Option.bind_some]
      rw [g2]
      exact ⟨I', by rw [ex]; rfl, f3⟩
    · rw [if_neg cr, if_neg cr]
      simp only [Option.bind_some]
      rw [if_pos trivial, ldI_ok (by omega), ex', nI_clamp (by omega)]
      exact ⟨I, rfl, MO.refl⟩
theorem leakOf_C (hC : CL I R s t nh no nl) (hL : LR (vw I t)) (hW : BW (sc I s)) (hf : 1600 < fu) {l d : Nat} (hd : d ≤ 1) (hl : l < nl) : ∃ I', f_X9_leakOf fu I R s (nI l) (nI d) = some (nI (lkN (vw I t) (sc I s) nl l d), I') ∧ MO s I I' := by
  have hst := stands_Cn hC hl
  obtain ⟨c, b1, b2, b3, b4⟩ := bes_C (fu := fu) hC (by omega) hl
  have hC' := hC
  obtain ⟨h0, h1, h2, h3, h4, h5, h6, h7, h8, h9⟩ := hC'
  obtain ⟨x, hx, ex⟩ := hW.1 l (by omega)
  obtain ⟨nn, hnn, en⟩ := hW.2
  have ex' : I (s + 1) l = nI x := ex
  have en' : I s 1 = nI nn := en
  unfold f_X9_leakOf
  rw [hst, ex']
  unfold lkN
  rw [ex]
  by_cases c0 : x = 0
  · subst c0
    exact ⟨I, by rw [if_pos (by decide), if_pos rfl]; simp only [Option.bind_some]; rw [if_pos trivial]; rfl, MO.refl⟩
  · have n1 : ¬ nI x ≤ 0 := nI_nle (by omega) (by omega)
    have n2 : ¬ nI x = nI 0 := fun q => c0 ((nI_eq (by omega) (by omega)).mp q)
    rw [if_neg n1, if_neg n2]
    simp only [Option.bind_some]
    have hr0 : f_X2_hasRule I t 0 = some (if rt (vw I t) 0 = true then 1 else 0) := by
      rw [← nI_0]
      exact hasRule_C (by decide)
    rw [if_neg (show ¬ (1 : Int32) = 0 by decide), h1, zg_ok h0, hr0]
    by_cases cr : rt (vw I t) 0 = true
    · rw [if_pos cr, if_pos cr]
      obtain ⟨w, I', f1, f2, f3⟩ := rule_C (fu := fu) (r := 0) hC hL (by decide) cr (K := sI (sI (sI (sI I (s + 6 + 2) 0 (I (s + 1) l)) (s + 6 + 2) 1 (I s 1)) (s + 6 + 2) 2 (c - 1)) (s + 6 + 2) 3 (nI d)) (fun y hy => by rw [zs_ne (by omega), zs_ne (by omega), zs_ne (by omega), zs_ne (by omega)])
        (fig := fg 0 (sc I s 1 l).toInt (sc I s 0 1).toInt (besI (sc I s) nl (sc I s 2 l) l) d 0 0)
        (fg_bd (by rw [ex, nI_toInt (by omega)]; unfold bdZ; omega) (by rw [en, nI_toInt (by omega)]; unfold bdZ; omega) (by unfold bdZ; have : besI (sc I s) nl (sc I s 2 l) l ≤ 8 := b4; omega) (by unfold bdZ; omega) (by unfold bdZ; omega) (by unfold bdZ; omega)) fg_ask
        (fg_three (by simp (disch := omega) only [bnd, jnt, zg_ok, gz_0, gz_1, gz_n0, gz_n1, zs_eq, zs_ne, zs_same, zs_other, zA_eq, zA_ne, Option.bind_some, Option.bind_none]; rfl) (by simp (disch := omega) only [bnd, jnt, zg_ok, gz_0, gz_1, gz_n0, gz_n1, zs_eq, zs_ne, zs_same, zs_other, zA_eq, zA_ne, Option.bind_some, Option.bind_none]; rfl) (by simp (disch := omega) only [bnd, jnt, zg_ok, gz_0, gz_1, gz_n0, gz_n1, zs_eq, zs_ne, zs_same, zs_other, zA_eq, zA_ne, Option.bind_some, Option.bind_none]; exact b3) (fun _ => by simp (disch := omega) only [bnd, jnt, zg_ok, gz_0, gz_1, gz_n0, gz_n1, zs_eq, zs_ne, zs_same, zs_other, zA_eq, zA_ne, Option.bind_some, Option.bind_none]; rw [nI_toInt (by omega)]) (fun q => absurd q (by decide)) (fun q => absurd q (by decide))) hf
      rw [nI_0] at f1
      obtain ⟨y, g1, g2⟩ := clamp_C (m := x) f2 (by omega)
      have e8 : sI (sI (sI (sI I (s + 6 + 2) 0 (I (s + 1) l)) (s + 6 + 2) 1 (I s 1)) (s + 6 + 2) 2 (c - 1)) (s + 6 + 2) 3 (nI d) (s + 1) l = nI x := by
        rw [zs_ne (by omega), zs_ne (by omega), zs_ne (by omega), zs_ne (by omega)]
        exact ex'
      refine ⟨I', ?_, f3⟩
      have n3 : ¬ (1 : Int32) = 0 := by decide
      simp (disch := omega) only [Option.bind_some, if_neg n3, ldI_ok, b1, setLake_C, setDrought_C, f1, e8, g1, g2, nI_clamp, ex]
    · rw [if_neg cr, if_neg cr]
      simp only [Option.bind_some]
      rw [if_pos trivial]
      exact ⟨I, rfl, MO.refl⟩
end
