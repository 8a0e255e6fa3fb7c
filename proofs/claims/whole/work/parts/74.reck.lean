/-! the reference works the small language out -/
theorem two9 (a b : Int64) : f_X12_two (nI 31) a b = (f_X12_held (a + b)).bind fun x1 => some x1 := by
  unfold f_X12_two
  rw [if_pos (by decide)]
theorem two10 (a b : Int64) : f_X12_two (nI 32) a b = (f_X12_held (a - b)).bind fun x1 => some x1 := by
  unfold f_X12_two
  rw [if_neg (by decide), if_pos (by decide)]
theorem two11 (a b : Int64) : f_X12_two (nI 33) a b = (f_X12_held (a * b)).bind fun x1 => some x1 := by
  unfold f_X12_two
  rw [if_neg (by decide), if_neg (by decide), if_pos (by decide)]
theorem two12 (a b : Int64) : f_X12_two (nI 34) a b = (f_X12_floor a b).bind fun x4 => (f_X12_held x4).bind fun x5 => some x5 := by
  unfold f_X12_two
  rw [if_neg (by decide), if_neg (by decide), if_neg (by decide), if_pos (by decide)]
theorem two13 (a b : Int64) : f_X12_two (nI 35) a b = if (lg_cmp b 0) = 0 then some 0 else (f_X12_floor a b).bind fun x6 => (f_X12_held (a - (b * x6))).bind fun x7 => some x7 := by
  unfold f_X12_two
  rw [if_neg (by decide), if_neg (by decide), if_neg (by decide), if_neg (by decide), if_pos (by decide)]
theorem two14 (a b : Int64) : f_X12_two (nI 36) a b = if 0 ≤ (lg_cmp a b) then some b else some a := by
  unfold f_X12_two
  rw [if_neg (by decide), if_neg (by decide), if_neg (by decide), if_neg (by decide), if_neg (by decide), if_pos (by decide)]
theorem two15 (a b : Int64) : f_X12_two (nI 37) a b = if (lg_cmp a b) ≤ 0 then some b else some a := by
  unfold f_X12_two
  rw [if_neg (by decide), if_neg (by decide), if_neg (by decide), if_neg (by decide), if_neg (by decide), if_neg (by decide), if_pos (by decide)]
theorem two16 (a b : Int64) : f_X12_two (nI 38) a b = if 0 ≤ (lg_cmp a b) then some 0 else some 1 := by
  unfold f_X12_two
  rw [if_neg (by decide), if_neg (by decide), if_neg (by decide), if_neg (by decide), if_neg (by decide), if_neg (by decide), if_neg (by decide), if_pos (by decide)]
theorem two17 (a b : Int64) : f_X12_two (nI 39) a b = if (lg_cmp a b) ≤ 0 then some 0 else some 1 := by
  unfold f_X12_two
  rw [if_neg (by decide), if_neg (by decide), if_neg (by decide), if_neg (by decide), if_neg (by decide), if_neg (by decide), if_neg (by decide), if_neg (by decide), if_pos (by decide)]
theorem two18 (a b : Int64) : f_X12_two (nI 40) a b = if (lg_cmp a b) = 0 then some 1 else some 0 := by
  unfold f_X12_two
  rw [if_neg (by decide), if_neg (by decide), if_neg (by decide), if_neg (by decide), if_neg (by decide), if_neg (by decide), if_neg (by decide), if_neg (by decide), if_neg (by decide), if_pos (by decide)]
theorem two19 (a b : Int64) : f_X12_two (nI 41) a b = some (a &&& b) := by
  unfold f_X12_two
  rw [if_neg (by decide), if_neg (by decide), if_neg (by decide), if_neg (by decide), if_neg (by decide), if_neg (by decide), if_neg (by decide), if_neg (by decide), if_neg (by decide), if_neg (by decide), if_pos (by decide)]
theorem two20 (a b : Int64) : f_X12_two (nI 42) a b = some (a ||| b) := by
  unfold f_X12_two
  rw [if_neg (by decide), if_neg (by decide), if_neg (by decide), if_neg (by decide), if_neg (by decide), if_neg (by decide), if_neg (by decide), if_neg (by decide), if_neg (by decide), if_neg (by decide), if_neg (by decide)]
theorem flZ_bd {a b : Int} (ha : bdZ a) : -1000001 ≤ flZ a b ∧ flZ a b ≤ 1000000 := by
  have h := tdiv_bd (b := b) ha
  unfold bdZ at h
  unfold flZ
  split <;> omega
theorem two_Z {k : Nat} {a b : Int64} (h1 : 9 ≤ k) (h2 : k ≤ 20) (ha : bdZ a.toInt) (hb : bdZ b.toInt) (h01 : k = 19 ∨ k = 20 → (a.toInt = 0 ∨ a.toInt = 1) ∧ (b.toInt = 0 ∨ b.toInt = 1)) : ∃ w, f_X12_two (nI (22 + k)) a b = some w ∧ w.toInt = opZ (-(k : Int)) a.toInt b.toInt := by
  obtain ⟨t1, t2, t3, t4, t5⟩ := t64_lit
  have hm := mul_bd ha hb
  have ha' := ha
  have hb' := hb
  unfold bdZ at ha' hb'
  have hz : k = 9 ∨ k = 10 ∨ k = 11 ∨ k = 12 ∨ k = 13 ∨ k = 14 ∨ k = 15 ∨ k = 16 ∨ k = 17 ∨ k = 18 ∨ k = 19 ∨ k = 20 := by omega
  rcases hz with h | h | h | h | h | h | h | h | h | h | h | h
  · subst h
    obtain ⟨w, e1, e2⟩ := held_Z (a + b)
    rw [add64 (by omega)] at e2
    exact ⟨w, (two9 a b).trans (by rw [e1]; rfl), e2.trans (opZ9 _ _).symm⟩
  · subst h
    obtain ⟨w, e1, e2⟩ := held_Z (a - b)
    rw [sub64 (by omega)] at e2
    exact ⟨w, (two10 a b).trans (by rw [e1]; rfl), e2.trans (opZ10 _ _).symm⟩
  · subst h
    obtain ⟨w, e1, e2⟩ := held_Z (a * b)
    rw [mul64 (by omega)] at e2
    exact ⟨w, (two11 a b).trans (by rw [e1]; rfl), e2.trans (opZ11 _ _).symm⟩
  · subst h
    have ho := opZ12 a.toInt b.toInt
    by_cases c0 : b.toInt = 0
    · have : b = 0 := Int64.toInt_inj.mp (c0.trans t3.symm)
      subst this
      rw [if_pos c0] at ho
      exact ⟨0, (two12 a 0).trans rfl, t3.trans ho.symm⟩
    · rw [if_neg c0] at ho
      obtain ⟨w, e1, e2⟩ := floor_Z ha hb c0
      obtain ⟨x, e3, e4⟩ := held_Z w
      exact ⟨x, (two12 a b).trans (by rw [e1]; simp only [Option.bind_some]; rw [e3]; rfl), by rw [e4, e2]; exact ho.symm⟩
  · subst h
    have ho := opZ13 a.toInt b.toInt
    have hc := two13 a b
    simp only [lg_cmp_eq, ← Int64.toInt_inj, t3] at hc
    by_cases c0 : b.toInt = 0
    · rw [if_pos c0] at ho hc
      exact ⟨0, hc, t3.trans ho.symm⟩
    · rw [if_neg c0] at ho hc
      obtain ⟨w, e1, e2⟩ := floor_Z ha hb c0
      have hfl := flZ_bd (b := b.toInt) ha
      have hmm : -1000002000000 ≤ b.toInt * flZ a.toInt b.toInt ∧ b.toInt * flZ a.toInt b.toInt ≤ 1000002000000 := by
        have h := Int.natAbs_mul b.toInt (flZ a.toInt b.toInt)
        have h2 : b.toInt.natAbs * (flZ a.toInt b.toInt).natAbs ≤ 1000000 * 1000001 := Nat.mul_le_mul (by omega) (by omega)
        omega
      have e5 : (b * w).toInt = b.toInt * flZ a.toInt b.toInt := by rw [mul64 (by rw [e2]; omega), e2]
      have e6 : (a - b * w).toInt = a.toInt - b.toInt * flZ a.toInt b.toInt := by rw [sub64 (by rw [e5]; omega), e5]
      obtain ⟨x, e3, e4⟩ := held_Z (a - b * w)
      exact ⟨x, hc.trans (by rw [e1]; simp only [Option.bind_some]; rw [e3]; rfl), by rw [e4, e6]; exact ho.symm⟩
  · subst h
    have ho := opZ14 a.toInt b.toInt
    have hc := two14 a b
    simp only [lg_cmp_ge, Int64.le_iff_toInt_le] at hc
    by_cases c0 : b.toInt ≤ a.toInt
    · rw [if_pos c0] at hc
      exact ⟨b, hc, by refine Eq.trans ?_ ho.symm; rw [if_neg (by omega)]⟩
    · rw [if_neg c0] at hc
      exact ⟨a, hc, by refine Eq.trans ?_ ho.symm; rw [if_pos (by omega)]⟩
  · subst h
    have ho := opZ15 a.toInt b.toInt
    have hc := two15 a b
    simp only [lg_cmp_le, Int64.le_iff_toInt_le] at hc
    by_cases c0 : a.toInt ≤ b.toInt
    · rw [if_pos c0] at hc
      exact ⟨b, hc, by refine Eq.trans ?_ ho.symm; rw [if_neg (by omega)]⟩
    · rw [if_neg c0] at hc
      exact ⟨a, hc, by refine Eq.trans ?_ ho.symm; rw [if_pos (by omega)]⟩
  · subst h
    have ho := opZ16 a.toInt b.toInt
    have hc := two16 a b
    simp only [lg_cmp_ge, Int64.le_iff_toInt_le] at hc
    by_cases c0 : b.toInt ≤ a.toInt
    · rw [if_pos c0] at hc
      exact ⟨0, hc, by refine Eq.trans ?_ ho.symm; rw [if_neg (by omega)]; exact t3⟩
    · rw [if_neg c0] at hc
      exact ⟨1, hc, by refine Eq.trans ?_ ho.symm; rw [if_pos (by omega)]; exact t4⟩
  · subst h
    have ho := opZ17 a.toInt b.toInt
    have hc := two17 a b
    simp only [lg_cmp_le, Int64.le_iff_toInt_le] at hc
    by_cases c0 : a.toInt ≤ b.toInt
    · rw [if_pos c0] at hc
      exact ⟨0, hc, by refine Eq.trans ?_ ho.symm; rw [if_neg (by omega)]; exact t3⟩
    · rw [if_neg c0] at hc
      exact ⟨1, hc, by refine Eq.trans ?_ ho.symm; rw [if_pos (by omega)]; exact t4⟩
  · subst h
    have ho := opZ18 a.toInt b.toInt
    have hc := two18 a b
    simp only [lg_cmp_eq, ← Int64.toInt_inj] at hc
    by_cases c0 : a.toInt = b.toInt
    · rw [if_pos c0] at hc ho
      exact ⟨1, hc, t4.trans ho.symm⟩
    · rw [if_neg c0] at hc ho
      exact ⟨0, hc, t3.trans ho.symm⟩
  · subst h
    obtain ⟨p, q⟩ := h01 (Or.inl rfl)
    have ho := opZ19 a.toInt b.toInt
    refine ⟨_, two19 a b, Eq.trans ?_ ho.symm⟩
    rcases p with p | p <;> rcases q with q | q
    · have u : a = 0 := Int64.toInt_inj.mp (p.trans (by decide))
      have v : b = 0 := Int64.toInt_inj.mp (q.trans (by decide))
      rw [u, v]
      decide
    · have u : a = 0 := Int64.toInt_inj.mp (p.trans (by decide))
      have v : b = 1 := Int64.toInt_inj.mp (q.trans (by decide))
      rw [u, v]
      decide
    · have u : a = 1 := Int64.toInt_inj.mp (p.trans (by decide))
      have v : b = 0 := Int64.toInt_inj.mp (q.trans (by decide))
      rw [u, v]
      decide
    · have u : a = 1 := Int64.toInt_inj.mp (p.trans (by decide))
      have v : b = 1 := Int64.toInt_inj.mp (q.trans (by decide))
      rw [u, v]
      decide
  · subst h
    obtain ⟨p, q⟩ := h01 (Or.inr rfl)
    have ho := opZ20 a.toInt b.toInt
    refine ⟨_, two20 a b, Eq.trans ?_ ho.symm⟩
    rcases p with p | p <;> rcases q with q | q
    · have u : a = 0 := Int64.toInt_inj.mp (p.trans (by decide))
      have v : b = 0 := Int64.toInt_inj.mp (q.trans (by decide))
      rw [u, v]
      decide
    · have u : a = 0 := Int64.toInt_inj.mp (p.trans (by decide))
      have v : b = 1 := Int64.toInt_inj.mp (q.trans (by decide))
      rw [u, v]
      decide
    · have u : a = 1 := Int64.toInt_inj.mp (p.trans (by decide))
      have v : b = 0 := Int64.toInt_inj.mp (q.trans (by decide))
      rw [u, v]
      decide
    · have u : a = 1 := Int64.toInt_inj.mp (p.trans (by decide))
      have v : b = 1 := Int64.toInt_inj.mp (q.trans (by decide))
      rw [u, v]
      decide
/-- one of the class's codes, and the same one of the reference -/
def CR (op sort val : Int32) : Prop := (0 ≤ op.toInt ∧ sort = nI 0 ∧ val = op) ∨ (op.toInt = 1 ∧ sort = nI 30) ∨ (∃ k : Nat, k < 6 ∧ op.toInt = -1 - (k : Int) ∧ sort = nI (k + 1)) ∨ (op.toInt = -7 ∧ sort = nI 43) ∨ (op.toInt = -8 ∧ sort = nI 44) ∨ (∃ k : Nat, 9 ≤ k ∧ k ≤ 20 ∧ op.toInt = -(k : Int) ∧ sort = nI (22 + k))
def OtL (L L' : HL) : Prop := ∀ x, x ≠ 134 → L' x = L x
theorem SRL_put {L : HL} {st : List Int} {k : Nat} {w : Int64} {a : Int} (h : SRL (L 134) st) (hk : k = st.length) (hw : w.toInt = a) : SRL (sL L 134 k w 134) (a :: st) ∧ OtL L (sL L 134 k w) := by
  subst hk
  refine ⟨⟨?_, ?_⟩, fun x hx => zL_ne hx⟩
  · rw [zL_eq, pk_uLs]
    exact hw
  · rw [zL_eq]
    exact SRL_keep (fun j hj => pk_uLn (by omega)) h
theorem step_M {J : HI} {L : HL} {b r c e n : Nat} {fig : Nat → Option Int} {op : Int32} {st st' : List Int} (hb : J 100 13 = nI b) (hb2 : b < 2) (hr : r < 3) (he : J 114 (3 * b + r) = nI e) (he2 : e ≤ 1600) (hc : c < 1600 * b + e) (hcr : CR op (J 115 c) (J 116 c)) (h : evS fig op.toInt st = some st') (hst : ∀ v ∈ st, bdZ v) (hs : SRL (L 134) st) (hfig : ∀ k v, k < 6 → fig k = some v → (J 135 (k + 1)).toInt = v) :
    ∃ L', f_X12_reckons_L25 (n + 1) J L (nI r) (nI st.length) (nI c) = f_X12_reckons_L25 n J L' (nI r) (nI st'.length) (nI (c + 1)) ∧ SRL (L' 134) st' ∧ OtL L L' := by
  obtain ⟨t1, t2, t3, t4, t5⟩ := t64_lit
  unfold evS at h
  by_cases c0 : 100 ≤ st.length
  · rw [if_pos c0] at h; cases h
  rw [if_neg c0] at h
  rcases hcr with ⟨a1, a2, a3⟩ | ⟨a1, a2⟩ | ⟨k, a0, a1, a2⟩ | ⟨a1, a2⟩ | ⟨a1, a2⟩ | ⟨k, b1, b2, a1, a2⟩
  · rw [if_pos a1] at h
    by_cases c2 : op.toInt ≤ 9999
    · rw [if_pos c2] at h
      injection h with h
      subst h
      obtain ⟨p1, p2⟩ := SRL_put (w := op.toInt64) hs rfl (Int32.toInt_toInt64 op)
      refine ⟨_, ?_, p1, p2⟩
      simp (disch := omega) only [f_X12_reckons_L25, ↓zm1, ↓zm2, ↓zm3, ↓zm4, ↓zm5, ↓zm6, ↓zm7, ↓zm8, ↓zm9, ↓zm10, ↓zm11, ↓zm12, ↓zm13, ↓zm14, ↓zm15, ↓zm16, ↓zm17, ↓zm18, ↓zm19, ↓zm20, ↓zm1000000000, zq0, zq1, zq2, zq3, zq4, zq5, zq6, zq7, zq8, zq9, zq10, zq11, zq12, zq13, zq14, zq15, zq16, zq17, zq18, zq19, zq20, zq21, zq22, zq23, zq24, zq25, zq26, zq30, zq31, zq32, zq33, zq34, zq35, zq36, zq37, zq38, zq39, zq40, zq41, zq42, zq43, zq44, zq45, zq47, zq48, zq57, zq59, zq60, zq61, zq62, zq80, zq91, zq93, zq97, zq99, zq100, zq107, zq110, zq120, zq122, zq128, zq149, zq160, zq208, zq240, zq251, zq255, zq256, zq500, zq936, zq999, zq1600, zq1800, zq2048, zq3200, zq4160, zq9999, zq12345, zq1000000, zq1048576, zq100000000, bnd, jnt, zg_ok, gz_0, gz_1, gz_n0, gz_n1, zs_eq, zs_ne, zs_same, zs_other, zA_eq, zA_ne, Option.bind_some, Option.bind_none, nI_add, pk_mul, nI_clamp, nI_leI, nI_ltI, nI_eq, pk_sub, nI_mI, nI_eq_mI, mI_eq_nI, nI_lt_m, ldI_ok, inb_ok, if_pos, if_neg, dv_ok, rem_ok, div_ok, if_true, if_false, ldL_ok, hb, he, a2, a3, List.length_cons]
    · rw [if_neg c2] at h; cases h
  · rw [if_pos (by omega), if_pos (by omega)] at h
    injection h with h
    subst h
    obtain ⟨p1, p2⟩ := SRL_put (w := 1) hs rfl (t4.trans a1.symm)
    refine ⟨_, ?_, p1, p2⟩
    simp (disch := omega) only [f_X12_reckons_L25, ↓zm1, ↓zm2, ↓zm3, ↓zm4, ↓zm5, ↓zm6, ↓zm7, ↓zm8, ↓zm9, ↓zm10, ↓zm11, ↓zm12, ↓zm13, ↓zm14, ↓zm15, ↓zm16, ↓zm17, ↓zm18, ↓zm19, ↓zm20, ↓zm1000000000, zq0, zq1, zq2, zq3, zq4, zq5, zq6, zq7, zq8, zq9, zq10, zq11, zq12, zq13, zq14, zq15, zq16, zq17, zq18, zq19, zq20, zq21, zq22, zq23, zq24, zq25, zq26, zq30, zq31, zq32, zq33, zq34, zq35, zq36, zq37, zq38, zq39, zq40, zq41, zq42, zq43, zq44, zq45, zq47, zq48, zq57, zq59, zq60, zq61, zq62, zq80, zq91, zq93, zq97, zq99, zq100, zq107, zq110, zq120, zq122, zq128, zq149, zq160, zq208, zq240, zq251, zq255, zq256, zq500, zq936, zq999, zq1600, zq1800, zq2048, zq3200, zq4160, zq9999, zq12345, zq1000000, zq1048576, zq100000000, bnd, jnt, zg_ok, gz_0, gz_1, gz_n0, gz_n1, zs_eq, zs_ne, zs_same, zs_other, zA_eq, zA_ne, Option.bind_some, Option.bind_none, nI_add, pk_mul, nI_clamp, nI_leI, nI_ltI, nI_eq, pk_sub, nI_mI, nI_eq_mI, mI_eq_nI, nI_lt_m, ldI_ok, inb_ok, if_pos, if_neg, dv_ok, rem_ok, div_ok, if_true, if_false, ldL_ok, hb, he, a2, List.length_cons]
  · rw [if_neg (by omega), if_pos (by omega)] at h
    have ek : (-1 - op.toInt).toNat = k := by omega
    rw [ek] at h
    split at h
    rotate_left
    · cases h
    rename_i u hu
    injection h with h
    subst h
    obtain ⟨p1, p2⟩ := SRL_put (w := (J 135 (k + 1)).toInt64) hs rfl ((Int32.toInt_toInt64 _).trans (hfig k u a0 hu))
    refine ⟨_, ?_, p1, p2⟩
    simp (disch := omega) only [f_X12_reckons_L25, ↓zm1, ↓zm2, ↓zm3, ↓zm4, ↓zm5, ↓zm6, ↓zm7, ↓zm8, ↓zm9, ↓zm10, ↓zm11, ↓zm12, ↓zm13, ↓zm14, ↓zm15, ↓zm16, ↓zm17, ↓zm18, ↓zm19, ↓zm20, ↓zm1000000000, zq0, zq1, zq2, zq3, zq4, zq5, zq6, zq7, zq8, zq9, zq10, zq11, zq12, zq13, zq14, zq15, zq16, zq17, zq18, zq19, zq20, zq21, zq22, zq23, zq24, zq25, zq26, zq30, zq31, zq32, zq33, zq34, zq35, zq36, zq37, zq38, zq39, zq40, zq41, zq42, zq43, zq44, zq45, zq47, zq48, zq57, zq59, zq60, zq61, zq62, zq80, zq91, zq93, zq97, zq99, zq100, zq107, zq110, zq120, zq122, zq128, zq149, zq160, zq208, zq240, zq251, zq255, zq256, zq500, zq936, zq999, zq1600, zq1800, zq2048, zq3200, zq4160, zq9999, zq12345, zq1000000, zq1048576, zq100000000, bnd, jnt, zg_ok, gz_0, gz_1, gz_n0, gz_n1, zs_eq, zs_ne, zs_same, zs_other, zA_eq, zA_ne, Option.bind_some, Option.bind_none, nI_add, pk_mul, nI_clamp, nI_leI, nI_ltI, nI_eq, pk_sub, nI_mI, nI_eq_mI, mI_eq_nI, nI_lt_m, ldI_ok, inb_ok, if_pos, if_neg, dv_ok, rem_ok, div_ok, if_true, if_false, ldL_ok, hb, he, a2, List.length_cons]
  · rw [if_neg (by omega), if_neg (by omega), if_pos a1] at h
    match st, h with
    | a :: s, h =>
      simp only at h
      by_cases c4 : a = 0 ∨ a = 1
      · rw [if_pos c4] at h
        injection h with h
        subst h
        have hl : s.length < 100 := by simp at c0; omega
        have e8 : (1 - L 134 s.length).toInt = 1 - a := by rw [sub64 (by rw [t4, hs.1]; omega), t4, hs.1]
        obtain ⟨p1, p2⟩ := SRL_put (w := 1 - L 134 s.length) hs.2 rfl e8
        refine ⟨_, ?_, p1, p2⟩
        simp (disch := omega) only [f_X12_reckons_L25, ↓zm1, ↓zm2, ↓zm3, ↓zm4, ↓zm5, ↓zm6, ↓zm7, ↓zm8, ↓zm9, ↓zm10, ↓zm11, ↓zm12, ↓zm13, ↓zm14, ↓zm15, ↓zm16, ↓zm17, ↓zm18, ↓zm19, ↓zm20, ↓zm1000000000, zq0, zq1, zq2, zq3, zq4, zq5, zq6, zq7, zq8, zq9, zq10, zq11, zq12, zq13, zq14, zq15, zq16, zq17, zq18, zq19, zq20, zq21, zq22, zq23, zq24, zq25, zq26, zq30, zq31, zq32, zq33, zq34, zq35, zq36, zq37, zq38, zq39, zq40, zq41, zq42, zq43, zq44, zq45, zq47, zq48, zq57, zq59, zq60, zq61, zq62, zq80, zq91, zq93, zq97, zq99, zq100, zq107, zq110, zq120, zq122, zq128, zq149, zq160, zq208, zq240, zq251, zq255, zq256, zq500, zq936, zq999, zq1600, zq1800, zq2048, zq3200, zq4160, zq9999, zq12345, zq1000000, zq1048576, zq100000000, bnd, jnt, zg_ok, gz_0, gz_1, gz_n0, gz_n1, zs_eq, zs_ne, zs_same, zs_other, zA_eq, zA_ne, Option.bind_some, Option.bind_none, nI_add, pk_mul, nI_clamp, nI_leI, nI_ltI, nI_eq, pk_sub, nI_mI, nI_eq_mI, mI_eq_nI, nI_lt_m, ldI_ok, inb_ok, if_pos, if_neg, dv_ok, rem_ok, div_ok, if_true, if_false, ldL_ok, hb, he, a2, List.length_cons, Nat.add_sub_cancel]
      · rw [if_neg c4] at h; cases h
  · rw [if_neg (by omega), if_neg (by omega), if_neg (by omega), if_pos a1] at h
    match st, h with
    | y :: x :: z :: s, h =>
      simp only at h
      by_cases c5 : z = 0 ∨ z = 1
      · rw [if_pos c5] at h
        injection h with h
        subst h
        have hl : s.length < 97 := by simp at c0; omega
        obtain ⟨g1, g2, g3, g4⟩ := hs
        have hz : (lg_cmp (L 134 s.length) 1 = nI 0) ↔ z = 1 := by rw [nI_0, lg_cmp_eq, ← Int64.toInt_inj, g3, t4]
        by_cases c6 : z = 0
        · rw [if_pos c6]
          obtain ⟨p1, p2⟩ := SRL_put (w := L 134 (s.length + 1 + 1)) g4 rfl g1
          refine ⟨_, ?_, p1, p2⟩
          have hz' : ¬ z = 1 := by omega
          simp (disch := omega) only [f_X12_reckons_L25, ↓zm1, ↓zm2, ↓zm3, ↓zm4, ↓zm5, ↓zm6, ↓zm7, ↓zm8, ↓zm9, ↓zm10, ↓zm11, ↓zm12, ↓zm13, ↓zm14, ↓zm15, ↓zm16, ↓zm17, ↓zm18, ↓zm19, ↓zm20, ↓zm1000000000, zq0, zq1, zq2, zq3, zq4, zq5, zq6, zq7, zq8, zq9, zq10, zq11, zq12, zq13, zq14, zq15, zq16, zq17, zq18, zq19, zq20, zq21, zq22, zq23, zq24, zq25, zq26, zq30, zq31, zq32, zq33, zq34, zq35, zq36, zq37, zq38, zq39, zq40, zq41, zq42, zq43, zq44, zq45, zq47, zq48, zq57, zq59, zq60, zq61, zq62, zq80, zq91, zq93, zq97, zq99, zq100, zq107, zq110, zq120, zq122, zq128, zq149, zq160, zq208, zq240, zq251, zq255, zq256, zq500, zq936, zq999, zq1600, zq1800, zq2048, zq3200, zq4160, zq9999, zq12345, zq1000000, zq1048576, zq100000000, bnd, jnt, zg_ok, gz_0, gz_1, gz_n0, gz_n1, zs_eq, zs_ne, zs_same, zs_other, zA_eq, zA_ne, Option.bind_some, Option.bind_none, nI_add, pk_mul, nI_clamp, nI_leI, nI_ltI, nI_eq, pk_sub, nI_mI, nI_eq_mI, mI_eq_nI, nI_lt_m, ldI_ok, inb_ok, if_pos, if_neg, dv_ok, rem_ok, div_ok, if_true, if_false, ldL_ok, hb, he, a2, List.length_cons, Nat.add_sub_cancel, Nat.reduceSubDiff, hz, hz']
        · rw [if_neg c6]
          obtain ⟨p1, p2⟩ := SRL_put (w := L 134 (s.length + 1)) g4 rfl g2
          refine ⟨_, ?_, p1, p2⟩
          have hz' : z = 1 := by omega
          simp (disch := omega) only [f_X12_reckons_L25, ↓zm1, ↓zm2, ↓zm3, ↓zm4, ↓zm5, ↓zm6, ↓zm7, ↓zm8, ↓zm9, ↓zm10, ↓zm11, ↓zm12, ↓zm13, ↓zm14, ↓zm15, ↓zm16, ↓zm17, ↓zm18, ↓zm19, ↓zm20, ↓zm1000000000, zq0, zq1, zq2, zq3, zq4, zq5, zq6, zq7, zq8, zq9, zq10, zq11, zq12, zq13, zq14, zq15, zq16, zq17, zq18, zq19, zq20, zq21, zq22, zq23, zq24, zq25, zq26, zq30, zq31, zq32, zq33, zq34, zq35, zq36, zq37, zq38, zq39, zq40, zq41, zq42, zq43, zq44, zq45, zq47, zq48, zq57, zq59, zq60, zq61, zq62, zq80, zq91, zq93, zq97, zq99, zq100, zq107, zq110, zq120, zq122, zq128, zq149, zq160, zq208, zq240, zq251, zq255, zq256, zq500, zq936, zq999, zq1600, zq1800, zq2048, zq3200, zq4160, zq9999, zq12345, zq1000000, zq1048576, zq100000000, bnd, jnt, zg_ok, gz_0, gz_1, gz_n0, gz_n1, zs_eq, zs_ne, zs_same, zs_other, zA_eq, zA_ne, Option.bind_some, Option.bind_none, nI_add, pk_mul, nI_clamp, nI_leI, nI_ltI, nI_eq, pk_sub, nI_mI, nI_eq_mI, mI_eq_nI, nI_lt_m, ldI_ok, inb_ok, if_pos, if_neg, dv_ok, rem_ok, div_ok, if_true, if_false, ldL_ok, hb, he, a2, List.length_cons, Nat.add_sub_cancel, Nat.reduceSubDiff, hz, hz']
      · rw [if_neg c5] at h; cases h
  · rw [if_neg (by omega), if_neg (by omega), if_neg (by omega), if_neg (by omega), if_pos (by omega)] at h
    match st, h with
    | y :: x :: s, h =>
      simp only at h
      by_cases c6 : (op.toInt = -19 ∨ op.toInt = -20) ∧ ¬ ((x = 0 ∨ x = 1) ∧ (y = 0 ∨ y = 1))
      · rw [if_pos c6] at h; cases h
      · rw [if_neg c6] at h
        injection h with h
        subst h
        have hl : s.length < 98 := by simp at c0; omega
        obtain ⟨g1, g2, g3⟩ := hs
        have g1 : (L 134 (s.length + 1)).toInt = y := g1
        obtain ⟨w, e1, e2⟩ := two_Z (k := k) (a := L 134 s.length) (b := L 134 (s.length + 1)) b1 b2 (by rw [g2]; exact hst _ (by simp)) (by rw [g1]; exact hst _ (by simp)) (by intro hh; rw [g1, g2]; exact Decidable.byContradiction fun hn => c6 ⟨by omega, hn⟩)
        rw [← a1, g1, g2] at e2
        obtain ⟨p1, p2⟩ := SRL_put (w := w) g3 rfl e2
        refine ⟨_, ?_, p1, p2⟩
        simp (disch := omega) only [f_X12_reckons_L25, ↓zm1, ↓zm2, ↓zm3, ↓zm4, ↓zm5, ↓zm6, ↓zm7, ↓zm8, ↓zm9, ↓zm10, ↓zm11, ↓zm12, ↓zm13, ↓zm14, ↓zm15, ↓zm16, ↓zm17, ↓zm18, ↓zm19, ↓zm20, ↓zm1000000000, zq0, zq1, zq2, zq3, zq4, zq5, zq6, zq7, zq8, zq9, zq10, zq11, zq12, zq13, zq14, zq15, zq16, zq17, zq18, zq19, zq20, zq21, zq22, zq23, zq24, zq25, zq26, zq30, zq31, zq32, zq33, zq34, zq35, zq36, zq37, zq38, zq39, zq40, zq41, zq42, zq43, zq44, zq45, zq47, zq48, zq57, zq59, zq60, zq61, zq62, zq80, zq91, zq93, zq97, zq99, zq100, zq107, zq110, zq120, zq122, zq128, zq149, zq160, zq208, zq240, zq251, zq255, zq256, zq500, zq936, zq999, zq1600, zq1800, zq2048, zq3200, zq4160, zq9999, zq12345, zq1000000, zq1048576, zq100000000, bnd, jnt, zg_ok, gz_0, gz_1, gz_n0, gz_n1, zs_eq, zs_ne, zs_same, zs_other, zA_eq, zA_ne, Option.bind_some, Option.bind_none, nI_add, pk_mul, nI_clamp, nI_leI, nI_ltI, nI_eq, pk_sub, nI_mI, nI_eq_mI, mI_eq_nI, nI_lt_m, ldI_ok, inb_ok, if_pos, if_neg, dv_ok, rem_ok, div_ok, if_true, if_false, ldL_ok, hb, he, a2, List.length_cons, Nat.add_sub_cancel, e1]
theorem reckL_M {J : HI} {b r e : Nat} {fig : Nat → Option Int} {f : Nat → Int32} (hb : J 100 13 = nI b) (hb2 : b < 2) (hr : r < 3) (he : J 114 (3 * b + r) = nI e) (he2 : e ≤ 1600) (hfb : ∀ k v, fig k = some v → bdZ v) (hfig : ∀ k v, k < 6 → fig k = some v → (J 135 (k + 1)).toInt = v) : ∀ (k n i : Nat) (L : HL) (st st' : List Int), evN fig f i k st = some st' → i + k = e → k < n → (∀ j, i ≤ j → j < i + k → CR (f j) (J 115 (1600 * b + j)) (J 116 (1600 * b + j))) → (∀ v ∈ st, bdZ v) → SRL (L 134) st → ∃ L', f_X12_reckons_L25 n J L (nI r) (nI st.length) (nI (1600 * b + i)) = some L' ∧ SRL (L' 134) st' ∧ OtL L L' := by
  intro k
  induction k with
  | zero =>
    intro n i L st st' h hk hn hcr hst hs
    obtain ⟨n, rfl⟩ : ∃ q, n = q + 1 := ⟨n - 1, by omega⟩
    injection h with h
    subst h
    refine ⟨L, ?_, hs, fun _ _ => rfl⟩
    simp (disch := omega) only [f_X12_reckons_L25, ↓zm1, ↓zm2, ↓zm3, ↓zm4, ↓zm5, ↓zm6, ↓zm7, ↓zm8, ↓zm9, ↓zm10, ↓zm11, ↓zm12, ↓zm13, ↓zm14, ↓zm15, ↓zm16, ↓zm17, ↓zm18, ↓zm19, ↓zm20, ↓zm1000000000, zq0, zq1, zq2, zq3, zq4, zq5, zq6, zq7, zq8, zq9, zq10, zq11, zq12, zq13, zq14, zq15, zq16, zq17, zq18, zq19, zq20, zq21, zq22, zq23, zq24, zq25, zq26, zq30, zq31, zq32, zq33, zq34, zq35, zq36, zq37, zq38, zq39, zq40, zq41, zq42, zq43, zq44, zq45, zq47, zq48, zq57, zq59, zq60, zq61, zq62, zq80, zq91, zq93, zq97, zq99, zq100, zq107, zq110, zq120, zq122, zq128, zq149, zq160, zq208, zq240, zq251, zq255, zq256, zq500, zq936, zq999, zq1600, zq1800, zq2048, zq3200, zq4160, zq9999, zq12345, zq1000000, zq1048576, zq100000000, bnd, jnt, zg_ok, gz_0, gz_1, gz_n0, gz_n1, zs_eq, zs_ne, zs_same, zs_other, zA_eq, zA_ne, Option.bind_some, Option.bind_none, nI_add, pk_mul, nI_clamp, nI_leI, nI_ltI, nI_eq, pk_sub, nI_mI, nI_eq_mI, mI_eq_nI, nI_lt_m, ldI_ok, inb_ok, if_pos, if_neg, dv_ok, rem_ok, div_ok, if_true, if_false, ldL_ok, hb, he]
  | succ k ih =>
    intro n i L st st' h hk hn hcr hst hs
    obtain ⟨n, rfl⟩ : ∃ q, n = q + 1 := ⟨n - 1, by omega⟩
    have h' : (evS fig (f i).toInt st).bind (evN fig f (i + 1) k) = some st' := h
    cases hq : evS fig (f i).toInt st with
    | none => rw [hq] at h'; cases h'
    | some s1 =>
      rw [hq] at h'
      obtain ⟨L1, e1, e2, e3⟩ := step_M (n := n) hb hb2 hr he he2 (c := 1600 * b + i) (by omega) (hcr i (by omega) (by omega)) hq hst hs hfig
      obtain ⟨L2, f1, f2, f3⟩ := ih n (i + 1) L1 s1 st' h' (by omega) (by omega) (fun j h1 h2 => hcr j (by omega) (by omega)) (evS_bd hfb hq hst) e2
      exact ⟨L2, e1.trans f1, f2, fun x hx => (f3 x hx).trans (e3 x hx)⟩
theorem reck_M {J : HI} {L : HL} {b r a n fu : Nat} {fig : Nat → Option Int} {f : Nat → Int32} {v : Int} (hb : J 100 13 = nI b) (hb2 : b < 2) (hr : r < 3) (h1 : J 113 (3 * b + r) = nI a) (he : J 114 (3 * b + r) = nI (a + n)) (he2 : a + n ≤ 1600) (hcr : ∀ j, a ≤ j → j < a + n → CR (f j) (J 115 (1600 * b + j)) (J 116 (1600 * b + j))) (hv : evN fig f a n [] = some [v]) (hfb : ∀ k v, fig k = some v → bdZ v) (hfig : ∀ k v, k < 6 → fig k = some v → (J 135 (k + 1)).toInt = v) (hfu : 1600 < fu) :
    ∃ w L', f_X12_reckons fu J L (nI r) = some (w, L') ∧ w.toInt = v ∧ OtL L L' := by
  obtain ⟨L1, e1, e2, e3⟩ := reckL_M hb hb2 hr he he2 hfb hfig n fu a L [] [v] hv rfl (by omega) hcr (fun v hv => by cases hv) trivial
  refine ⟨L1 134 0, L1, ?_, e2.1, e3⟩
  unfold f_X12_reckons
  simp (disch := omega) only [↓zm1, ↓zm2, ↓zm3, ↓zm4, ↓zm5, ↓zm6, ↓zm7, ↓zm8, ↓zm9, ↓zm10, ↓zm11, ↓zm12, ↓zm13, ↓zm14, ↓zm15, ↓zm16, ↓zm17, ↓zm18, ↓zm19, ↓zm20, ↓zm1000000000, zq0, zq1, zq2, zq3, zq4, zq5, zq6, zq7, zq8, zq9, zq10, zq11, zq12, zq13, zq14, zq15, zq16, zq17, zq18, zq19, zq20, zq21, zq22, zq23, zq24, zq25, zq26, zq30, zq31, zq32, zq33, zq34, zq35, zq36, zq37, zq38, zq39, zq40, zq41, zq42, zq43, zq44, zq45, zq47, zq48, zq57, zq59, zq60, zq61, zq62, zq80, zq91, zq93, zq97, zq99, zq100, zq107, zq110, zq120, zq122, zq128, zq149, zq160, zq208, zq240, zq251, zq255, zq256, zq500, zq936, zq999, zq1600, zq1800, zq2048, zq3200, zq4160, zq9999, zq12345, zq1000000, zq1048576, zq100000000, bnd, jnt, zg_ok, gz_0, gz_1, gz_n0, gz_n1, zs_eq, zs_ne, zs_same, zs_other, zA_eq, zA_ne, Option.bind_some, Option.bind_none, nI_add, pk_mul, nI_clamp, nI_leI, nI_ltI, nI_eq, pk_sub, nI_mI, nI_eq_mI, mI_eq_nI, nI_lt_m, ldI_ok, inb_ok, if_pos, if_neg, dv_ok, rem_ok, div_ok, if_true, if_false, ldL_ok, hb, h1]
  have e1' : f_X12_reckons_L25 fu J L (nI r) (nI 0) (nI (1600 * b + a)) = some L1 := e1
  simp (disch := omega) only [e1', ↓zm1, ↓zm2, ↓zm3, ↓zm4, ↓zm5, ↓zm6, ↓zm7, ↓zm8, ↓zm9, ↓zm10, ↓zm11, ↓zm12, ↓zm13, ↓zm14, ↓zm15, ↓zm16, ↓zm17, ↓zm18, ↓zm19, ↓zm20, ↓zm1000000000, zq0, zq1, zq2, zq3, zq4, zq5, zq6, zq7, zq8, zq9, zq10, zq11, zq12, zq13, zq14, zq15, zq16, zq17, zq18, zq19, zq20, zq21, zq22, zq23, zq24, zq25, zq26, zq30, zq31, zq32, zq33, zq34, zq35, zq36, zq37, zq38, zq39, zq40, zq41, zq42, zq43, zq44, zq45, zq47, zq48, zq57, zq59, zq60, zq61, zq62, zq80, zq91, zq93, zq97, zq99, zq100, zq107, zq110, zq120, zq122, zq128, zq149, zq160, zq208, zq240, zq251, zq255, zq256, zq500, zq936, zq999, zq1600, zq1800, zq2048, zq3200, zq4160, zq9999, zq12345, zq1000000, zq1048576, zq100000000, bnd, jnt, zg_ok, gz_0, gz_1, gz_n0, gz_n1, zs_eq, zs_ne, zs_same, zs_other, zA_eq, zA_ne, Option.bind_some, Option.bind_none, nI_add, pk_mul, nI_clamp, nI_leI, nI_ltI, nI_eq, pk_sub, nI_mI, nI_eq_mI, mI_eq_nI, nI_lt_m, ldI_ok, inb_ok, if_pos, if_neg, dv_ok, rem_ok, div_ok, if_true, if_false, ldL_ok]
