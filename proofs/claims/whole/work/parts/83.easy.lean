/-! calls that tell of cells alone -/
theorem zu1 : (-1 : Int32).toInt = -1 := by decide
theorem zu2 : (-2 : Int32).toInt = -2 := by decide
theorem zu3 : (-3 : Int32).toInt = -3 := by decide
theorem zu4 : (-4 : Int32).toInt = -4 := by decide
theorem zu5 : (-5 : Int32).toInt = -5 := by decide
theorem zu6 : (-6 : Int32).toInt = -6 := by decide
theorem zu7 : (-7 : Int32).toInt = -7 := by decide
theorem zu8 : (-8 : Int32).toInt = -8 := by decide
theorem zu9 : (-9 : Int32).toInt = -9 := by decide
theorem zu10 : (-10 : Int32).toInt = -10 := by decide
theorem zu11 : (-11 : Int32).toInt = -11 := by decide
theorem zu12 : (-12 : Int32).toInt = -12 := by decide
theorem zu13 : (-13 : Int32).toInt = -13 := by decide
theorem zu14 : (-14 : Int32).toInt = -14 := by decide
theorem zu15 : (-15 : Int32).toInt = -15 := by decide
theorem zu16 : (-16 : Int32).toInt = -16 := by decide
theorem zu17 : (-17 : Int32).toInt = -17 := by decide
theorem zu18 : (-18 : Int32).toInt = -18 := by decide
theorem zu19 : (-19 : Int32).toInt = -19 := by decide
theorem zu20 : (-20 : Int32).toInt = -20 := by decide
theorem zu1000000000 : (-1000000000 : Int32).toInt = -1000000000 := by decide
theorem zt0 : (0 : Int32).toInt = 0 := by decide
theorem zt1 : (1 : Int32).toInt = 1 := by decide
theorem zt2 : (2 : Int32).toInt = 2 := by decide
theorem zt3 : (3 : Int32).toInt = 3 := by decide
theorem zt4 : (4 : Int32).toInt = 4 := by decide
theorem zt5 : (5 : Int32).toInt = 5 := by decide
theorem zt6 : (6 : Int32).toInt = 6 := by decide
theorem zt7 : (7 : Int32).toInt = 7 := by decide
theorem zt8 : (8 : Int32).toInt = 8 := by decide
theorem zt9 : (9 : Int32).toInt = 9 := by decide
theorem zt10 : (10 : Int32).toInt = 10 := by decide
theorem zt11 : (11 : Int32).toInt = 11 := by decide
theorem zt12 : (12 : Int32).toInt = 12 := by decide
theorem zt13 : (13 : Int32).toInt = 13 := by decide
theorem zt14 : (14 : Int32).toInt = 14 := by decide
theorem zt15 : (15 : Int32).toInt = 15 := by decide
theorem zt16 : (16 : Int32).toInt = 16 := by decide
theorem zt17 : (17 : Int32).toInt = 17 := by decide
theorem zt18 : (18 : Int32).toInt = 18 := by decide
theorem zt19 : (19 : Int32).toInt = 19 := by decide
theorem zt20 : (20 : Int32).toInt = 20 := by decide
theorem zt21 : (21 : Int32).toInt = 21 := by decide
theorem zt22 : (22 : Int32).toInt = 22 := by decide
theorem zt23 : (23 : Int32).toInt = 23 := by decide
theorem zt24 : (24 : Int32).toInt = 24 := by decide
theorem zt25 : (25 : Int32).toInt = 25 := by decide
theorem zt26 : (26 : Int32).toInt = 26 := by decide
theorem zt30 : (30 : Int32).toInt = 30 := by decide
theorem zt31 : (31 : Int32).toInt = 31 := by decide
theorem zt32 : (32 : Int32).toInt = 32 := by decide
theorem zt33 : (33 : Int32).toInt = 33 := by decide
theorem zt34 : (34 : Int32).toInt = 34 := by decide
theorem zt35 : (35 : Int32).toInt = 35 := by decide
theorem zt36 : (36 : Int32).toInt = 36 := by decide
theorem zt37 : (37 : Int32).toInt = 37 := by decide
theorem zt38 : (38 : Int32).toInt = 38 := by decide
theorem zt39 : (39 : Int32).toInt = 39 := by decide
theorem zt40 : (40 : Int32).toInt = 40 := by decide
theorem zt41 : (41 : Int32).toInt = 41 := by decide
theorem zt42 : (42 : Int32).toInt = 42 := by decide
theorem zt43 : (43 : Int32).toInt = 43 := by decide
theorem zt44 : (44 : Int32).toInt = 44 := by decide
theorem zt45 : (45 : Int32).toInt = 45 := by decide
theorem zt47 : (47 : Int32).toInt = 47 := by decide
theorem zt48 : (48 : Int32).toInt = 48 := by decide
theorem zt57 : (57 : Int32).toInt = 57 := by decide
theorem zt59 : (59 : Int32).toInt = 59 := by decide
theorem zt60 : (60 : Int32).toInt = 60 := by decide
theorem zt61 : (61 : Int32).toInt = 61 := by decide
theorem zt62 : (62 : Int32).toInt = 62 := by decide
theorem zt80 : (80 : Int32).toInt = 80 := by decide
theorem zt91 : (91 : Int32).toInt = 91 := by decide
theorem zt93 : (93 : Int32).toInt = 93 := by decide
theorem zt97 : (97 : Int32).toInt = 97 := by decide
theorem zt99 : (99 : Int32).toInt = 99 := by decide
theorem zt100 : (100 : Int32).toInt = 100 := by decide
theorem zt107 : (107 : Int32).toInt = 107 := by decide
theorem zt110 : (110 : Int32).toInt = 110 := by decide
theorem zt120 : (120 : Int32).toInt = 120 := by decide
theorem zt122 : (122 : Int32).toInt = 122 := by decide
theorem zt128 : (128 : Int32).toInt = 128 := by decide
theorem zt149 : (149 : Int32).toInt = 149 := by decide
theorem zt160 : (160 : Int32).toInt = 160 := by decide
theorem zt208 : (208 : Int32).toInt = 208 := by decide
theorem zt240 : (240 : Int32).toInt = 240 := by decide
theorem zt251 : (251 : Int32).toInt = 251 := by decide
theorem zt255 : (255 : Int32).toInt = 255 := by decide
theorem zt256 : (256 : Int32).toInt = 256 := by decide
theorem zt500 : (500 : Int32).toInt = 500 := by decide
theorem zt936 : (936 : Int32).toInt = 936 := by decide
theorem zt999 : (999 : Int32).toInt = 999 := by decide
theorem zt1600 : (1600 : Int32).toInt = 1600 := by decide
theorem zt1800 : (1800 : Int32).toInt = 1800 := by decide
theorem zt2048 : (2048 : Int32).toInt = 2048 := by decide
theorem zt3200 : (3200 : Int32).toInt = 3200 := by decide
theorem zt4160 : (4160 : Int32).toInt = 4160 := by decide
theorem zt9999 : (9999 : Int32).toInt = 9999 := by decide
theorem zt12345 : (12345 : Int32).toInt = 12345 := by decide
theorem zt1000000 : (1000000 : Int32).toInt = 1000000 := by decide
theorem zt1048576 : (1048576 : Int32).toInt = 1048576 := by decide
theorem zt100000000 : (100000000 : Int32).toInt = 100000000 := by decide
theorem x_cases (x : Int32) (n : Nat) (hn : n < 2 ^ 31) : x.toInt < 0 ∨ (n : Int) ≤ x.toInt ∨ ∃ j, j < n ∧ x = nI j := by
  rcases pk_ix x hn with h | h | h
  · left
    rw [Int32.lt_iff_toInt_lt, zt0] at h
    exact h
  · right; left
    rw [Int32.le_iff_toInt_le, nI_toInt hn] at h
    exact h
  · right; right
    exact h
theorem refuse_C {I : HI} {k : Nat} (hk : k < 6) : f_X11_refuse I (nI k) = some (-1, sI I 5 k (I 5 k + 1)) := by
  unfold f_X11_refuse
  simp (disch := omega) only [ldI_ok, inb_ok, bnd, nI_clamp]
theorem refuses_M {J : HI} {k : Nat} (hk : k < 6) : f_X12_refuses J (nI k) = some (-1, sI J 126 k (J 126 k + 1)) := by
  unfold f_X12_refuses
  simp (disch := omega) only [ldI_ok, inb_ok, bnd, nI_clamp]
/-- a refusal is counted on both sides -/
theorem Rel_ref {n : Nat} {I : HI} {R : HR} {J : HI} {M : HL} {t b nh no nl k : Nat} (h : RelB n I R J M t b nh no nl) (hk : k < 6) : RelB n (sI I 5 k (I 5 k + 1)) R (sI J 126 k (J 126 k + 1)) M t b nh no nl := by
  obtain ⟨h1, h2, h3, h4, h5, h6, ⟨d1, d2, d3, d4, d5, d6, d7⟩, ⟨c1, c2⟩, ⟨nx, dp, f, tt, hh⟩⟩ := h
  have ht := d3.2.2.1
  have ev : vw (sI I 5 k (I 5 k + 1)) t = vw I t := vw_congr (fun a ha => zs_ne (by omega))
  have es : sc (sI I 5 k (I 5 k + 1)) 49 = sc I 49 := sc_congr (fun a ha => zs_ne (by omega))
  have el : ∀ v, lv (sI J 126 k (J 126 k + 1)) v = lv J v := by
    intro v
    funext a j
    unfold lv
    rw [zs_ne (by decide), zs_ne (by decide), zs_ne (by decide), zs_ne (by decide), zs_ne (by decide)]
  refine ⟨?_, ?_, ?_, ?_, ?_, ?_, ⟨d1, d2, ?_, by rw [ev]; exact d4, ?_, by rw [ev]; exact d6, by rw [ev]; exact d7⟩, ⟨by rw [es, el]; exact c1, by rw [ev, es]; exact c2⟩, ⟨nx, dp, f, tt, ?_⟩⟩
  · unfold RTp at *
    rw [zs_ne (by decide), zs_ne (by decide), zs_ne (by decide), zs_ne (by decide)]
    exact h1
  · unfold RFl at *
    rw [zs_ne (by decide), zs_ne (by decide)]
    exact h2
  · intro j hj
    rw [zs_eq, zs_eq]
    by_cases c : j = k
    · subst c
      rw [zs_same, zs_same, h3 j hj]
    · rw [zs_other c, zs_other c]
      exact h3 j hj
  · unfold RLt at *
    rw [zs_ne (by decide)]
    exact h4
  · unfold RSt at *
    rw [zs_ne (by decide), zs_ne (by decide), zs_ne (by decide), zs_ne (by decide), zs_ne (by decide), zs_ne (by decide)]
    exact h5
  · unfold RIm at *
    rw [zs_ne (by decide), zs_ne (by decide), zs_ne (by decide), zs_ne (by decide)]
    exact h6
  · obtain ⟨h0, h1, h2, h3, h4, h5, h6, h7, h8, h9⟩ := d3
    have et : sI I 5 k (I 5 k + 1) t = I t := zs_ne (by omega)
    exact ⟨h0, h1, h2, h3, by rw [et]; exact h4, by rw [et]; exact h5, by rw [et]; exact h6, h7, h8, h9⟩
  · rw [ev]
    exact ML_congr (by rw [zs_ne (by decide)]) (fun x q1 q2 => zs_ne (by omega)) d5
  · rw [ev]
    exact RHx_congr hh (by omega) (fun x q1 q2 => zs_ne (by omega)) ⟨by rw [zs_ne (by decide)], by rw [zs_ne (by decide)]⟩ (fun v _ => by rw [zs_ne (by decide), zs_ne (by decide)]; exact ⟨rfl, rfl⟩) (fun k _ => by rw [zs_ne (by decide), zs_ne (by decide), zs_ne (by decide)]; exact ⟨rfl, rfl, rfl⟩) (fun k _ => by rw [zs_ne (by decide)]) (fun k _ => by rw [zs_ne (by decide)])
theorem RelB.up {n : Nat} {I : HI} {R : HR} {J : HI} {M : HL} {t b nh no nl : Nat} (h : RelB n I R J M t b nh no nl) : RelB (n + 6) I R J M t b nh no nl := Rel_same h (by omega) SX.refl SR.refl SM.refl SL.refl
theorem RelB.rel {n : Nat} {I : HI} {R : HR} {J : HI} {M : HL} {t b nh no nl : Nat} (h : RelB n I R J M t b nh no nl) : Rel n I R J M := ⟨t, b, nh, no, nl, h⟩
theorem eq_fault : Eq_fault Rel := by
  intro n I R J M a0 hn hR
  obtain ⟨t, b, nh, no, nl, h⟩ := hR
  have hf := h.2.1
  refine ⟨if a0 = 0 then I 1 5 else if a0 = 1 then I 1 6 else -1, ?_, ?_, h.up.rel⟩
  · unfold f_X11_fault
    split
    · rfl
    · split <;> rfl
  · unfold f_X12_fault
    rw [hf.1, hf.2]
    split
    · rfl
    · split <;> rfl
theorem eq_status : Eq_status Rel := by
  intro n I R J M a0 hn hR
  obtain ⟨t, b, nh, no, nl, h⟩ := hR
  have hf := h.2.2.1
  unfold f_X11_status f_X12_status f_X12_is
  rcases x_cases a0 6 (by decide) with c | c | ⟨j, hj, rfl⟩
  · refine ⟨-1, ?_, ?_, h.up.rel⟩
    · simp (disch := omega) only [jnt, Int32.le_iff_toInt_le, Int32.lt_iff_toInt_lt, ← Int32.toInt_inj, zt0, zt1, zt2, zt3, zt4, zt5, zt6, zt7, zt8, zt9, zt10, zt11, zt12, zt13, zt14, zt15, zt16, zt17, zt18, zt19, zt20, zt21, zt22, zt23, zt24, zt25, zt26, zt30, zt31, zt32, zt33, zt34, zt35, zt36, zt37, zt38, zt39, zt40, zt41, zt42, zt43, zt44, zt45, zt47, zt48, zt57, zt59, zt60, zt61, zt62, zt80, zt91, zt93, zt97, zt99, zt100, zt107, zt110, zt120, zt122, zt128, zt149, zt160, zt208, zt240, zt251, zt255, zt256, zt500, zt936, zt999, zt1600, zt1800, zt2048, zt3200, zt4160, zt9999, zt12345, zt1000000, zt1048576, zt100000000, zu1, zu2, zu3, zu4, zu5, zu6, zu7, zu8, zu9, zu10, zu11, zu12, zu13, zu14, zu15, zu16, zu17, zu18, zu19, zu20, zu1000000000, if_pos, if_neg, gz_0, gz_1, Option.bind_some, if_true, if_false]
    · simp (disch := omega) only [jnt, Int32.le_iff_toInt_le, Int32.lt_iff_toInt_lt, ← Int32.toInt_inj, zt0, zt1, zt2, zt3, zt4, zt5, zt6, zt7, zt8, zt9, zt10, zt11, zt12, zt13, zt14, zt15, zt16, zt17, zt18, zt19, zt20, zt21, zt22, zt23, zt24, zt25, zt26, zt30, zt31, zt32, zt33, zt34, zt35, zt36, zt37, zt38, zt39, zt40, zt41, zt42, zt43, zt44, zt45, zt47, zt48, zt57, zt59, zt60, zt61, zt62, zt80, zt91, zt93, zt97, zt99, zt100, zt107, zt110, zt120, zt122, zt128, zt149, zt160, zt208, zt240, zt251, zt255, zt256, zt500, zt936, zt999, zt1600, zt1800, zt2048, zt3200, zt4160, zt9999, zt12345, zt1000000, zt1048576, zt100000000, zu1, zu2, zu3, zu4, zu5, zu6, zu7, zu8, zu9, zu10, zu11, zu12, zu13, zu14, zu15, zu16, zu17, zu18, zu19, zu20, zu1000000000, if_pos, if_neg, gz_0, gz_1, Option.bind_some, if_true, if_false]
  · refine ⟨-1, ?_, ?_, h.up.rel⟩
    · simp (disch := omega) only [jnt, Int32.le_iff_toInt_le, Int32.lt_iff_toInt_lt, ← Int32.toInt_inj, zt0, zt1, zt2, zt3, zt4, zt5, zt6, zt7, zt8, zt9, zt10, zt11, zt12, zt13, zt14, zt15, zt16, zt17, zt18, zt19, zt20, zt21, zt22, zt23, zt24, zt25, zt26, zt30, zt31, zt32, zt33, zt34, zt35, zt36, zt37, zt38, zt39, zt40, zt41, zt42, zt43, zt44, zt45, zt47, zt48, zt57, zt59, zt60, zt61, zt62, zt80, zt91, zt93, zt97, zt99, zt100, zt107, zt110, zt120, zt122, zt128, zt149, zt160, zt208, zt240, zt251, zt255, zt256, zt500, zt936, zt999, zt1600, zt1800, zt2048, zt3200, zt4160, zt9999, zt12345, zt1000000, zt1048576, zt100000000, zu1, zu2, zu3, zu4, zu5, zu6, zu7, zu8, zu9, zu10, zu11, zu12, zu13, zu14, zu15, zu16, zu17, zu18, zu19, zu20, zu1000000000, if_pos, if_neg, gz_0, gz_1, Option.bind_some, if_true, if_false]
    · simp (disch := omega) only [jnt, Int32.le_iff_toInt_le, Int32.lt_iff_toInt_lt, ← Int32.toInt_inj, zt0, zt1, zt2, zt3, zt4, zt5, zt6, zt7, zt8, zt9, zt10, zt11, zt12, zt13, zt14, zt15, zt16, zt17, zt18, zt19, zt20, zt21, zt22, zt23, zt24, zt25, zt26, zt30, zt31, zt32, zt33, zt34, zt35, zt36, zt37, zt38, zt39, zt40, zt41, zt42, zt43, zt44, zt45, zt47, zt48, zt57, zt59, zt60, zt61, zt62, zt80, zt91, zt93, zt97, zt99, zt100, zt107, zt110, zt120, zt122, zt128, zt149, zt160, zt208, zt240, zt251, zt255, zt256, zt500, zt936, zt999, zt1600, zt1800, zt2048, zt3200, zt4160, zt9999, zt12345, zt1000000, zt1048576, zt100000000, zu1, zu2, zu3, zu4, zu5, zu6, zu7, zu8, zu9, zu10, zu11, zu12, zu13, zu14, zu15, zu16, zu17, zu18, zu19, zu20, zu1000000000, if_pos, if_neg, gz_0, gz_1, Option.bind_some, if_true, if_false]
  · refine ⟨I 5 j, ?_, ?_, h.up.rel⟩
    · simp (disch := omega) only [↓zm1, ↓zm2, ↓zm3, ↓zm4, ↓zm5, ↓zm6, ↓zm7, ↓zm8, ↓zm9, ↓zm10, ↓zm11, ↓zm12, ↓zm13, ↓zm14, ↓zm15, ↓zm16, ↓zm17, ↓zm18, ↓zm19, ↓zm20, ↓zm1000000000, zq0, zq1, zq2, zq3, zq4, zq5, zq6, zq7, zq8, zq9, zq10, zq11, zq12, zq13, zq14, zq15, zq16, zq17, zq18, zq19, zq20, zq21, zq22, zq23, zq24, zq25, zq26, zq30, zq31, zq32, zq33, zq34, zq35, zq36, zq37, zq38, zq39, zq40, zq41, zq42, zq43, zq44, zq45, zq47, zq48, zq57, zq59, zq60, zq61, zq62, zq80, zq91, zq93, zq97, zq99, zq100, zq107, zq110, zq120, zq122, zq128, zq149, zq160, zq208, zq240, zq251, zq255, zq256, zq500, zq936, zq999, zq1600, zq1800, zq2048, zq3200, zq4160, zq9999, zq12345, zq1000000, zq1048576, zq100000000, bnd, jnt, zg_ok, gz_0, gz_1, gz_n0, gz_n1, zs_eq, zs_ne, zs_same, zs_other, zA_eq, zA_ne, Option.bind_some, Option.bind_none, nI_add, pk_mul, nI_clamp, nI_leI, nI_ltI, nI_eq, pk_sub, nI_mI, nI_eq_mI, mI_eq_nI, nI_lt_m, ldI_ok, inb_ok, if_pos, if_neg, dv_ok, rem_ok, div_ok, if_true, if_false]
    · rw [hf j hj]
      simp (disch := omega) only [↓zm1, ↓zm2, ↓zm3, ↓zm4, ↓zm5, ↓zm6, ↓zm7, ↓zm8, ↓zm9, ↓zm10, ↓zm11, ↓zm12, ↓zm13, ↓zm14, ↓zm15, ↓zm16, ↓zm17, ↓zm18, ↓zm19, ↓zm20, ↓zm1000000000, zq0, zq1, zq2, zq3, zq4, zq5, zq6, zq7, zq8, zq9, zq10, zq11, zq12, zq13, zq14, zq15, zq16, zq17, zq18, zq19, zq20, zq21, zq22, zq23, zq24, zq25, zq26, zq30, zq31, zq32, zq33, zq34, zq35, zq36, zq37, zq38, zq39, zq40, zq41, zq42, zq43, zq44, zq45, zq47, zq48, zq57, zq59, zq60, zq61, zq62, zq80, zq91, zq93, zq97, zq99, zq100, zq107, zq110, zq120, zq122, zq128, zq149, zq160, zq208, zq240, zq251, zq255, zq256, zq500, zq936, zq999, zq1600, zq1800, zq2048, zq3200, zq4160, zq9999, zq12345, zq1000000, zq1048576, zq100000000, bnd, jnt, zg_ok, gz_0, gz_1, gz_n0, gz_n1, zs_eq, zs_ne, zs_same, zs_other, zA_eq, zA_ne, Option.bind_some, Option.bind_none, nI_add, pk_mul, nI_clamp, nI_leI, nI_ltI, nI_eq, pk_sub, nI_mI, nI_eq_mI, mI_eq_nI, nI_lt_m, ldI_ok, inb_ok, if_pos, if_neg, dv_ok, rem_ok, div_ok, if_true, if_false]
theorem eq_octet : Eq_octet Rel := by
  intro n I R J M a0 hn hR
  obtain ⟨t, b, nh, no, nl, h⟩ := hR
  obtain ⟨z, z1, z2, z3, z4⟩ := h.2.2.2.2.2.1
  have hz : (nI z).toInt = z := nI_toInt (by omega)
  have hz1 : (nI z - 1).toInt = (z : Int) - 1 := by
    rw [Int32.toInt_sub, hz, zt1, Int.bmod_eq_of_le (by omega) (by omega)]
  unfold f_X11_octet f_X12_octet f_X12_is
  rcases x_cases a0 z (by omega) with c | c | ⟨j, hj, rfl⟩
  · refine ⟨-1, ?_, ?_, h.up.rel⟩
    · simp (disch := omega) only [jnt, z2, z3, hz, hz1, Int32.le_iff_toInt_le, Int32.lt_iff_toInt_lt, ← Int32.toInt_inj, zt0, zt1, zt2, zt3, zt4, zt5, zt6, zt7, zt8, zt9, zt10, zt11, zt12, zt13, zt14, zt15, zt16, zt17, zt18, zt19, zt20, zt21, zt22, zt23, zt24, zt25, zt26, zt30, zt31, zt32, zt33, zt34, zt35, zt36, zt37, zt38, zt39, zt40, zt41, zt42, zt43, zt44, zt45, zt47, zt48, zt57, zt59, zt60, zt61, zt62, zt80, zt91, zt93, zt97, zt99, zt100, zt107, zt110, zt120, zt122, zt128, zt149, zt160, zt208, zt240, zt251, zt255, zt256, zt500, zt936, zt999, zt1600, zt1800, zt2048, zt3200, zt4160, zt9999, zt12345, zt1000000, zt1048576, zt100000000, zu1, zu2, zu3, zu4, zu5, zu6, zu7, zu8, zu9, zu10, zu11, zu12, zu13, zu14, zu15, zu16, zu17, zu18, zu19, zu20, zu1000000000, if_pos, if_neg, gz_0, gz_1, Option.bind_some, if_true, if_false]
    · simp (disch := omega) only [jnt, z2, z3, hz, hz1, Int32.le_iff_toInt_le, Int32.lt_iff_toInt_lt, ← Int32.toInt_inj, zt0, zt1, zt2, zt3, zt4, zt5, zt6, zt7, zt8, zt9, zt10, zt11, zt12, zt13, zt14, zt15, zt16, zt17, zt18, zt19, zt20, zt21, zt22, zt23, zt24, zt25, zt26, zt30, zt31, zt32, zt33, zt34, zt35, zt36, zt37, zt38, zt39, zt40, zt41, zt42, zt43, zt44, zt45, zt47, zt48, zt57, zt59, zt60, zt61, zt62, zt80, zt91, zt93, zt97, zt99, zt100, zt107, zt110, zt120, zt122, zt128, zt149, zt160, zt208, zt240, zt251, zt255, zt256, zt500, zt936, zt999, zt1600, zt1800, zt2048, zt3200, zt4160, zt9999, zt12345, zt1000000, zt1048576, zt100000000, zu1, zu2, zu3, zu4, zu5, zu6, zu7, zu8, zu9, zu10, zu11, zu12, zu13, zu14, zu15, zu16, zu17, zu18, zu19, zu20, zu1000000000, if_pos, if_neg, gz_0, gz_1, Option.bind_some, if_true, if_false]
  · refine ⟨-1, ?_, ?_, h.up.rel⟩
    · simp (disch := omega) only [jnt, z2, z3, hz, hz1, Int32.le_iff_toInt_le, Int32.lt_iff_toInt_lt, ← Int32.toInt_inj, zt0, zt1, zt2, zt3, zt4, zt5, zt6, zt7, zt8, zt9, zt10, zt11, zt12, zt13, zt14, zt15, zt16, zt17, zt18, zt19, zt20, zt21, zt22, zt23, zt24, zt25, zt26, zt30, zt31, zt32, zt33, zt34, zt35, zt36, zt37, zt38, zt39, zt40, zt41, zt42, zt43, zt44, zt45, zt47, zt48, zt57, zt59, zt60, zt61, zt62, zt80, zt91, zt93, zt97, zt99, zt100, zt107, zt110, zt120, zt122, zt128, zt149, zt160, zt208, zt240, zt251, zt255, zt256, zt500, zt936, zt999, zt1600, zt1800, zt2048, zt3200, zt4160, zt9999, zt12345, zt1000000, zt1048576, zt100000000, zu1, zu2, zu3, zu4, zu5, zu6, zu7, zu8, zu9, zu10, zu11, zu12, zu13, zu14, zu15, zu16, zu17, zu18, zu19, zu20, zu1000000000, if_pos, if_neg, gz_0, gz_1, Option.bind_some, if_true, if_false]
    · simp (disch := omega) only [jnt, z2, z3, hz, hz1, Int32.le_iff_toInt_le, Int32.lt_iff_toInt_lt, ← Int32.toInt_inj, zt0, zt1, zt2, zt3, zt4, zt5, zt6, zt7, zt8, zt9, zt10, zt11, zt12, zt13, zt14, zt15, zt16, zt17, zt18, zt19, zt20, zt21, zt22, zt23, zt24, zt25, zt26, zt30, zt31, zt32, zt33, zt34, zt35, zt36, zt37, zt38, zt39, zt40, zt41, zt42, zt43, zt44, zt45, zt47, zt48, zt57, zt59, zt60, zt61, zt62, zt80, zt91, zt93, zt97, zt99, zt100, zt107, zt110, zt120, zt122, zt128, zt149, zt160, zt208, zt240, zt251, zt255, zt256, zt500, zt936, zt999, zt1600, zt1800, zt2048, zt3200, zt4160, zt9999, zt12345, zt1000000, zt1048576, zt100000000, zu1, zu2, zu3, zu4, zu5, zu6, zu7, zu8, zu9, zu10, zu11, zu12, zu13, zu14, zu15, zu16, zu17, zu18, zu19, zu20, zu1000000000, if_pos, if_neg, gz_0, gz_1, Option.bind_some, if_true, if_false]
  · refine ⟨I 48 j, ?_, ?_, h.up.rel⟩
    · simp (disch := omega) only [↓zm1, ↓zm2, ↓zm3, ↓zm4, ↓zm5, ↓zm6, ↓zm7, ↓zm8, ↓zm9, ↓zm10, ↓zm11, ↓zm12, ↓zm13, ↓zm14, ↓zm15, ↓zm16, ↓zm17, ↓zm18, ↓zm19, ↓zm20, ↓zm1000000000, zq0, zq1, zq2, zq3, zq4, zq5, zq6, zq7, zq8, zq9, zq10, zq11, zq12, zq13, zq14, zq15, zq16, zq17, zq18, zq19, zq20, zq21, zq22, zq23, zq24, zq25, zq26, zq30, zq31, zq32, zq33, zq34, zq35, zq36, zq37, zq38, zq39, zq40, zq41, zq42, zq43, zq44, zq45, zq47, zq48, zq57, zq59, zq60, zq61, zq62, zq80, zq91, zq93, zq97, zq99, zq100, zq107, zq110, zq120, zq122, zq128, zq149, zq160, zq208, zq240, zq251, zq255, zq256, zq500, zq936, zq999, zq1600, zq1800, zq2048, zq3200, zq4160, zq9999, zq12345, zq1000000, zq1048576, zq100000000, bnd, jnt, zg_ok, gz_0, gz_1, gz_n0, gz_n1, zs_eq, zs_ne, zs_same, zs_other, zA_eq, zA_ne, Option.bind_some, Option.bind_none, nI_add, pk_mul, nI_clamp, nI_leI, nI_ltI, nI_eq, pk_sub, nI_mI, nI_eq_mI, mI_eq_nI, nI_lt_m, ldI_ok, inb_ok, if_pos, if_neg, dv_ok, rem_ok, div_ok, if_true, if_false, z2]
    · rw [z4 j hj]
      simp (disch := omega) only [↓zm1, ↓zm2, ↓zm3, ↓zm4, ↓zm5, ↓zm6, ↓zm7, ↓zm8, ↓zm9, ↓zm10, ↓zm11, ↓zm12, ↓zm13, ↓zm14, ↓zm15, ↓zm16, ↓zm17, ↓zm18, ↓zm19, ↓zm20, ↓zm1000000000, zq0, zq1, zq2, zq3, zq4, zq5, zq6, zq7, zq8, zq9, zq10, zq11, zq12, zq13, zq14, zq15, zq16, zq17, zq18, zq19, zq20, zq21, zq22, zq23, zq24, zq25, zq26, zq30, zq31, zq32, zq33, zq34, zq35, zq36, zq37, zq38, zq39, zq40, zq41, zq42, zq43, zq44, zq45, zq47, zq48, zq57, zq59, zq60, zq61, zq62, zq80, zq91, zq93, zq97, zq99, zq100, zq107, zq110, zq120, zq122, zq128, zq149, zq160, zq208, zq240, zq251, zq255, zq256, zq500, zq936, zq999, zq1600, zq1800, zq2048, zq3200, zq4160, zq9999, zq12345, zq1000000, zq1048576, zq100000000, bnd, jnt, zg_ok, gz_0, gz_1, gz_n0, gz_n1, zs_eq, zs_ne, zs_same, zs_other, zA_eq, zA_ne, Option.bind_some, Option.bind_none, nI_add, pk_mul, nI_clamp, nI_leI, nI_ltI, nI_eq, pk_sub, nI_mI, nI_eq_mI, mI_eq_nI, nI_lt_m, ldI_ok, inb_ok, if_pos, if_neg, dv_ok, rem_ok, div_ok, if_true, if_false, z3]
theorem Rel_tape {n T : Nat} {I : HI} {R : HR} {J : HI} {M : HL} {t b nh no nl : Nat} (h : RelB n I R J M t b nh no nl) (hT : T ≤ 1600) : RelB n (sI I 1 1 (nI T)) R (sI J 100 1 (nI T)) M t b nh no nl := by
  obtain ⟨⟨T0, t1, t2, t3, t4⟩, h2, h3, h4, h5, h6, ⟨d1, d2, d3, d4, d5, d6, d7⟩, ⟨c1, c2⟩, ⟨nx, dp, f, tt, hh⟩⟩ := h
  have ht := d3.2.2.1
  have ev : vw (sI I 1 1 (nI T)) t = vw I t := vw_congr (fun a ha => zs_ne (by omega))
  have es : sc (sI I 1 1 (nI T)) 49 = sc I 49 := sc_congr (fun a ha => zs_ne (by omega))
  have el : ∀ v, lv (sI J 100 1 (nI T)) v = lv J v := by
    intro v
    funext a j
    unfold lv
    rw [zs_ne (by decide), zs_ne (by decide), zs_ne (by decide), zs_ne (by decide), zs_ne (by decide)]
  have o : ∀ k, k ≠ 1 → sI I 1 1 (nI T) 1 k = I 1 k := fun k hk => by rw [zs_eq, zs_other hk]
  have oj : ∀ k, k ≠ 1 → sI J 100 1 (nI T) 100 k = J 100 k := fun k hk => by rw [zs_eq, zs_other hk]
  refine ⟨⟨T, hT, by rw [zs_eq, zs_same], by rw [zs_eq, zs_same], ?_⟩, ⟨?_, ?_⟩, ?_, ?_, ?_, ?_, ⟨d1, d2, ?_, by rw [ev]; exact d4, ?_, by rw [ev]; exact d6, by rw [ev]; exact d7⟩, ⟨by rw [es, el]; exact c1, by rw [ev, es]; exact c2⟩, ⟨nx, dp, f, tt, ?_⟩⟩
  · rw [zs_ne (by decide), zs_ne (by decide)]
    exact t4
  · rw [o _ (by decide), oj _ (by decide)]; exact h2.1
  · rw [o _ (by decide), oj _ (by decide)]; exact h2.2
  · unfold RRf at *
    rw [zs_ne (by decide), zs_ne (by decide)]
    exact h3
  · obtain ⟨L, l1, l2, l3⟩ := h4
    exact ⟨L, l1, by rw [o _ (by decide)]; exact l2, l3⟩
  · obtain ⟨r, s1, s2, s3, s4⟩ := h5
    refine ⟨r, s1, by rw [o _ (by decide)]; exact s2, by rw [oj _ (by decide)]; exact s3, ?_⟩
    rw [zs_ne (by decide), zs_ne (by decide), zs_ne (by decide), zs_ne (by decide)]
    exact s4
  · obtain ⟨z, i1, i2, i3, i4⟩ := h6
    refine ⟨z, i1, by rw [zs_ne (by decide)]; exact i2, by rw [oj _ (by decide)]; exact i3, ?_⟩
    rw [zs_ne (by decide), zs_ne (by decide)]
    exact i4
  · obtain ⟨h0, h1, h2, h3, h4, h5, h6, h7, h8, h9⟩ := d3
    have et : sI I 1 1 (nI T) t = I t := zs_ne (by omega)
    exact ⟨h0, h1, h2, h3, by rw [et]; exact h4, by rw [et]; exact h5, by rw [et]; exact h6, h7, h8, h9⟩
  · rw [ev]
    exact ML_congr (oj _ (by decide)) (fun x q1 q2 => zs_ne (by omega)) d5
  · rw [ev]
    exact RHx_congr hh (by omega) (fun x q1 q2 => zs_ne (by omega)) ⟨oj _ (by decide), oj _ (by decide)⟩ (fun v _ => by rw [zs_ne (by decide), zs_ne (by decide)]; exact ⟨rfl, rfl⟩) (fun k _ => by rw [zs_ne (by decide), zs_ne (by decide), zs_ne (by decide)]; exact ⟨rfl, rfl, rfl⟩) (fun k _ => by rw [zs_ne (by decide)]) (fun k _ => by rw [zs_ne (by decide)])
theorem eq_end : Eq_end Rel := by
  intro n I R J M a0 hn hR
  obtain ⟨t, b, nh, no, nl, h⟩ := hR
  obtain ⟨T, t1, t2, t3, t4⟩ := h.1
  have hz : (nI T).toInt = T := nI_toInt (by omega)
  have r1 := refuse_C (I := I) (k := 0) (by decide)
  have r2 := refuses_M (J := J) (k := 0) (by decide)
  rw [nI_0] at r1 r2
  unfold f_X11_end f_X12_end
  rcases x_cases a0 (T + 1) (by omega) with c | c | ⟨j, hj, rfl⟩
  · refine ⟨0, _, _, ?_, ?_, (Rel_ref h.up (k := 0) (by decide)).rel⟩
    · simp (disch := omega) only [jnt, t2, hz, r1, Int32.le_iff_toInt_le, Int32.lt_iff_toInt_lt, ← Int32.toInt_inj, zt0, zt1, zt2, zt3, zt4, zt5, zt6, zt7, zt8, zt9, zt10, zt11, zt12, zt13, zt14, zt15, zt16, zt17, zt18, zt19, zt20, zt21, zt22, zt23, zt24, zt25, zt26, zt30, zt31, zt32, zt33, zt34, zt35, zt36, zt37, zt38, zt39, zt40, zt41, zt42, zt43, zt44, zt45, zt47, zt48, zt57, zt59, zt60, zt61, zt62, zt80, zt91, zt93, zt97, zt99, zt100, zt107, zt110, zt120, zt122, zt128, zt149, zt160, zt208, zt240, zt251, zt255, zt256, zt500, zt936, zt999, zt1600, zt1800, zt2048, zt3200, zt4160, zt9999, zt12345, zt1000000, zt1048576, zt100000000, zu1, zu2, zu3, zu4, zu5, zu6, zu7, zu8, zu9, zu10, zu11, zu12, zu13, zu14, zu15, zu16, zu17, zu18, zu19, zu20, zu1000000000, if_pos, if_neg, gz_0, gz_1, Option.bind_some, if_true, if_false]
    · simp (disch := omega) only [jnt, t3, hz, r2, Int32.le_iff_toInt_le, Int32.lt_iff_toInt_lt, ← Int32.toInt_inj, zt0, zt1, zt2, zt3, zt4, zt5, zt6, zt7, zt8, zt9, zt10, zt11, zt12, zt13, zt14, zt15, zt16, zt17, zt18, zt19, zt20, zt21, zt22, zt23, zt24, zt25, zt26, zt30, zt31, zt32, zt33, zt34, zt35, zt36, zt37, zt38, zt39, zt40, zt41, zt42, zt43, zt44, zt45, zt47, zt48, zt57, zt59, zt60, zt61, zt62, zt80, zt91, zt93, zt97, zt99, zt100, zt107, zt110, zt120, zt122, zt128, zt149, zt160, zt208, zt240, zt251, zt255, zt256, zt500, zt936, zt999, zt1600, zt1800, zt2048, zt3200, zt4160, zt9999, zt12345, zt1000000, zt1048576, zt100000000, zu1, zu2, zu3, zu4, zu5, zu6, zu7, zu8, zu9, zu10, zu11, zu12, zu13, zu14, zu15, zu16, zu17, zu18, zu19, zu20, zu1000000000, if_pos, if_neg, gz_0, gz_1, Option.bind_some, if_true, if_false]
  · refine ⟨0, _, _, ?_, ?_, (Rel_ref h.up (k := 0) (by decide)).rel⟩
    · simp (disch := omega) only [jnt, t2, hz, r1, Int32.le_iff_toInt_le, Int32.lt_iff_toInt_lt, ← Int32.toInt_inj, zt0, zt1, zt2, zt3, zt4, zt5, zt6, zt7, zt8, zt9, zt10, zt11, zt12, zt13, zt14, zt15, zt16, zt17, zt18, zt19, zt20, zt21, zt22, zt23, zt24, zt25, zt26, zt30, zt31, zt32, zt33, zt34, zt35, zt36, zt37, zt38, zt39, zt40, zt41, zt42, zt43, zt44, zt45, zt47, zt48, zt57, zt59, zt60, zt61, zt62, zt80, zt91, zt93, zt97, zt99, zt100, zt107, zt110, zt120, zt122, zt128, zt149, zt160, zt208, zt240, zt251, zt255, zt256, zt500, zt936, zt999, zt1600, zt1800, zt2048, zt3200, zt4160, zt9999, zt12345, zt1000000, zt1048576, zt100000000, zu1, zu2, zu3, zu4, zu5, zu6, zu7, zu8, zu9, zu10, zu11, zu12, zu13, zu14, zu15, zu16, zu17, zu18, zu19, zu20, zu1000000000, if_pos, if_neg, gz_0, gz_1, Option.bind_some, if_true, if_false]
    · simp (disch := omega) only [jnt, t3, hz, r2, Int32.le_iff_toInt_le, Int32.lt_iff_toInt_lt, ← Int32.toInt_inj, zt0, zt1, zt2, zt3, zt4, zt5, zt6, zt7, zt8, zt9, zt10, zt11, zt12, zt13, zt14, zt15, zt16, zt17, zt18, zt19, zt20, zt21, zt22, zt23, zt24, zt25, zt26, zt30, zt31, zt32, zt33, zt34, zt35, zt36, zt37, zt38, zt39, zt40, zt41, zt42, zt43, zt44, zt45, zt47, zt48, zt57, zt59, zt60, zt61, zt62, zt80, zt91, zt93, zt97, zt99, zt100, zt107, zt110, zt120, zt122, zt128, zt149, zt160, zt208, zt240, zt251, zt255, zt256, zt500, zt936, zt999, zt1600, zt1800, zt2048, zt3200, zt4160, zt9999, zt12345, zt1000000, zt1048576, zt100000000, zu1, zu2, zu3, zu4, zu5, zu6, zu7, zu8, zu9, zu10, zu11, zu12, zu13, zu14, zu15, zu16, zu17, zu18, zu19, zu20, zu1000000000, if_pos, if_neg, gz_0, gz_1, Option.bind_some, if_true, if_false]
  · refine ⟨1, _, _, ?_, ?_, (Rel_tape h.up (T := j) (by omega)).rel⟩
    · simp (disch := omega) only [↓zm1, ↓zm2, ↓zm3, ↓zm4, ↓zm5, ↓zm6, ↓zm7, ↓zm8, ↓zm9, ↓zm10, ↓zm11, ↓zm12, ↓zm13, ↓zm14, ↓zm15, ↓zm16, ↓zm17, ↓zm18, ↓zm19, ↓zm20, ↓zm1000000000, zq0, zq1, zq2, zq3, zq4, zq5, zq6, zq7, zq8, zq9, zq10, zq11, zq12, zq13, zq14, zq15, zq16, zq17, zq18, zq19, zq20, zq21, zq22, zq23, zq24, zq25, zq26, zq30, zq31, zq32, zq33, zq34, zq35, zq36, zq37, zq38, zq39, zq40, zq41, zq42, zq43, zq44, zq45, zq47, zq48, zq57, zq59, zq60, zq61, zq62, zq80, zq91, zq93, zq97, zq99, zq100, zq107, zq110, zq120, zq122, zq128, zq149, zq160, zq208, zq240, zq251, zq255, zq256, zq500, zq936, zq999, zq1600, zq1800, zq2048, zq3200, zq4160, zq9999, zq12345, zq1000000, zq1048576, zq100000000, bnd, jnt, zg_ok, gz_0, gz_1, gz_n0, gz_n1, zs_eq, zs_ne, zs_same, zs_other, zA_eq, zA_ne, Option.bind_some, Option.bind_none, nI_add, pk_mul, nI_clamp, nI_leI, nI_ltI, nI_eq, pk_sub, nI_mI, nI_eq_mI, mI_eq_nI, nI_lt_m, ldI_ok, inb_ok, if_pos, if_neg, dv_ok, rem_ok, div_ok, if_true, if_false, t2]
    · simp (disch := omega) only [↓zm1, ↓zm2, ↓zm3, ↓zm4, ↓zm5, ↓zm6, ↓zm7, ↓zm8, ↓zm9, ↓zm10, ↓zm11, ↓zm12, ↓zm13, ↓zm14, ↓zm15, ↓zm16, ↓zm17, ↓zm18, ↓zm19, ↓zm20, ↓zm1000000000, zq0, zq1, zq2, zq3, zq4, zq5, zq6, zq7, zq8, zq9, zq10, zq11, zq12, zq13, zq14, zq15, zq16, zq17, zq18, zq19, zq20, zq21, zq22, zq23, zq24, zq25, zq26, zq30, zq31, zq32, zq33, zq34, zq35, zq36, zq37, zq38, zq39, zq40, zq41, zq42, zq43, zq44, zq45, zq47, zq48, zq57, zq59, zq60, zq61, zq62, zq80, zq91, zq93, zq97, zq99, zq100, zq107, zq110, zq120, zq122, zq128, zq149, zq160, zq208, zq240, zq251, zq255, zq256, zq500, zq936, zq999, zq1600, zq1800, zq2048, zq3200, zq4160, zq9999, zq12345, zq1000000, zq1048576, zq100000000, bnd, jnt, zg_ok, gz_0, gz_1, gz_n0, gz_n1, zs_eq, zs_ne, zs_same, zs_other, zA_eq, zA_ne, Option.bind_some, Option.bind_none, nI_add, pk_mul, nI_clamp, nI_leI, nI_ltI, nI_eq, pk_sub, nI_mI, nI_eq_mI, mI_eq_nI, nI_lt_m, ldI_ok, inb_ok, if_pos, if_neg, dv_ok, rem_ok, div_ok, if_true, if_false, t3]
