/-! broke, spend -/
section
variable {I : HI} {R : HR} {J : HI} {M : HL} {s v t b nh no nl fu : Nat}
/-- a night, also the last one -/
theorem pass_X (h : LC I R J s v t b nh no nl) (hf : 1600 < fu) {d n : Nat} (hd : d ≤ 1) (hn : n ≤ 9999) (en : I s 1 = nI n) : ∃ W I' J' M', f_X9_passNight fu I R s (nI d) = some (nI W, I') ∧ f_X12_passes fu J M (nI v) (nI d) = some (nI W, J', M') ∧ (∀ x, x < s ∨ s + 9 ≤ x → I' x = I x) ∧ PO v J J' ∧ OtL M M' ∧ (n < 9999 → LC I' R J' s v t b nh no nl ∧ I' s 1 = nI (n + 1)) ∧ (∀ k, I' (s + 4) k = I (s + 4) k) := by
  by_cases c : n < 9999
  · obtain ⟨W, I', J', M', a1, a2, a3, a4, a5, a6, a7, a8⟩ := pass_LC (M := M) h hf hd c en
    exact ⟨W, I', J', M', a1, a2, a3, a4, a5, fun _ => ⟨a7, a6⟩, a8⟩
  · obtain ⟨W, I', J', M', ew, a1, a2, a3, a4, a5, a6, a7, a8, a9⟩ := pass_L (M := M) h hf hd hn en
    refine ⟨W, I', J', M', a1, a2, a3, a4, a5, fun q => absurd q c, fun k => ?_⟩
    rw [a8 4 k (by omega) (by omega)]
    unfold ntS sc
    simp
theorem MO.LC {I' : HI} (h : LC I R J s v t b nh no nl) (hI : MO s I I') {J' : HI} (hJ : AO J J') : LC I' R J' s v t b nh no nl := by
  obtain ⟨hC, hL, hM, hE, hB, hv, hk⟩ := h
  have ev := hI.vw hC.2.2.1 hC.2.2.2.1
  refine ⟨hI.CL hC, by rw [ev]; exact hL, by rw [ev]; exact hJ.ML hM, by rw [hI.sc, hJ.lvE]; exact hE, by rw [hI.sc]; exact hB, hv, fun k hk' => ?_⟩
  rw [hI _ (by omega), hJ 131 (by decide)]
  exact hk k hk'
end
theorem broke_loop {fu t b nh no nl m o : Nat} {R : HR} (hf : 1600 < fu) (ho : o < no) (hm : m ≤ 9999) : ∀ (q n k : Nat) (I J : HI) (M : HL), q + k = 101 → q < n → (t = 67 ∨ t = 80) → I 49 1 = nI m → J 127 0 = nI m → (m + k ≤ 9999 → LC I R J 58 1 t b nh no nl ∧ I 58 1 = nI (m + k)) →
    (∃ r I' J' M', f_X11_broke_L37 fu n I R (nI o) (nI k) = some (.inl (r, I', R)) ∧ f_X12_broke_L18 fu n J M (nI o) (nI k) = some (.inl (r, J', M')) ∧ SX t I I' ∧ SM J J' ∧ SL M M' ∧ ¬ sm (fun p => I (58 + 4) (o * 6 + p)) no = 0) ∨ (∃ I' J' M', f_X11_broke_L37 fu n I R (nI o) (nI k) = some (.inr I') ∧ f_X12_broke_L18 fu n J M (nI o) (nI k) = some (.inr (J', M')) ∧ SX t I I' ∧ SM J J' ∧ SL M M') := by
  intro q
  induction q with
  | zero =>
    intro n k I J M hk hn ht h1 h2 hLC
    obtain ⟨n, rfl⟩ : ∃ q, n = q + 1 := ⟨n - 1, by omega⟩
    right
    have p2 : f_X12_isAhead J (nI k) (nI 0) = _ := ahead_M (J := J) (k := k) (l := 0) (by omega) hm (by decide) h2
    rw [if_neg (by omega)] at p2
    refine ⟨I, J, M, ?_, ?_, SX.refl, SM.refl, SL.refl⟩
    · simp (disch := omega) only [f_X11_broke_L37, ↓zm1, ↓zm2, ↓zm3, ↓zm4, ↓zm5, ↓zm6, ↓zm7, ↓zm8, ↓zm9, ↓zm10, ↓zm11, ↓zm12, ↓zm13, ↓zm14, ↓zm15, ↓zm16, ↓zm17, ↓zm18, ↓zm19, ↓zm20, ↓zm1000000000, zq0, zq1, zq2, zq3, zq4, zq5, zq6, zq7, zq8, zq9, zq10, zq11, zq12, zq13, zq14, zq15, zq16, zq17, zq18, zq19, zq20, zq21, zq22, zq23, zq24, zq25, zq26, zq30, zq31, zq32, zq33, zq34, zq35, zq36, zq37, zq38, zq39, zq40, zq41, zq42, zq43, zq44, zq45, zq47, zq48, zq57, zq59, zq60, zq61, zq62, zq80, zq91, zq93, zq97, zq99, zq100, zq107, zq110, zq120, zq122, zq128, zq149, zq160, zq208, zq240, zq251, zq255, zq256, zq500, zq936, zq999, zq1600, zq1800, zq2048, zq3200, zq4160, zq9999, zq12345, zq1000000, zq1048576, zq100000000, bnd, jnt, zg_ok, gz_0, gz_1, gz_n0, gz_n1, zs_eq, zs_ne, zs_same, zs_other, zA_eq, zA_ne, Option.bind_some, Option.bind_none, nI_add, pk_mul, nI_clamp, nI_leI, nI_ltI, nI_eq, pk_sub, nI_mI, nI_eq_mI, mI_eq_nI, nI_lt_m, ldI_ok, inb_ok, if_pos, if_neg, dv_ok, rem_ok, div_ok, if_true, if_false]
    · simp (disch := omega) only [f_X12_broke_L18, ↓zm1, ↓zm2, ↓zm3, ↓zm4, ↓zm5, ↓zm6, ↓zm7, ↓zm8, ↓zm9, ↓zm10, ↓zm11, ↓zm12, ↓zm13, ↓zm14, ↓zm15, ↓zm16, ↓zm17, ↓zm18, ↓zm19, ↓zm20, ↓zm1000000000, zq0, zq1, zq2, zq3, zq4, zq5, zq6, zq7, zq8, zq9, zq10, zq11, zq12, zq13, zq14, zq15, zq16, zq17, zq18, zq19, zq20, zq21, zq22, zq23, zq24, zq25, zq26, zq30, zq31, zq32, zq33, zq34, zq35, zq36, zq37, zq38, zq39, zq40, zq41, zq42, zq43, zq44, zq45, zq47, zq48, zq57, zq59, zq60, zq61, zq62, zq80, zq91, zq93, zq97, zq99, zq100, zq107, zq110, zq120, zq122, zq128, zq149, zq160, zq208, zq240, zq251, zq255, zq256, zq500, zq936, zq999, zq1600, zq1800, zq2048, zq3200, zq4160, zq9999, zq12345, zq1000000, zq1048576, zq100000000, bnd, jnt, zg_ok, gz_0, gz_1, gz_n0, gz_n1, zs_eq, zs_ne, zs_same, zs_other, zA_eq, zA_ne, Option.bind_some, Option.bind_none, nI_add, pk_mul, nI_clamp, nI_leI, nI_ltI, nI_eq, pk_sub, nI_mI, nI_eq_mI, mI_eq_nI, nI_lt_m, ldI_ok, inb_ok, if_pos, if_neg, dv_ok, rem_ok, div_ok, if_true, if_false, p2]
  | succ q ih =>
    intro n k I J M hk hn ht h1 h2 hLC
    obtain ⟨n, rfl⟩ : ∃ q, n = q + 1 := ⟨n - 1, by omega⟩
    have p1 := ahead_C (I := I) (k := k) (by omega) hm h1
    have p2 : f_X12_isAhead J (nI k) (nI 0) = _ := ahead_M (J := J) (k := k) (l := 0) (by omega) hm (by decide) h2
    have n3 : ¬ (1 : Int32) = 0 := by decide
    by_cases c : m + k ≤ 9999
    · rw [if_pos (by omega)] at p1 p2
      obtain ⟨l1, l2⟩ := hLC c
      obtain ⟨r, I1, J1, M1, hr, s1, s2, s3, s4, s5, s6⟩ := isBroke_L (M := M) l1 hf ho
      have s2' : f_X12_isBroke fu J M (nI 1) (nI o) = _ := s2
      have l1' := s3.LC l1 s4
      have e58 : I1 58 1 = nI (m + k) := by rw [s3 58 (by omega)]; exact l2
      obtain ⟨W, I2, J2, M2, a1, a2, a3, a4, a5, a6, a7⟩ := pass_X (M := M1) l1' hf (d := 0) (by decide) c e58
      have a2' : f_X12_passes fu J1 M1 (nI 1) (nI 0) = _ := a2
      rcases hr with e | e
      · have hx : SX t I I2 := SX.trans (s3.SX (by decide) ht) (fun x hx => a3 x (by omega))
        have hsm : SM J J2 := SM.trans s4.SM (a4.SM (by decide))
        have hsl : SL M M2 := SL.trans s5.SL a5.SL
        have st1 : f_X11_broke_L37 fu (n + 1) I R (nI o) (nI k) = f_X11_broke_L37 fu n I2 R (nI o) (nI (k + 1)) := by
          simp (disch := omega) only [f_X11_broke_L37, ↓zm1, ↓zm2, ↓zm3, ↓zm4, ↓zm5, ↓zm6, ↓zm7, ↓zm8, ↓zm9, ↓zm10, ↓zm11, ↓zm12, ↓zm13, ↓zm14, ↓zm15, ↓zm16, ↓zm17, ↓zm18, ↓zm19, ↓zm20, ↓zm1000000000, zq0, zq1, zq2, zq3, zq4, zq5, zq6, zq7, zq8, zq9, zq10, zq11, zq12, zq13, zq14, zq15, zq16, zq17, zq18, zq19, zq20, zq21, zq22, zq23, zq24, zq25, zq26, zq30, zq31, zq32, zq33, zq34, zq35, zq36, zq37, zq38, zq39, zq40, zq41, zq42, zq43, zq44, zq45, zq47, zq48, zq57, zq59, zq60, zq61, zq62, zq80, zq91, zq93, zq97, zq99, zq100, zq107, zq110, zq120, zq122, zq128, zq149, zq160, zq208, zq240, zq251, zq255, zq256, zq500, zq936, zq999, zq1600, zq1800, zq2048, zq3200, zq4160, zq9999, zq12345, zq1000000, zq1048576, zq100000000, bnd, jnt, zg_ok, gz_0, gz_1, gz_n0, gz_n1, zs_eq, zs_ne, zs_same, zs_other, zA_eq, zA_ne, Option.bind_some, Option.bind_none, nI_add, pk_mul, nI_clamp, nI_leI, nI_ltI, nI_eq, pk_sub, nI_mI, nI_eq_mI, mI_eq_nI, nI_lt_m, ldI_ok, inb_ok, if_pos, if_neg, dv_ok, rem_ok, div_ok, if_true, if_false, p1, s1, e, a1]
        have st2 : f_X12_broke_L18 fu (n + 1) J M (nI o) (nI k) = f_X12_broke_L18 fu n J2 M2 (nI o) (nI (k + 1)) := by
          simp (disch := omega) only [f_X12_broke_L18, ↓zm1, ↓zm2, ↓zm3, ↓zm4, ↓zm5, ↓zm6, ↓zm7, ↓zm8, ↓zm9, ↓zm10, ↓zm11, ↓zm12, ↓zm13, ↓zm14, ↓zm15, ↓zm16, ↓zm17, ↓zm18, ↓zm19, ↓zm20, ↓zm1000000000, zq0, zq1, zq2, zq3, zq4, zq5, zq6, zq7, zq8, zq9, zq10, zq11, zq12, zq13, zq14, zq15, zq16, zq17, zq18, zq19, zq20, zq21, zq22, zq23, zq24, zq25, zq26, zq30, zq31, zq32, zq33, zq34, zq35, zq36, zq37, zq38, zq39, zq40, zq41, zq42, zq43, zq44, zq45, zq47, zq48, zq57, zq59, zq60, zq61, zq62, zq80, zq91, zq93, zq97, zq99, zq100, zq107, zq110, zq120, zq122, zq128, zq149, zq160, zq208, zq240, zq251, zq255, zq256, zq500, zq936, zq999, zq1600, zq1800, zq2048, zq3200, zq4160, zq9999, zq12345, zq1000000, zq1048576, zq100000000, bnd, jnt, zg_ok, gz_0, gz_1, gz_n0, gz_n1, zs_eq, zs_ne, zs_same, zs_other, zA_eq, zA_ne, Option.bind_some, Option.bind_none, nI_add, pk_mul, nI_clamp, nI_leI, nI_ltI, nI_eq, pk_sub, nI_mI, nI_eq_mI, mI_eq_nI, nI_lt_m, ldI_ok, inb_ok, if_pos, if_neg, dv_ok, rem_ok, div_ok, if_true, if_false, p2, s2', e, a2']
        have hd4 : ∀ k, I2 (58 + 4) k = I (58 + 4) k := fun k => by rw [a7, s3 _ (by omega)]
        rcases ih n (k + 1) I2 J2 M2 (by omega) (by omega) ht (by rw [hx 49 (by omega)]; exact h1) (by rw [(hsm.2.2.1 0 (by decide)).1]; exact h2) (fun q => by
          obtain ⟨z1, z2⟩ := a6 (by omega)
          exact ⟨z1, by rw [z2]; congr 1⟩) with ⟨r, I3, J3, M3, g1, g2, g3, g4, g5, g6⟩ | ⟨I3, J3, M3, g1, g2, g3, g4, g5⟩
        · left
          refine ⟨r, I3, J3, M3, st1.trans g1, st2.trans g2, hx.trans g3, hsm.trans g4, hsl.trans g5, ?_⟩
          rw [sm_congr (fun i hi => hd4 (o * 6 + i))] at g6
          exact g6
        · right
          exact ⟨I3, J3, M3, st1.trans g1, st2.trans g2, hx.trans g3, hsm.trans g4, hsl.trans g5⟩
      · left
        have e' : ¬ r = nI 0 := by rw [e]; decide
        refine ⟨nI k, I1, J1, M1, ?_, ?_, s3.SX (by decide) ht, s4.SM, s5.SL, ?_⟩
        · simp (disch := omega) only [f_X11_broke_L37, ↓zm1, ↓zm2, ↓zm3, ↓zm4, ↓zm5, ↓zm6, ↓zm7, ↓zm8, ↓zm9, ↓zm10, ↓zm11, ↓zm12, ↓zm13, ↓zm14, ↓zm15, ↓zm16, ↓zm17, ↓zm18, ↓zm19, ↓zm20, ↓zm1000000000, zq0, zq1, zq2, zq3, zq4, zq5, zq6, zq7, zq8, zq9, zq10, zq11, zq12, zq13, zq14, zq15, zq16, zq17, zq18, zq19, zq20, zq21, zq22, zq23, zq24, zq25, zq26, zq30, zq31, zq32, zq33, zq34, zq35, zq36, zq37, zq38, zq39, zq40, zq41, zq42, zq43, zq44, zq45, zq47, zq48, zq57, zq59, zq60, zq61, zq62, zq80, zq91, zq93, zq97, zq99, zq100, zq107, zq110, zq120, zq122, zq128, zq149, zq160, zq208, zq240, zq251, zq255, zq256, zq500, zq936, zq999, zq1600, zq1800, zq2048, zq3200, zq4160, zq9999, zq12345, zq1000000, zq1048576, zq100000000, bnd, jnt, zg_ok, gz_0, gz_1, gz_n0, gz_n1, zs_eq, zs_ne, zs_same, zs_other, zA_eq, zA_ne, Option.bind_some, Option.bind_none, nI_add, pk_mul, nI_clamp, nI_leI, nI_ltI, nI_eq, pk_sub, nI_mI, nI_eq_mI, mI_eq_nI, nI_lt_m, ldI_ok, inb_ok, if_pos, if_neg, dv_ok, rem_ok, div_ok, if_true, if_false, p1, s1, if_neg e']
        · simp (disch := omega) only [f_X12_broke_L18, ↓zm1, ↓zm2, ↓zm3, ↓zm4, ↓zm5, ↓zm6, ↓zm7, ↓zm8, ↓zm9, ↓zm10, ↓zm11, ↓zm12, ↓zm13, ↓zm14, ↓zm15, ↓zm16, ↓zm17, ↓zm18, ↓zm19, ↓zm20, ↓zm1000000000, zq0, zq1, zq2, zq3, zq4, zq5, zq6, zq7, zq8, zq9, zq10, zq11, zq12, zq13, zq14, zq15, zq16, zq17, zq18, zq19, zq20, zq21, zq22, zq23, zq24, zq25, zq26, zq30, zq31, zq32, zq33, zq34, zq35, zq36, zq37, zq38, zq39, zq40, zq41, zq42, zq43, zq44, zq45, zq47, zq48, zq57, zq59, zq60, zq61, zq62, zq80, zq91, zq93, zq97, zq99, zq100, zq107, zq110, zq120, zq122, zq128, zq149, zq160, zq208, zq240, zq251, zq255, zq256, zq500, zq936, zq999, zq1600, zq1800, zq2048, zq3200, zq4160, zq9999, zq12345, zq1000000, zq1048576, zq100000000, bnd, jnt, zg_ok, gz_0, gz_1, gz_n0, gz_n1, zs_eq, zs_ne, zs_same, zs_other, zA_eq, zA_ne, Option.bind_some, Option.bind_none, nI_add, pk_mul, nI_clamp, nI_leI, nI_ltI, nI_eq, pk_sub, nI_mI, nI_eq_mI, mI_eq_nI, nI_lt_m, ldI_ok, inb_ok, if_pos, if_neg, dv_ok, rem_ok, div_ok, if_true, if_false, p2, s2', if_neg e']
        · intro z
          have := s6 z
          rw [e] at this
          exact absurd this (by decide)
    · rw [if_neg (by omega)] at p1 p2
      right
      refine ⟨I, J, M, ?_, ?_, SX.refl, SM.refl, SL.refl⟩
      · simp (disch := omega) only [f_X11_broke_L37, ↓zm1, ↓zm2, ↓zm3, ↓zm4, ↓zm5, ↓zm6, ↓zm7, ↓zm8, ↓zm9, ↓zm10, ↓zm11, ↓zm12, ↓zm13, ↓zm14, ↓zm15, ↓zm16, ↓zm17, ↓zm18, ↓zm19, ↓zm20, ↓zm1000000000, zq0, zq1, zq2, zq3, zq4, zq5, zq6, zq7, zq8, zq9, zq10, zq11, zq12, zq13, zq14, zq15, zq16, zq17, zq18, zq19, zq20, zq21, zq22, zq23, zq24, zq25, zq26, zq30, zq31, zq32, zq33, zq34, zq35, zq36, zq37, zq38, zq39, zq40, zq41, zq42, zq43, zq44, zq45, zq47, zq48, zq57, zq59, zq60, zq61, zq62, zq80, zq91, zq93, zq97, zq99, zq100, zq107, zq110, zq120, zq122, zq128, zq149, zq160, zq208, zq240, zq251, zq255, zq256, zq500, zq936, zq999, zq1600, zq1800, zq2048, zq3200, zq4160, zq9999, zq12345, zq1000000, zq1048576, zq100000000, bnd, jnt, zg_ok, gz_0, gz_1, gz_n0, gz_n1, zs_eq, zs_ne, zs_same, zs_other, zA_eq, zA_ne, Option.bind_some, Option.bind_none, nI_add, pk_mul, nI_clamp, nI_leI, nI_ltI, nI_eq, pk_sub, nI_mI, nI_eq_mI, mI_eq_nI, nI_lt_m, ldI_ok, inb_ok, if_pos, if_neg, dv_ok, rem_ok, div_ok, if_true, if_false, p1]
      · simp (disch := omega) only [f_X12_broke_L18, ↓zm1, ↓zm2, ↓zm3, ↓zm4, ↓zm5, ↓zm6, ↓zm7, ↓zm8, ↓zm9, ↓zm10, ↓zm11, ↓zm12, ↓zm13, ↓zm14, ↓zm15, ↓zm16, ↓zm17, ↓zm18, ↓zm19, ↓zm20, ↓zm1000000000, zq0, zq1, zq2, zq3, zq4, zq5, zq6, zq7, zq8, zq9, zq10, zq11, zq12, zq13, zq14, zq15, zq16, zq17, zq18, zq19, zq20, zq21, zq22, zq23, zq24, zq25, zq26, zq30, zq31, zq32, zq33, zq34, zq35, zq36, zq37, zq38, zq39, zq40, zq41, zq42, zq43, zq44, zq45, zq47, zq48, zq57, zq59, zq60, zq61, zq62, zq80, zq91, zq93, zq97, zq99, zq100, zq107, zq110, zq120, zq122, zq128, zq149, zq160, zq208, zq240, zq251, zq255, zq256, zq500, zq936, zq999, zq1600, zq1800, zq2048, zq3200, zq4160, zq9999, zq12345, zq1000000, zq1048576, zq100000000, bnd, jnt, zg_ok, gz_0, gz_1, gz_n0, gz_n1, zs_eq, zs_ne, zs_same, zs_other, zA_eq, zA_ne, Option.bind_some, Option.bind_none, nI_add, pk_mul, nI_clamp, nI_leI, nI_ltI, nI_eq, pk_sub, nI_mI, nI_eq_mI, mI_eq_nI, nI_lt_m, ldI_ok, inb_ok, if_pos, if_neg, dv_ok, rem_ok, div_ok, if_true, if_false, p2]
theorem eq_broke : Eq_broke Rel := by
  intro n I R J M a0 hn hR
  obtain ⟨t, b, nh, no, nl, h⟩ := hR
  have hLC := h.LC
  obtain ⟨hC, hL, hM, hE, hS, hB, hB', h1⟩ := h.get
  have h8 := hC.2.2.2.2.2.2.2.2.1
  have ht := hC.2.2.1
  obtain ⟨m, hm, em⟩ := hS.1
  have em1 : I 49 1 = nI m := em
  have em2 : J 127 0 = nI m := by rw [← em]; exact hE.1.symm
  have n3 : ¬ (1 : Int32) = 0 := by decide
  unfold f_X11_broke f_X12_broke
  rw [isOwner_C hC, isOwner_M hM]
  rcases own_cases (x := a0) (no := no) (by omega) with c | ⟨i, hi, rfl, c⟩
  · refine ⟨-1, I, R, J, M, ?_, ?_, h.up.rel⟩ <;> simp only [if_neg c, Option.bind_some, if_true]
  simp only [if_pos c, Option.bind_some, if_neg n3]
  obtain ⟨o1, o2, o3, o4⟩ := owed_L hLC FU_big.2 hi
  obtain ⟨I1, J1, q1, q2, q3, q4, q5, q6, q7, q8⟩ := ahead_R (fu := FU) h FU_big.1
  have e58 : I1 58 1 = nI (m + 0) := by
    have : I 49 1 = I1 58 1 := q7.1
    rw [← this]; exact em1
  have hl := broke_loop (fu := FU) (t := t) (b := b) (R := sR R 58 0 (R 49 0)) FU_big.1 hi hm 101 FU 0 I1 J1 M (by omega) (by have := FU_big.1; omega) ht (by rw [q4 49 (by omega)]; exact em1) (by rw [(q5.2.2.1 0 (by decide)).1]; exact em2) (fun _ => ⟨q3, e58⟩)
  have hdd : ∀ k, k < 36 → I1 (58 + 4) k = I (49 + 4) k := fun k hk => (q7.2.2 k hk).symm
  rcases hl with ⟨r, I3, J3, M3, g1, g2, g3, g4, g5, g6⟩ | ⟨I3, J3, M3, g1, g2, g3, g4, g5⟩
  · have g1' : f_X11_broke_L37 FU FU I1 (sR R 58 0 (R 49 0)) (nI i) 0 = _ := g1
    have g2' : f_X12_broke_L18 FU FU J1 M (nI i) 0 = _ := g2
    rw [sm_congr (fun p hp => hdd (i * 6 + p) (by omega))] at g6
    refine ⟨r, I3, sR R 58 0 (R 49 0), J3, M3, ?_, ?_, (Rel_same h (by omega) (SX.trans q4 g3) q6 (SM.trans q5 g4) g5).rel⟩
    · simp only [o3, Option.bind_some, if_neg g6, q1, g1', Sum.elim_inl]
    · simp only [q2, Option.bind_some, g2', Sum.elim_inl]
  · have g1' : f_X11_broke_L37 FU FU I1 (sR R 58 0 (R 49 0)) (nI i) 0 = _ := g1
    have g2' : f_X12_broke_L18 FU FU J1 M (nI i) 0 = _ := g2
    by_cases z : sm (fun p => I (49 + 4) (i * 6 + p)) no = 0
    · refine ⟨-1, I, R, J3, M3, ?_, ?_, (Rel_same h (by omega) SX.refl SR.refl (SM.trans q5 g4) g5).rel⟩
      · simp only [o3, Option.bind_some, if_pos z]
      · simp only [q2, Option.bind_some, g2', Sum.elim_inr]
    · refine ⟨-1, I3, sR R 58 0 (R 49 0), J3, M3, ?_, ?_, (Rel_same h (by omega) (SX.trans q4 g3) q6 (SM.trans q5 g4) g5).rel⟩
      · simp only [o3, Option.bind_some, if_neg z, q1, g1', Sum.elim_inr]
      · simp only [q2, Option.bind_some, g2', Sum.elim_inr]
theorem spend_loop {fu t b nh no nl m l : Nat} {R : HR} (hf : 1600 < fu) (hl : l < nl) (hm : m ≤ 9999) : ∀ (q n k : Nat) (I J : HI) (M : HL) (x y : Int32), q + k = 101 → q < n → (t = 67 ∨ t = 80) → I 49 1 = nI m → J 127 0 = nI m → (m + k ≤ 9999 → LC I R J 58 1 t b nh no nl ∧ I 58 1 = nI (m + k)) →
    ∃ u w I' J' M', f_X11_spend_L41 fu n I R (nI l) x y (nI k) = some (u, w, I') ∧ f_X12_spend_L42 fu n J M (nI l) y x (nI k) = some (w, u, J', M') ∧ SX t I I' ∧ SM J J' ∧ SL M M' := by
  intro q
  induction q with
  | zero =>
    intro n k I J M x y hk hn ht h1 h2 hLC
    obtain ⟨n, rfl⟩ : ∃ q, n = q + 1 := ⟨n - 1, by omega⟩
    have p2 : f_X12_isAhead J (nI k) (nI 0) = _ := ahead_M (J := J) (k := k) (l := 0) (by omega) hm (by decide) h2
    rw [if_neg (by omega)] at p2
    refine ⟨x, y, I, J, M, ?_, ?_, SX.refl, SM.refl, SL.refl⟩
    · simp (disch := omega) only [f_X11_spend_L41, ↓zm1, ↓zm2, ↓zm3, ↓zm4, ↓zm5, ↓zm6, ↓zm7, ↓zm8, ↓zm9, ↓zm10, ↓zm11, ↓zm12, ↓zm13, ↓zm14, ↓zm15, ↓zm16, ↓zm17, ↓zm18, ↓zm19, ↓zm20, ↓zm1000000000, zq0, zq1, zq2, zq3, zq4, zq5, zq6, zq7, zq8, zq9, zq10, zq11, zq12, zq13, zq14, zq15, zq16, zq17, zq18, zq19, zq20, zq21, zq22, zq23, zq24, zq25, zq26, zq30, zq31, zq32, zq33, zq34, zq35, zq36, zq37, zq38, zq39, zq40, zq41, zq42, zq43, zq44, zq45, zq47, zq48, zq57, zq59, zq60, zq61, zq62, zq80, zq91, zq93, zq97, zq99, zq100, zq107, zq110, zq120, zq122, zq128, zq149, zq160, zq208, zq240, zq251, zq255, zq256, zq500, zq936, zq999, zq1600, zq1800, zq2048, zq3200, zq4160, zq9999, zq12345, zq1000000, zq1048576, zq100000000, bnd, jnt, zg_ok, gz_0, gz_1, gz_n0, gz_n1, zs_eq, zs_ne, zs_same, zs_other, zA_eq, zA_ne, Option.bind_some, Option.bind_none, nI_add, pk_mul, nI_clamp, nI_leI, nI_ltI, nI_eq, pk_sub, nI_mI, nI_eq_mI, mI_eq_nI, nI_lt_m, ldI_ok, inb_ok, if_pos, if_neg, dv_ok, rem_ok, div_ok, if_true, if_false]
    · simp (disch := omega) only [f_X12_spend_L42, ↓zm1, ↓zm2, ↓zm3, ↓zm4, ↓zm5, ↓zm6, ↓zm7, ↓zm8, ↓zm9, ↓zm10, ↓zm11, ↓zm12, ↓zm13, ↓zm14, ↓zm15, ↓zm16, ↓zm17, ↓zm18, ↓zm19, ↓zm20, ↓zm1000000000, zq0, zq1, zq2, zq3, zq4, zq5, zq6, zq7, zq8, zq9, zq10, zq11, zq12, zq13, zq14, zq15, zq16, zq17, zq18, zq19, zq20, zq21, zq22, zq23, zq24, zq25, zq26, zq30, zq31, zq32, zq33, zq34, zq35, zq36, zq37, zq38, zq39, zq40, zq41, zq42, zq43, zq44, zq45, zq47, zq48, zq57, zq59, zq60, zq61, zq62, zq80, zq91, zq93, zq97, zq99, zq100, zq107, zq110, zq120, zq122, zq128, zq149, zq160, zq208, zq240, zq251, zq255, zq256, zq500, zq936, zq999, zq1600, zq1800, zq2048, zq3200, zq4160, zq9999, zq12345, zq1000000, zq1048576, zq100000000, bnd, jnt, zg_ok, gz_0, gz_1, gz_n0, gz_n1, zs_eq, zs_ne, zs_same, zs_other, zA_eq, zA_ne, Option.bind_some, Option.bind_none, nI_add, pk_mul, nI_clamp, nI_leI, nI_ltI, nI_eq, pk_sub, nI_mI, nI_eq_mI, mI_eq_nI, nI_lt_m, ldI_ok, inb_ok, if_pos, if_neg, dv_ok, rem_ok, div_ok, if_true, if_false, p2]
  | succ q ih =>
    intro n k I J M x y hk hn ht h1 h2 hLC
    obtain ⟨n, rfl⟩ : ∃ q, n = q + 1 := ⟨n - 1, by omega⟩
    have p1 := ahead_C (I := I) (k := k) (by omega) hm h1
    have p2 : f_X12_isAhead J (nI k) (nI 0) = _ := ahead_M (J := J) (k := k) (l := 0) (by omega) hm (by decide) h2
    by_cases c : m + k ≤ 9999
    · rw [if_pos (by omega)] at p1 p2
      obtain ⟨l1, l2⟩ := hLC c
      obtain ⟨I1, J1, M1, s1, s2, s3, s4, s5⟩ := worth_L (M := M) l1 hf hl
      have s2' : f_X12_worth fu J M (nI 1) (nI l) = _ := s2
      have l1' := s3.LC l1 s4
      have e58 : I1 58 1 = nI (m + k) := by rw [s3 58 (by omega)]; exact l2
      by_cases cw : nI (woN (vw I t) (sc I 58) nl l) ≤ x
      · obtain ⟨W, I2, J2, M2, a1, a2, a3, a4, a5, a6, a7⟩ := pass_X (M := M1) l1' hf (d := 0) (by decide) c e58
        have a2' : f_X12_passes fu J1 M1 (nI 1) (nI 0) = _ := a2
        have hx : SX t I I2 := SX.trans (s3.SX (by decide) ht) (fun x hx => a3 x (by omega))
        have hsm : SM J J2 := SM.trans s4.SM (a4.SM (by decide))
        have hsl : SL M M2 := SL.trans s5.SL a5.SL
        obtain ⟨u, w, I3, J3, M3, g1, g2, g3, g4, g5⟩ := ih n (k + 1) I2 J2 M2 x y (by omega) (by omega) ht (by rw [hx 49 (by omega)]; exact h1) (by rw [(hsm.2.2.1 0 (by decide)).1]; exact h2) (fun q => by
          obtain ⟨z1, z2⟩ := a6 (by omega)
          exact ⟨z1, by rw [z2]; congr 1⟩)
        refine ⟨u, w, I3, J3, M3, ?_, ?_, hx.trans g3, hsm.trans g4, hsl.trans g5⟩
        · refine Eq.trans ?_ g1
          simp (disch := omega) only [f_X11_spend_L41, ↓zm1, ↓zm2, ↓zm3, ↓zm4, ↓zm5, ↓zm6, ↓zm7, ↓zm8, ↓zm9, ↓zm10, ↓zm11, ↓zm12, ↓zm13, ↓zm14, ↓zm15, ↓zm16, ↓zm17, ↓zm18, ↓zm19, ↓zm20, ↓zm1000000000, zq0, zq1, zq2, zq3, zq4, zq5, zq6, zq7, zq8, zq9, zq10, zq11, zq12, zq13, zq14, zq15, zq16, zq17, zq18, zq19, zq20, zq21, zq22, zq23, zq24, zq25, zq26, zq30, zq31, zq32, zq33, zq34, zq35, zq36, zq37, zq38, zq39, zq40, zq41, zq42, zq43, zq44, zq45, zq47, zq48, zq57, zq59, zq60, zq61, zq62, zq80, zq91, zq93, zq97, zq99, zq100, zq107, zq110, zq120, zq122, zq128, zq149, zq160, zq208, zq240, zq251, zq255, zq256, zq500, zq936, zq999, zq1600, zq1800, zq2048, zq3200, zq4160, zq9999, zq12345, zq1000000, zq1048576, zq100000000, bnd, jnt, zg_ok, gz_0, gz_1, gz_n0, gz_n1, zs_eq, zs_ne, zs_same, zs_other, zA_eq, zA_ne, Option.bind_some, Option.bind_none, nI_add, pk_mul, nI_clamp, nI_leI, nI_ltI, nI_eq, pk_sub, nI_mI, nI_eq_mI, mI_eq_nI, nI_lt_m, ldI_ok, inb_ok, if_pos, if_neg, dv_ok, rem_ok, div_ok, if_true, if_false, p1, s1, if_pos cw, a1]
        · refine Eq.trans ?_ g2
          simp (disch := omega) only [f_X12_spend_L42, ↓zm1, ↓zm2, ↓zm3, ↓zm4, ↓zm5, ↓zm6, ↓zm7, ↓zm8, ↓zm9, ↓zm10, ↓zm11, ↓zm12, ↓zm13, ↓zm14, ↓zm15, ↓zm16, ↓zm17, ↓zm18, ↓zm19, ↓zm20, ↓zm1000000000, zq0, zq1, zq2, zq3, zq4, zq5, zq6, zq7, zq8, zq9, zq10, zq11, zq12, zq13, zq14, zq15, zq16, zq17, zq18, zq19, zq20, zq21, zq22, zq23, zq24, zq25, zq26, zq30, zq31, zq32, zq33, zq34, zq35, zq36, zq37, zq38, zq39, zq40, zq41, zq42, zq43, zq44, zq45, zq47, zq48, zq57, zq59, zq60, zq61, zq62, zq80, zq91, zq93, zq97, zq99, zq100, zq107, zq110, zq120, zq122, zq128, zq149, zq160, zq208, zq240, zq251, zq255, zq256, zq500, zq936, zq999, zq1600, zq1800, zq2048, zq3200, zq4160, zq9999, zq12345, zq1000000, zq1048576, zq100000000, bnd, jnt, zg_ok, gz_0, gz_1, gz_n0, gz_n1, zs_eq, zs_ne, zs_same, zs_other, zA_eq, zA_ne, Option.bind_some, Option.bind_none, nI_add, pk_mul, nI_clamp, nI_leI, nI_ltI, nI_eq, pk_sub, nI_mI, nI_eq_mI, mI_eq_nI, nI_lt_m, ldI_ok, inb_ok, if_pos, if_neg, dv_ok, rem_ok, div_ok, if_true, if_false, p2, s2', if_pos cw, a2']
      · obtain ⟨I1b, J1b, M1b, r1, r2, r3, r4, r5⟩ := worth_L (M := M1) l1' hf hl
        have ew : woN (vw I1 t) (sc I1 58) nl l = woN (vw I t) (sc I 58) nl l := by rw [s3.vw ht (by decide), s3.sc]
        rw [ew] at r2
        have r2' : f_X12_worth fu J1 M1 (nI 1) (nI l) = _ := r2
        obtain ⟨W, I2, J2, M2, a1, a2, a3, a4, a5, a6, a7⟩ := pass_X (M := M1b) (MO.LC l1' MO.refl r4) hf (d := 0) (by decide) c e58
        have a2' : f_X12_passes fu J1b M1b (nI 1) (nI 0) = _ := a2
        have hx : SX t I I2 := SX.trans (s3.SX (by decide) ht) (fun x hx => a3 x (by omega))
        have hsm : SM J J2 := SM.trans (SM.trans s4.SM r4.SM) (a4.SM (by decide))
        have hsl : SL M M2 := SL.trans (SL.trans s5.SL r5.SL) a5.SL
        obtain ⟨u, w, I3, J3, M3, g1, g2, g3, g4, g5⟩ := ih n (k + 1) I2 J2 M2 (nI (woN (vw I t) (sc I 58) nl l)) (nI k) (by omega) (by omega) ht (by rw [hx 49 (by omega)]; exact h1) (by rw [(hsm.2.2.1 0 (by decide)).1]; exact h2) (fun q => by
          obtain ⟨z1, z2⟩ := a6 (by omega)
          exact ⟨z1, by rw [z2]; congr 1⟩)
        refine ⟨u, w, I3, J3, M3, ?_, ?_, hx.trans g3, hsm.trans g4, hsl.trans g5⟩
        · refine Eq.trans ?_ g1
          simp (disch := omega) only [f_X11_spend_L41, ↓zm1, ↓zm2, ↓zm3, ↓zm4, ↓zm5, ↓zm6, ↓zm7, ↓zm8, ↓zm9, ↓zm10, ↓zm11, ↓zm12, ↓zm13, ↓zm14, ↓zm15, ↓zm16, ↓zm17, ↓zm18, ↓zm19, ↓zm20, ↓zm1000000000, zq0, zq1, zq2, zq3, zq4, zq5, zq6, zq7, zq8, zq9, zq10, zq11, zq12, zq13, zq14, zq15, zq16, zq17, zq18, zq19, zq20, zq21, zq22, zq23, zq24, zq25, zq26, zq30, zq31, zq32, zq33, zq34, zq35, zq36, zq37, zq38, zq39, zq40, zq41, zq42, zq43, zq44, zq45, zq47, zq48, zq57, zq59, zq60, zq61, zq62, zq80, zq91, zq93, zq97, zq99, zq100, zq107, zq110, zq120, zq122, zq128, zq149, zq160, zq208, zq240, zq251, zq255, zq256, zq500, zq936, zq999, zq1600, zq1800, zq2048, zq3200, zq4160, zq9999, zq12345, zq1000000, zq1048576, zq100000000, bnd, jnt, zg_ok, gz_0, gz_1, gz_n0, gz_n1, zs_eq, zs_ne, zs_same, zs_other, zA_eq, zA_ne, Option.bind_some, Option.bind_none, nI_add, pk_mul, nI_clamp, nI_leI, nI_ltI, nI_eq, pk_sub, nI_mI, nI_eq_mI, mI_eq_nI, nI_lt_m, ldI_ok, inb_ok, if_pos, if_neg, dv_ok, rem_ok, div_ok, if_true, if_false, p1, s1, if_neg cw, a1]
        · refine Eq.trans ?_ g2
          simp (disch := omega) only [f_X12_spend_L42, ↓zm1, ↓zm2, ↓zm3, ↓zm4, ↓zm5, ↓zm6, ↓zm7, ↓zm8, ↓zm9, ↓zm10, ↓zm11, ↓zm12, ↓zm13, ↓zm14, ↓zm15, ↓zm16, ↓zm17, ↓zm18, ↓zm19, ↓zm20, ↓zm1000000000, zq0, zq1, zq2, zq3, zq4, zq5, zq6, zq7, zq8, zq9, zq10, zq11, zq12, zq13, zq14, zq15, zq16, zq17, zq18, zq19, zq20, zq21, zq22, zq23, zq24, zq25, zq26, zq30, zq31, zq32, zq33, zq34, zq35, zq36, zq37, zq38, zq39, zq40, zq41, zq42, zq43, zq44, zq45, zq47, zq48, zq57, zq59, zq60, zq61, zq62, zq80, zq91, zq93, zq97, zq99, zq100, zq107, zq110, zq120, zq122, zq128, zq149, zq160, zq208, zq240, zq251, zq255, zq256, zq500, zq936, zq999, zq1600, zq1800, zq2048, zq3200, zq4160, zq9999, zq12345, zq1000000, zq1048576, zq100000000, bnd, jnt, zg_ok, gz_0, gz_1, gz_n0, gz_n1, zs_eq, zs_ne, zs_same, zs_other, zA_eq, zA_ne, Option.bind_some, Option.bind_none, nI_add, pk_mul, nI_clamp, nI_leI, nI_ltI, nI_eq, pk_sub, nI_mI, nI_eq_mI, mI_eq_nI, nI_lt_m, ldI_ok, inb_ok, if_pos, if_neg, dv_ok, rem_ok, div_ok, if_true, if_false, p2, s2', if_neg cw, r2', a2']
    · rw [if_neg (by omega)] at p1 p2
      refine ⟨x, y, I, J, M, ?_, ?_, SX.refl, SM.refl, SL.refl⟩
      · simp (disch := omega) only [f_X11_spend_L41, ↓zm1, ↓zm2, ↓zm3, ↓zm4, ↓zm5, ↓zm6, ↓zm7, ↓zm8, ↓zm9, ↓zm10, ↓zm11, ↓zm12, ↓zm13, ↓zm14, ↓zm15, ↓zm16, ↓zm17, ↓zm18, ↓zm19, ↓zm20, ↓zm1000000000, zq0, zq1, zq2, zq3, zq4, zq5, zq6, zq7, zq8, zq9, zq10, zq11, zq12, zq13, zq14, zq15, zq16, zq17, zq18, zq19, zq20, zq21, zq22, zq23, zq24, zq25, zq26, zq30, zq31, zq32, zq33, zq34, zq35, zq36, zq37, zq38, zq39, zq40, zq41, zq42, zq43, zq44, zq45, zq47, zq48, zq57, zq59, zq60, zq61, zq62, zq80, zq91, zq93, zq97, zq99, zq100, zq107, zq110, zq120, zq122, zq128, zq149, zq160, zq208, zq240, zq251, zq255, zq256, zq500, zq936, zq999, zq1600, zq1800, zq2048, zq3200, zq4160, zq9999, zq12345, zq1000000, zq1048576, zq100000000, bnd, jnt, zg_ok, gz_0, gz_1, gz_n0, gz_n1, zs_eq, zs_ne, zs_same, zs_other, zA_eq, zA_ne, Option.bind_some, Option.bind_none, nI_add, pk_mul, nI_clamp, nI_leI, nI_ltI, nI_eq, pk_sub, nI_mI, nI_eq_mI, mI_eq_nI, nI_lt_m, ldI_ok, inb_ok, if_pos, if_neg, dv_ok, rem_ok, div_ok, if_true, if_false, p1]
      · simp (disch := omega) only [f_X12_spend_L42, ↓zm1, ↓zm2, ↓zm3, ↓zm4, ↓zm5, ↓zm6, ↓zm7, ↓zm8, ↓zm9, ↓zm10, ↓zm11, ↓zm12, ↓zm13, ↓zm14, ↓zm15, ↓zm16, ↓zm17, ↓zm18, ↓zm19, ↓zm20, ↓zm1000000000, zq0, zq1, zq2, zq3, zq4, zq5, zq6, zq7, zq8, zq9, zq10, zq11, zq12, zq13, zq14, zq15, zq16, zq17, zq18, zq19, zq20, zq21, zq22, zq23, zq24, zq25, zq26, zq30, zq31, zq32, zq33, zq34, zq35, zq36, zq37, zq38, zq39, zq40, zq41, zq42, zq43, zq44, zq45, zq47, zq48, zq57, zq59, zq60, zq61, zq62, zq80, zq91, zq93, zq97, zq99, zq100, zq107, zq110, zq120, zq122, zq128, zq149, zq160, zq208, zq240, zq251, zq255, zq256, zq500, zq936, zq999, zq1600, zq1800, zq2048, zq3200, zq4160, zq9999, zq12345, zq1000000, zq1048576, zq100000000, bnd, jnt, zg_ok, gz_0, gz_1, gz_n0, gz_n1, zs_eq, zs_ne, zs_same, zs_other, zA_eq, zA_ne, Option.bind_some, Option.bind_none, nI_add, pk_mul, nI_clamp, nI_leI, nI_ltI, nI_eq, pk_sub, nI_mI, nI_eq_mI, mI_eq_nI, nI_lt_m, ldI_ok, inb_ok, if_pos, if_neg, dv_ok, rem_ok, div_ok, if_true, if_false, p2]
theorem eq_spend : Eq_spend Rel := by
  intro n I R J M a0 a1 hn hR
  obtain ⟨t, b, nh, no, nl, h⟩ := hR
  have hLC := h.LC
  obtain ⟨hC, hL, hM, hE, hS, hB, hB', h1⟩ := h.get
  have h9 := hC.2.2.2.2.2.2.2.2.2
  have ht := hC.2.2.1
  obtain ⟨m, hm, em⟩ := hS.1
  have em1 : I 49 1 = nI m := em
  have em2 : J 127 0 = nI m := by rw [← em]; exact hE.1.symm
  have n3 : ¬ (1 : Int32) = 0 := by decide
  unfold f_X11_spend f_X12_spend f_X12_is
  rw [isLake_M hM]
  rcases own_cases (x := a0) (no := nl) (by omega) with c | ⟨i, hi, rfl, c⟩
  · refine ⟨-1, I, R, J, M, ?_, ?_, h.up.rel⟩
    · rw [stands_C hC]
      simp only [if_neg (fun q : (0 ≤ a0 ∧ a0 < nI nl) ∧ _ => c q.1), Option.bind_some, if_true]
    · simp only [if_neg c, Option.bind_some, if_true]
  rw [stands_Cn hC hi]
  obtain ⟨x, hx, ex⟩ := hB.1 i (by omega)
  have ex1 : I (49 + 1) i = nI x := ex
  have f1 : f_X12_fill J 0 (nI i) = some (nI x) := by
    have q : f_X12_fill J 0 (nI i) = _ := fill_M (J := J) (v := 0) (l := i) (by decide) (by omega)
    rw [q, ← (hE.2.1 i (by omega)).1, ex]
  simp only [if_pos c, Option.bind_some, if_neg n3, f1, ex1]
  by_cases cx : x = 0
  · subst cx
    refine ⟨-1, I, R, J, M, ?_, ?_, h.up.rel⟩
    · rw [if_pos (by decide)]
    · rw [if_pos (by decide)]
  · have x1 : ¬ nI x ≤ 0 := nI_nle (by omega) (by omega)
    have x2 : ¬ nI x = 0 := nI_ne0 (by omega) (by omega)
    simp only [if_neg x1, if_neg x2, if_neg n3]
    rcases x_cases a1 2 (by decide) with d | d | ⟨j, hj, rfl⟩
    · refine ⟨-1, I, R, J, M, ?_, ?_, h.up.rel⟩
      · simp (disch := omega) only [Int32.le_iff_toInt_le, Int32.lt_iff_toInt_lt, ← Int32.toInt_inj, zt0, zt1, zt2, zt3, zt4, zt5, zt6, zt7, zt8, zt9, zt10, zt11, zt12, zt13, zt14, zt15, zt16, zt17, zt18, zt19, zt20, zt21, zt22, zt23, zt24, zt25, zt26, zt30, zt31, zt32, zt33, zt34, zt35, zt36, zt37, zt38, zt39, zt40, zt41, zt42, zt43, zt44, zt45, zt47, zt48, zt57, zt59, zt60, zt61, zt62, zt80, zt91, zt93, zt97, zt99, zt100, zt107, zt110, zt120, zt122, zt128, zt149, zt160, zt208, zt240, zt251, zt255, zt256, zt500, zt936, zt999, zt1600, zt1800, zt2048, zt3200, zt4160, zt9999, zt12345, zt1000000, zt1048576, zt100000000, zu1, zu2, zu3, zu4, zu5, zu6, zu7, zu8, zu9, zu10, zu11, zu12, zu13, zu14, zu15, zu16, zu17, zu18, zu19, zu20, zu1000000000, if_pos, if_neg, gz_0, gz_1, Option.bind_some, if_true, if_false]
      · simp (disch := omega) only [Int32.le_iff_toInt_le, Int32.lt_iff_toInt_lt, ← Int32.toInt_inj, zt0, zt1, zt2, zt3, zt4, zt5, zt6, zt7, zt8, zt9, zt10, zt11, zt12, zt13, zt14, zt15, zt16, zt17, zt18, zt19, zt20, zt21, zt22, zt23, zt24, zt25, zt26, zt30, zt31, zt32, zt33, zt34, zt35, zt36, zt37, zt38, zt39, zt40, zt41, zt42, zt43, zt44, zt45, zt47, zt48, zt57, zt59, zt60, zt61, zt62, zt80, zt91, zt93, zt97, zt99, zt100, zt107, zt110, zt120, zt122, zt128, zt149, zt160, zt208, zt240, zt251, zt255, zt256, zt500, zt936, zt999, zt1600, zt1800, zt2048, zt3200, zt4160, zt9999, zt12345, zt1000000, zt1048576, zt100000000, zu1, zu2, zu3, zu4, zu5, zu6, zu7, zu8, zu9, zu10, zu11, zu12, zu13, zu14, zu15, zu16, zu17, zu18, zu19, zu20, zu1000000000, if_pos, if_neg, gz_0, gz_1, Option.bind_some, if_true, if_false]
    · refine ⟨-1, I, R, J, M, ?_, ?_, h.up.rel⟩
      · simp (disch := omega) only [Int32.le_iff_toInt_le, Int32.lt_iff_toInt_lt, ← Int32.toInt_inj, zt0, zt1, zt2, zt3, zt4, zt5, zt6, zt7, zt8, zt9, zt10, zt11, zt12, zt13, zt14, zt15, zt16, zt17, zt18, zt19, zt20, zt21, zt22, zt23, zt24, zt25, zt26, zt30, zt31, zt32, zt33, zt34, zt35, zt36, zt37, zt38, zt39, zt40, zt41, zt42, zt43, zt44, zt45, zt47, zt48, zt57, zt59, zt60, zt61, zt62, zt80, zt91, zt93, zt97, zt99, zt100, zt107, zt110, zt120, zt122, zt128, zt149, zt160, zt208, zt240, zt251, zt255, zt256, zt500, zt936, zt999, zt1600, zt1800, zt2048, zt3200, zt4160, zt9999, zt12345, zt1000000, zt1048576, zt100000000, zu1, zu2, zu3, zu4, zu5, zu6, zu7, zu8, zu9, zu10, zu11, zu12, zu13, zu14, zu15, zu16, zu17, zu18, zu19, zu20, zu1000000000, if_pos, if_neg, gz_0, gz_1, Option.bind_some, if_true, if_false]
      · simp (disch := omega) only [Int32.le_iff_toInt_le, Int32.lt_iff_toInt_lt, ← Int32.toInt_inj, zt0, zt1, zt2, zt3, zt4, zt5, zt6, zt7, zt8, zt9, zt10, zt11, zt12, zt13, zt14, zt15, zt16, zt17, zt18, zt19, zt20, zt21, zt22, zt23, zt24, zt25, zt26, zt30, zt31, zt32, zt33, zt34, zt35, zt36, zt37, zt38, zt39, zt40, zt41, zt42, zt43, zt44, zt45, zt47, zt48, zt57, zt59, zt60, zt61, zt62, zt80, zt91, zt93, zt97, zt99, zt100, zt107, zt110, zt120, zt122, zt128, zt149, zt160, zt208, zt240, zt251, zt255, zt256, zt500, zt936, zt999, zt1600, zt1800, zt2048, zt3200, zt4160, zt9999, zt12345, zt1000000, zt1048576, zt100000000, zu1, zu2, zu3, zu4, zu5, zu6, zu7, zu8, zu9, zu10, zu11, zu12, zu13, zu14, zu15, zu16, zu17, zu18, zu19, zu20, zu1000000000, if_pos, if_neg, gz_0, gz_1, Option.bind_some, if_true, if_false]
    · obtain ⟨I1, J1, q1, q2, q3, q4, q5, q6, q7, q8⟩ := ahead_R (fu := FU) h FU_big.1
      have e58 : I1 58 1 = nI (m + 0) := by
        have : I 49 1 = I1 58 1 := q7.1
        rw [← this]; exact em1
      obtain ⟨u, w, I3, J3, M3, g1, g2, g3, g4, g5⟩ := spend_loop (fu := FU) (t := t) (b := b) (R := sR R 58 0 (R 49 0)) FU_big.1 hi hm 101 FU 0 I1 J1 M (-1) 0 (by omega) (by have := FU_big.1; omega) ht (by rw [q4 49 (by omega)]; exact em1) (by rw [(q5.2.2.1 0 (by decide)).1]; exact em2) (fun _ => ⟨q3, e58⟩)
      have g1' : f_X11_spend_L41 FU FU I1 (sR R 58 0 (R 49 0)) (nI i) (-1) 0 0 = _ := g1
      have g2' : f_X12_spend_L42 FU FU J1 M (nI i) 0 (-1) 0 = _ := g2
      have k1 : ¬ nI j < 0 := nI_pos (by omega)
      have k2 : nI j ≤ 1 := nI_le (b := 1) (by omega) (by decide)
      have k3 : ¬ 1 < nI j := Int32.not_lt.mpr k2
      simp only [if_neg k1, if_pos k2, if_neg k3, q1, q2, g1', g2', gz_1, Option.bind_some, if_neg n3]
      by_cases cj : j = 0
      · subst cj
        exact ⟨w, I3, sR R 58 0 (R 49 0), J3, M3, by rw [if_pos (show nI 0 = 0 from rfl)], by rw [if_pos (show nI 0 = 0 from rfl)], (Rel_same h (by omega) (SX.trans q4 g3) q6 (SM.trans q5 g4) g5).rel⟩
      · have k4 : ¬ nI j = 0 := nI_ne0 (by omega) (by omega)
        exact ⟨u, I3, sR R 58 0 (R 49 0), J3, M3, by rw [if_neg k4], by rw [if_neg k4], (Rel_same h (by omega) (SX.trans q4 g3) q6 (SM.trans q5 g4) g5).rel⟩
