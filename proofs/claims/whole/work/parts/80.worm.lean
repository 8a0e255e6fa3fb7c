/-! what the reference's lakes are worth, what they leak, its nights -/
section
variable {J : HI} {M : HL} {b nh no nl fu v : Nat} {D : HI}
theorem worth_M (h : ML J b nh no nl D) (hL : LR D) (hW : BW (lv J v)) (hf : 1600 < fu) (hv : v < 26) {l : Nat} (hl : l < nl) : ∃ J' M', f_X12_worth fu J M (nI v) (nI l) = some (nI (woN D (lv J v) nl l), J', M') ∧ AO J J' ∧ OtL M M' := by
  have h' := h
  obtain ⟨⟨h0, h1⟩, h2, h3, h4, h5, h6, h7, h8, h9, h10⟩ := h'
  have hq := fill_M (J := J) (v := v) (l := l) hv (by omega)
  have hq2 := liesIn_M (J := J) (v := v) (l := l) hv (by omega)
  have ht : f_X12_isTold J 1 = _ := isTold_M (r := 1) h hL (by decide)
  have ha := asks_M (fu := fu) h (by omega) hv (lv J v 2 l) (show l < 8 by omega)
  obtain ⟨x, hx, ex⟩ := hW.1 l (by omega)
  obtain ⟨nn, hnn, en⟩ := hW.2
  have hbs : besI (lv J v) nl (lv J v 2 l) l ≤ 8 := Nat.le_trans (cnt_le nl) h7
  unfold f_X12_worth woN
  by_cases c0 : x = 0
  · subst c0
    refine ⟨J, M, ?_, AO.refl, fun _ _ => rfl⟩
    simp (disch := omega) only [↓zm1, ↓zm2, ↓zm3, ↓zm4, ↓zm5, ↓zm6, ↓zm7, ↓zm8, ↓zm9, ↓zm10, ↓zm11, ↓zm12, ↓zm13, ↓zm14, ↓zm15, ↓zm16, ↓zm17, ↓zm18, ↓zm19, ↓zm20, ↓zm1000000000, zq0, zq1, zq2, zq3, zq4, zq5, zq6, zq7, zq8, zq9, zq10, zq11, zq12, zq13, zq14, zq15, zq16, zq17, zq18, zq19, zq20, zq21, zq22, zq23, zq24, zq25, zq26, zq30, zq31, zq32, zq33, zq34, zq35, zq36, zq37, zq38, zq39, zq40, zq41, zq42, zq43, zq44, zq45, zq47, zq48, zq57, zq59, zq60, zq61, zq62, zq80, zq91, zq93, zq97, zq99, zq100, zq107, zq110, zq120, zq122, zq128, zq149, zq160, zq208, zq240, zq251, zq255, zq256, zq500, zq936, zq999, zq1600, zq1800, zq2048, zq3200, zq4160, zq9999, zq12345, zq1000000, zq1048576, zq100000000, bnd, jnt, zg_ok, gz_0, gz_1, gz_n0, gz_n1, zs_eq, zs_ne, zs_same, zs_other, zA_eq, zA_ne, Option.bind_some, Option.bind_none, nI_add, pk_mul, nI_clamp, nI_leI, nI_ltI, nI_eq, pk_sub, nI_mI, nI_eq_mI, mI_eq_nI, nI_lt_m, ldI_ok, inb_ok, if_pos, if_neg, dv_ok, rem_ok, div_ok, if_true, if_false, hq, ex]
  · have n2 : ¬ nI x = nI 0 := fun q => c0 ((nI_eq (by omega) (by omega)).mp q)
    by_cases cr : rt D 1 = true
    · rw [if_pos cr] at ht
      obtain ⟨w, M', f1, f2, f3⟩ := rule_M (fu := fu) (M := M) (r := 1) h hL (by decide) cr (K := sI (sI (sI J 135 1 (lv J v 1 l)) 135 2 (lv J v 0 1)) 135 3 (nI (besI (lv J v) nl (lv J v 2 l) l))) (fun y hy => by rw [zs_ne hy, zs_ne hy, zs_ne hy])
        (fig := fg 1 (lv J v 1 l).toInt (lv J v 0 1).toInt (besI (lv J v) nl (lv J v 2 l) l) 0 0 0)
        (fg_bd (by rw [ex, nI_toInt (by omega)]; unfold bdZ; omega) (by rw [en, nI_toInt (by omega)]; unfold bdZ; omega) (by unfold bdZ; omega) (by unfold bdZ; omega) (by unfold bdZ; omega) (by unfold bdZ; omega)) fg_ask
        (fg_three (K := fun _ k => sI (sI (sI J 135 1 (lv J v 1 l)) 135 2 (lv J v 0 1)) 135 3 (nI (besI (lv J v) nl (lv J v 2 l) l)) 135 (k + 1)) (m := 0) (by simp (disch := omega) only [bnd, jnt, zg_ok, gz_0, gz_1, gz_n0, gz_n1, zs_eq, zs_ne, zs_same, zs_other, zA_eq, zA_ne, Option.bind_some, Option.bind_none]) (by simp (disch := omega) only [bnd, jnt, zg_ok, gz_0, gz_1, gz_n0, gz_n1, zs_eq, zs_ne, zs_same, zs_other, zA_eq, zA_ne, Option.bind_some, Option.bind_none]) (by simp (disch := omega) only [bnd, jnt, zg_ok, gz_0, gz_1, gz_n0, gz_n1, zs_eq, zs_ne, zs_same, zs_other, zA_eq, zA_ne, Option.bind_some, Option.bind_none]; rw [nI_toInt (by omega)]) (fun q => absurd q (by decide)) (fun q => absurd q (by decide)) (fun q => absurd q (by decide))) hf
      have f1' : f_X12_reckons fu (sI (sI (sI J 135 1 (nI x)) 135 2 (lv J v 0 1)) 135 3 (nI (besI (lv J v) nl (lv J v 2 l) l))) M (nI 1) = some (w, M') := by rw [← ex]; exact f1
      have g := clamp_M (m := 9999) f2 (by decide)
      obtain ⟨t1, t2, t3, t4, t5⟩ := t64_lit
      refine ⟨sI (sI (sI J 135 1 (lv J v 1 l)) 135 2 (lv J v 0 1)) 135 3 (nI (besI (lv J v) nl (lv J v 2 l) l)), M', ?_, (fun y hy => by rw [zs_ne hy, zs_ne hy, zs_ne hy]), f3⟩
      have n3 : ¬ (1 : Int32) = 0 := by decide
      simp only [hq, Option.bind_some, jnt, ex, hq2, ha]
      rw [if_neg (show ¬ nI x = 0 from n2), if_neg n2, ht, if_pos cr]
      simp only [Option.bind_some, if_neg n3]
      rw [ex] at f2 g
      have f1'' : f_X12_reckons fu (sI (sI (sI J 135 1 (nI x)) 135 2 (lv J v 0 1)) 135 3 (nI (besI (lv J v) nl (lv J v 2 l) l))) M 1 = some (w, M') := f1'
      simp only [f1'', Option.bind_some, lg_cmp_ge, lg_cmp_le, Int64.le_iff_toInt_le, t3, t5, f2]
      by_cases c1 : 0 ≤ ruV D 1 (fg 1 (nI x).toInt (lv J v 0 1).toInt (besI (lv J v) nl (lv J v 2 l) l) 0 0 0)
      · by_cases c2 : ruV D 1 (fg 1 (nI x).toInt (lv J v 0 1).toInt (besI (lv J v) nl (lv J v 2 l) l) 0 0 0) ≤ 9999
        · rw [if_pos c1, if_pos c2, g.2.1 c1 c2]
        · rw [if_pos c1, if_neg c2, g.2.2 c1 c2]; rfl
      · rw [if_neg c1, g.1 (by omega)]; rfl
    · rw [if_neg cr] at ht
      refine ⟨J, M, ?_, AO.refl, fun _ _ => rfl⟩
      simp only [hq, Option.bind_some, jnt, ex]
      rw [if_neg (show ¬ nI x = 0 from n2), if_neg n2, ht, if_neg cr, nI_clamp (by omega)]
      simp only [Option.bind_some]
      rw [if_pos trivial]
theorem leaking_M (h : ML J b nh no nl D) (hL : LR D) (hW : BW (lv J v)) (hf : 1600 < fu) (hv : v < 26) {l d : Nat} (hd : d ≤ 1) (hl : l < nl) : ∃ J' M', f_X12_leaking fu J M (nI v) (nI l) (nI d) = some (nI (lkN D (lv J v) nl l d), J', M') ∧ AO J J' ∧ OtL M M' := by
  have h' := h
  obtain ⟨⟨h0, h1⟩, h2, h3, h4, h5, h6, h7, h8, h9, h10⟩ := h'
  have hq := fill_M (J := J) (v := v) (l := l) hv (by omega)
  have hq2 := liesIn_M (J := J) (v := v) (l := l) hv (by omega)
  have ht : f_X12_isTold J 0 = _ := isTold_M (r := 0) h hL (by decide)
  have ha := asks_M (fu := fu) h (by omega) hv (lv J v 2 l) (show l < 8 by omega)
  obtain ⟨x, hx, ex⟩ := hW.1 l (by omega)
  obtain ⟨nn, hnn, en⟩ := hW.2
  have hbs : besI (lv J v) nl (lv J v 2 l) l ≤ 8 := Nat.le_trans (cnt_le nl) h7
  unfold f_X12_leaking lkN
  by_cases c0 : x = 0
  · subst c0
    refine ⟨J, M, ?_, AO.refl, fun _ _ => rfl⟩
    simp (disch := omega) only [↓zm1, ↓zm2, ↓zm3, ↓zm4, ↓zm5, ↓zm6, ↓zm7, ↓zm8, ↓zm9, ↓zm10, ↓zm11, ↓zm12, ↓zm13, ↓zm14, ↓zm15, ↓zm16, ↓zm17, ↓zm18, ↓zm19, ↓zm20, ↓zm1000000000, zq0, zq1, zq2, zq3, zq4, zq5, zq6, zq7, zq8, zq9, zq10, zq11, zq12, zq13, zq14, zq15, zq16, zq17, zq18, zq19, zq20, zq21, zq22, zq23, zq24, zq25, zq26, zq30, zq31, zq32, zq33, zq34, zq35, zq36, zq37, zq38, zq39, zq40, zq41, zq42, zq43, zq44, zq45, zq47, zq48, zq57, zq59, zq60, zq61, zq62, zq80, zq91, zq93, zq97, zq99, zq100, zq107, zq110, zq120, zq122, zq128, zq149, zq160, zq208, zq240, zq251, zq255, zq256, zq500, zq936, zq999, zq1600, zq1800, zq2048, zq3200, zq4160, zq9999, zq12345, zq1000000, zq1048576, zq100000000, bnd, jnt, zg_ok, gz_0, gz_1, gz_n0, gz_n1, zs_eq, zs_ne, zs_same, zs_other, zA_eq, zA_ne, Option.bind_some, Option.bind_none, nI_add, pk_mul, nI_clamp, nI_leI, nI_ltI, nI_eq, pk_sub, nI_mI, nI_eq_mI, mI_eq_nI, nI_lt_m, ldI_ok, inb_ok, if_pos, if_neg, dv_ok, rem_ok, div_ok, if_true, if_false, hq, ex]
  · have n2 : ¬ nI x = nI 0 := fun q => c0 ((nI_eq (by omega) (by omega)).mp q)
    by_cases cr : rt D 0 = true
    · rw [if_pos cr] at ht
      have hAO : AO J (sI (sI (sI (sI J 135 1 (lv J v 1 l)) 135 2 (lv J v 0 1)) 135 3 (nI (besI (lv J v) nl (lv J v 2 l) l))) 135 4 (nI d)) := fun y hy => by rw [zs_ne hy, zs_ne hy, zs_ne hy, zs_ne hy]
      obtain ⟨w, M', f1, f2, f3⟩ := rule_M (fu := fu) (M := M) (r := 0) h hL (by decide) cr hAO
        (fig := fg 0 (lv J v 1 l).toInt (lv J v 0 1).toInt (besI (lv J v) nl (lv J v 2 l) l) d 0 0)
        (fg_bd (by rw [ex, nI_toInt (by omega)]; unfold bdZ; omega) (by rw [en, nI_toInt (by omega)]; unfold bdZ; omega) (by unfold bdZ; omega) (by unfold bdZ; omega) (by unfold bdZ; omega) (by unfold bdZ; omega)) fg_ask
        (fg_three (K := fun _ k => sI (sI (sI (sI J 135 1 (lv J v 1 l)) 135 2 (lv J v 0 1)) 135 3 (nI (besI (lv J v) nl (lv J v 2 l) l))) 135 4 (nI d) 135 (k + 1)) (m := 0) (by simp (disch := omega) only [bnd, jnt, zg_ok, gz_0, gz_1, gz_n0, gz_n1, zs_eq, zs_ne, zs_same, zs_other, zA_eq, zA_ne, Option.bind_some, Option.bind_none]) (by simp (disch := omega) only [bnd, jnt, zg_ok, gz_0, gz_1, gz_n0, gz_n1, zs_eq, zs_ne, zs_same, zs_other, zA_eq, zA_ne, Option.bind_some, Option.bind_none]) (by simp (disch := omega) only [bnd, jnt, zg_ok, gz_0, gz_1, gz_n0, gz_n1, zs_eq, zs_ne, zs_same, zs_other, zA_eq, zA_ne, Option.bind_some, Option.bind_none]; rw [nI_toInt (by omega)]) (fun _ => by simp (disch := omega) only [bnd, jnt, zg_ok, gz_0, gz_1, gz_n0, gz_n1, zs_eq, zs_ne, zs_same, zs_other, zA_eq, zA_ne, Option.bind_some, Option.bind_none]; rw [nI_toInt (by omega)]) (fun q => absurd q (by decide)) (fun q => absurd q (by decide))) hf
      have hq3 := fill_M (J := sI (sI (sI (sI J 135 1 (lv J v 1 l)) 135 2 (lv J v 0 1)) 135 3 (nI (besI (lv J v) nl (lv J v 2 l) l))) 135 4 (nI d)) (v := v) (l := l) hv (by omega)
      rw [hAO.lvE, ex] at hq3
      have f1' : f_X12_reckons fu (sI (sI (sI (sI J 135 1 (nI x)) 135 2 (lv J v 0 1)) 135 3 (nI (besI (lv J v) nl (lv J v 2 l) l))) 135 4 (nI d)) M 0 = some (w, M') := by rw [← ex]; exact f1
      have g := clamp_M (m := x) f2 (by omega)
      obtain ⟨t1, t2, t3, t4, t5⟩ := t64_lit
      have hx64 : (nI x).toInt64.toInt = (x : Int) := by rw [Int32.toInt_toInt64, nI_toInt (by omega)]
      refine ⟨sI (sI (sI (sI J 135 1 (lv J v 1 l)) 135 2 (lv J v 0 1)) 135 3 (nI (besI (lv J v) nl (lv J v 2 l) l))) 135 4 (nI d), M', ?_, hAO, f3⟩
      have n3 : ¬ (1 : Int32) = 0 := by decide
      have key : ∀ y : Int32, y = nI d → (inb 10 4 (bnd (sI (sI (sI (sI J 135 1 (nI x)) 135 2 (lv J v 0 1)) 135 3 (nI (besI (lv J v) nl (lv J v 2 l) l))) 135 (4 : Int32).toNatClampNeg y) fun I8 =>
        (f_X12_reckons fu I8 M 0).bind fun x9 =>
        if 0 ≤ (lg_cmp x9.1 0) then
          (f_X12_fill I8 (nI v) (nI l)).bind fun x10 =>
          if (lg_cmp x9.1 (Int32.toInt64 x10)) ≤ 0 then
            some ((Int64.toInt32 x9.1), I8, x9.2)
          else
            (f_X12_fill I8 (nI v) (nI l)).bind fun x11 =>
            some (x11, I8, x9.2)
        else
          some (0, I8, x9.2))) = some (nI (clN x (ruV D 0 (fg 0 (nI x).toInt (lv J v 0 1).toInt (besI (lv J v) nl (lv J v 2 l) l) d 0 0))), sI (sI (sI (sI J 135 1 (nI x)) 135 2 (lv J v 0 1)) 135 3 (nI (besI (lv J v) nl (lv J v 2 l) l))) 135 4 (nI d), M') := by
        intro y hy
        subst hy
        rw [ex] at f2 g
        simp (disch := omega) only [zq4, inb_ok, bnd, nI_clamp, f1', Option.bind_some, lg_cmp_ge, lg_cmp_le, Int64.le_iff_toInt_le, t3, f2, hq3, hx64]
        by_cases c1 : 0 ≤ ruV D 0 (fg 0 (nI x).toInt (lv J v 0 1).toInt (besI (lv J v) nl (lv J v 2 l) l) d 0 0)
        · by_cases c2 : ruV D 0 (fg 0 (nI x).toInt (lv J v 0 1).toInt (besI (lv J v) nl (lv J v 2 l) l) d 0 0) ≤ x
          · rw [if_pos c1, if_pos c2, g.2.1 c1 c2]
          · rw [if_pos c1, if_neg c2, g.2.2 c1 c2]
        · rw [if_neg c1, g.1 (by omega)]; rfl
      simp only [hq, Option.bind_some, jnt, ex, hq2, ha]
      rw [if_neg (show ¬ nI x = 0 from n2), if_neg n2, ht, if_pos cr, nI_clamp (by omega)]
      simp only [Option.bind_some, if_neg n3]
      by_cases cd : d = 0
      · subst cd
        rw [if_pos (show nI 0 = 0 from rfl)]
        exact key 0 rfl
      · have : d = 1 := by omega
        subst this
        rw [if_neg (show ¬ nI 1 = 0 by decide)]
        exact key 1 rfl
    · rw [if_neg cr] at ht
      refine ⟨J, M, ?_, AO.refl, fun _ _ => rfl⟩
      simp only [hq, Option.bind_some, jnt, ex]
      rw [if_neg (show ¬ nI x = 0 from n2), if_neg n2, ht, if_neg cr]
      simp only [Option.bind_some]
      rw [if_pos trivial]
      rfl
end
