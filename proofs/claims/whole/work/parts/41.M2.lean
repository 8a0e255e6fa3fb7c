/-! LakeMarketModel.worth(II)I -/
def f_X12_worth (fu : Nat) (I : HI) (L : HL) (p1 : Int32) (p2 : Int32) : Option (Int32 × HI × HL) :=
  (f_X12_fill I p1 p2).bind fun x1 =>
  jnt (β := Unit) (fun y11 =>
    (f_X12_fill I p1 p2).bind fun x12 =>
    some (x12, I, L)) fun j2 =>
  if x1 = 0 then
    j2 ()
  else
    (f_X12_isTold I 1).bind fun x3 =>
    if x3 = 0 then
      j2 ()
    else
      (f_X12_liesIn I p1 p2).bind fun x4 =>
      (f_X12_asks fu I p1 p2 x4).bind fun x5 =>
      (f_X12_reckons fu x5 L 1).bind fun x6 =>
      if 0 ≤ (lg_cmp x6.1 0) then
        if (lg_cmp x6.1 9999) ≤ 0 then
          some ((Int64.toInt32 x6.1), x5, x6.2)
        else
          some (9999, x5, x6.2)
      else
        some (0, x5, x6.2)
set_option maxRecDepth 20000 in
theorem pc_X12_worth (fu : Nat) (I : HI) (L : HL) (R : HR) (p1 : Int32) (p2 : Int32) : PCo 100 147 3 yX12_worth cX12_worth 5 (some .int) [.ref 100, .int p1, .int p2] I L R (f_X12_worth fu I L p1 p2) (fun x : Int32 × HI × HL => ((some (.int x.1), x.2.1, x.2.2, R) : HF)) := by
  refine PCo.of (own := RX12) (by decide +kernel) (Nat.le_of_ble_eq_true rfl) rfl rfl (fun F => ?_)
  unfold f_X12_worth
  refine PWk.aload_n 0 dX12_worth_0 rfl ?_
  refine PWk.iload_n 1 dX12_worth_1 rfl ?_
  refine PWk.iload_n 2 dX12_worth_2 rfl ?_
  refine PWk.callVi (pc_X12_fill I L R p1 p2) dX12_worth_3 ml_X12_440 rfl rg_100 lc_100 vq_12 (by decide) rfl (Nat.le_of_ble_eq_true rfl) (fun x1 => ?_)
  refine PWk.jn (pc' := 17) (lv' := fun y11 => [(0, .ref 100), (1, .int p1), (2, .int p2)]) (st' := fun y11 => []) (I' := fun y11 => I) (L' := fun y11 => L) (R' := fun y11 => R) (fun j2 hj2 => ?_) (fun y11 => ?_)
  · refine PWk.if_eq 17 dX12_worth_6 (by decide) (fun h10 => ?_) (fun h10 => ?_)
    · exact hj2 ()
    · refine PWk.aload_n 0 dX12_worth_9 rfl ?_
      refine PWk.iconst (v := 1) dX12_worth_10 ic_1 ?_
      refine PWk.callVi (pc_X12_isTold I L R 1) dX12_worth_11 ml_X12_447 rfl rg_100 lc_100 vq_12 (by decide) rfl (Nat.le_of_ble_eq_true rfl) (fun x3 => ?_)
      refine PWk.if_ne 24 dX12_worth_14 (by decide) (fun h9 => ?_) (fun h9 => ?_)
      · exact hj2 ()
      · refine PWk.aload_n 0 dX12_worth_24 rfl ?_
        refine PWk.iload_n 1 dX12_worth_25 rfl ?_
        refine PWk.iload_n 2 dX12_worth_26 rfl ?_
        refine PWk.aload_n 0 dX12_worth_27 rfl ?_
        refine PWk.iload_n 1 dX12_worth_28 rfl ?_
        refine PWk.iload_n 2 dX12_worth_29 rfl ?_
        refine PWk.callVi (pc_X12_liesIn I L R p1 p2) dX12_worth_30 ml_X12_437 rfl rg_100 lc_100 vq_12 (by decide) rfl (Nat.le_of_ble_eq_true rfl) (fun x4 => ?_)
        refine PWk.callVvI (pc_X12_asks fu I L R p1 p2 x4) dX12_worth_33 ml_X12_450 rfl rg_100 lc_100 vq_12 (by decide) rfl (Nat.le_of_ble_eq_true rfl) (fun x5 => ?_)
        refine PWk.aload_n 0 dX12_worth_36 rfl ?_
        refine PWk.iconst (v := 1) dX12_worth_37 ic_1 ?_
        refine PWk.callVlL (pc_X12_reckons fu x5 L R 1) dX12_worth_38 ml_X12_454 rfl rg_100 lc_100 vq_12 (by decide) rfl (Nat.le_of_ble_eq_true rfl) (fun x6 => ?_)
        refine PWk.lstore_n [(3, .long x6.1), (0, .ref 100), (1, .int p1), (2, .int p2)] dX12_worth_41 (by decide) rfl ?_
        refine PWk.lload_n 0 dX12_worth_42 rfl ?_
        refine PWk.lconst (v := 0) dX12_worth_43 rfl ?_
        refine PWk.lcmp dX12_worth_44 ?_
        refine PWk.if_ge 52 dX12_worth_45 (by decide) (fun h8 => ?_) (fun h8 => ?_)
        · refine PWk.lload_n 0 dX12_worth_52 rfl ?_
          refine PWk.ldc2 (v := 9999) dX12_worth_53 kc_X12_458 ?_
          refine PWk.lcmp dX12_worth_56 ?_
          refine PWk.if_le 66 dX12_worth_57 (by decide) (fun h7 => ?_) (fun h7 => ?_)
          · refine PWk.lload_n 0 dX12_worth_66 rfl ?_
            refine PWk.l2i dX12_worth_67 ?_
            exact PWk.iret dX12_worth_68 rfl (fun h => h)
          · refine PWk.sipush (v := 9999) dX12_worth_60 sp_9999 ?_
            refine PWk.goto 68 dX12_worth_63 (by decide) ?_
            exact PWk.iret dX12_worth_68 rfl (fun h => h)
        · refine PWk.iconst (v := 0) dX12_worth_48 ic_0 ?_
          refine PWk.goto 68 dX12_worth_49 (by decide) ?_
          exact PWk.iret dX12_worth_68 rfl (fun h => h)
  · refine PWk.aload_n 0 dX12_worth_17 rfl ?_
    refine PWk.iload_n 1 dX12_worth_18 rfl ?_
    refine PWk.iload_n 2 dX12_worth_19 rfl ?_
    refine PWk.callVi (pc_X12_fill I L R p1 p2) dX12_worth_20 ml_X12_440 rfl rg_100 lc_100 vq_12 (by decide) rfl (Nat.le_of_ble_eq_true rfl) (fun x12 => ?_)
    exact PWk.iret dX12_worth_23 rfl (fun h => h)
/-! LakeMarketModel.steps(II)I -/
def f_X12_steps (I : HI) (p1 : Int32) (p2 : Int32) : Option (Int32) :=
  ldI (I 104) 16 ((8 * (I 100 13)) + p1) fun v1 =>
  ldI (I 104) 16 ((8 * (I 100 13)) + p2) fun v2 =>
  if v2 ≤ v1 then
    ldI (I 104) 16 ((8 * (I 100 13)) + p1) fun v3 =>
    ldI (I 104) 16 ((8 * (I 100 13)) + p2) fun v4 =>
    some (v3 - v4)
  else
    ldI (I 104) 16 ((8 * (I 100 13)) + p2) fun v5 =>
    ldI (I 104) 16 ((8 * (I 100 13)) + p1) fun v6 =>
    some (v5 - v6)
set_option maxRecDepth 20000 in
theorem pc_X12_steps (I : HI) (L : HL) (R : HR) (p1 : Int32) (p2 : Int32) : PCo 100 147 0 yX12_steps cX12_steps 3 (some .int) [.ref 100, .int p1, .int p2] I L R (f_X12_steps I p1 p2) (fun x : Int32 => ((some (.int x), I, L, R) : HF)) := by
  refine PCo.of (own := RX12) (by decide +kernel) (Nat.le_of_ble_eq_true rfl) rfl rfl (fun F => ?_)
  unfold f_X12_steps
  refine PWk.aload_n 0 dX12_steps_0 rfl ?_
  refine PWk.gets dX12_steps_1 rg_100 lc_100 fl_X12_60 rfl st_100_16 ?_
  refine PWk.bipush (v := 8) dX12_steps_4 bp_8 ?_
  refine PWk.aload_n 0 dX12_steps_6 rfl ?_
  refine PWk.geti dX12_steps_7 rg_100 lc_100 fl_X12_51 rfl ?_
  refine PWk.imul dX12_steps_10 ?_
  refine PWk.iload_n 1 dX12_steps_11 rfl ?_
  refine PWk.iadd dX12_steps_12 ?_
  refine PWk.iald dX12_steps_13 rg_104 ly_104 (fun v1 => ?_)
  refine PWk.aload_n 0 dX12_steps_14 rfl ?_
  refine PWk.gets dX12_steps_15 rg_100 lc_100 fl_X12_60 rfl st_100_16 ?_
  refine PWk.bipush (v := 8) dX12_steps_18 bp_8 ?_
  refine PWk.aload_n 0 dX12_steps_20 rfl ?_
  refine PWk.geti dX12_steps_21 rg_100 lc_100 fl_X12_51 rfl ?_
  refine PWk.imul dX12_steps_24 ?_
  refine PWk.iload_n 2 dX12_steps_25 rfl ?_
  refine PWk.iadd dX12_steps_26 ?_
  refine PWk.iald dX12_steps_27 rg_104 ly_104 (fun v2 => ?_)
  refine PWk.icmp_ge 63 dX12_steps_28 (by decide) (fun h7 => ?_) (fun h7 => ?_)
  · refine PWk.aload_n 0 dX12_steps_63 rfl ?_
    refine PWk.gets dX12_steps_64 rg_100 lc_100 fl_X12_60 rfl st_100_16 ?_
    refine PWk.bipush (v := 8) dX12_steps_67 bp_8 ?_
    refine PWk.aload_n 0 dX12_steps_69 rfl ?_
    refine PWk.geti dX12_steps_70 rg_100 lc_100 fl_X12_51 rfl ?_
    refine PWk.imul dX12_steps_73 ?_
    refine PWk.iload_n 1 dX12_steps_74 rfl ?_
    refine PWk.iadd dX12_steps_75 ?_
    refine PWk.iald dX12_steps_76 rg_104 ly_104 (fun v3 => ?_)
    refine PWk.aload_n 0 dX12_steps_77 rfl ?_
    refine PWk.gets dX12_steps_78 rg_100 lc_100 fl_X12_60 rfl st_100_16 ?_
    refine PWk.bipush (v := 8) dX12_steps_81 bp_8 ?_
    refine PWk.aload_n 0 dX12_steps_83 rfl ?_
    refine PWk.geti dX12_steps_84 rg_100 lc_100 fl_X12_51 rfl ?_
    refine PWk.imul dX12_steps_87 ?_
    refine PWk.iload_n 2 dX12_steps_88 rfl ?_
    refine PWk.iadd dX12_steps_89 ?_
    refine PWk.iald dX12_steps_90 rg_104 ly_104 (fun v4 => ?_)
    refine PWk.isub dX12_steps_91 ?_
    exact PWk.iret dX12_steps_92 rfl (fun h => h)
  · refine PWk.aload_n 0 dX12_steps_31 rfl ?_
    refine PWk.gets dX12_steps_32 rg_100 lc_100 fl_X12_60 rfl st_100_16 ?_
    refine PWk.bipush (v := 8) dX12_steps_35 bp_8 ?_
    refine PWk.aload_n 0 dX12_steps_37 rfl ?_
    refine PWk.geti dX12_steps_38 rg_100 lc_100 fl_X12_51 rfl ?_
    refine PWk.imul dX12_steps_41 ?_
    refine PWk.iload_n 2 dX12_steps_42 rfl ?_
    refine PWk.iadd dX12_steps_43 ?_
    refine PWk.iald dX12_steps_44 rg_104 ly_104 (fun v5 => ?_)
    refine PWk.aload_n 0 dX12_steps_45 rfl ?_
    refine PWk.gets dX12_steps_46 rg_100 lc_100 fl_X12_60 rfl st_100_16 ?_
    refine PWk.bipush (v := 8) dX12_steps_49 bp_8 ?_
    refine PWk.aload_n 0 dX12_steps_51 rfl ?_
    refine PWk.geti dX12_steps_52 rg_100 lc_100 fl_X12_51 rfl ?_
    refine PWk.imul dX12_steps_55 ?_
    refine PWk.iload_n 1 dX12_steps_56 rfl ?_
    refine PWk.iadd dX12_steps_57 ?_
    refine PWk.iald dX12_steps_58 rg_104 ly_104 (fun v6 => ?_)
    refine PWk.isub dX12_steps_59 ?_
    refine PWk.goto 92 dX12_steps_60 (by decide) ?_
    exact PWk.iret dX12_steps_92 rfl (fun h => h)
/-! LakeMarketModel.canMove(III)Z -/
def f_X12_canMove (fu : Nat) (I : HI) (L : HL) (p1 : Int32) (p2 : Int32) (p3 : Int32) : Option (Int32 × HI × HL) :=
  (f_X12_fill I p1 p2).bind fun x1 =>
  if x1 = 0 then
    gz 0 (some (0, I, L))
  else
    (f_X12_liesIn I p1 p2).bind fun x2 =>
    if x2 = p3 then
      gz 0 (some (0, I, L))
    else
      (f_X12_fill I p1 p2).bind fun x3 =>
      ldI (I 112) 2 (I 100 13) fun v4 =>
      if v4 < x3 then
        gz 0 (some (0, I, L))
      else
        (f_X12_room fu I p1 p3).bind fun x5 =>
        (f_X12_fill I p1 p2).bind fun x6 =>
        if x6 ≤ x5 then
          (f_X12_isTold I 2).bind fun x7 =>
          if x7 = 0 then
            gz 1 (some (1, I, L))
          else
            (f_X12_asks fu I p1 p2 p3).bind fun x8 =>
            (f_X12_liesIn x8 p1 p2).bind fun x9 =>
            (f_X12_steps x8 x9 p3).bind fun x10 =>
            inb 10 5 <|
            bnd (sI x8 135 (5 : Int32).toNatClampNeg x10) fun I11 =>
            (f_X12_room fu I11 p1 p3).bind fun x12 =>
            inb 10 6 <|
            bnd (sI I11 135 (6 : Int32).toNatClampNeg x12) fun I13 =>
            (f_X12_reckons fu I13 L 2).bind fun x14 =>
            if (lg_cmp x14.1 1) = 0 then
              gz 1 (some (1, I13, x14.2))
            else
              gz 0 (some (0, I13, x14.2))
        else
          gz 0 (some (0, I, L))
set_option maxRecDepth 20000 in
theorem pc_X12_canMove (fu : Nat) (I : HI) (L : HL) (R : HR) (p1 : Int32) (p2 : Int32) (p3 : Int32) : PCo 100 147 3 yX12_canMove cX12_canMove 4 (some .boolean) [.ref 100, .int p1, .int p2, .int p3] I L R (f_X12_canMove fu I L p1 p2 p3) (fun x : Int32 × HI × HL => ((some (.int x.1), x.2.1, x.2.2, R) : HF)) := by
  refine PCo.of (own := RX12) (by decide +kernel) (Nat.le_of_ble_eq_true rfl) rfl rfl (fun F => ?_)
  unfold f_X12_canMove
  refine PWk.aload_n 0 dX12_canMove_0 rfl ?_
  refine PWk.iload_n 1 dX12_canMove_1 rfl ?_
  refine PWk.iload_n 2 dX12_canMove_2 rfl ?_
  refine PWk.callVi (pc_X12_fill I L R p1 p2) dX12_canMove_3 ml_X12_440 rfl rg_100 lc_100 vq_12 (by decide) rfl (Nat.le_of_ble_eq_true rfl) (fun x1 => ?_)
  refine PWk.if_eq 52 dX12_canMove_6 (by decide) (fun h20 => ?_) (fun h20 => ?_)
  · refine PWk.iconst (v := 0) dX12_canMove_52 ic_0 ?_
    exact PWk.zret dX12_canMove_53 rfl (fun h => h)
  · refine PWk.aload_n 0 dX12_canMove_9 rfl ?_
    refine PWk.iload_n 1 dX12_canMove_10 rfl ?_
    refine PWk.iload_n 2 dX12_canMove_11 rfl ?_
    refine PWk.callVi (pc_X12_liesIn I L R p1 p2) dX12_canMove_12 ml_X12_437 rfl rg_100 lc_100 vq_12 (by decide) rfl (Nat.le_of_ble_eq_true rfl) (fun x2 => ?_)
    refine PWk.iload_n 3 dX12_canMove_15 rfl ?_
    refine PWk.icmp_eq 52 dX12_canMove_16 (by decide) (fun h19 => ?_) (fun h19 => ?_)
    · refine PWk.iconst (v := 0) dX12_canMove_52 ic_0 ?_
      exact PWk.zret dX12_canMove_53 rfl (fun h => h)
    · refine PWk.aload_n 0 dX12_canMove_19 rfl ?_
      refine PWk.iload_n 1 dX12_canMove_20 rfl ?_
      refine PWk.iload_n 2 dX12_canMove_21 rfl ?_
      refine PWk.callVi (pc_X12_fill I L R p1 p2) dX12_canMove_22 ml_X12_440 rfl rg_100 lc_100 vq_12 (by decide) rfl (Nat.le_of_ble_eq_true rfl) (fun x3 => ?_)
      refine PWk.aload_n 0 dX12_canMove_25 rfl ?_
      refine PWk.gets dX12_canMove_26 rg_100 lc_100 fl_X12_84 rfl st_100_24 ?_
      refine PWk.aload_n 0 dX12_canMove_29 rfl ?_
      refine PWk.geti dX12_canMove_30 rg_100 lc_100 fl_X12_51 rfl ?_
      refine PWk.iald dX12_canMove_33 rg_112 ly_112 (fun v4 => ?_)
      refine PWk.icmp_gt 52 dX12_canMove_34 (by decide) (fun h18 => ?_) (fun h18 => ?_)
      · refine PWk.iconst (v := 0) dX12_canMove_52 ic_0 ?_
        exact PWk.zret dX12_canMove_53 rfl (fun h => h)
      · refine PWk.aload_n 0 dX12_canMove_37 rfl ?_
        refine PWk.iload_n 1 dX12_canMove_38 rfl ?_
        refine PWk.iload_n 3 dX12_canMove_39 rfl ?_
        refine PWk.callVi (pc_X12_room fu I L R p1 p3) dX12_canMove_40 ml_X12_460 rfl rg_100 lc_100 vq_12 (by decide) rfl (Nat.le_of_ble_eq_true rfl) (fun x5 => ?_)
        refine PWk.aload_n 0 dX12_canMove_43 rfl ?_
        refine PWk.iload_n 1 dX12_canMove_44 rfl ?_
        refine PWk.iload_n 2 dX12_canMove_45 rfl ?_
        refine PWk.callVi (pc_X12_fill I L R p1 p2) dX12_canMove_46 ml_X12_440 rfl rg_100 lc_100 vq_12 (by decide) rfl (Nat.le_of_ble_eq_true rfl) (fun x6 => ?_)
        refine PWk.icmp_ge 54 dX12_canMove_49 (by decide) (fun h17 => ?_) (fun h17 => ?_)
        · refine PWk.aload_n 0 dX12_canMove_54 rfl ?_
          refine PWk.iconst (v := 2) dX12_canMove_55 ic_2 ?_
          refine PWk.callVi (pc_X12_isTold I L R 2) dX12_canMove_56 ml_X12_447 rfl rg_100 lc_100 vq_12 (by decide) rfl (Nat.le_of_ble_eq_true rfl) (fun x7 => ?_)
          refine PWk.if_ne 64 dX12_canMove_59 (by decide) (fun h16 => ?_) (fun h16 => ?_)
          · refine PWk.iconst (v := 1) dX12_canMove_62 ic_1 ?_
            exact PWk.zret dX12_canMove_63 rfl (fun h => h)
          · refine PWk.aload_n 0 dX12_canMove_64 rfl ?_
            refine PWk.iload_n 1 dX12_canMove_65 rfl ?_
            refine PWk.iload_n 2 dX12_canMove_66 rfl ?_
            refine PWk.iload_n 3 dX12_canMove_67 rfl ?_
            refine PWk.callVvI (pc_X12_asks fu I L R p1 p2 p3) dX12_canMove_68 ml_X12_450 rfl rg_100 lc_100 vq_12 (by decide) rfl (Nat.le_of_ble_eq_true rfl) (fun x8 => ?_)
            refine PWk.aload_n 0 dX12_canMove_71 rfl ?_
            refine PWk.gets dX12_canMove_72 rg_100 lc_100 fl_X12_186 rfl st_100_57 ?_
            refine PWk.iconst (v := 5) dX12_canMove_75 ic_5 ?_
            refine PWk.aload_n 0 dX12_canMove_76 rfl ?_
            refine PWk.aload_n 0 dX12_canMove_77 rfl ?_
            refine PWk.iload_n 1 dX12_canMove_78 rfl ?_
            refine PWk.iload_n 2 dX12_canMove_79 rfl ?_
            refine PWk.callVi (pc_X12_liesIn x8 L R p1 p2) dX12_canMove_80 ml_X12_437 rfl rg_100 lc_100 vq_12 (by decide) rfl (Nat.le_of_ble_eq_true rfl) (fun x9 => ?_)
            refine PWk.iload_n 3 dX12_canMove_83 rfl ?_
            refine PWk.callVi (pc_X12_steps x8 L R x9 p3) dX12_canMove_84 ml_X12_463 rfl rg_100 lc_100 vq_12 (by decide) rfl (Nat.le_of_ble_eq_true rfl) (fun x10 => ?_)
            refine PWk.iast dX12_canMove_87 rg_135 ly_135 ?_
            refine PWk.bI (fun I11 => ?_)
            refine PWk.aload_n 0 dX12_canMove_88 rfl ?_
            refine PWk.gets dX12_canMove_89 rg_100 lc_100 fl_X12_186 rfl st_100_57 ?_
            refine PWk.bipush (v := 6) dX12_canMove_92 bp_6 ?_
            refine PWk.aload_n 0 dX12_canMove_94 rfl ?_
            refine PWk.iload_n 1 dX12_canMove_95 rfl ?_
            refine PWk.iload_n 3 dX12_canMove_96 rfl ?_
            refine PWk.callVi (pc_X12_room fu I11 L R p1 p3) dX12_canMove_97 ml_X12_460 rfl rg_100 lc_100 vq_12 (by decide) rfl (Nat.le_of_ble_eq_true rfl) (fun x12 => ?_)
            refine PWk.iast dX12_canMove_100 rg_135 ly_135 ?_
            refine PWk.bI (fun I13 => ?_)
            refine PWk.aload_n 0 dX12_canMove_101 rfl ?_
            refine PWk.iconst (v := 2) dX12_canMove_102 ic_2 ?_
            refine PWk.callVlL (pc_X12_reckons fu I13 L R 2) dX12_canMove_103 ml_X12_454 rfl rg_100 lc_100 vq_12 (by decide) rfl (Nat.le_of_ble_eq_true rfl) (fun x14 => ?_)
            refine PWk.lconst (v := 1) dX12_canMove_106 rfl ?_
            refine PWk.lcmp dX12_canMove_107 ?_
            refine PWk.if_ne 115 dX12_canMove_108 (by decide) (fun h15 => ?_) (fun h15 => ?_)
            · refine PWk.iconst (v := 1) dX12_canMove_111 ic_1 ?_
              refine PWk.goto 116 dX12_canMove_112 (by decide) ?_
              exact PWk.zret dX12_canMove_116 rfl (fun h => h)
            · refine PWk.iconst (v := 0) dX12_canMove_115 ic_0 ?_
              exact PWk.zret dX12_canMove_116 rfl (fun h => h)
        · refine PWk.iconst (v := 0) dX12_canMove_52 ic_0 ?_
          exact PWk.zret dX12_canMove_53 rfl (fun h => h)
/-! LakeMarketModel.sets(III)V -/
def f_X12_sets (I : HI) (p1 : Int32) (p2 : Int32) (p3 : Int32) : Option (HI) :=
  bnd (((8 * p1) + p2)) fun v1 =>
  inb 208 v1 <|
  bnd (sI I 128 (v1 : Int32).toNatClampNeg p3) fun I2 =>
  if p3 ≤ 0 then
    inb 208 v1 <|
    bnd (sI I2 129 (v1 : Int32).toNatClampNeg (-1)) fun I3 =>
    inb 208 v1 <|
    bnd (sI I3 130 (v1 : Int32).toNatClampNeg (-1)) fun I4 =>
    some I4
  else
    some I2
set_option maxRecDepth 20000 in
theorem pc_X12_sets (I : HI) (L : HL) (R : HR) (p1 : Int32) (p2 : Int32) (p3 : Int32) : PCo 100 147 0 yX12_sets cX12_sets 5 none [.ref 100, .int p1, .int p2, .int p3] I L R (f_X12_sets I p1 p2 p3) (fun x : HI => ((none, x, L, R) : HF)) := by
  refine PCo.of (own := RX12) (by decide +kernel) (Nat.le_of_ble_eq_true rfl) rfl rfl (fun F => ?_)
  unfold f_X12_sets
  refine PWk.bipush (v := 8) dX12_sets_0 bp_8 ?_
  refine PWk.iload_n 1 dX12_sets_2 rfl ?_
  refine PWk.imul dX12_sets_3 ?_
  refine PWk.iload_n 2 dX12_sets_4 rfl ?_
  refine PWk.iadd dX12_sets_5 ?_
  refine PWk.bi (fun v1 => ?_)
  refine PWk.istore [(4, .int v1), (0, .ref 100), (1, .int p1), (2, .int p2), (3, .int p3)] dX12_sets_6 (by decide) rfl ?_
  refine PWk.aload_n 1 dX12_sets_8 rfl ?_
  refine PWk.gets dX12_sets_9 rg_100 lc_100 fl_X12_156 rfl st_100_47 ?_
  refine PWk.iload 0 dX12_sets_12 rfl ?_
  refine PWk.iload_n 4 dX12_sets_14 rfl ?_
  refine PWk.iast dX12_sets_15 rg_128 ly_128 ?_
  refine PWk.bI (fun I2 => ?_)
  refine PWk.iload_n 4 dX12_sets_16 rfl ?_
  refine PWk.if_le 21 dX12_sets_17 (by decide) (fun h5 => ?_) (fun h5 => ?_)
  · refine PWk.aload_n 1 dX12_sets_21 rfl ?_
    refine PWk.gets dX12_sets_22 rg_100 lc_100 fl_X12_159 rfl st_100_48 ?_
    refine PWk.iload 0 dX12_sets_25 rfl ?_
    refine PWk.iconst (v := (-1)) dX12_sets_27 ic_m1 ?_
    refine PWk.iast dX12_sets_28 rg_129 ly_129 ?_
    refine PWk.bI (fun I3 => ?_)
    refine PWk.aload_n 1 dX12_sets_29 rfl ?_
    refine PWk.gets dX12_sets_30 rg_100 lc_100 fl_X12_162 rfl st_100_49 ?_
    refine PWk.iload 0 dX12_sets_33 rfl ?_
    refine PWk.iconst (v := (-1)) dX12_sets_35 ic_m1 ?_
    refine PWk.iast dX12_sets_36 rg_130 ly_130 ?_
    refine PWk.bI (fun I4 => ?_)
    exact PWk.vret dX12_sets_37 rfl (fun h => h)
  · exact PWk.vret dX12_sets_20 rfl (fun h => h)
/-! LakeMarketModel.passes(IZ)I -/
def f_X12_passes_L43 : Nat → HI → Int32 → Int32 → Int32 → Option (Int32 × HI)
  | 0, _, _, _, _ => none
  | n + 1, I, u1, u3, u4 =>
    ldI (I 106) 2 (I 100 13) fun v6 =>
    if v6 ≤ u4 then
      some (u3, I)
    else
      (f_X12_fill I u1 u4).bind fun x7 =>
      ldI (I 136) 8 u4 fun v8 =>
      (f_X12_sets I u1 u4 (x7 - v8)).bind fun x9 =>
      ldI (x9 136) 8 u4 fun v10 =>
      bnd ((u3 + v10)) fun v11 =>
      f_X12_passes_L43 n x9 u1 v11 (u4 + 1)
def f_X12_passes_L5 (fu : Nat) : Nat → HI → HL → Int32 → Int32 → Int32 → Option (HI × HL)
  | 0, _, _, _, _, _ => none
  | n + 1, I, L, u1, u2, u4 =>
    ldI (I 106) 2 (I 100 13) fun v1 =>
    if v1 ≤ u4 then
      some (I, L)
    else
      (f_X12_leaking fu I L u1 u4 u2).bind fun x2 =>
      inb 8 u4 <|
      bnd (sI x2.2.1 136 (u4 : Int32).toNatClampNeg x2.1) fun I3 =>
      f_X12_passes_L5 fu n I3 x2.2.2 u1 u2 (u4 + 1)
def f_X12_passes (fu : Nat) (I : HI) (L : HL) (p1 : Int32) (p2 : Int32) : Option (Int32 × HI × HL) :=
  (f_X12_passes_L5 fu fu I L p1 p2 0).bind fun x5 =>
  (f_X12_passes_L43 fu x5.1 p1 0 0).bind fun x13 =>
  ldI (x13.2 127) 26 p1 fun v14 =>
  inb 26 p1 <|
  bnd (sI x13.2 127 (p1 : Int32).toNatClampNeg (v14 + 1)) fun I15 =>
  some (x13.1, I15, x5.2)
set_option maxRecDepth 20000 in
theorem lp_X12_passes_43 (fu : Nat) (u1 : Int32) (L : HL) (R : HR) : ∀ (n : Nat) (u3 : Int32) (u4 : Int32) (I : HI) (N : (Int32 × HI) → Prop) (F : HF), (∀ v : Int32 × HI, N v → PW 100 147 4 RX12 cX12_passes 5 (some .int) 95 [(0, .ref 100), (1, .int u1), (3, .int v.1)] [] v.2 L R F) → PWk 100 147 4 RX12 cX12_passes 5 (some .int) 43 [(0, .ref 100), (1, .int u1), (3, .int u3), (4, .int u4)] [] I L R (f_X12_passes_L43 n I u1 u3 u4) N F := by
  intro n
  induction n with
  | zero => intro u3 u4 I N F hx; exact PWk.none'
  | succ n ih =>
    intro u3 u4 I N F hx
    unfold f_X12_passes_L43
    refine PWk.iload 3 dX12_passes_43 rfl ?_
    refine PWk.aload_n 0 dX12_passes_45 rfl ?_
    refine PWk.gets dX12_passes_46 rg_100 lc_100 fl_X12_66 rfl st_100_18 ?_
    refine PWk.aload_n 0 dX12_passes_49 rfl ?_
    refine PWk.geti dX12_passes_50 rg_100 lc_100 fl_X12_51 rfl ?_
    refine PWk.iald dX12_passes_53 rg_106 ly_106 (fun v6 => ?_)
    refine PWk.icmp_ge 95 dX12_passes_54 (by decide) (fun h12 => ?_) (fun h12 => ?_)
    · refine PWk.sub [0, 1, 2] rfl ?_
      exact PWk.done (fun h => hx _ h)
    · refine PWk.aload_n 0 dX12_passes_57 rfl ?_
      refine PWk.iload_n 1 dX12_passes_58 rfl ?_
      refine PWk.iload 3 dX12_passes_59 rfl ?_
      refine PWk.aload_n 0 dX12_passes_61 rfl ?_
      refine PWk.iload_n 1 dX12_passes_62 rfl ?_
      refine PWk.iload 3 dX12_passes_63 rfl ?_
      refine PWk.callVi (pc_X12_fill I L R u1 u4) dX12_passes_65 ml_X12_440 rfl rg_100 lc_100 vq_12 (by decide) rfl (Nat.le_of_ble_eq_true rfl) (fun x7 => ?_)
      refine PWk.aload_n 0 dX12_passes_68 rfl ?_
      refine PWk.gets dX12_passes_69 rg_100 lc_100 fl_X12_189 rfl st_100_58 ?_
      refine PWk.iload 3 dX12_passes_72 rfl ?_
      refine PWk.iald dX12_passes_74 rg_136 ly_136 (fun v8 => ?_)
      refine PWk.isub dX12_passes_75 ?_
      refine PWk.callVvI (pc_X12_sets I L R u1 u4 (x7 - v8)) dX12_passes_76 ml_X12_470 rfl rg_100 lc_100 vq_12 (by decide) rfl (Nat.le_of_ble_eq_true rfl) (fun x9 => ?_)
      refine PWk.iload_n 2 dX12_passes_79 rfl ?_
      refine PWk.aload_n 0 dX12_passes_80 rfl ?_
      refine PWk.gets dX12_passes_81 rg_100 lc_100 fl_X12_189 rfl st_100_58 ?_
      refine PWk.iload 3 dX12_passes_84 rfl ?_
      refine PWk.iald dX12_passes_86 rg_136 ly_136 (fun v10 => ?_)
      refine PWk.iadd dX12_passes_87 ?_
      refine PWk.bi (fun v11 => ?_)
      refine PWk.istore_n [(3, .int v11), (0, .ref 100), (1, .int u1), (4, .int u4)] dX12_passes_88 (by decide) rfl ?_
      refine PWk.iinc (v := (u4 + 1)) 3 [(4, .int (u4 + 1)), (3, .int v11), (0, .ref 100), (1, .int u1)] dX12_passes_89 rfl (by rw [ic_1]) (by decide) rfl ?_
      refine PWk.goto 43 dX12_passes_92 (by decide) ?_
      refine PWk.sub [2, 3, 1, 0] rfl ?_
      exact ih v11 (u4 + 1) x9 N F hx
set_option maxRecDepth 20000 in
theorem lp_X12_passes_5 (fu : Nat) (u1 : Int32) (u2 : Int32) (u3 : Int32) (R : HR) : ∀ (n : Nat) (u4 : Int32) (I : HI) (L : HL) (N : (HI × HL) → Prop) (F : HF), (∀ v : HI × HL, N v → PW 100 147 4 RX12 cX12_passes 5 (some .int) 40 [(0, .ref 100), (1, .int u1), (3, .int u3)] [] v.1 v.2 R F) → PWk 100 147 4 RX12 cX12_passes 5 (some .int) 5 [(0, .ref 100), (1, .int u1), (2, .int u2), (3, .int u3), (4, .int u4)] [] I L R (f_X12_passes_L5 fu n I L u1 u2 u4) N F := by
  intro n
  induction n with
  | zero => intro u4 I L N F hx; exact PWk.none'
  | succ n ih =>
    intro u4 I L N F hx
    unfold f_X12_passes_L5
    refine PWk.iload 4 dX12_passes_5 rfl ?_
    refine PWk.aload_n 0 dX12_passes_7 rfl ?_
    refine PWk.gets dX12_passes_8 rg_100 lc_100 fl_X12_66 rfl st_100_18 ?_
    refine PWk.aload_n 0 dX12_passes_11 rfl ?_
    refine PWk.geti dX12_passes_12 rg_100 lc_100 fl_X12_51 rfl ?_
    refine PWk.iald dX12_passes_15 rg_106 ly_106 (fun v1 => ?_)
    refine PWk.icmp_ge 40 dX12_passes_16 (by decide) (fun h4 => ?_) (fun h4 => ?_)
    · refine PWk.sub [0, 1, 3] rfl ?_
      exact PWk.done (fun h => hx _ h)
    · refine PWk.aload_n 0 dX12_passes_19 rfl ?_
      refine PWk.gets dX12_passes_20 rg_100 lc_100 fl_X12_189 rfl st_100_58 ?_
      refine PWk.iload 4 dX12_passes_23 rfl ?_
      refine PWk.aload_n 0 dX12_passes_25 rfl ?_
      refine PWk.iload_n 1 dX12_passes_26 rfl ?_
      refine PWk.iload 4 dX12_passes_27 rfl ?_
      refine PWk.iload_n 2 dX12_passes_29 rfl ?_
      refine PWk.callViIL (pc_X12_leaking fu I L R u1 u4 u2) dX12_passes_30 ml_X12_466 rfl rg_100 lc_100 vq_12 (by decide) rfl (Nat.le_of_ble_eq_true rfl) (fun x2 => ?_)
      refine PWk.iast dX12_passes_33 rg_136 ly_136 ?_
      refine PWk.bI (fun I3 => ?_)
      refine PWk.iinc (v := (u4 + 1)) 4 [(4, .int (u4 + 1)), (0, .ref 100), (1, .int u1), (2, .int u2), (3, .int u3)] dX12_passes_34 rfl (by rw [ic_1]) (by decide) rfl ?_
      refine PWk.goto 5 dX12_passes_37 (by decide) ?_
      refine PWk.sub [1, 2, 3, 4, 0] rfl ?_
      exact ih (u4 + 1) I3 x2.2.2 N F hx
set_option maxRecDepth 20000 in
theorem pc_X12_passes (fu : Nat) (I : HI) (L : HL) (R : HR) (p1 : Int32) (p2 : Int32) : PCo 100 147 4 yX12_passes cX12_passes 5 (some .int) [.ref 100, .int p1, .int p2] I L R (f_X12_passes fu I L p1 p2) (fun x : Int32 × HI × HL => ((some (.int x.1), x.2.1, x.2.2, R) : HF)) := by
  refine PCo.of (own := RX12) (by decide +kernel) (Nat.le_of_ble_eq_true rfl) rfl rfl (fun F => ?_)
  unfold f_X12_passes
  refine PWk.iconst (v := 0) dX12_passes_0 ic_0 ?_
  refine PWk.istore_n [(3, .int 0), (0, .ref 100), (1, .int p1), (2, .int p2)] dX12_passes_1 (by decide) rfl ?_
  refine PWk.iconst (v := 0) dX12_passes_2 ic_0 ?_
  refine PWk.istore [(4, .int 0), (3, .int 0), (0, .ref 100), (1, .int p1), (2, .int p2)] dX12_passes_3 (by decide) rfl ?_
  refine PWk.sub [2, 3, 4, 1, 0] rfl ?_
  refine PWk.loopV (fun N' hx' => lp_X12_passes_5 fu p1 p2 0 R fu 0 I L N' F hx') (fun x5 => ?_)
  refine PWk.iconst (v := 0) dX12_passes_40 ic_0 ?_
  refine PWk.istore [(4, .int 0), (0, .ref 100), (1, .int p1), (3, .int 0)] dX12_passes_41 (by decide) rfl ?_
  refine PWk.sub [1, 2, 3, 0] rfl ?_
  refine PWk.loopV (fun N' hx' => lp_X12_passes_43 fu p1 x5.2 R fu 0 0 x5.1 N' F hx') (fun x13 => ?_)
  refine PWk.aload_n 0 dX12_passes_95 rfl ?_
  refine PWk.gets dX12_passes_96 rg_100 lc_100 fl_X12_153 rfl st_100_46 ?_
  refine PWk.iload_n 1 dX12_passes_99 rfl ?_
  refine PWk.dup2 dX12_passes_100 rfl rfl ?_
  refine PWk.iald dX12_passes_101 rg_127 ly_127 (fun v14 => ?_)
  refine PWk.iconst (v := 1) dX12_passes_102 ic_1 ?_
  refine PWk.iadd dX12_passes_103 ?_
  refine PWk.iast dX12_passes_104 rg_127 ly_127 ?_
  refine PWk.bI (fun I15 => ?_)
  refine PWk.iload_n 2 dX12_passes_105 rfl ?_
  exact PWk.iret dX12_passes_106 rfl (fun h => h)
/-! LakeMarketModel.isHollow(I)Z -/
def f_X12_isHollow (I : HI) (p1 : Int32) : Option (Int32) :=
  if p1 < 0 then
    gz 0 (some 0)
  else
    ldI (I 102) 2 (I 100 13) fun v1 =>
    if v1 ≤ p1 then
      gz 0 (some 0)
    else
      gz 1 (some 1)
set_option maxRecDepth 20000 in
theorem pc_X12_isHollow (I : HI) (L : HL) (R : HR) (p1 : Int32) : PCo 100 147 0 yX12_isHollow cX12_isHollow 2 (some .boolean) [.ref 100, .int p1] I L R (f_X12_isHollow I p1) (fun x : Int32 => ((some (.int x), I, L, R) : HF)) := by
  refine PCo.of (own := RX12) (by decide +kernel) (Nat.le_of_ble_eq_true rfl) rfl rfl (fun F => ?_)
  unfold f_X12_isHollow
  refine PWk.iload_n 1 dX12_isHollow_0 rfl ?_
  refine PWk.if_lt 21 dX12_isHollow_1 (by decide) (fun h3 => ?_) (fun h3 => ?_)
  · refine PWk.iconst (v := 0) dX12_isHollow_21 ic_0 ?_
    exact PWk.zret dX12_isHollow_22 rfl (fun h => h)
  · refine PWk.iload_n 1 dX12_isHollow_4 rfl ?_
    refine PWk.aload_n 0 dX12_isHollow_5 rfl ?_
    refine PWk.gets dX12_isHollow_6 rg_100 lc_100 fl_X12_54 rfl st_100_14 ?_
    refine PWk.aload_n 0 dX12_isHollow_9 rfl ?_
    refine PWk.geti dX12_isHollow_10 rg_100 lc_100 fl_X12_51 rfl ?_
    refine PWk.iald dX12_isHollow_13 rg_102 ly_102 (fun v1 => ?_)
    refine PWk.icmp_ge 21 dX12_isHollow_14 (by decide) (fun h2 => ?_) (fun h2 => ?_)
    · refine PWk.iconst (v := 0) dX12_isHollow_21 ic_0 ?_
      exact PWk.zret dX12_isHollow_22 rfl (fun h => h)
    · refine PWk.iconst (v := 1) dX12_isHollow_17 ic_1 ?_
      refine PWk.goto 22 dX12_isHollow_18 (by decide) ?_
      exact PWk.zret dX12_isHollow_22 rfl (fun h => h)
/-! LakeMarketModel.isOwner(I)Z -/
def f_X12_isOwner (I : HI) (p1 : Int32) : Option (Int32) :=
  if p1 < 0 then
    gz 0 (some 0)
  else
    ldI (I 105) 2 (I 100 13) fun v1 =>
    if v1 ≤ p1 then
      gz 0 (some 0)
    else
      gz 1 (some 1)
set_option maxRecDepth 20000 in
theorem pc_X12_isOwner (I : HI) (L : HL) (R : HR) (p1 : Int32) : PCo 100 147 0 yX12_isOwner cX12_isOwner 2 (some .boolean) [.ref 100, .int p1] I L R (f_X12_isOwner I p1) (fun x : Int32 => ((some (.int x), I, L, R) : HF)) := by
  refine PCo.of (own := RX12) (by decide +kernel) (Nat.le_of_ble_eq_true rfl) rfl rfl (fun F => ?_)
  unfold f_X12_isOwner
  refine PWk.iload_n 1 dX12_isOwner_0 rfl ?_
  refine PWk.if_lt 21 dX12_isOwner_1 (by decide) (fun h3 => ?_) (fun h3 => ?_)
  · refine PWk.iconst (v := 0) dX12_isOwner_21 ic_0 ?_
    exact PWk.zret dX12_isOwner_22 rfl (fun h => h)
  · refine PWk.iload_n 1 dX12_isOwner_4 rfl ?_
    refine PWk.aload_n 0 dX12_isOwner_5 rfl ?_
    refine PWk.gets dX12_isOwner_6 rg_100 lc_100 fl_X12_63 rfl st_100_17 ?_
    refine PWk.aload_n 0 dX12_isOwner_9 rfl ?_
    refine PWk.geti dX12_isOwner_10 rg_100 lc_100 fl_X12_51 rfl ?_
    refine PWk.iald dX12_isOwner_13 rg_105 ly_105 (fun v1 => ?_)
    refine PWk.icmp_ge 21 dX12_isOwner_14 (by decide) (fun h2 => ?_) (fun h2 => ?_)
    · refine PWk.iconst (v := 0) dX12_isOwner_21 ic_0 ?_
      exact PWk.zret dX12_isOwner_22 rfl (fun h => h)
    · refine PWk.iconst (v := 1) dX12_isOwner_17 ic_1 ?_
      refine PWk.goto 22 dX12_isOwner_18 (by decide) ?_
      exact PWk.zret dX12_isOwner_22 rfl (fun h => h)
/-! LakeMarketModel.isLake(I)Z -/
def f_X12_isLake (I : HI) (p1 : Int32) : Option (Int32) :=
  if p1 < 0 then
    gz 0 (some 0)
  else
    ldI (I 106) 2 (I 100 13) fun v1 =>
    if v1 ≤ p1 then
      gz 0 (some 0)
    else
      gz 1 (some 1)
set_option maxRecDepth 20000 in
theorem pc_X12_isLake (I : HI) (L : HL) (R : HR) (p1 : Int32) : PCo 100 147 0 yX12_isLake cX12_isLake 2 (some .boolean) [.ref 100, .int p1] I L R (f_X12_isLake I p1) (fun x : Int32 => ((some (.int x), I, L, R) : HF)) := by
  refine PCo.of (own := RX12) (by decide +kernel) (Nat.le_of_ble_eq_true rfl) rfl rfl (fun F => ?_)
  unfold f_X12_isLake
  refine PWk.iload_n 1 dX12_isLake_0 rfl ?_
  refine PWk.if_lt 21 dX12_isLake_1 (by decide) (fun h3 => ?_) (fun h3 => ?_)
  · refine PWk.iconst (v := 0) dX12_isLake_21 ic_0 ?_
    exact PWk.zret dX12_isLake_22 rfl (fun h => h)
  · refine PWk.iload_n 1 dX12_isLake_4 rfl ?_
    refine PWk.aload_n 0 dX12_isLake_5 rfl ?_
    refine PWk.gets dX12_isLake_6 rg_100 lc_100 fl_X12_66 rfl st_100_18 ?_
    refine PWk.aload_n 0 dX12_isLake_9 rfl ?_
    refine PWk.geti dX12_isLake_10 rg_100 lc_100 fl_X12_51 rfl ?_
    refine PWk.iald dX12_isLake_13 rg_106 ly_106 (fun v1 => ?_)
    refine PWk.icmp_ge 21 dX12_isLake_14 (by decide) (fun h2 => ?_) (fun h2 => ?_)
    · refine PWk.iconst (v := 0) dX12_isLake_21 ic_0 ?_
      exact PWk.zret dX12_isLake_22 rfl (fun h => h)
    · refine PWk.iconst (v := 1) dX12_isLake_17 ic_1 ?_
      refine PWk.goto 22 dX12_isLake_18 (by decide) ?_
      exact PWk.zret dX12_isLake_22 rfl (fun h => h)
/-! LakeMarketModel.lakesOf(II)I -/
def f_X12_lakesOf_L5 : Nat → HI → Int32 → Int32 → Int32 → Int32 → Option (Int32)
  | 0, _, _, _, _, _ => none
  | n + 1, I, u1, u2, u3, u4 =>
    ldI (I 106) 2 (I 100 13) fun v1 =>
    if v1 ≤ u4 then
      some u3
    else
      (f_X12_ownerOf I u1 u4).bind fun x2 =>
      jnt (β := Int32) (fun y5 =>
        bnd ((u3 ||| y5)) fun v6 =>
        f_X12_lakesOf_L5 n I u1 u2 v6 (u4 + 1)) fun j3 =>
      if x2 = u2 then
        j3 ((1 : Int32) <<< (u4 &&& 31))
      else
        j3 0
def f_X12_lakesOf (fu : Nat) (I : HI) (p1 : Int32) (p2 : Int32) : Option (Int32) :=
  (f_X12_lakesOf_L5 fu I p1 p2 0 0).bind fun x8 =>
  some x8
set_option maxRecDepth 20000 in
theorem lp_X12_lakesOf_5 (fu : Nat) (u1 : Int32) (u2 : Int32) (I : HI) (L : HL) (R : HR) : ∀ (n : Nat) (u3 : Int32) (u4 : Int32) (N : (Int32) → Prop) (F : HF), (∀ v : Int32, N v → PW 100 147 1 RX12 cX12_lakesOf 5 (some .int) 47 [(3, .int v)] [] I L R F) → PWk 100 147 1 RX12 cX12_lakesOf 5 (some .int) 5 [(0, .ref 100), (1, .int u1), (2, .int u2), (3, .int u3), (4, .int u4)] [] I L R (f_X12_lakesOf_L5 n I u1 u2 u3 u4) N F := by
  intro n
  induction n with
  | zero => intro u3 u4 N F hx; exact PWk.none'
  | succ n ih =>
    intro u3 u4 N F hx
    unfold f_X12_lakesOf_L5
    refine PWk.iload 4 dX12_lakesOf_5 rfl ?_
    refine PWk.aload_n 0 dX12_lakesOf_7 rfl ?_
    refine PWk.gets dX12_lakesOf_8 rg_100 lc_100 fl_X12_66 rfl st_100_18 ?_
    refine PWk.aload_n 0 dX12_lakesOf_11 rfl ?_
    refine PWk.geti dX12_lakesOf_12 rg_100 lc_100 fl_X12_51 rfl ?_
    refine PWk.iald dX12_lakesOf_15 rg_106 ly_106 (fun v1 => ?_)
    refine PWk.icmp_ge 47 dX12_lakesOf_16 (by decide) (fun h7 => ?_) (fun h7 => ?_)
    · refine PWk.sub [3] rfl ?_
      exact PWk.done (fun h => hx _ h)
    · refine PWk.iload_n 3 dX12_lakesOf_19 rfl ?_
      refine PWk.aload_n 0 dX12_lakesOf_20 rfl ?_
      refine PWk.iload_n 1 dX12_lakesOf_21 rfl ?_
      refine PWk.iload 4 dX12_lakesOf_22 rfl ?_
      refine PWk.callVi (pc_X12_ownerOf I L R u1 u4) dX12_lakesOf_24 ml_X12_473 rfl rg_100 lc_100 vq_12 (by decide) rfl (Nat.le_of_ble_eq_true rfl) (fun x2 => ?_)
      refine PWk.iload_n 2 dX12_lakesOf_27 rfl ?_
      refine PWk.jn (pc' := 39) (lv' := fun y5 => [(0, .ref 100), (1, .int u1), (2, .int u2), (4, .int u4)]) (st' := fun y5 => [.int y5, .int u3]) (I' := fun y5 => I) (L' := fun y5 => L) (R' := fun y5 => R) (fun j3 hj3 => ?_) (fun y5 => ?_)
      · refine PWk.icmp_ne 38 dX12_lakesOf_28 (by decide) (fun h4 => ?_) (fun h4 => ?_)
        · refine PWk.iconst (v := 1) dX12_lakesOf_31 ic_1 ?_
          refine PWk.iload 4 dX12_lakesOf_32 rfl ?_
          refine PWk.ishl dX12_lakesOf_34 ?_
          refine PWk.goto 39 dX12_lakesOf_35 (by decide) ?_
          refine PWk.sub [0, 1, 2, 4] rfl ?_
          exact hj3 ((1 : Int32) <<< (u4 &&& 31))
        · refine PWk.iconst (v := 0) dX12_lakesOf_38 ic_0 ?_
          refine PWk.sub [0, 1, 2, 4] rfl ?_
          exact hj3 0
      · refine PWk.ior dX12_lakesOf_39 ?_
        refine PWk.bi (fun v6 => ?_)
        refine PWk.istore_n [(3, .int v6), (0, .ref 100), (1, .int u1), (2, .int u2), (4, .int u4)] dX12_lakesOf_40 (by decide) rfl ?_
        refine PWk.iinc (v := (u4 + 1)) 4 [(4, .int (u4 + 1)), (3, .int v6), (0, .ref 100), (1, .int u1), (2, .int u2)] dX12_lakesOf_41 rfl (by rw [ic_1]) (by decide) rfl ?_
        refine PWk.goto 5 dX12_lakesOf_44 (by decide) ?_
        refine PWk.sub [2, 3, 4, 1, 0] rfl ?_
        exact ih v6 (u4 + 1) N F hx
set_option maxRecDepth 20000 in
theorem pc_X12_lakesOf (fu : Nat) (I : HI) (L : HL) (R : HR) (p1 : Int32) (p2 : Int32) : PCo 100 147 1 yX12_lakesOf cX12_lakesOf 5 (some .int) [.ref 100, .int p1, .int p2] I L R (f_X12_lakesOf fu I p1 p2) (fun x : Int32 => ((some (.int x), I, L, R) : HF)) := by
  refine PCo.of (own := RX12) (by decide +kernel) (Nat.le_of_ble_eq_true rfl) rfl rfl (fun F => ?_)
  unfold f_X12_lakesOf
  refine PWk.iconst (v := 0) dX12_lakesOf_0 ic_0 ?_
  refine PWk.istore_n [(3, .int 0), (0, .ref 100), (1, .int p1), (2, .int p2)] dX12_lakesOf_1 (by decide) rfl ?_
  refine PWk.iconst (v := 0) dX12_lakesOf_2 ic_0 ?_
  refine PWk.istore [(4, .int 0), (3, .int 0), (0, .ref 100), (1, .int p1), (2, .int p2)] dX12_lakesOf_3 (by decide) rfl ?_
  refine PWk.sub [2, 3, 4, 1, 0] rfl ?_
  refine PWk.loopV (fun N' hx' => lp_X12_lakesOf_5 fu p1 p2 I L R fu 0 0 N' F hx') (fun x8 => ?_)
  refine PWk.iload_n 0 dX12_lakesOf_47 rfl ?_
  exact PWk.iret dX12_lakesOf_48 rfl (fun h => h)
/-! LakeMarketModel.worthOf(II)I -/
def f_X12_worthOf_L5 (fu : Nat) : Nat → HI → HL → Int32 → Int32 → Int32 → Int32 → Option (Int32 × HI × HL)
  | 0, _, _, _, _, _, _ => none
  | n + 1, I, L, u1, u2, u3, u4 =>
    ldI (I 106) 2 (I 100 13) fun v1 =>
    if v1 ≤ u4 then
      some (u3, I, L)
    else
      (f_X12_has2 u2 u4).bind fun x2 =>
      jnt (β := Int32 × HI × HL) (fun y6 =>
        bnd ((u3 + y6.1)) fun v7 =>
        f_X12_worthOf_L5 fu n y6.2.1 y6.2.2 u1 u2 v7 (u4 + 1)) fun j3 =>
      if x2 = 0 then
        j3 (0, I, L)
      else
        (f_X12_worth fu I L u1 u4).bind fun x4 =>
        j3 (x4.1, x4.2.1, x4.2.2)
def f_X12_worthOf (fu : Nat) (I : HI) (L : HL) (p1 : Int32) (p2 : Int32) : Option (Int32 × HI × HL) :=
  (f_X12_worthOf_L5 fu fu I L p1 p2 0 0).bind fun x9 =>
  some (x9.1, x9.2.1, x9.2.2)
set_option maxRecDepth 20000 in
theorem lp_X12_worthOf_5 (fu : Nat) (u1 : Int32) (u2 : Int32) (R : HR) : ∀ (n : Nat) (u3 : Int32) (u4 : Int32) (I : HI) (L : HL) (N : (Int32 × HI × HL) → Prop) (F : HF), (∀ v : Int32 × HI × HL, N v → PW 100 147 4 RX12 cX12_worthOf 5 (some .int) 48 [(3, .int v.1)] [] v.2.1 v.2.2 R F) → PWk 100 147 4 RX12 cX12_worthOf 5 (some .int) 5 [(0, .ref 100), (1, .int u1), (2, .int u2), (3, .int u3), (4, .int u4)] [] I L R (f_X12_worthOf_L5 fu n I L u1 u2 u3 u4) N F := by
  intro n
  induction n with
  | zero => intro u3 u4 I L N F hx; exact PWk.none'
  | succ n ih =>
    intro u3 u4 I L N F hx
    unfold f_X12_worthOf_L5
    refine PWk.iload 4 dX12_worthOf_5 rfl ?_
    refine PWk.aload_n 0 dX12_worthOf_7 rfl ?_
    refine PWk.gets dX12_worthOf_8 rg_100 lc_100 fl_X12_66 rfl st_100_18 ?_
    refine PWk.aload_n 0 dX12_worthOf_11 rfl ?_
    refine PWk.geti dX12_worthOf_12 rg_100 lc_100 fl_X12_51 rfl ?_
    refine PWk.iald dX12_worthOf_15 rg_106 ly_106 (fun v1 => ?_)
    refine PWk.icmp_ge 48 dX12_worthOf_16 (by decide) (fun h8 => ?_) (fun h8 => ?_)
    · refine PWk.sub [3] rfl ?_
      exact PWk.done (fun h => hx _ h)
    · refine PWk.iload_n 3 dX12_worthOf_19 rfl ?_
      refine PWk.iload_n 2 dX12_worthOf_20 rfl ?_
      refine PWk.iload 4 dX12_worthOf_21 rfl ?_
      refine PWk.callSi (pc_X12_has2 I L R u2 u4) dX12_worthOf_23 ml_X12_357 rfl (by decide) rfl (Nat.le_of_ble_eq_true rfl) (fun x2 => ?_)
      refine PWk.jn (pc' := 40) (lv' := fun y6 => [(0, .ref 100), (1, .int u1), (2, .int u2), (4, .int u4)]) (st' := fun y6 => [.int y6.1, .int u3]) (I' := fun y6 => y6.2.1) (L' := fun y6 => y6.2.2) (R' := fun y6 => R) (fun j3 hj3 => ?_) (fun y6 => ?_)
      · refine PWk.if_eq 39 dX12_worthOf_26 (by decide) (fun h5 => ?_) (fun h5 => ?_)
        · refine PWk.iconst (v := 0) dX12_worthOf_39 ic_0 ?_
          refine PWk.sub [0, 1, 2, 4] rfl ?_
          exact hj3 (0, I, L)
        · refine PWk.aload_n 0 dX12_worthOf_29 rfl ?_
          refine PWk.iload_n 1 dX12_worthOf_30 rfl ?_
          refine PWk.iload 4 dX12_worthOf_31 rfl ?_
          refine PWk.callViIL (pc_X12_worth fu I L R u1 u4) dX12_worthOf_33 ml_X12_476 rfl rg_100 lc_100 vq_12 (by decide) rfl (Nat.le_of_ble_eq_true rfl) (fun x4 => ?_)
          refine PWk.goto 40 dX12_worthOf_36 (by decide) ?_
          refine PWk.sub [0, 1, 2, 4] rfl ?_
          exact hj3 (x4.1, x4.2.1, x4.2.2)
      · refine PWk.iadd dX12_worthOf_40 ?_
        refine PWk.bi (fun v7 => ?_)
        refine PWk.istore_n [(3, .int v7), (0, .ref 100), (1, .int u1), (2, .int u2), (4, .int u4)] dX12_worthOf_41 (by decide) rfl ?_
        refine PWk.iinc (v := (u4 + 1)) 4 [(4, .int (u4 + 1)), (3, .int v7), (0, .ref 100), (1, .int u1), (2, .int u2)] dX12_worthOf_42 rfl (by rw [ic_1]) (by decide) rfl ?_
        refine PWk.goto 5 dX12_worthOf_45 (by decide) ?_
        refine PWk.sub [2, 3, 4, 1, 0] rfl ?_
        exact ih v7 (u4 + 1) y6.2.1 y6.2.2 N F hx
set_option maxRecDepth 20000 in
theorem pc_X12_worthOf (fu : Nat) (I : HI) (L : HL) (R : HR) (p1 : Int32) (p2 : Int32) : PCo 100 147 4 yX12_worthOf cX12_worthOf 5 (some .int) [.ref 100, .int p1, .int p2] I L R (f_X12_worthOf fu I L p1 p2) (fun x : Int32 × HI × HL => ((some (.int x.1), x.2.1, x.2.2, R) : HF)) := by
  refine PCo.of (own := RX12) (by decide +kernel) (Nat.le_of_ble_eq_true rfl) rfl rfl (fun F => ?_)
  unfold f_X12_worthOf
  refine PWk.iconst (v := 0) dX12_worthOf_0 ic_0 ?_
  refine PWk.istore_n [(3, .int 0), (0, .ref 100), (1, .int p1), (2, .int p2)] dX12_worthOf_1 (by decide) rfl ?_
  refine PWk.iconst (v := 0) dX12_worthOf_2 ic_0 ?_
  refine PWk.istore [(4, .int 0), (3, .int 0), (0, .ref 100), (1, .int p1), (2, .int p2)] dX12_worthOf_3 (by decide) rfl ?_
  refine PWk.sub [2, 3, 4, 1, 0] rfl ?_
  refine PWk.loopV (fun N' hx' => lp_X12_worthOf_5 fu p1 p2 R fu 0 0 I L N' F hx') (fun x9 => ?_)
  refine PWk.iload_n 0 dX12_worthOf_48 rfl ?_
  exact PWk.iret dX12_worthOf_49 rfl (fun h => h)
/-! LakeMarketModel.allLakes()I -/
def f_X12_allLakes (I : HI) : Option (Int32) :=
  ldI (I 106) 2 (I 100 13) fun v1 =>
  some (((1 : Int32) <<< (v1 &&& 31)) - 1)
set_option maxRecDepth 20000 in
theorem pc_X12_allLakes (I : HI) (L : HL) (R : HR) : PCo 100 147 0 yX12_allLakes cX12_allLakes 1 (some .int) [.ref 100] I L R (f_X12_allLakes I) (fun x : Int32 => ((some (.int x), I, L, R) : HF)) := by
  refine PCo.of (own := RX12) (by decide +kernel) (Nat.le_of_ble_eq_true rfl) rfl rfl (fun F => ?_)
  unfold f_X12_allLakes
  refine PWk.iconst (v := 1) dX12_allLakes_0 ic_1 ?_
  refine PWk.aload_n 0 dX12_allLakes_1 rfl ?_
  refine PWk.gets dX12_allLakes_2 rg_100 lc_100 fl_X12_66 rfl st_100_18 ?_
  refine PWk.aload_n 0 dX12_allLakes_5 rfl ?_
  refine PWk.geti dX12_allLakes_6 rg_100 lc_100 fl_X12_51 rfl ?_
  refine PWk.iald dX12_allLakes_9 rg_106 ly_106 (fun v1 => ?_)
  refine PWk.ishl dX12_allLakes_10 ?_
  refine PWk.iconst (v := 1) dX12_allLakes_11 ic_1 ?_
  refine PWk.isub dX12_allLakes_12 ?_
  exact PWk.iret dX12_allLakes_13 rfl (fun h => h)
/-! LakeMarketModel.debt(II)I -/
def f_X12_debt (I : HI) (p1 : Int32) (p2 : Int32) : Option (Int32) :=
  ldI (I 131) 936 ((6 * p1) + p2) fun v1 =>
  some v1
set_option maxRecDepth 20000 in
theorem pc_X12_debt (I : HI) (L : HL) (R : HR) (p1 : Int32) (p2 : Int32) : PCo 100 147 0 yX12_debt cX12_debt 3 (some .int) [.ref 100, .int p1, .int p2] I L R (f_X12_debt I p1 p2) (fun x : Int32 => ((some (.int x), I, L, R) : HF)) := by
  refine PCo.of (own := RX12) (by decide +kernel) (Nat.le_of_ble_eq_true rfl) rfl rfl (fun F => ?_)
  unfold f_X12_debt
  refine PWk.aload_n 0 dX12_debt_0 rfl ?_
  refine PWk.gets dX12_debt_1 rg_100 lc_100 fl_X12_165 rfl st_100_50 ?_
  refine PWk.bipush (v := 6) dX12_debt_4 bp_6 ?_
  refine PWk.iload_n 1 dX12_debt_6 rfl ?_
  refine PWk.imul dX12_debt_7 ?_
  refine PWk.iload_n 2 dX12_debt_8 rfl ?_
  refine PWk.iadd dX12_debt_9 ?_
  refine PWk.iald dX12_debt_10 rg_131 ly_131 (fun v1 => ?_)
  exact PWk.iret dX12_debt_11 rfl (fun h => h)
/-! LakeMarketModel.owed(IZ)I -/
def f_X12_owed_L5 : Nat → HI → Int32 → Int32 → Int32 → Int32 → Option (Int32)
  | 0, _, _, _, _, _ => none
  | n + 1, I, u1, u2, u3, u4 =>
    ldI (I 105) 2 (I 100 13) fun v1 =>
    if v1 ≤ u4 then
      some u3
    else
      jnt (β := Int32) (fun y6 =>
        bnd ((u3 + y6)) fun v7 =>
        f_X12_owed_L5 n I u1 u2 v7 (u4 + 1)) fun j2 =>
      if u2 = 0 then
        (f_X12_debt I u4 u1).bind fun x3 =>
        j2 x3
      else
        (f_X12_debt I u1 u4).bind fun x4 =>
        j2 x4
def f_X12_owed (fu : Nat) (I : HI) (p1 : Int32) (p2 : Int32) : Option (Int32) :=
  (f_X12_owed_L5 fu I p1 p2 0 0).bind fun x9 =>
  some x9
set_option maxRecDepth 20000 in
theorem lp_X12_owed_5 (fu : Nat) (u1 : Int32) (u2 : Int32) (I : HI) (L : HL) (R : HR) : ∀ (n : Nat) (u3 : Int32) (u4 : Int32) (N : (Int32) → Prop) (F : HF), (∀ v : Int32, N v → PW 100 147 1 RX12 cX12_owed 5 (some .int) 49 [(3, .int v)] [] I L R F) → PWk 100 147 1 RX12 cX12_owed 5 (some .int) 5 [(0, .ref 100), (1, .int u1), (2, .int u2), (3, .int u3), (4, .int u4)] [] I L R (f_X12_owed_L5 n I u1 u2 u3 u4) N F := by
  intro n
  induction n with
  | zero => intro u3 u4 N F hx; exact PWk.none'
  | succ n ih =>
    intro u3 u4 N F hx
    unfold f_X12_owed_L5
    refine PWk.iload 4 dX12_owed_5 rfl ?_
    refine PWk.aload_n 0 dX12_owed_7 rfl ?_
    refine PWk.gets dX12_owed_8 rg_100 lc_100 fl_X12_63 rfl st_100_17 ?_
    refine PWk.aload_n 0 dX12_owed_11 rfl ?_
    refine PWk.geti dX12_owed_12 rg_100 lc_100 fl_X12_51 rfl ?_
    refine PWk.iald dX12_owed_15 rg_105 ly_105 (fun v1 => ?_)
    refine PWk.icmp_ge 49 dX12_owed_16 (by decide) (fun h8 => ?_) (fun h8 => ?_)
    · refine PWk.sub [3] rfl ?_
      exact PWk.done (fun h => hx _ h)
    · refine PWk.iload_n 3 dX12_owed_19 rfl ?_
      refine PWk.iload_n 2 dX12_owed_20 rfl ?_
      refine PWk.jn (pc' := 41) (lv' := fun y6 => [(0, .ref 100), (1, .int u1), (2, .int u2), (4, .int u4)]) (st' := fun y6 => [.int y6, .int u3]) (I' := fun y6 => I) (L' := fun y6 => L) (R' := fun y6 => R) (fun j2 hj2 => ?_) (fun y6 => ?_)
      · refine PWk.if_eq 34 dX12_owed_21 (by decide) (fun h5 => ?_) (fun h5 => ?_)
        · refine PWk.aload_n 0 dX12_owed_34 rfl ?_
          refine PWk.iload 4 dX12_owed_35 rfl ?_
          refine PWk.iload_n 1 dX12_owed_37 rfl ?_
          refine PWk.callVi (pc_X12_debt I L R u4 u1) dX12_owed_38 ml_X12_479 rfl rg_100 lc_100 vq_12 (by decide) rfl (Nat.le_of_ble_eq_true rfl) (fun x3 => ?_)
          refine PWk.sub [0, 1, 2, 4] rfl ?_
          exact hj2 x3
        · refine PWk.aload_n 0 dX12_owed_24 rfl ?_
          refine PWk.iload_n 1 dX12_owed_25 rfl ?_
          refine PWk.iload 4 dX12_owed_26 rfl ?_
          refine PWk.callVi (pc_X12_debt I L R u1 u4) dX12_owed_28 ml_X12_479 rfl rg_100 lc_100 vq_12 (by decide) rfl (Nat.le_of_ble_eq_true rfl) (fun x4 => ?_)
          refine PWk.goto 41 dX12_owed_31 (by decide) ?_
          refine PWk.sub [0, 1, 2, 4] rfl ?_
          exact hj2 x4
      · refine PWk.iadd dX12_owed_41 ?_
        refine PWk.bi (fun v7 => ?_)
        refine PWk.istore_n [(3, .int v7), (0, .ref 100), (1, .int u1), (2, .int u2), (4, .int u4)] dX12_owed_42 (by decide) rfl ?_
        refine PWk.iinc (v := (u4 + 1)) 4 [(4, .int (u4 + 1)), (3, .int v7), (0, .ref 100), (1, .int u1), (2, .int u2)] dX12_owed_43 rfl (by rw [ic_1]) (by decide) rfl ?_
        refine PWk.goto 5 dX12_owed_46 (by decide) ?_
        refine PWk.sub [2, 3, 4, 1, 0] rfl ?_
        exact ih v7 (u4 + 1) N F hx
set_option maxRecDepth 20000 in
theorem pc_X12_owed (fu : Nat) (I : HI) (L : HL) (R : HR) (p1 : Int32) (p2 : Int32) : PCo 100 147 1 yX12_owed cX12_owed 5 (some .int) [.ref 100, .int p1, .int p2] I L R (f_X12_owed fu I p1 p2) (fun x : Int32 => ((some (.int x), I, L, R) : HF)) := by
  refine PCo.of (own := RX12) (by decide +kernel) (Nat.le_of_ble_eq_true rfl) rfl rfl (fun F => ?_)
  unfold f_X12_owed
  refine PWk.iconst (v := 0) dX12_owed_0 ic_0 ?_
  refine PWk.istore_n [(3, .int 0), (0, .ref 100), (1, .int p1), (2, .int p2)] dX12_owed_1 (by decide) rfl ?_
  refine PWk.iconst (v := 0) dX12_owed_2 ic_0 ?_
  refine PWk.istore [(4, .int 0), (3, .int 0), (0, .ref 100), (1, .int p1), (2, .int p2)] dX12_owed_3 (by decide) rfl ?_
  refine PWk.sub [2, 3, 4, 1, 0] rfl ?_
  refine PWk.loopV (fun N' hx' => lp_X12_owed_5 fu p1 p2 I L R fu 0 0 N' F hx') (fun x9 => ?_)
  refine PWk.iload_n 0 dX12_owed_49 rfl ?_
  exact PWk.iret dX12_owed_50 rfl (fun h => h)
/-! LakeMarketModel.isBroke(II)Z -/
def f_X12_isBroke (fu : Nat) (I : HI) (L : HL) (p1 : Int32) (p2 : Int32) : Option (Int32 × HI × HL) :=
  (f_X12_owed fu I p2 1).bind fun x1 =>
  (f_X12_lakesOf fu I p1 p2).bind fun x2 =>
  (f_X12_worthOf fu I L p1 x2).bind fun x3 =>
  if x1 ≤ x3.1 then
    gz 0 (some (0, x3.2.1, x3.2.2))
  else
    gz 1 (some (1, x3.2.1, x3.2.2))
set_option maxRecDepth 20000 in
theorem pc_X12_isBroke (fu : Nat) (I : HI) (L : HL) (R : HR) (p1 : Int32) (p2 : Int32) : PCo 100 147 5 yX12_isBroke cX12_isBroke 3 (some .boolean) [.ref 100, .int p1, .int p2] I L R (f_X12_isBroke fu I L p1 p2) (fun x : Int32 × HI × HL => ((some (.int x.1), x.2.1, x.2.2, R) : HF)) := by
  refine PCo.of (own := RX12) (by decide +kernel) (Nat.le_of_ble_eq_true rfl) rfl rfl (fun F => ?_)
  unfold f_X12_isBroke
  refine PWk.aload_n 0 dX12_isBroke_0 rfl ?_
  refine PWk.iload_n 2 dX12_isBroke_1 rfl ?_
  refine PWk.iconst (v := 1) dX12_isBroke_2 ic_1 ?_
  refine PWk.callVi (pc_X12_owed fu I L R p2 1) dX12_isBroke_3 ml_X12_482 rfl rg_100 lc_100 vq_12 (by decide) rfl (Nat.le_of_ble_eq_true rfl) (fun x1 => ?_)
  refine PWk.aload_n 0 dX12_isBroke_6 rfl ?_
  refine PWk.iload_n 1 dX12_isBroke_7 rfl ?_
  refine PWk.aload_n 0 dX12_isBroke_8 rfl ?_
  refine PWk.iload_n 1 dX12_isBroke_9 rfl ?_
  refine PWk.iload_n 2 dX12_isBroke_10 rfl ?_
  refine PWk.callVi (pc_X12_lakesOf fu I L R p1 p2) dX12_isBroke_11 ml_X12_486 rfl rg_100 lc_100 vq_12 (by decide) rfl (Nat.le_of_ble_eq_true rfl) (fun x2 => ?_)
  refine PWk.callViIL (pc_X12_worthOf fu I L R p1 x2) dX12_isBroke_14 ml_X12_489 rfl rg_100 lc_100 vq_12 (by decide) rfl (Nat.le_of_ble_eq_true rfl) (fun x3 => ?_)
  refine PWk.icmp_le 24 dX12_isBroke_17 (by decide) (fun h4 => ?_) (fun h4 => ?_)
  · refine PWk.iconst (v := 0) dX12_isBroke_24 ic_0 ?_
    exact PWk.zret dX12_isBroke_25 rfl (fun h => h)
  · refine PWk.iconst (v := 1) dX12_isBroke_20 ic_1 ?_
    refine PWk.goto 25 dX12_isBroke_21 (by decide) ?_
    exact PWk.zret dX12_isBroke_25 rfl (fun h => h)
/-! LakeMarketModel.bits(I)I -/
def f_X12_bits_L4 : Nat → Int32 → Int32 → Option (Int32)
  | 0, _, _ => none
  | n + 1, u1, u2 =>
    if u2 = 0 then
      some u1
    else
      bnd ((u2 &&& (u2 - 1))) fun v1 =>
      f_X12_bits_L4 n (u1 + 1) v1
def f_X12_bits (fu : Nat) (p0 : Int32) : Option (Int32) :=
  (f_X12_bits_L4 fu 0 p0).bind fun x3 =>
  some x3
set_option maxRecDepth 20000 in
theorem lp_X12_bits_4 (fu : Nat) (I : HI) (L : HL) (R : HR) : ∀ (n : Nat) (u1 : Int32) (u2 : Int32) (N : (Int32) → Prop) (F : HF), (∀ v : Int32, N v → PW 100 147 0 RX12 cX12_bits 3 (some .int) 20 [(1, .int v)] [] I L R F) → PWk 100 147 0 RX12 cX12_bits 3 (some .int) 4 [(1, .int u1), (2, .int u2)] [] I L R (f_X12_bits_L4 n u1 u2) N F := by
  intro n
  induction n with
  | zero => intro u1 u2 N F hx; exact PWk.none'
  | succ n ih =>
    intro u1 u2 N F hx
    unfold f_X12_bits_L4
    refine PWk.iload_n 1 dX12_bits_4 rfl ?_
    refine PWk.if_eq 20 dX12_bits_5 (by decide) (fun h2 => ?_) (fun h2 => ?_)
    · refine PWk.sub [0] rfl ?_
      exact PWk.done (fun h => hx _ h)
    · refine PWk.iinc (v := (u1 + 1)) 0 [(1, .int (u1 + 1)), (2, .int u2)] dX12_bits_8 rfl (by rw [ic_1]) (by decide) rfl ?_
      refine PWk.iload_n 1 dX12_bits_11 rfl ?_
      refine PWk.iload_n 1 dX12_bits_12 rfl ?_
      refine PWk.iconst (v := 1) dX12_bits_13 ic_1 ?_
      refine PWk.isub dX12_bits_14 ?_
      refine PWk.iand dX12_bits_15 ?_
      refine PWk.bi (fun v1 => ?_)
      refine PWk.istore_n [(2, .int v1), (1, .int (u1 + 1))] dX12_bits_16 (by decide) rfl ?_
      refine PWk.goto 4 dX12_bits_17 (by decide) ?_
      refine PWk.sub [1, 0] rfl ?_
      exact ih (u1 + 1) v1 N F hx
set_option maxRecDepth 20000 in
theorem pc_X12_bits (fu : Nat) (I : HI) (L : HL) (R : HR) (p0 : Int32) : PCo 100 147 0 yX12_bits cX12_bits 3 (some .int) [.int p0] I L R (f_X12_bits fu p0) (fun x : Int32 => ((some (.int x), I, L, R) : HF)) := by
  refine PCo.of (own := RX12) (by decide +kernel) (Nat.le_of_ble_eq_true rfl) rfl rfl (fun F => ?_)
  unfold f_X12_bits
  refine PWk.iconst (v := 0) dX12_bits_0 ic_0 ?_
  refine PWk.istore_n [(1, .int 0), (0, .int p0)] dX12_bits_1 (by decide) rfl ?_
  refine PWk.iload_n 1 dX12_bits_2 rfl ?_
  refine PWk.istore_n [(2, .int p0), (1, .int 0), (0, .int p0)] dX12_bits_3 (by decide) rfl ?_
  refine PWk.sub [1, 0] rfl ?_
  refine PWk.loopV (fun N' hx' => lp_X12_bits_4 fu I L R fu 0 p0 N' F hx') (fun x3 => ?_)
  refine PWk.iload_n 0 dX12_bits_20 rfl ?_
  exact PWk.iret dX12_bits_21 rfl (fun h => h)
/-! LakeMarketModel.has(I)I -/
def f_X12_has_L99 : Nat → HI → Int32 → Int32 → Option (Int32)
  | 0, _, _, _ => none
  | n + 1, I, u2, u3 =>
    ldI (I 106) 2 (I 100 13) fun v5 =>
    if v5 ≤ u3 then
      some u2
    else
      (f_X12_fill I 0 u3).bind fun x6 =>
      jnt (β := Int32) (fun y9 =>
        bnd ((u2 + y9)) fun v10 =>
        f_X12_has_L99 n I v10 (u3 + 1)) fun j7 =>
      if x6 ≤ 0 then
        j7 0
      else
        j7 1
def f_X12_has_L139 : Nat → HI → Int32 → Int32 → Option (Int32)
  | 0, _, _, _ => none
  | n + 1, I, u2, u3 =>
    ldI (I 106) 2 (I 100 13) fun v13 =>
    if v13 ≤ u3 then
      some u2
    else
      (f_X12_fill I 0 u3).bind fun x14 =>
      bnd ((u2 + x14)) fun v15 =>
      f_X12_has_L139 n I v15 (u3 + 1)
def f_X12_has_L181 (fu : Nat) : Nat → HI → Int32 → Int32 → Option (Int32)
  | 0, _, _, _ => none
  | n + 1, I, u2, u3 =>
    ldI (I 105) 2 (I 100 13) fun v20 =>
    if v20 ≤ u3 then
      some u2
    else
      (f_X12_owed fu I u3 1).bind fun x21 =>
      bnd ((u2 + x21)) fun v22 =>
      f_X12_has_L181 fu n I v22 (u3 + 1)
def f_X12_has (fu : Nat) (I : HI) (L : HL) (p1 : Int32) : Option (Int32 × HI × HL) :=
  if p1 = 0 then
    ldI (I 102) 2 (I 100 13) fun v1 =>
    some (v1, I, L)
  else
  if p1 = 1 then
    ldI (I 105) 2 (I 100 13) fun v2 =>
    some (v2, I, L)
  else
  if p1 = 2 then
    ldI (I 106) 2 (I 100 13) fun v3 =>
    some (v3, I, L)
  else
  if p1 = 3 then
    ldI (I 127) 26 0 fun v4 =>
    some (v4, I, L)
  else
  if p1 = 4 then
    (f_X12_has_L99 fu I 0 0).bind fun x12 =>
    some (x12, I, L)
  else
  if p1 = 5 then
    (f_X12_has_L139 fu I 0 0).bind fun x17 =>
    some (x17, I, L)
  else
  if p1 = 6 then
    (f_X12_allLakes I).bind fun x18 =>
    (f_X12_worthOf fu I L 0 x18).bind fun x19 =>
    some (x19.1, x19.2.1, x19.2.2)
  else
  if p1 = 7 then
    (f_X12_has_L181 fu fu I 0 0).bind fun x24 =>
    some (x24, I, L)
  else
  if p1 = 8 then
    ldI (I 132) 26 0 fun v25 =>
    some (v25, I, L)
  else
  if p1 = 9 then
    some ((I 100 54), I, L)
  else
  if p1 = 10 then
    some ((Int64.toInt32 (L 100 55)), I, L)
  else
    some ((-1), I, L)
set_option maxRecDepth 20000 in
theorem lp_X12_has_99 (fu : Nat) (I : HI) (L : HL) (R : HR) : ∀ (n : Nat) (u2 : Int32) (u3 : Int32) (N : (Int32) → Prop) (F : HF), (∀ v : Int32, N v → PW 100 147 5 RX12 cX12_has 4 (some .int) 135 [(2, .int v)] [] I L R F) → PWk 100 147 5 RX12 cX12_has 4 (some .int) 99 [(0, .ref 100), (2, .int u2), (3, .int u3)] [] I L R (f_X12_has_L99 n I u2 u3) N F := by
  intro n
  induction n with
  | zero => intro u2 u3 N F hx; exact PWk.none'
  | succ n ih =>
    intro u2 u3 N F hx
    unfold f_X12_has_L99
    refine PWk.iload_n 2 dX12_has_99 rfl ?_
    refine PWk.aload_n 0 dX12_has_100 rfl ?_
    refine PWk.gets dX12_has_101 rg_100 lc_100 fl_X12_66 rfl st_100_18 ?_
    refine PWk.aload_n 0 dX12_has_104 rfl ?_
    refine PWk.geti dX12_has_105 rg_100 lc_100 fl_X12_51 rfl ?_
    refine PWk.iald dX12_has_108 rg_106 ly_106 (fun v5 => ?_)
    refine PWk.icmp_ge 135 dX12_has_109 (by decide) (fun h11 => ?_) (fun h11 => ?_)
    · refine PWk.sub [1] rfl ?_
      exact PWk.done (fun h => hx _ h)
    · refine PWk.iload_n 1 dX12_has_112 rfl ?_
      refine PWk.aload_n 0 dX12_has_113 rfl ?_
      refine PWk.iconst (v := 0) dX12_has_114 ic_0 ?_
      refine PWk.iload_n 2 dX12_has_115 rfl ?_
      refine PWk.callVi (pc_X12_fill I L R 0 u3) dX12_has_116 ml_X12_440 rfl rg_100 lc_100 vq_12 (by decide) rfl (Nat.le_of_ble_eq_true rfl) (fun x6 => ?_)
      refine PWk.jn (pc' := 127) (lv' := fun y9 => [(0, .ref 100), (3, .int u3)]) (st' := fun y9 => [.int y9, .int u2]) (I' := fun y9 => I) (L' := fun y9 => L) (R' := fun y9 => R) (fun j7 hj7 => ?_) (fun y9 => ?_)
      · refine PWk.if_le 126 dX12_has_119 (by decide) (fun h8 => ?_) (fun h8 => ?_)
        · refine PWk.iconst (v := 0) dX12_has_126 ic_0 ?_
          refine PWk.sub [0, 2] rfl ?_
          exact hj7 0
        · refine PWk.iconst (v := 1) dX12_has_122 ic_1 ?_
          refine PWk.goto 127 dX12_has_123 (by decide) ?_
          refine PWk.sub [0, 2] rfl ?_
          exact hj7 1
      · refine PWk.iadd dX12_has_127 ?_
        refine PWk.bi (fun v10 => ?_)
        refine PWk.istore_n [(2, .int v10), (0, .ref 100), (3, .int u3)] dX12_has_128 (by decide) rfl ?_
        refine PWk.iinc (v := (u3 + 1)) 2 [(3, .int (u3 + 1)), (2, .int v10), (0, .ref 100)] dX12_has_129 rfl (by rw [ic_1]) (by decide) rfl ?_
        refine PWk.goto 99 dX12_has_132 (by decide) ?_
        refine PWk.sub [2, 1, 0] rfl ?_
        exact ih v10 (u3 + 1) N F hx
set_option maxRecDepth 20000 in
theorem lp_X12_has_139 (fu : Nat) (I : HI) (L : HL) (R : HR) : ∀ (n : Nat) (u2 : Int32) (u3 : Int32) (N : (Int32) → Prop) (F : HF), (∀ v : Int32, N v → PW 100 147 5 RX12 cX12_has 4 (some .int) 167 [(2, .int v)] [] I L R F) → PWk 100 147 5 RX12 cX12_has 4 (some .int) 139 [(0, .ref 100), (2, .int u2), (3, .int u3)] [] I L R (f_X12_has_L139 n I u2 u3) N F := by
  intro n
  induction n with
  | zero => intro u2 u3 N F hx; exact PWk.none'
  | succ n ih =>
    intro u2 u3 N F hx
    unfold f_X12_has_L139
    refine PWk.iload_n 2 dX12_has_139 rfl ?_
    refine PWk.aload_n 0 dX12_has_140 rfl ?_
    refine PWk.gets dX12_has_141 rg_100 lc_100 fl_X12_66 rfl st_100_18 ?_
    refine PWk.aload_n 0 dX12_has_144 rfl ?_
    refine PWk.geti dX12_has_145 rg_100 lc_100 fl_X12_51 rfl ?_
    refine PWk.iald dX12_has_148 rg_106 ly_106 (fun v13 => ?_)
    refine PWk.icmp_ge 167 dX12_has_149 (by decide) (fun h16 => ?_) (fun h16 => ?_)
    · refine PWk.sub [1] rfl ?_
      exact PWk.done (fun h => hx _ h)
    · refine PWk.iload_n 1 dX12_has_152 rfl ?_
      refine PWk.aload_n 0 dX12_has_153 rfl ?_
      refine PWk.iconst (v := 0) dX12_has_154 ic_0 ?_
      refine PWk.iload_n 2 dX12_has_155 rfl ?_
      refine PWk.callVi (pc_X12_fill I L R 0 u3) dX12_has_156 ml_X12_440 rfl rg_100 lc_100 vq_12 (by decide) rfl (Nat.le_of_ble_eq_true rfl) (fun x14 => ?_)
      refine PWk.iadd dX12_has_159 ?_
      refine PWk.bi (fun v15 => ?_)
      refine PWk.istore_n [(2, .int v15), (0, .ref 100), (3, .int u3)] dX12_has_160 (by decide) rfl ?_
      refine PWk.iinc (v := (u3 + 1)) 2 [(3, .int (u3 + 1)), (2, .int v15), (0, .ref 100)] dX12_has_161 rfl (by rw [ic_1]) (by decide) rfl ?_
      refine PWk.goto 139 dX12_has_164 (by decide) ?_
      refine PWk.sub [2, 1, 0] rfl ?_
      exact ih v15 (u3 + 1) N F hx
set_option maxRecDepth 20000 in
theorem lp_X12_has_181 (fu : Nat) (I : HI) (L : HL) (R : HR) : ∀ (n : Nat) (u2 : Int32) (u3 : Int32) (N : (Int32) → Prop) (F : HF), (∀ v : Int32, N v → PW 100 147 5 RX12 cX12_has 4 (some .int) 209 [(2, .int v)] [] I L R F) → PWk 100 147 5 RX12 cX12_has 4 (some .int) 181 [(0, .ref 100), (2, .int u2), (3, .int u3)] [] I L R (f_X12_has_L181 fu n I u2 u3) N F := by
  intro n
  induction n with
  | zero => intro u2 u3 N F hx; exact PWk.none'
  | succ n ih =>
    intro u2 u3 N F hx
    unfold f_X12_has_L181
    refine PWk.iload_n 2 dX12_has_181 rfl ?_
    refine PWk.aload_n 0 dX12_has_182 rfl ?_
    refine PWk.gets dX12_has_183 rg_100 lc_100 fl_X12_63 rfl st_100_17 ?_
    refine PWk.aload_n 0 dX12_has_186 rfl ?_
    refine PWk.geti dX12_has_187 rg_100 lc_100 fl_X12_51 rfl ?_
    refine PWk.iald dX12_has_190 rg_105 ly_105 (fun v20 => ?_)
    refine PWk.icmp_ge 209 dX12_has_191 (by decide) (fun h23 => ?_) (fun h23 => ?_)
    · refine PWk.sub [1] rfl ?_
      exact PWk.done (fun h => hx _ h)
    · refine PWk.iload_n 1 dX12_has_194 rfl ?_
      refine PWk.aload_n 0 dX12_has_195 rfl ?_
      refine PWk.iload_n 2 dX12_has_196 rfl ?_
      refine PWk.iconst (v := 1) dX12_has_197 ic_1 ?_
      refine PWk.callVi (pc_X12_owed fu I L R u3 1) dX12_has_198 ml_X12_482 rfl rg_100 lc_100 vq_12 (by decide) rfl (Nat.le_of_ble_eq_true rfl) (fun x21 => ?_)
      refine PWk.iadd dX12_has_201 ?_
      refine PWk.bi (fun v22 => ?_)
      refine PWk.istore_n [(2, .int v22), (0, .ref 100), (3, .int u3)] dX12_has_202 (by decide) rfl ?_
      refine PWk.iinc (v := (u3 + 1)) 2 [(3, .int (u3 + 1)), (2, .int v22), (0, .ref 100)] dX12_has_203 rfl (by rw [ic_1]) (by decide) rfl ?_
      refine PWk.goto 181 dX12_has_206 (by decide) ?_
      refine PWk.sub [2, 1, 0] rfl ?_
      exact ih v22 (u3 + 1) N F hx
set_option maxRecDepth 20000 in
theorem pc_X12_has (fu : Nat) (I : HI) (L : HL) (R : HR) (p1 : Int32) : PCo 100 147 5 yX12_has cX12_has 4 (some .int) [.ref 100, .int p1] I L R (f_X12_has fu I L p1) (fun x : Int32 × HI × HL => ((some (.int x.1), x.2.1, x.2.2, R) : HF)) := by
  refine PCo.of (own := RX12) (by decide +kernel) (Nat.le_of_ble_eq_true rfl) rfl rfl (fun F => ?_)
  unfold f_X12_has
  refine PWk.iconst (v := 0) dX12_has_0 ic_0 ?_
  refine PWk.istore_n [(2, .int 0), (0, .ref 100), (1, .int p1)] dX12_has_1 (by decide) rfl ?_
  refine PWk.iload_n 2 dX12_has_2 rfl ?_
  refine PWk.ite (fun h26 => ?_) (fun h26 => ?_)
  · refine PWk.tIn 60 (off := 57) (v := 0) dX12_has_3 (by rw [h26]; decide) (by decide) (by decide) (by decide +kernel) (by decide) ?_
    refine PWk.aload_n 1 dX12_has_60 rfl ?_
    refine PWk.gets dX12_has_61 rg_100 lc_100 fl_X12_54 rfl st_100_14 ?_
    refine PWk.aload_n 1 dX12_has_64 rfl ?_
    refine PWk.geti dX12_has_65 rg_100 lc_100 fl_X12_51 rfl ?_
    refine PWk.iald dX12_has_68 rg_102 ly_102 (fun v1 => ?_)
    exact PWk.iret dX12_has_69 rfl (fun h => h)
  · skip
    refine PWk.ite (fun h27 => ?_) (fun h27 => ?_)
    · refine PWk.tIn 70 (off := 67) (v := 1) dX12_has_3 (by rw [h27]; decide) (by decide) (by decide) (by decide +kernel) (by decide) ?_
      refine PWk.aload_n 1 dX12_has_70 rfl ?_
      refine PWk.gets dX12_has_71 rg_100 lc_100 fl_X12_63 rfl st_100_17 ?_
      refine PWk.aload_n 1 dX12_has_74 rfl ?_
      refine PWk.geti dX12_has_75 rg_100 lc_100 fl_X12_51 rfl ?_
      refine PWk.iald dX12_has_78 rg_105 ly_105 (fun v2 => ?_)
      exact PWk.iret dX12_has_79 rfl (fun h => h)
    · skip
      refine PWk.ite (fun h28 => ?_) (fun h28 => ?_)
      · refine PWk.tIn 80 (off := 77) (v := 2) dX12_has_3 (by rw [h28]; decide) (by decide) (by decide) (by decide +kernel) (by decide) ?_
        refine PWk.aload_n 1 dX12_has_80 rfl ?_
        refine PWk.gets dX12_has_81 rg_100 lc_100 fl_X12_66 rfl st_100_18 ?_
        refine PWk.aload_n 1 dX12_has_84 rfl ?_
        refine PWk.geti dX12_has_85 rg_100 lc_100 fl_X12_51 rfl ?_
        refine PWk.iald dX12_has_88 rg_106 ly_106 (fun v3 => ?_)
        exact PWk.iret dX12_has_89 rfl (fun h => h)
      · skip
        refine PWk.ite (fun h29 => ?_) (fun h29 => ?_)
        · refine PWk.tIn 90 (off := 87) (v := 3) dX12_has_3 (by rw [h29]; decide) (by decide) (by decide) (by decide +kernel) (by decide) ?_
          refine PWk.aload_n 1 dX12_has_90 rfl ?_
          refine PWk.gets dX12_has_91 rg_100 lc_100 fl_X12_153 rfl st_100_46 ?_
          refine PWk.iconst (v := 0) dX12_has_94 ic_0 ?_
          refine PWk.iald dX12_has_95 rg_127 ly_127 (fun v4 => ?_)
          exact PWk.iret dX12_has_96 rfl (fun h => h)
        · skip
          refine PWk.ite (fun h30 => ?_) (fun h30 => ?_)
          · refine PWk.tIn 97 (off := 94) (v := 4) dX12_has_3 (by rw [h30]; decide) (by decide) (by decide) (by decide +kernel) (by decide) ?_
            refine PWk.iconst (v := 0) dX12_has_97 ic_0 ?_
            refine PWk.istore_n [(3, .int 0), (2, .int 0), (0, .ref 100), (1, .int p1)] dX12_has_98 (by decide) rfl ?_
            refine PWk.sub [2, 1, 0] rfl ?_
            refine PWk.loopV (fun N' hx' => lp_X12_has_99 fu I L R fu 0 0 N' F hx') (fun x12 => ?_)
            refine PWk.iload_n 0 dX12_has_135 rfl ?_
            exact PWk.iret dX12_has_136 rfl (fun h => h)
          · skip
            refine PWk.ite (fun h31 => ?_) (fun h31 => ?_)
            · refine PWk.tIn 137 (off := 134) (v := 5) dX12_has_3 (by rw [h31]; decide) (by decide) (by decide) (by decide +kernel) (by decide) ?_
              refine PWk.iconst (v := 0) dX12_has_137 ic_0 ?_
              refine PWk.istore_n [(3, .int 0), (2, .int 0), (0, .ref 100), (1, .int p1)] dX12_has_138 (by decide) rfl ?_
              refine PWk.sub [2, 1, 0] rfl ?_
              refine PWk.loopV (fun N' hx' => lp_X12_has_139 fu I L R fu 0 0 N' F hx') (fun x17 => ?_)
              refine PWk.iload_n 0 dX12_has_167 rfl ?_
              exact PWk.iret dX12_has_168 rfl (fun h => h)
            · skip
              refine PWk.ite (fun h32 => ?_) (fun h32 => ?_)
              · refine PWk.tIn 169 (off := 166) (v := 6) dX12_has_3 (by rw [h32]; decide) (by decide) (by decide) (by decide +kernel) (by decide) ?_
                refine PWk.aload_n 1 dX12_has_169 rfl ?_
                refine PWk.iconst (v := 0) dX12_has_170 ic_0 ?_
                refine PWk.aload_n 1 dX12_has_171 rfl ?_
                refine PWk.callVi (pc_X12_allLakes I L R) dX12_has_172 ml_X12_492 rfl rg_100 lc_100 vq_12 (by decide) rfl (Nat.le_of_ble_eq_true rfl) (fun x18 => ?_)
                refine PWk.callViIL (pc_X12_worthOf fu I L R 0 x18) dX12_has_175 ml_X12_489 rfl rg_100 lc_100 vq_12 (by decide) rfl (Nat.le_of_ble_eq_true rfl) (fun x19 => ?_)
                exact PWk.iret dX12_has_178 rfl (fun h => h)
              · skip
                refine PWk.ite (fun h33 => ?_) (fun h33 => ?_)
                · refine PWk.tIn 179 (off := 176) (v := 7) dX12_has_3 (by rw [h33]; decide) (by decide) (by decide) (by decide +kernel) (by decide) ?_
                  refine PWk.iconst (v := 0) dX12_has_179 ic_0 ?_
                  refine PWk.istore_n [(3, .int 0), (2, .int 0), (0, .ref 100), (1, .int p1)] dX12_has_180 (by decide) rfl ?_
                  refine PWk.sub [2, 1, 0] rfl ?_
                  refine PWk.loopV (fun N' hx' => lp_X12_has_181 fu I L R fu 0 0 N' F hx') (fun x24 => ?_)
                  refine PWk.iload_n 0 dX12_has_209 rfl ?_
                  exact PWk.iret dX12_has_210 rfl (fun h => h)
                · skip
                  refine PWk.ite (fun h34 => ?_) (fun h34 => ?_)
                  · refine PWk.tIn 211 (off := 208) (v := 8) dX12_has_3 (by rw [h34]; decide) (by decide) (by decide) (by decide +kernel) (by decide) ?_
                    refine PWk.aload_n 1 dX12_has_211 rfl ?_
                    refine PWk.gets dX12_has_212 rg_100 lc_100 fl_X12_168 rfl st_100_51 ?_
                    refine PWk.iconst (v := 0) dX12_has_215 ic_0 ?_
                    refine PWk.iald dX12_has_216 rg_132 ly_132 (fun v25 => ?_)
                    exact PWk.iret dX12_has_217 rfl (fun h => h)
                  · skip
                    refine PWk.ite (fun h35 => ?_) (fun h35 => ?_)
                    · refine PWk.tIn 218 (off := 215) (v := 9) dX12_has_3 (by rw [h35]; decide) (by decide) (by decide) (by decide +kernel) (by decide) ?_
                      refine PWk.aload_n 1 dX12_has_218 rfl ?_
                      refine PWk.geti dX12_has_219 rg_100 lc_100 fl_X12_177 rfl ?_
                      exact PWk.iret dX12_has_222 rfl (fun h => h)
                    · skip
                      refine PWk.ite (fun h36 => ?_) (fun h36 => ?_)
                      · refine PWk.tIn 223 (off := 220) (v := 10) dX12_has_3 (by rw [h36]; decide) (by decide) (by decide) (by decide +kernel) (by decide) ?_
                        refine PWk.aload_n 1 dX12_has_223 rfl ?_
                        refine PWk.getl dX12_has_224 rg_100 lc_100 fl_X12_180 rfl ?_
                        refine PWk.l2i dX12_has_227 ?_
                        exact PWk.iret dX12_has_228 rfl (fun h => h)
                      · skip
                        have q_0 : (p1).toInt ≠ 0 := fun e => h26 (Int32.toInt_inj.mp (e.trans (by decide)))
                        have q_1 : (p1).toInt ≠ 1 := fun e => h27 (Int32.toInt_inj.mp (e.trans (by decide)))
                        have q_2 : (p1).toInt ≠ 2 := fun e => h28 (Int32.toInt_inj.mp (e.trans (by decide)))
                        have q_3 : (p1).toInt ≠ 3 := fun e => h29 (Int32.toInt_inj.mp (e.trans (by decide)))
                        have q_4 : (p1).toInt ≠ 4 := fun e => h30 (Int32.toInt_inj.mp (e.trans (by decide)))
                        have q_5 : (p1).toInt ≠ 5 := fun e => h31 (Int32.toInt_inj.mp (e.trans (by decide)))
                        have q_6 : (p1).toInt ≠ 6 := fun e => h32 (Int32.toInt_inj.mp (e.trans (by decide)))
                        have q_7 : (p1).toInt ≠ 7 := fun e => h33 (Int32.toInt_inj.mp (e.trans (by decide)))
                        have q_8 : (p1).toInt ≠ 8 := fun e => h34 (Int32.toInt_inj.mp (e.trans (by decide)))
                        have q_9 : (p1).toInt ≠ 9 := fun e => h35 (Int32.toInt_inj.mp (e.trans (by decide)))
                        have q_10 : (p1).toInt ≠ 10 := fun e => h36 (Int32.toInt_inj.mp (e.trans (by decide)))
                        refine PWk.tOut 229 dX12_has_3 (by omega) (by decide) ?_
                        refine PWk.iconst (v := (-1)) dX12_has_229 ic_m1 ?_
                        exact PWk.iret dX12_has_230 rfl (fun h => h)
/-! LakeMarketModel.letter(III)I -/
def f_X12_letter_L58 : Nat → Int32 → Int64 → Option (Int32)
  | 0, _, _ => none
  | n + 1, u6, u7 =>
    if (lg_cmp u7 0) ≤ 0 then
      some u6
    else
      bnd ((u7 >>> ((8 : Int32).toInt64 &&& 63))) fun v6 =>
      f_X12_letter_L58 n (u6 + 1) v6
def f_X12_letter (fu : Nat) (I : HI) (L : HL) (p1 : Int32) (p2 : Int32) (p3 : Int32) : Option (Int32) :=
  (f_X12_is p1 0 2).bind fun x1 =>
  if x1 = 0 then
    some (-1)
  else
    (f_X12_manyOf I (I 100 13) p1).bind fun x2 =>
    (f_X12_is p2 0 (x2 - 1)).bind fun x3 =>
    if x3 = 0 then
      some (-1)
    else
      (f_X12_is p3 0 5).bind fun x4 =>
      if x4 = 0 then
        some (-1)
      else
        (f_X12_nameOf L (I 100 13) p1 p2).bind fun x5 =>
        (f_X12_letter_L58 fu 0 x5).bind fun x8 =>
        if p3 < x8 then
          some (((Int64.toInt32 ((x5 >>> (((8 * ((x8 - 1) - p3)) : Int32).toInt64 &&& 63)) &&& 255)) - 97) + 1)
        else
          some 0
set_option maxRecDepth 20000 in
theorem lp_X12_letter_58 (fu : Nat) (u3 : Int32) (u4 : Int64) (I : HI) (L : HL) (R : HR) : ∀ (n : Nat) (u6 : Int32) (u7 : Int64) (N : (Int32) → Prop) (F : HF), (∀ v : Int32, N v → PW 100 147 1 RX12 cX12_letter 9 (some .int) 78 [(3, .int u3), (4, .long u4), (6, .int v)] [] I L R F) → PWk 100 147 1 RX12 cX12_letter 9 (some .int) 58 [(3, .int u3), (4, .long u4), (6, .int u6), (7, .long u7)] [] I L R (f_X12_letter_L58 n u6 u7) N F := by
  intro n
  induction n with
  | zero => intro u6 u7 N F hx; exact PWk.none'
  | succ n ih =>
    intro u6 u7 N F hx
    unfold f_X12_letter_L58
    refine PWk.lload 3 dX12_letter_58 rfl ?_
    refine PWk.lconst (v := 0) dX12_letter_60 rfl ?_
    refine PWk.lcmp dX12_letter_61 ?_
    refine PWk.if_le 78 dX12_letter_62 (by decide) (fun h7 => ?_) (fun h7 => ?_)
    · refine PWk.sub [0, 1, 2] rfl ?_
      exact PWk.done (fun h => hx _ h)
    · refine PWk.iinc (v := (u6 + 1)) 2 [(6, .int (u6 + 1)), (3, .int u3), (4, .long u4), (7, .long u7)] dX12_letter_65 rfl (by rw [ic_1]) (by decide) rfl ?_
      refine PWk.lload 3 dX12_letter_68 rfl ?_
      refine PWk.bipush (v := 8) dX12_letter_70 bp_8 ?_
      refine PWk.lshr dX12_letter_72 ?_
      refine PWk.bl (fun v6 => ?_)
      refine PWk.lstore [(7, .long v6), (6, .int (u6 + 1)), (3, .int u3), (4, .long u4)] dX12_letter_73 (by decide) rfl ?_
      refine PWk.goto 58 dX12_letter_75 (by decide) ?_
      refine PWk.sub [2, 3, 1, 0] rfl ?_
      exact ih (u6 + 1) v6 N F hx
set_option maxRecDepth 20000 in
theorem pc_X12_letter (fu : Nat) (I : HI) (L : HL) (R : HR) (p1 : Int32) (p2 : Int32) (p3 : Int32) : PCo 100 147 1 yX12_letter cX12_letter 9 (some .int) [.ref 100, .int p1, .int p2, .int p3] I L R (f_X12_letter fu I L p1 p2 p3) (fun x : Int32 => ((some (.int x), I, L, R) : HF)) := by
  refine PCo.of (own := RX12) (by decide +kernel) (Nat.le_of_ble_eq_true rfl) rfl rfl (fun F => ?_)
  unfold f_X12_letter
  refine PWk.iload_n 1 dX12_letter_0 rfl ?_
  refine PWk.iconst (v := 0) dX12_letter_1 ic_0 ?_
  refine PWk.iconst (v := 2) dX12_letter_2 ic_2 ?_
  refine PWk.callSi (pc_X12_is I L R p1 0 2) dX12_letter_3 ml_X12_319 rfl (by decide) rfl (Nat.le_of_ble_eq_true rfl) (fun x1 => ?_)
  refine PWk.if_eq 37 dX12_letter_6 (by decide) (fun h12 => ?_) (fun h12 => ?_)
  · refine PWk.iconst (v := (-1)) dX12_letter_37 ic_m1 ?_
    exact PWk.iret dX12_letter_38 rfl (fun h => h)
  · refine PWk.iload_n 2 dX12_letter_9 rfl ?_
    refine PWk.iconst (v := 0) dX12_letter_10 ic_0 ?_
    refine PWk.aload_n 0 dX12_letter_11 rfl ?_
    refine PWk.aload_n 0 dX12_letter_12 rfl ?_
    refine PWk.geti dX12_letter_13 rg_100 lc_100 fl_X12_51 rfl ?_
    refine PWk.iload_n 1 dX12_letter_16 rfl ?_
    refine PWk.callVi (pc_X12_manyOf I L R (I 100 13) p1) dX12_letter_17 ml_X12_311 rfl rg_100 lc_100 vq_12 (by decide) rfl (Nat.le_of_ble_eq_true rfl) (fun x2 => ?_)
    refine PWk.iconst (v := 1) dX12_letter_20 ic_1 ?_
    refine PWk.isub dX12_letter_21 ?_
    refine PWk.callSi (pc_X12_is I L R p2 0 (x2 - 1)) dX12_letter_22 ml_X12_319 rfl (by decide) rfl (Nat.le_of_ble_eq_true rfl) (fun x3 => ?_)
    refine PWk.if_eq 37 dX12_letter_25 (by decide) (fun h11 => ?_) (fun h11 => ?_)
    · refine PWk.iconst (v := (-1)) dX12_letter_37 ic_m1 ?_
      exact PWk.iret dX12_letter_38 rfl (fun h => h)
    · refine PWk.iload_n 3 dX12_letter_28 rfl ?_
      refine PWk.iconst (v := 0) dX12_letter_29 ic_0 ?_
      refine PWk.iconst (v := 5) dX12_letter_30 ic_5 ?_
      refine PWk.callSi (pc_X12_is I L R p3 0 5) dX12_letter_31 ml_X12_319 rfl (by decide) rfl (Nat.le_of_ble_eq_true rfl) (fun x4 => ?_)
      refine PWk.if_ne 39 dX12_letter_34 (by decide) (fun h10 => ?_) (fun h10 => ?_)
      · refine PWk.iconst (v := (-1)) dX12_letter_37 ic_m1 ?_
        exact PWk.iret dX12_letter_38 rfl (fun h => h)
      · refine PWk.aload_n 0 dX12_letter_39 rfl ?_
        refine PWk.aload_n 0 dX12_letter_40 rfl ?_
        refine PWk.geti dX12_letter_41 rg_100 lc_100 fl_X12_51 rfl ?_
        refine PWk.iload_n 1 dX12_letter_44 rfl ?_
        refine PWk.iload_n 2 dX12_letter_45 rfl ?_
        refine PWk.callVl (pc_X12_nameOf I L R (I 100 13) p1 p2) dX12_letter_46 ml_X12_315 rfl rg_100 lc_100 vq_12 (by decide) rfl (Nat.le_of_ble_eq_true rfl) (fun x5 => ?_)
        refine PWk.lstore [(4, .long x5), (0, .ref 100), (1, .int p1), (2, .int p2), (3, .int p3)] dX12_letter_49 (by decide) rfl ?_
        refine PWk.iconst (v := 0) dX12_letter_51 ic_0 ?_
        refine PWk.istore [(6, .int 0), (4, .long x5), (0, .ref 100), (1, .int p1), (2, .int p2), (3, .int p3)] dX12_letter_52 (by decide) rfl ?_
        refine PWk.lload 1 dX12_letter_54 rfl ?_
        refine PWk.lstore [(7, .long x5), (6, .int 0), (4, .long x5), (0, .ref 100), (1, .int p1), (2, .int p2), (3, .int p3)] dX12_letter_56 (by decide) rfl ?_
        refine PWk.sub [6, 2, 1, 0] rfl ?_
        refine PWk.loopV (fun N' hx' => lp_X12_letter_58 fu p3 x5 I L R fu 0 x5 N' F hx') (fun x8 => ?_)
        refine PWk.iload_n 0 dX12_letter_78 rfl ?_
        refine PWk.iload 2 dX12_letter_79 rfl ?_
        refine PWk.icmp_lt 88 dX12_letter_81 (by decide) (fun h9 => ?_) (fun h9 => ?_)
        · refine PWk.lload 1 dX12_letter_88 rfl ?_
          refine PWk.bipush (v := 8) dX12_letter_90 bp_8 ?_
          refine PWk.iload 2 dX12_letter_92 rfl ?_
          refine PWk.iconst (v := 1) dX12_letter_94 ic_1 ?_
          refine PWk.isub dX12_letter_95 ?_
          refine PWk.iload_n 0 dX12_letter_96 rfl ?_
          refine PWk.isub dX12_letter_97 ?_
          refine PWk.imul dX12_letter_98 ?_
          refine PWk.lshr dX12_letter_99 ?_
          refine PWk.ldc2 (v := 255) dX12_letter_100 kc_X12_496 ?_
          refine PWk.land dX12_letter_103 ?_
          refine PWk.l2i dX12_letter_104 ?_
          refine PWk.bipush (v := 97) dX12_letter_105 bp_97 ?_
          refine PWk.isub dX12_letter_107 ?_
          refine PWk.iconst (v := 1) dX12_letter_108 ic_1 ?_
          refine PWk.iadd dX12_letter_109 ?_
          exact PWk.iret dX12_letter_110 rfl (fun h => h)
        · refine PWk.iconst (v := 0) dX12_letter_84 ic_0 ?_
          refine PWk.goto 110 dX12_letter_85 (by decide) ?_
          exact PWk.iret dX12_letter_110 rfl (fun h => h)
/-! LakeMarketModel.hollow(II)I -/
def f_X12_hollow_L82 : Nat → HI → Int32 → Int32 → Int32 → Option (Int32)
  | 0, _, _, _, _ => none
  | n + 1, I, u1, u3, u4 =>
    ldI (I 106) 2 (I 100 13) fun v5 =>
    if v5 ≤ u4 then
      some u3
    else
      (f_X12_liesIn I 0 u4).bind fun x6 =>
      jnt (β := Int32) (fun y9 =>
        bnd ((u3 ||| y9)) fun v10 =>
        f_X12_hollow_L82 n I u1 v10 (u4 + 1)) fun j7 =>
      if x6 = u1 then
        j7 ((1 : Int32) <<< (u4 &&& 31))
      else
        j7 0
def f_X12_hollow (fu : Nat) (I : HI) (p1 : Int32) (p2 : Int32) : Option (Int32) :=
  (f_X12_isHollow I p1).bind fun x1 =>
  if x1 = 0 then
    some (-1)
  else
    if p2 = 0 then
      ldI (I 103) 16 ((8 * (I 100 13)) + p1) fun v2 =>
      some v2
    else
    if p2 = 1 then
      ldI (I 104) 16 ((8 * (I 100 13)) + p1) fun v3 =>
      some v3
    else
    if p2 = 2 then
      (f_X12_room fu I 0 p1).bind fun x4 =>
      some x4
    else
    if p2 = 3 then
      (f_X12_hollow_L82 fu I p1 0 0).bind fun x12 =>
      some x12
    else
      some (-1)
set_option maxRecDepth 20000 in
theorem lp_X12_hollow_82 (fu : Nat) (u1 : Int32) (I : HI) (L : HL) (R : HR) : ∀ (n : Nat) (u3 : Int32) (u4 : Int32) (N : (Int32) → Prop) (F : HF), (∀ v : Int32, N v → PW 100 147 2 RX12 cX12_hollow 5 (some .int) 124 [(3, .int v)] [] I L R F) → PWk 100 147 2 RX12 cX12_hollow 5 (some .int) 82 [(0, .ref 100), (1, .int u1), (3, .int u3), (4, .int u4)] [] I L R (f_X12_hollow_L82 n I u1 u3 u4) N F := by
  intro n
  induction n with
  | zero => intro u3 u4 N F hx; exact PWk.none'
  | succ n ih =>
    intro u3 u4 N F hx
    unfold f_X12_hollow_L82
    refine PWk.iload 3 dX12_hollow_82 rfl ?_
    refine PWk.aload_n 0 dX12_hollow_84 rfl ?_
    refine PWk.gets dX12_hollow_85 rg_100 lc_100 fl_X12_66 rfl st_100_18 ?_
    refine PWk.aload_n 0 dX12_hollow_88 rfl ?_
    refine PWk.geti dX12_hollow_89 rg_100 lc_100 fl_X12_51 rfl ?_
    refine PWk.iald dX12_hollow_92 rg_106 ly_106 (fun v5 => ?_)
    refine PWk.icmp_ge 124 dX12_hollow_93 (by decide) (fun h11 => ?_) (fun h11 => ?_)
    · refine PWk.sub [2] rfl ?_
      exact PWk.done (fun h => hx _ h)
    · refine PWk.iload_n 2 dX12_hollow_96 rfl ?_
      refine PWk.aload_n 0 dX12_hollow_97 rfl ?_
      refine PWk.iconst (v := 0) dX12_hollow_98 ic_0 ?_
      refine PWk.iload 3 dX12_hollow_99 rfl ?_
      refine PWk.callVi (pc_X12_liesIn I L R 0 u4) dX12_hollow_101 ml_X12_437 rfl rg_100 lc_100 vq_12 (by decide) rfl (Nat.le_of_ble_eq_true rfl) (fun x6 => ?_)
      refine PWk.iload_n 1 dX12_hollow_104 rfl ?_
      refine PWk.jn (pc' := 116) (lv' := fun y9 => [(0, .ref 100), (1, .int u1), (4, .int u4)]) (st' := fun y9 => [.int y9, .int u3]) (I' := fun y9 => I) (L' := fun y9 => L) (R' := fun y9 => R) (fun j7 hj7 => ?_) (fun y9 => ?_)
      · refine PWk.icmp_ne 115 dX12_hollow_105 (by decide) (fun h8 => ?_) (fun h8 => ?_)
        · refine PWk.iconst (v := 1) dX12_hollow_108 ic_1 ?_
          refine PWk.iload 3 dX12_hollow_109 rfl ?_
          refine PWk.ishl dX12_hollow_111 ?_
          refine PWk.goto 116 dX12_hollow_112 (by decide) ?_
          refine PWk.sub [0, 1, 3] rfl ?_
          exact hj7 ((1 : Int32) <<< (u4 &&& 31))
        · refine PWk.iconst (v := 0) dX12_hollow_115 ic_0 ?_
          refine PWk.sub [0, 1, 3] rfl ?_
          exact hj7 0
      · refine PWk.ior dX12_hollow_116 ?_
        refine PWk.bi (fun v10 => ?_)
        refine PWk.istore_n [(3, .int v10), (0, .ref 100), (1, .int u1), (4, .int u4)] dX12_hollow_117 (by decide) rfl ?_
        refine PWk.iinc (v := (u4 + 1)) 3 [(4, .int (u4 + 1)), (3, .int v10), (0, .ref 100), (1, .int u1)] dX12_hollow_118 rfl (by rw [ic_1]) (by decide) rfl ?_
        refine PWk.goto 82 dX12_hollow_121 (by decide) ?_
        refine PWk.sub [2, 3, 1, 0] rfl ?_
        exact ih v10 (u4 + 1) N F hx
set_option maxRecDepth 20000 in
theorem pc_X12_hollow (fu : Nat) (I : HI) (L : HL) (R : HR) (p1 : Int32) (p2 : Int32) : PCo 100 147 2 yX12_hollow cX12_hollow 5 (some .int) [.ref 100, .int p1, .int p2] I L R (f_X12_hollow fu I p1 p2) (fun x : Int32 => ((some (.int x), I, L, R) : HF)) := by
  refine PCo.of (own := RX12) (by decide +kernel) (Nat.le_of_ble_eq_true rfl) rfl rfl (fun F => ?_)
  unfold f_X12_hollow
  refine PWk.aload_n 0 dX12_hollow_0 rfl ?_
  refine PWk.iload_n 1 dX12_hollow_1 rfl ?_
  refine PWk.callVi (pc_X12_isHollow I L R p1) dX12_hollow_2 ml_X12_498 rfl rg_100 lc_100 vq_12 (by decide) rfl (Nat.le_of_ble_eq_true rfl) (fun x1 => ?_)
  refine PWk.if_ne 10 dX12_hollow_5 (by decide) (fun h17 => ?_) (fun h17 => ?_)
  · refine PWk.iconst (v := (-1)) dX12_hollow_8 ic_m1 ?_
    exact PWk.iret dX12_hollow_9 rfl (fun h => h)
  · refine PWk.iload_n 2 dX12_hollow_10 rfl ?_
    refine PWk.ite (fun h13 => ?_) (fun h13 => ?_)
    · refine PWk.tIn 40 (off := 29) (v := 0) dX12_hollow_11 (by rw [h13]; decide) (by decide) (by decide) (by decide +kernel) (by decide) ?_
      refine PWk.aload_n 0 dX12_hollow_40 rfl ?_
      refine PWk.gets dX12_hollow_41 rg_100 lc_100 fl_X12_57 rfl st_100_15 ?_
      refine PWk.bipush (v := 8) dX12_hollow_44 bp_8 ?_
      refine PWk.aload_n 0 dX12_hollow_46 rfl ?_
      refine PWk.geti dX12_hollow_47 rg_100 lc_100 fl_X12_51 rfl ?_
      refine PWk.imul dX12_hollow_50 ?_
      refine PWk.iload_n 1 dX12_hollow_51 rfl ?_
      refine PWk.iadd dX12_hollow_52 ?_
      refine PWk.iald dX12_hollow_53 rg_103 ly_103 (fun v2 => ?_)
      exact PWk.iret dX12_hollow_54 rfl (fun h => h)
    · skip
      refine PWk.ite (fun h14 => ?_) (fun h14 => ?_)
      · refine PWk.tIn 55 (off := 44) (v := 1) dX12_hollow_11 (by rw [h14]; decide) (by decide) (by decide) (by decide +kernel) (by decide) ?_
        refine PWk.aload_n 0 dX12_hollow_55 rfl ?_
        refine PWk.gets dX12_hollow_56 rg_100 lc_100 fl_X12_60 rfl st_100_16 ?_
        refine PWk.bipush (v := 8) dX12_hollow_59 bp_8 ?_
        refine PWk.aload_n 0 dX12_hollow_61 rfl ?_
        refine PWk.geti dX12_hollow_62 rg_100 lc_100 fl_X12_51 rfl ?_
        refine PWk.imul dX12_hollow_65 ?_
        refine PWk.iload_n 1 dX12_hollow_66 rfl ?_
        refine PWk.iadd dX12_hollow_67 ?_
        refine PWk.iald dX12_hollow_68 rg_104 ly_104 (fun v3 => ?_)
        exact PWk.iret dX12_hollow_69 rfl (fun h => h)
      · skip
        refine PWk.ite (fun h15 => ?_) (fun h15 => ?_)
        · refine PWk.tIn 70 (off := 59) (v := 2) dX12_hollow_11 (by rw [h15]; decide) (by decide) (by decide) (by decide +kernel) (by decide) ?_
          refine PWk.aload_n 0 dX12_hollow_70 rfl ?_
          refine PWk.iconst (v := 0) dX12_hollow_71 ic_0 ?_
          refine PWk.iload_n 1 dX12_hollow_72 rfl ?_
          refine PWk.callVi (pc_X12_room fu I L R 0 p1) dX12_hollow_73 ml_X12_460 rfl rg_100 lc_100 vq_12 (by decide) rfl (Nat.le_of_ble_eq_true rfl) (fun x4 => ?_)
          exact PWk.iret dX12_hollow_76 rfl (fun h => h)
        · skip
          refine PWk.ite (fun h16 => ?_) (fun h16 => ?_)
          · refine PWk.tIn 77 (off := 66) (v := 3) dX12_hollow_11 (by rw [h16]; decide) (by decide) (by decide) (by decide +kernel) (by decide) ?_
            refine PWk.iconst (v := 0) dX12_hollow_77 ic_0 ?_
            refine PWk.istore_n [(3, .int 0), (0, .ref 100), (1, .int p1), (2, .int p2)] dX12_hollow_78 (by decide) rfl ?_
            refine PWk.iconst (v := 0) dX12_hollow_79 ic_0 ?_
            refine PWk.istore [(4, .int 0), (3, .int 0), (0, .ref 100), (1, .int p1), (2, .int p2)] dX12_hollow_80 (by decide) rfl ?_
            refine PWk.sub [2, 3, 1, 0] rfl ?_
            refine PWk.loopV (fun N' hx' => lp_X12_hollow_82 fu p1 I L R fu 0 0 N' F hx') (fun x12 => ?_)
            refine PWk.iload_n 0 dX12_hollow_124 rfl ?_
            exact PWk.iret dX12_hollow_125 rfl (fun h => h)
          · skip
            have q_0 : (p2).toInt ≠ 0 := fun e => h13 (Int32.toInt_inj.mp (e.trans (by decide)))
            have q_1 : (p2).toInt ≠ 1 := fun e => h14 (Int32.toInt_inj.mp (e.trans (by decide)))
            have q_2 : (p2).toInt ≠ 2 := fun e => h15 (Int32.toInt_inj.mp (e.trans (by decide)))
            have q_3 : (p2).toInt ≠ 3 := fun e => h16 (Int32.toInt_inj.mp (e.trans (by decide)))
            refine PWk.tOut 126 dX12_hollow_11 (by omega) (by decide) ?_
            refine PWk.iconst (v := (-1)) dX12_hollow_126 ic_m1 ?_
            exact PWk.iret dX12_hollow_127 rfl (fun h => h)
/-! LakeMarketModel.lake(II)I -/
def f_X12_lake (fu : Nat) (I : HI) (L : HL) (p1 : Int32) (p2 : Int32) : Option (Int32 × HI × HL) :=
  (f_X12_isLake I p1).bind fun x1 =>
  if x1 = 0 then
    some ((-1), I, L)
  else
    if p2 = 0 then
      (f_X12_fill I 0 p1).bind fun x2 =>
      some (x2, I, L)
    else
    if p2 = 1 then
      (f_X12_liesIn I 0 p1).bind fun x3 =>
      some (x3, I, L)
    else
    if p2 = 2 then
      (f_X12_ownerOf I 0 p1).bind fun x4 =>
      some (x4, I, L)
    else
    if p2 = 3 then
      (f_X12_worth fu I L 0 p1).bind fun x5 =>
      some (x5.1, x5.2.1, x5.2.2)
    else
    if p2 = 4 then
      (f_X12_leaking fu I L 0 p1 0).bind fun x6 =>
      some (x6.1, x6.2.1, x6.2.2)
    else
      some ((-1), I, L)
set_option maxRecDepth 20000 in
theorem pc_X12_lake (fu : Nat) (I : HI) (L : HL) (R : HR) (p1 : Int32) (p2 : Int32) : PCo 100 147 4 yX12_lake cX12_lake 3 (some .int) [.ref 100, .int p1, .int p2] I L R (f_X12_lake fu I L p1 p2) (fun x : Int32 × HI × HL => ((some (.int x.1), x.2.1, x.2.2, R) : HF)) := by
  refine PCo.of (own := RX12) (by decide +kernel) (Nat.le_of_ble_eq_true rfl) rfl rfl (fun F => ?_)
  unfold f_X12_lake
  refine PWk.aload_n 0 dX12_lake_0 rfl ?_
  refine PWk.iload_n 1 dX12_lake_1 rfl ?_
  refine PWk.callVi (pc_X12_isLake I L R p1) dX12_lake_2 ml_X12_501 rfl rg_100 lc_100 vq_12 (by decide) rfl (Nat.le_of_ble_eq_true rfl) (fun x1 => ?_)
  refine PWk.if_ne 10 dX12_lake_5 (by decide) (fun h12 => ?_) (fun h12 => ?_)
  · refine PWk.iconst (v := (-1)) dX12_lake_8 ic_m1 ?_
    exact PWk.iret dX12_lake_9 rfl (fun h => h)
  · refine PWk.iload_n 2 dX12_lake_10 rfl ?_
    refine PWk.ite (fun h7 => ?_) (fun h7 => ?_)
    · refine PWk.tIn 44 (off := 33) (v := 0) dX12_lake_11 (by rw [h7]; decide) (by decide) (by decide) (by decide +kernel) (by decide) ?_
      refine PWk.aload_n 0 dX12_lake_44 rfl ?_
      refine PWk.iconst (v := 0) dX12_lake_45 ic_0 ?_
      refine PWk.iload_n 1 dX12_lake_46 rfl ?_
      refine PWk.callVi (pc_X12_fill I L R 0 p1) dX12_lake_47 ml_X12_440 rfl rg_100 lc_100 vq_12 (by decide) rfl (Nat.le_of_ble_eq_true rfl) (fun x2 => ?_)
      exact PWk.iret dX12_lake_50 rfl (fun h => h)
    · skip
      refine PWk.ite (fun h8 => ?_) (fun h8 => ?_)
      · refine PWk.tIn 51 (off := 40) (v := 1) dX12_lake_11 (by rw [h8]; decide) (by decide) (by decide) (by decide +kernel) (by decide) ?_
        refine PWk.aload_n 0 dX12_lake_51 rfl ?_
        refine PWk.iconst (v := 0) dX12_lake_52 ic_0 ?_
        refine PWk.iload_n 1 dX12_lake_53 rfl ?_
        refine PWk.callVi (pc_X12_liesIn I L R 0 p1) dX12_lake_54 ml_X12_437 rfl rg_100 lc_100 vq_12 (by decide) rfl (Nat.le_of_ble_eq_true rfl) (fun x3 => ?_)
        exact PWk.iret dX12_lake_57 rfl (fun h => h)
      · skip
        refine PWk.ite (fun h9 => ?_) (fun h9 => ?_)
        · refine PWk.tIn 58 (off := 47) (v := 2) dX12_lake_11 (by rw [h9]; decide) (by decide) (by decide) (by decide +kernel) (by decide) ?_
          refine PWk.aload_n 0 dX12_lake_58 rfl ?_
          refine PWk.iconst (v := 0) dX12_lake_59 ic_0 ?_
          refine PWk.iload_n 1 dX12_lake_60 rfl ?_
          refine PWk.callVi (pc_X12_ownerOf I L R 0 p1) dX12_lake_61 ml_X12_473 rfl rg_100 lc_100 vq_12 (by decide) rfl (Nat.le_of_ble_eq_true rfl) (fun x4 => ?_)
          exact PWk.iret dX12_lake_64 rfl (fun h => h)
        · skip
          refine PWk.ite (fun h10 => ?_) (fun h10 => ?_)
          · refine PWk.tIn 65 (off := 54) (v := 3) dX12_lake_11 (by rw [h10]; decide) (by decide) (by decide) (by decide +kernel) (by decide) ?_
            refine PWk.aload_n 0 dX12_lake_65 rfl ?_
            refine PWk.iconst (v := 0) dX12_lake_66 ic_0 ?_
            refine PWk.iload_n 1 dX12_lake_67 rfl ?_
            refine PWk.callViIL (pc_X12_worth fu I L R 0 p1) dX12_lake_68 ml_X12_476 rfl rg_100 lc_100 vq_12 (by decide) rfl (Nat.le_of_ble_eq_true rfl) (fun x5 => ?_)
            exact PWk.iret dX12_lake_71 rfl (fun h => h)
          · skip
            refine PWk.ite (fun h11 => ?_) (fun h11 => ?_)
            · refine PWk.tIn 72 (off := 61) (v := 4) dX12_lake_11 (by rw [h11]; decide) (by decide) (by decide) (by decide +kernel) (by decide) ?_
              refine PWk.aload_n 0 dX12_lake_72 rfl ?_
              refine PWk.iconst (v := 0) dX12_lake_73 ic_0 ?_
              refine PWk.iload_n 1 dX12_lake_74 rfl ?_
              refine PWk.iconst (v := 0) dX12_lake_75 ic_0 ?_
              refine PWk.callViIL (pc_X12_leaking fu I L R 0 p1 0) dX12_lake_76 ml_X12_466 rfl rg_100 lc_100 vq_12 (by decide) rfl (Nat.le_of_ble_eq_true rfl) (fun x6 => ?_)
              exact PWk.iret dX12_lake_79 rfl (fun h => h)
            · skip
              have q_0 : (p2).toInt ≠ 0 := fun e => h7 (Int32.toInt_inj.mp (e.trans (by decide)))
              have q_1 : (p2).toInt ≠ 1 := fun e => h8 (Int32.toInt_inj.mp (e.trans (by decide)))
              have q_2 : (p2).toInt ≠ 2 := fun e => h9 (Int32.toInt_inj.mp (e.trans (by decide)))
              have q_3 : (p2).toInt ≠ 3 := fun e => h10 (Int32.toInt_inj.mp (e.trans (by decide)))
              have q_4 : (p2).toInt ≠ 4 := fun e => h11 (Int32.toInt_inj.mp (e.trans (by decide)))
              refine PWk.tOut 80 dX12_lake_11 (by omega) (by decide) ?_
              refine PWk.iconst (v := (-1)) dX12_lake_80 ic_m1 ?_
              exact PWk.iret dX12_lake_81 rfl (fun h => h)
/-! LakeMarketModel.owner(II)I -/
def f_X12_owner (fu : Nat) (I : HI) (L : HL) (p1 : Int32) (p2 : Int32) : Option (Int32 × HI × HL) :=
  (f_X12_isOwner I p1).bind fun x1 =>
  if x1 = 0 then
    some ((-1), I, L)
  else
    if p2 = 0 then
      (f_X12_lakesOf fu I 0 p1).bind fun x2 =>
      some (x2, I, L)
    else
    if p2 = 1 then
      (f_X12_lakesOf fu I 0 p1).bind fun x3 =>
      (f_X12_worthOf fu I L 0 x3).bind fun x4 =>
      some (x4.1, x4.2.1, x4.2.2)
    else
    if p2 = 2 then
      (f_X12_owed fu I p1 1).bind fun x5 =>
      some (x5, I, L)
    else
    if p2 = 3 then
      (f_X12_owed fu I p1 0).bind fun x6 =>
      some (x6, I, L)
    else
    if p2 = 4 then
      (f_X12_isBroke fu I L 0 p1).bind fun x7 =>
      if x7.1 = 0 then
        some (0, x7.2.1, x7.2.2)
      else
        some (1, x7.2.1, x7.2.2)
    else
      some ((-1), I, L)
set_option maxRecDepth 20000 in
theorem pc_X12_owner (fu : Nat) (I : HI) (L : HL) (R : HR) (p1 : Int32) (p2 : Int32) : PCo 100 147 6 yX12_owner cX12_owner 3 (some .int) [.ref 100, .int p1, .int p2] I L R (f_X12_owner fu I L p1 p2) (fun x : Int32 × HI × HL => ((some (.int x.1), x.2.1, x.2.2, R) : HF)) := by
  refine PCo.of (own := RX12) (by decide +kernel) (Nat.le_of_ble_eq_true rfl) rfl rfl (fun F => ?_)
  unfold f_X12_owner
  refine PWk.aload_n 0 dX12_owner_0 rfl ?_
  refine PWk.iload_n 1 dX12_owner_1 rfl ?_
  refine PWk.callVi (pc_X12_isOwner I L R p1) dX12_owner_2 ml_X12_504 rfl rg_100 lc_100 vq_12 (by decide) rfl (Nat.le_of_ble_eq_true rfl) (fun x1 => ?_)
  refine PWk.if_ne 10 dX12_owner_5 (by decide) (fun h14 => ?_) (fun h14 => ?_)
  · refine PWk.iconst (v := (-1)) dX12_owner_8 ic_m1 ?_
    exact PWk.iret dX12_owner_9 rfl (fun h => h)
  · refine PWk.iload_n 2 dX12_owner_10 rfl ?_
    refine PWk.ite (fun h9 => ?_) (fun h9 => ?_)
    · refine PWk.tIn 44 (off := 33) (v := 0) dX12_owner_11 (by rw [h9]; decide) (by decide) (by decide) (by decide +kernel) (by decide) ?_
      refine PWk.aload_n 0 dX12_owner_44 rfl ?_
      refine PWk.iconst (v := 0) dX12_owner_45 ic_0 ?_
      refine PWk.iload_n 1 dX12_owner_46 rfl ?_
      refine PWk.callVi (pc_X12_lakesOf fu I L R 0 p1) dX12_owner_47 ml_X12_486 rfl rg_100 lc_100 vq_12 (by decide) rfl (Nat.le_of_ble_eq_true rfl) (fun x2 => ?_)
      exact PWk.iret dX12_owner_50 rfl (fun h => h)
    · skip
      refine PWk.ite (fun h10 => ?_) (fun h10 => ?_)
      · refine PWk.tIn 51 (off := 40) (v := 1) dX12_owner_11 (by rw [h10]; decide) (by decide) (by decide) (by decide +kernel) (by decide) ?_
        refine PWk.aload_n 0 dX12_owner_51 rfl ?_
        refine PWk.iconst (v := 0) dX12_owner_52 ic_0 ?_
        refine PWk.aload_n 0 dX12_owner_53 rfl ?_
        refine PWk.iconst (v := 0) dX12_owner_54 ic_0 ?_
        refine PWk.iload_n 1 dX12_owner_55 rfl ?_
        refine PWk.callVi (pc_X12_lakesOf fu I L R 0 p1) dX12_owner_56 ml_X12_486 rfl rg_100 lc_100 vq_12 (by decide) rfl (Nat.le_of_ble_eq_true rfl) (fun x3 => ?_)
        refine PWk.callViIL (pc_X12_worthOf fu I L R 0 x3) dX12_owner_59 ml_X12_489 rfl rg_100 lc_100 vq_12 (by decide) rfl (Nat.le_of_ble_eq_true rfl) (fun x4 => ?_)
        exact PWk.iret dX12_owner_62 rfl (fun h => h)
      · skip
        refine PWk.ite (fun h11 => ?_) (fun h11 => ?_)
        · refine PWk.tIn 63 (off := 52) (v := 2) dX12_owner_11 (by rw [h11]; decide) (by decide) (by decide) (by decide +kernel) (by decide) ?_
          refine PWk.aload_n 0 dX12_owner_63 rfl ?_
          refine PWk.iload_n 1 dX12_owner_64 rfl ?_
          refine PWk.iconst (v := 1) dX12_owner_65 ic_1 ?_
          refine PWk.callVi (pc_X12_owed fu I L R p1 1) dX12_owner_66 ml_X12_482 rfl rg_100 lc_100 vq_12 (by decide) rfl (Nat.le_of_ble_eq_true rfl) (fun x5 => ?_)
          exact PWk.iret dX12_owner_69 rfl (fun h => h)
        · skip
          refine PWk.ite (fun h12 => ?_) (fun h12 => ?_)
          · refine PWk.tIn 70 (off := 59) (v := 3) dX12_owner_11 (by rw [h12]; decide) (by decide) (by decide) (by decide +kernel) (by decide) ?_
            refine PWk.aload_n 0 dX12_owner_70 rfl ?_
            refine PWk.iload_n 1 dX12_owner_71 rfl ?_
            refine PWk.iconst (v := 0) dX12_owner_72 ic_0 ?_
            refine PWk.callVi (pc_X12_owed fu I L R p1 0) dX12_owner_73 ml_X12_482 rfl rg_100 lc_100 vq_12 (by decide) rfl (Nat.le_of_ble_eq_true rfl) (fun x6 => ?_)
            exact PWk.iret dX12_owner_76 rfl (fun h => h)
          · skip
            refine PWk.ite (fun h13 => ?_) (fun h13 => ?_)
            · refine PWk.tIn 77 (off := 66) (v := 4) dX12_owner_11 (by rw [h13]; decide) (by decide) (by decide) (by decide +kernel) (by decide) ?_
              refine PWk.aload_n 0 dX12_owner_77 rfl ?_
              refine PWk.iconst (v := 0) dX12_owner_78 ic_0 ?_
              refine PWk.iload_n 1 dX12_owner_79 rfl ?_
              refine PWk.callViIL (pc_X12_isBroke fu I L R 0 p1) dX12_owner_80 ml_X12_507 rfl rg_100 lc_100 vq_12 (by decide) rfl (Nat.le_of_ble_eq_true rfl) (fun x7 => ?_)
              refine PWk.if_eq 90 dX12_owner_83 (by decide) (fun h8 => ?_) (fun h8 => ?_)
              · refine PWk.iconst (v := 0) dX12_owner_90 ic_0 ?_
                exact PWk.iret dX12_owner_91 rfl (fun h => h)
              · refine PWk.iconst (v := 1) dX12_owner_86 ic_1 ?_
                refine PWk.goto 91 dX12_owner_87 (by decide) ?_
                exact PWk.iret dX12_owner_91 rfl (fun h => h)
            · skip
              have q_0 : (p2).toInt ≠ 0 := fun e => h9 (Int32.toInt_inj.mp (e.trans (by decide)))
              have q_1 : (p2).toInt ≠ 1 := fun e => h10 (Int32.toInt_inj.mp (e.trans (by decide)))
              have q_2 : (p2).toInt ≠ 2 := fun e => h11 (Int32.toInt_inj.mp (e.trans (by decide)))
              have q_3 : (p2).toInt ≠ 3 := fun e => h12 (Int32.toInt_inj.mp (e.trans (by decide)))
              have q_4 : (p2).toInt ≠ 4 := fun e => h13 (Int32.toInt_inj.mp (e.trans (by decide)))
              refine PWk.tOut 92 dX12_owner_11 (by omega) (by decide) ?_
              refine PWk.iconst (v := (-1)) dX12_owner_92 ic_m1 ?_
              exact PWk.iret dX12_owner_93 rfl (fun h => h)
/-! LakeMarketModel.owes(II)I -/
def f_X12_owes (I : HI) (p1 : Int32) (p2 : Int32) : Option (Int32) :=
  (f_X12_isOwner I p1).bind fun x1 =>
  if x1 = 0 then
    some (-1)
  else
    (f_X12_isOwner I p2).bind fun x2 =>
    if x2 = 0 then
      some (-1)
    else
      if p1 = p2 then
        some (-1)
      else
        (f_X12_debt I p1 p2).bind fun x3 =>
        some x3
set_option maxRecDepth 20000 in
theorem pc_X12_owes (I : HI) (L : HL) (R : HR) (p1 : Int32) (p2 : Int32) : PCo 100 147 1 yX12_owes cX12_owes 3 (some .int) [.ref 100, .int p1, .int p2] I L R (f_X12_owes I p1 p2) (fun x : Int32 => ((some (.int x), I, L, R) : HF)) := by
  refine PCo.of (own := RX12) (by decide +kernel) (Nat.le_of_ble_eq_true rfl) rfl rfl (fun F => ?_)
  unfold f_X12_owes
  refine PWk.aload_n 0 dX12_owes_0 rfl ?_
  refine PWk.iload_n 1 dX12_owes_1 rfl ?_
  refine PWk.callVi (pc_X12_isOwner I L R p1) dX12_owes_2 ml_X12_504 rfl rg_100 lc_100 vq_12 (by decide) rfl (Nat.le_of_ble_eq_true rfl) (fun x1 => ?_)
  refine PWk.if_eq 30 dX12_owes_5 (by decide) (fun h6 => ?_) (fun h6 => ?_)
  · refine PWk.iconst (v := (-1)) dX12_owes_30 ic_m1 ?_
    exact PWk.iret dX12_owes_31 rfl (fun h => h)
  · refine PWk.aload_n 0 dX12_owes_8 rfl ?_
    refine PWk.iload_n 2 dX12_owes_9 rfl ?_
    refine PWk.callVi (pc_X12_isOwner I L R p2) dX12_owes_10 ml_X12_504 rfl rg_100 lc_100 vq_12 (by decide) rfl (Nat.le_of_ble_eq_true rfl) (fun x2 => ?_)
    refine PWk.if_eq 30 dX12_owes_13 (by decide) (fun h5 => ?_) (fun h5 => ?_)
    · refine PWk.iconst (v := (-1)) dX12_owes_30 ic_m1 ?_
      exact PWk.iret dX12_owes_31 rfl (fun h => h)
    · refine PWk.iload_n 1 dX12_owes_16 rfl ?_
      refine PWk.iload_n 2 dX12_owes_17 rfl ?_
      refine PWk.icmp_eq 30 dX12_owes_18 (by decide) (fun h4 => ?_) (fun h4 => ?_)
      · refine PWk.iconst (v := (-1)) dX12_owes_30 ic_m1 ?_
        exact PWk.iret dX12_owes_31 rfl (fun h => h)
      · refine PWk.aload_n 0 dX12_owes_21 rfl ?_
        refine PWk.iload_n 1 dX12_owes_22 rfl ?_
        refine PWk.iload_n 2 dX12_owes_23 rfl ?_
        refine PWk.callVi (pc_X12_debt I L R p1 p2) dX12_owes_24 ml_X12_479 rfl rg_100 lc_100 vq_12 (by decide) rfl (Nat.le_of_ble_eq_true rfl) (fun x3 => ?_)
        refine PWk.goto 31 dX12_owes_27 (by decide) ?_
        exact PWk.iret dX12_owes_31 rfl (fun h => h)
/-! LakeMarketModel.isAhead(II)Z -/
def f_X12_isAhead (I : HI) (p1 : Int32) (p2 : Int32) : Option (Int32) :=
  (f_X12_is p1 p2 100).bind fun x1 =>
  if x1 = 0 then
    gz 0 (some 0)
  else
    ldI (I 127) 26 0 fun v2 =>
    if (9999 - p1) < v2 then
      gz 0 (some 0)
    else
      gz 1 (some 1)
set_option maxRecDepth 20000 in
theorem pc_X12_isAhead (I : HI) (L : HL) (R : HR) (p1 : Int32) (p2 : Int32) : PCo 100 147 1 yX12_isAhead cX12_isAhead 3 (some .boolean) [.ref 100, .int p1, .int p2] I L R (f_X12_isAhead I p1 p2) (fun x : Int32 => ((some (.int x), I, L, R) : HF)) := by
  refine PCo.of (own := RX12) (by decide +kernel) (Nat.le_of_ble_eq_true rfl) rfl rfl (fun F => ?_)
  unfold f_X12_isAhead
  refine PWk.iload_n 1 dX12_isAhead_0 rfl ?_
  refine PWk.iload_n 2 dX12_isAhead_1 rfl ?_
  refine PWk.bipush (v := 100) dX12_isAhead_2 bp_100 ?_
  refine PWk.callSi (pc_X12_is I L R p1 p2 100) dX12_isAhead_4 ml_X12_319 rfl (by decide) rfl (Nat.le_of_ble_eq_true rfl) (fun x1 => ?_)
  refine PWk.if_eq 28 dX12_isAhead_7 (by decide) (fun h4 => ?_) (fun h4 => ?_)
  · refine PWk.iconst (v := 0) dX12_isAhead_28 ic_0 ?_
    exact PWk.zret dX12_isAhead_29 rfl (fun h => h)
  · refine PWk.aload_n 0 dX12_isAhead_10 rfl ?_
    refine PWk.gets dX12_isAhead_11 rg_100 lc_100 fl_X12_153 rfl st_100_46 ?_
    refine PWk.iconst (v := 0) dX12_isAhead_14 ic_0 ?_
    refine PWk.iald dX12_isAhead_15 rg_127 ly_127 (fun v2 => ?_)
    refine PWk.sipush (v := 9999) dX12_isAhead_16 sp_9999 ?_
    refine PWk.iload_n 1 dX12_isAhead_19 rfl ?_
    refine PWk.isub dX12_isAhead_20 ?_
    refine PWk.icmp_gt 28 dX12_isAhead_21 (by decide) (fun h3 => ?_) (fun h3 => ?_)
    · refine PWk.iconst (v := 0) dX12_isAhead_28 ic_0 ?_
      exact PWk.zret dX12_isAhead_29 rfl (fun h => h)
    · refine PWk.iconst (v := 1) dX12_isAhead_24 ic_1 ?_
      refine PWk.goto 29 dX12_isAhead_25 (by decide) ?_
      exact PWk.zret dX12_isAhead_29 rfl (fun h => h)
/-! LakeMarketModel.later(II)I -/
def f_X12_later_L32 (fu : Nat) : Nat → HI → HL → Int32 → Int32 → Option (HI × HL)
  | 0, _, _, _, _ => none
  | n + 1, I, L, u1, u3 =>
    if u1 ≤ u3 then
      some (I, L)
    else
      (f_X12_passes fu I L 1 0).bind fun x8 =>
      f_X12_later_L32 fu n x8.2.1 x8.2.2 u1 (u3 + 1)
def f_X12_later (fu : Nat) (I : HI) (L : HL) (p1 : Int32) (p2 : Int32) : Option (Int32 × HI × HL) :=
  (f_X12_isAhead I p1 0).bind fun x1 =>
  if x1 = 0 then
    some ((-1), I, L)
  else
    jnt (β := Unit) (fun y6 =>
      (f_X12_copies fu I 1 0).bind fun x7 =>
      (f_X12_later_L32 fu fu x7 L p1 0).bind fun x10 =>
      if p2 = (-1) then
        (f_X12_allLakes x10.1).bind fun x11 =>
        (f_X12_worthOf fu x10.1 x10.2 1 x11).bind fun x12 =>
        some (x12.1, x12.2.1, x12.2.2)
      else
        (f_X12_fill x10.1 1 p2).bind fun x13 =>
        some (x13, x10.1, x10.2)) fun j2 =>
    if p2 = (-1) then
      j2 ()
    else
      (f_X12_isLake I p2).bind fun x3 =>
      if x3 = 0 then
        some ((-1), I, L)
      else
        j2 ()
set_option maxRecDepth 20000 in
theorem lp_X12_later_32 (fu : Nat) (u1 : Int32) (u2 : Int32) (R : HR) : ∀ (n : Nat) (u3 : Int32) (I : HI) (L : HL) (N : (HI × HL) → Prop) (F : HF), (∀ v : HI × HL, N v → PW 100 147 5 RX12 cX12_later 4 (some .int) 50 [(0, .ref 100), (2, .int u2)] [] v.1 v.2 R F) → PWk 100 147 5 RX12 cX12_later 4 (some .int) 32 [(0, .ref 100), (1, .int u1), (2, .int u2), (3, .int u3)] [] I L R (f_X12_later_L32 fu n I L u1 u3) N F := by
  intro n
  induction n with
  | zero => intro u3 I L N F hx; exact PWk.none'
  | succ n ih =>
    intro u3 I L N F hx
    unfold f_X12_later_L32
    refine PWk.iload_n 3 dX12_later_32 rfl ?_
    refine PWk.iload_n 1 dX12_later_33 rfl ?_
    refine PWk.icmp_ge 50 dX12_later_34 (by decide) (fun h9 => ?_) (fun h9 => ?_)
    · refine PWk.sub [0, 2] rfl ?_
      exact PWk.done (fun h => hx _ h)
    · refine PWk.aload_n 0 dX12_later_37 rfl ?_
      refine PWk.iconst (v := 1) dX12_later_38 ic_1 ?_
      refine PWk.iconst (v := 0) dX12_later_39 ic_0 ?_
      refine PWk.callViIL (pc_X12_passes fu I L R 1 0) dX12_later_40 ml_X12_513 rfl rg_100 lc_100 vq_12 (by decide) rfl (Nat.le_of_ble_eq_true rfl) (fun x8 => ?_)
      refine PWk.pop dX12_later_43 rfl ?_
      refine PWk.iinc (v := (u3 + 1)) 3 [(3, .int (u3 + 1)), (0, .ref 100), (1, .int u1), (2, .int u2)] dX12_later_44 rfl (by rw [ic_1]) (by decide) rfl ?_
      refine PWk.goto 32 dX12_later_47 (by decide) ?_
      refine PWk.sub [1, 2, 3, 0] rfl ?_
      exact ih (u3 + 1) x8.2.1 x8.2.2 N F hx
set_option maxRecDepth 20000 in
theorem pc_X12_later (fu : Nat) (I : HI) (L : HL) (R : HR) (p1 : Int32) (p2 : Int32) : PCo 100 147 5 yX12_later cX12_later 4 (some .int) [.ref 100, .int p1, .int p2] I L R (f_X12_later fu I L p1 p2) (fun x : Int32 × HI × HL => ((some (.int x.1), x.2.1, x.2.2, R) : HF)) := by
  refine PCo.of (own := RX12) (by decide +kernel) (Nat.le_of_ble_eq_true rfl) rfl rfl (fun F => ?_)
  unfold f_X12_later
  refine PWk.aload_n 0 dX12_later_0 rfl ?_
  refine PWk.iload_n 1 dX12_later_1 rfl ?_
  refine PWk.iconst (v := 0) dX12_later_2 ic_0 ?_
  refine PWk.callVi (pc_X12_isAhead I L R p1 0) dX12_later_3 ml_X12_510 rfl rg_100 lc_100 vq_12 (by decide) rfl (Nat.le_of_ble_eq_true rfl) (fun x1 => ?_)
  refine PWk.if_eq 22 dX12_later_6 (by decide) (fun h15 => ?_) (fun h15 => ?_)
  · refine PWk.iconst (v := (-1)) dX12_later_22 ic_m1 ?_
    exact PWk.iret dX12_later_23 rfl (fun h => h)
  · refine PWk.iload_n 2 dX12_later_9 rfl ?_
    refine PWk.iconst (v := (-1)) dX12_later_10 ic_m1 ?_
    refine PWk.jn (pc' := 24) (lv' := fun y6 => [(0, .ref 100), (1, .int p1), (2, .int p2)]) (st' := fun y6 => []) (I' := fun y6 => I) (L' := fun y6 => L) (R' := fun y6 => R) (fun j2 hj2 => ?_) (fun y6 => ?_)
    · refine PWk.icmp_eq 24 dX12_later_11 (by decide) (fun h5 => ?_) (fun h5 => ?_)
      · exact hj2 ()
      · refine PWk.aload_n 0 dX12_later_14 rfl ?_
        refine PWk.iload_n 2 dX12_later_15 rfl ?_
        refine PWk.callVi (pc_X12_isLake I L R p2) dX12_later_16 ml_X12_501 rfl rg_100 lc_100 vq_12 (by decide) rfl (Nat.le_of_ble_eq_true rfl) (fun x3 => ?_)
        refine PWk.if_ne 24 dX12_later_19 (by decide) (fun h4 => ?_) (fun h4 => ?_)
        · refine PWk.iconst (v := (-1)) dX12_later_22 ic_m1 ?_
          exact PWk.iret dX12_later_23 rfl (fun h => h)
        · exact hj2 ()
    · refine PWk.aload_n 0 dX12_later_24 rfl ?_
      refine PWk.iconst (v := 1) dX12_later_25 ic_1 ?_
      refine PWk.iconst (v := 0) dX12_later_26 ic_0 ?_
      refine PWk.callVvI (pc_X12_copies fu I L R 1 0) dX12_later_27 ml_X12_418 rfl rg_100 lc_100 vq_12 (by decide) rfl (Nat.le_of_ble_eq_true rfl) (fun x7 => ?_)
      refine PWk.iconst (v := 0) dX12_later_30 ic_0 ?_
      refine PWk.istore_n [(3, .int 0), (0, .ref 100), (1, .int p1), (2, .int p2)] dX12_later_31 (by decide) rfl ?_
      refine PWk.sub [1, 2, 3, 0] rfl ?_
      refine PWk.loopV (fun N' hx' => lp_X12_later_32 fu p1 p2 R fu 0 x7 L N' F hx') (fun x10 => ?_)
      refine PWk.iload_n 1 dX12_later_50 rfl ?_
      refine PWk.iconst (v := (-1)) dX12_later_51 ic_m1 ?_
      refine PWk.icmp_ne 67 dX12_later_52 (by decide) (fun h14 => ?_) (fun h14 => ?_)
      · refine PWk.aload_n 0 dX12_later_55 rfl ?_
        refine PWk.iconst (v := 1) dX12_later_56 ic_1 ?_
        refine PWk.aload_n 0 dX12_later_57 rfl ?_
        refine PWk.callVi (pc_X12_allLakes x10.1 x10.2 R) dX12_later_58 ml_X12_492 rfl rg_100 lc_100 vq_12 (by decide) rfl (Nat.le_of_ble_eq_true rfl) (fun x11 => ?_)
        refine PWk.callViIL (pc_X12_worthOf fu x10.1 x10.2 R 1 x11) dX12_later_61 ml_X12_489 rfl rg_100 lc_100 vq_12 (by decide) rfl (Nat.le_of_ble_eq_true rfl) (fun x12 => ?_)
        refine PWk.goto 73 dX12_later_64 (by decide) ?_
        exact PWk.iret dX12_later_73 rfl (fun h => h)
      · refine PWk.aload_n 0 dX12_later_67 rfl ?_
        refine PWk.iconst (v := 1) dX12_later_68 ic_1 ?_
        refine PWk.iload_n 1 dX12_later_69 rfl ?_
        refine PWk.callVi (pc_X12_fill x10.1 x10.2 R 1 p2) dX12_later_70 ml_X12_440 rfl rg_100 lc_100 vq_12 (by decide) rfl (Nat.le_of_ble_eq_true rfl) (fun x13 => ?_)
        exact PWk.iret dX12_later_73 rfl (fun h => h)
/-! LakeMarketModel.broke(I)I -/
def f_X12_broke_L18 (fu : Nat) : Nat → HI → HL → Int32 → Int32 → Option ((Int32 × HI × HL) ⊕ (HI × HL))
  | 0, _, _, _, _ => none
  | n + 1, I, L, u1, u2 =>
    (f_X12_isAhead I u2 0).bind fun x3 =>
    if x3 = 0 then
      some (.inr (I, L))
    else
      (f_X12_isBroke fu I L 1 u1).bind fun x4 =>
      if x4.1 = 0 then
        (f_X12_passes fu x4.2.1 x4.2.2 1 0).bind fun x5 =>
        f_X12_broke_L18 fu n x5.2.1 x5.2.2 u1 (u2 + 1)
      else
        some (.inl (u2, x4.2.1, x4.2.2))
def f_X12_broke (fu : Nat) (I : HI) (L : HL) (p1 : Int32) : Option (Int32 × HI × HL) :=
  (f_X12_isOwner I p1).bind fun x1 =>
  if x1 = 0 then
    some ((-1), I, L)
  else
    (f_X12_copies fu I 1 0).bind fun x2 =>
    (f_X12_broke_L18 fu fu x2 L p1 0).bind (Sum.elim (fun r => some r) fun x8 =>
    some ((-1), x8.1, x8.2))
set_option maxRecDepth 20000 in
theorem lp_X12_broke_18 (fu : Nat) (u1 : Int32) (R : HR) : ∀ (n : Nat) (u2 : Int32) (I : HI) (L : HL) (N : ((Int32 × HI × HL) ⊕ (HI × HL)) → Prop) (F : HF), (∀ v : HI × HL, N (.inr v) → PW 100 147 6 RX12 cX12_broke 3 (some .int) 51 [] [] v.1 v.2 R F) → (∀ r : Int32 × HI × HL, N (.inl r) → F = (fun x : Int32 × HI × HL => ((some (.int x.1), x.2.1, x.2.2, R) : HF)) r) → PWk 100 147 6 RX12 cX12_broke 3 (some .int) 18 [(0, .ref 100), (1, .int u1), (2, .int u2)] [] I L R (f_X12_broke_L18 fu n I L u1 u2) N F := by
  intro n
  induction n with
  | zero => intro u2 I L N F hx hr; exact PWk.none'
  | succ n ih =>
    intro u2 I L N F hx hr
    unfold f_X12_broke_L18
    refine PWk.aload_n 0 dX12_broke_18 rfl ?_
    refine PWk.iload_n 2 dX12_broke_19 rfl ?_
    refine PWk.iconst (v := 0) dX12_broke_20 ic_0 ?_
    refine PWk.callVi (pc_X12_isAhead I L R u2 0) dX12_broke_21 ml_X12_510 rfl rg_100 lc_100 vq_12 (by decide) rfl (Nat.le_of_ble_eq_true rfl) (fun x3 => ?_)
    refine PWk.if_eq 51 dX12_broke_24 (by decide) (fun h7 => ?_) (fun h7 => ?_)
    · refine PWk.sub [] rfl ?_
      exact PWk.done (fun h => hx _ h)
    · refine PWk.aload_n 0 dX12_broke_27 rfl ?_
      refine PWk.iconst (v := 1) dX12_broke_28 ic_1 ?_
      refine PWk.iload_n 1 dX12_broke_29 rfl ?_
      refine PWk.callViIL (pc_X12_isBroke fu I L R 1 u1) dX12_broke_30 ml_X12_507 rfl rg_100 lc_100 vq_12 (by decide) rfl (Nat.le_of_ble_eq_true rfl) (fun x4 => ?_)
      refine PWk.if_eq 38 dX12_broke_33 (by decide) (fun h6 => ?_) (fun h6 => ?_)
      · refine PWk.aload_n 0 dX12_broke_38 rfl ?_
        refine PWk.iconst (v := 1) dX12_broke_39 ic_1 ?_
        refine PWk.iconst (v := 0) dX12_broke_40 ic_0 ?_
        refine PWk.callViIL (pc_X12_passes fu x4.2.1 x4.2.2 R 1 0) dX12_broke_41 ml_X12_513 rfl rg_100 lc_100 vq_12 (by decide) rfl (Nat.le_of_ble_eq_true rfl) (fun x5 => ?_)
        refine PWk.pop dX12_broke_44 rfl ?_
        refine PWk.iinc (v := (u2 + 1)) 2 [(2, .int (u2 + 1)), (0, .ref 100), (1, .int u1)] dX12_broke_45 rfl (by rw [ic_1]) (by decide) rfl ?_
        refine PWk.goto 18 dX12_broke_48 (by decide) ?_
        refine PWk.sub [1, 2, 0] rfl ?_
        exact ih (u2 + 1) x5.2.1 x5.2.2 N F hx hr
      · refine PWk.iload_n 2 dX12_broke_36 rfl ?_
        exact PWk.iret dX12_broke_37 rfl (hr _)
set_option maxRecDepth 20000 in
theorem pc_X12_broke (fu : Nat) (I : HI) (L : HL) (R : HR) (p1 : Int32) : PCo 100 147 6 yX12_broke cX12_broke 3 (some .int) [.ref 100, .int p1] I L R (f_X12_broke fu I L p1) (fun x : Int32 × HI × HL => ((some (.int x.1), x.2.1, x.2.2, R) : HF)) := by
  refine PCo.of (own := RX12) (by decide +kernel) (Nat.le_of_ble_eq_true rfl) rfl rfl (fun F => ?_)
  unfold f_X12_broke
  refine PWk.aload_n 0 dX12_broke_0 rfl ?_
  refine PWk.iload_n 1 dX12_broke_1 rfl ?_
  refine PWk.callVi (pc_X12_isOwner I L R p1) dX12_broke_2 ml_X12_504 rfl rg_100 lc_100 vq_12 (by decide) rfl (Nat.le_of_ble_eq_true rfl) (fun x1 => ?_)
  refine PWk.if_ne 10 dX12_broke_5 (by decide) (fun h9 => ?_) (fun h9 => ?_)
  · refine PWk.iconst (v := (-1)) dX12_broke_8 ic_m1 ?_
    exact PWk.iret dX12_broke_9 rfl (fun h => h)
  · refine PWk.aload_n 0 dX12_broke_10 rfl ?_
    refine PWk.iconst (v := 1) dX12_broke_11 ic_1 ?_
    refine PWk.iconst (v := 0) dX12_broke_12 ic_0 ?_
    refine PWk.callVvI (pc_X12_copies fu I L R 1 0) dX12_broke_13 ml_X12_418 rfl rg_100 lc_100 vq_12 (by decide) rfl (Nat.le_of_ble_eq_true rfl) (fun x2 => ?_)
    refine PWk.iconst (v := 0) dX12_broke_16 ic_0 ?_
    refine PWk.istore_n [(2, .int 0), (0, .ref 100), (1, .int p1)] dX12_broke_17 (by decide) rfl ?_
    refine PWk.sub [1, 2, 0] rfl ?_
    refine PWk.loopS (fun N' hx' hr' => lp_X12_broke_18 fu p1 R fu 0 x2 L N' F hx' hr') (fun r a e h => by cases e; exact h) (fun x8 => ?_)
    refine PWk.iconst (v := (-1)) dX12_broke_51 ic_m1 ?_
    exact PWk.iret dX12_broke_52 rfl (fun h => h)
/-! LakeMarketModel.spend(II)I -/
def f_X12_spend_L42 (fu : Nat) : Nat → HI → HL → Int32 → Int32 → Int32 → Int32 → Option (Int32 × Int32 × HI × HL)
  | 0, _, _, _, _, _, _ => none
  | n + 1, I, L, u1, u3, u4, u5 =>
    (f_X12_isAhead I u5 0).bind fun x5 =>
    if x5 = 0 then
      some (u3, u4, I, L)
    else
      (f_X12_worth fu I L 1 u1).bind fun x6 =>
      jnt (β := Int32 × Int32 × HI × HL) (fun y10 =>
        (f_X12_passes fu y10.2.2.1 y10.2.2.2 1 0).bind fun x11 =>
        f_X12_spend_L42 fu n x11.2.1 x11.2.2 u1 y10.1 y10.2.1 (u5 + 1)) fun j7 =>
      if x6.1 ≤ u4 then
        j7 (u3, u4, x6.2.1, x6.2.2)
      else
        (f_X12_worth fu x6.2.1 x6.2.2 1 u1).bind fun x8 =>
        j7 (u5, x8.1, x8.2.1, x8.2.2)
def f_X12_spend (fu : Nat) (I : HI) (L : HL) (p1 : Int32) (p2 : Int32) : Option (Int32 × HI × HL) :=
  (f_X12_isLake I p1).bind fun x1 =>
  if x1 = 0 then
    some ((-1), I, L)
  else
    (f_X12_fill I 0 p1).bind fun x2 =>
    if x2 = 0 then
      some ((-1), I, L)
    else
      (f_X12_is p2 0 1).bind fun x3 =>
      if x3 = 0 then
        some ((-1), I, L)
      else
        (f_X12_copies fu I 1 0).bind fun x4 =>
        (f_X12_spend_L42 fu fu x4 L p1 0 (-1) 0).bind fun x13 =>
        if p2 = 0 then
          some (x13.1, x13.2.2.1, x13.2.2.2)
        else
          some (x13.2.1, x13.2.2.1, x13.2.2.2)
set_option maxRecDepth 20000 in
theorem lp_X12_spend_42 (fu : Nat) (u1 : Int32) (u2 : Int32) (R : HR) : ∀ (n : Nat) (u3 : Int32) (u4 : Int32) (u5 : Int32) (I : HI) (L : HL) (N : (Int32 × Int32 × HI × HL) → Prop) (F : HF), (∀ v : Int32 × Int32 × HI × HL, N v → PW 100 147 5 RX12 cX12_spend 6 (some .int) 87 [(2, .int u2), (3, .int v.1), (4, .int v.2.1)] [] v.2.2.1 v.2.2.2 R F) → PWk 100 147 5 RX12 cX12_spend 6 (some .int) 42 [(0, .ref 100), (1, .int u1), (2, .int u2), (3, .int u3), (4, .int u4), (5, .int u5)] [] I L R (f_X12_spend_L42 fu n I L u1 u3 u4 u5) N F := by
  intro n
  induction n with
  | zero => intro u3 u4 u5 I L N F hx; exact PWk.none'
  | succ n ih =>
    intro u3 u4 u5 I L N F hx
    unfold f_X12_spend_L42
    refine PWk.aload_n 0 dX12_spend_42 rfl ?_
    refine PWk.iload 5 dX12_spend_43 rfl ?_
    refine PWk.iconst (v := 0) dX12_spend_45 ic_0 ?_
    refine PWk.callVi (pc_X12_isAhead I L R u5 0) dX12_spend_46 ml_X12_510 rfl rg_100 lc_100 vq_12 (by decide) rfl (Nat.le_of_ble_eq_true rfl) (fun x5 => ?_)
    refine PWk.if_eq 87 dX12_spend_49 (by decide) (fun h12 => ?_) (fun h12 => ?_)
    · refine PWk.sub [2, 3, 4] rfl ?_
      exact PWk.done (fun h => hx _ h)
    · refine PWk.aload_n 0 dX12_spend_52 rfl ?_
      refine PWk.iconst (v := 1) dX12_spend_53 ic_1 ?_
      refine PWk.iload_n 1 dX12_spend_54 rfl ?_
      refine PWk.callViIL (pc_X12_worth fu I L R 1 u1) dX12_spend_55 ml_X12_476 rfl rg_100 lc_100 vq_12 (by decide) rfl (Nat.le_of_ble_eq_true rfl) (fun x6 => ?_)
      refine PWk.iload 4 dX12_spend_58 rfl ?_
      refine PWk.jn (pc' := 74) (lv' := fun y10 => [(0, .ref 100), (1, .int u1), (2, .int u2), (3, .int y10.1), (4, .int y10.2.1), (5, .int u5)]) (st' := fun y10 => []) (I' := fun y10 => y10.2.2.1) (L' := fun y10 => y10.2.2.2) (R' := fun y10 => R) (fun j7 hj7 => ?_) (fun y10 => ?_)
      · refine PWk.icmp_le 74 dX12_spend_60 (by decide) (fun h9 => ?_) (fun h9 => ?_)
        · exact hj7 (u3, u4, x6.2.1, x6.2.2)
        · refine PWk.aload_n 0 dX12_spend_63 rfl ?_
          refine PWk.iconst (v := 1) dX12_spend_64 ic_1 ?_
          refine PWk.iload_n 1 dX12_spend_65 rfl ?_
          refine PWk.callViIL (pc_X12_worth fu x6.2.1 x6.2.2 R 1 u1) dX12_spend_66 ml_X12_476 rfl rg_100 lc_100 vq_12 (by decide) rfl (Nat.le_of_ble_eq_true rfl) (fun x8 => ?_)
          refine PWk.istore [(4, .int x8.1), (0, .ref 100), (1, .int u1), (2, .int u2), (3, .int u3), (5, .int u5)] dX12_spend_69 (by decide) rfl ?_
          refine PWk.iload 5 dX12_spend_71 rfl ?_
          refine PWk.istore_n [(3, .int u5), (4, .int x8.1), (0, .ref 100), (1, .int u1), (2, .int u2), (5, .int u5)] dX12_spend_73 (by decide) rfl ?_
          refine PWk.sub [2, 3, 4, 0, 1, 5] rfl ?_
          exact hj7 (u5, x8.1, x8.2.1, x8.2.2)
      · refine PWk.aload_n 0 dX12_spend_74 rfl ?_
        refine PWk.iconst (v := 1) dX12_spend_75 ic_1 ?_
        refine PWk.iconst (v := 0) dX12_spend_76 ic_0 ?_
        refine PWk.callViIL (pc_X12_passes fu y10.2.2.1 y10.2.2.2 R 1 0) dX12_spend_77 ml_X12_513 rfl rg_100 lc_100 vq_12 (by decide) rfl (Nat.le_of_ble_eq_true rfl) (fun x11 => ?_)
        refine PWk.pop dX12_spend_80 rfl ?_
        refine PWk.iinc (v := (u5 + 1)) 5 [(5, .int (u5 + 1)), (0, .ref 100), (1, .int u1), (2, .int u2), (3, .int y10.1), (4, .int y10.2.1)] dX12_spend_81 rfl (by rw [ic_1]) (by decide) rfl ?_
        refine PWk.goto 42 dX12_spend_84 (by decide) ?_
        refine PWk.sub [1, 2, 3, 4, 5, 0] rfl ?_
        exact ih y10.1 y10.2.1 (u5 + 1) x11.2.1 x11.2.2 N F hx
set_option maxRecDepth 20000 in
theorem pc_X12_spend (fu : Nat) (I : HI) (L : HL) (R : HR) (p1 : Int32) (p2 : Int32) : PCo 100 147 5 yX12_spend cX12_spend 6 (some .int) [.ref 100, .int p1, .int p2] I L R (f_X12_spend fu I L p1 p2) (fun x : Int32 × HI × HL => ((some (.int x.1), x.2.1, x.2.2, R) : HF)) := by
  refine PCo.of (own := RX12) (by decide +kernel) (Nat.le_of_ble_eq_true rfl) rfl rfl (fun F => ?_)
  unfold f_X12_spend
  refine PWk.aload_n 0 dX12_spend_0 rfl ?_
  refine PWk.iload_n 1 dX12_spend_1 rfl ?_
  refine PWk.callVi (pc_X12_isLake I L R p1) dX12_spend_2 ml_X12_501 rfl rg_100 lc_100 vq_12 (by decide) rfl (Nat.le_of_ble_eq_true rfl) (fun x1 => ?_)
  refine PWk.if_eq 26 dX12_spend_5 (by decide) (fun h17 => ?_) (fun h17 => ?_)
  · refine PWk.iconst (v := (-1)) dX12_spend_26 ic_m1 ?_
    exact PWk.iret dX12_spend_27 rfl (fun h => h)
  · refine PWk.aload_n 0 dX12_spend_8 rfl ?_
    refine PWk.iconst (v := 0) dX12_spend_9 ic_0 ?_
    refine PWk.iload_n 1 dX12_spend_10 rfl ?_
    refine PWk.callVi (pc_X12_fill I L R 0 p1) dX12_spend_11 ml_X12_440 rfl rg_100 lc_100 vq_12 (by decide) rfl (Nat.le_of_ble_eq_true rfl) (fun x2 => ?_)
    refine PWk.if_eq 26 dX12_spend_14 (by decide) (fun h16 => ?_) (fun h16 => ?_)
    · refine PWk.iconst (v := (-1)) dX12_spend_26 ic_m1 ?_
      exact PWk.iret dX12_spend_27 rfl (fun h => h)
    · refine PWk.iload_n 2 dX12_spend_17 rfl ?_
      refine PWk.iconst (v := 0) dX12_spend_18 ic_0 ?_
      refine PWk.iconst (v := 1) dX12_spend_19 ic_1 ?_
      refine PWk.callSi (pc_X12_is I L R p2 0 1) dX12_spend_20 ml_X12_319 rfl (by decide) rfl (Nat.le_of_ble_eq_true rfl) (fun x3 => ?_)
      refine PWk.if_ne 28 dX12_spend_23 (by decide) (fun h15 => ?_) (fun h15 => ?_)
      · refine PWk.iconst (v := (-1)) dX12_spend_26 ic_m1 ?_
        exact PWk.iret dX12_spend_27 rfl (fun h => h)
      · refine PWk.aload_n 0 dX12_spend_28 rfl ?_
        refine PWk.iconst (v := 1) dX12_spend_29 ic_1 ?_
        refine PWk.iconst (v := 0) dX12_spend_30 ic_0 ?_
        refine PWk.callVvI (pc_X12_copies fu I L R 1 0) dX12_spend_31 ml_X12_418 rfl rg_100 lc_100 vq_12 (by decide) rfl (Nat.le_of_ble_eq_true rfl) (fun x4 => ?_)
        refine PWk.iconst (v := 0) dX12_spend_34 ic_0 ?_
        refine PWk.istore_n [(3, .int 0), (0, .ref 100), (1, .int p1), (2, .int p2)] dX12_spend_35 (by decide) rfl ?_
        refine PWk.iconst (v := (-1)) dX12_spend_36 ic_m1 ?_
        refine PWk.istore [(4, .int (-1)), (3, .int 0), (0, .ref 100), (1, .int p1), (2, .int p2)] dX12_spend_37 (by decide) rfl ?_
        refine PWk.iconst (v := 0) dX12_spend_39 ic_0 ?_
        refine PWk.istore [(5, .int 0), (4, .int (-1)), (3, .int 0), (0, .ref 100), (1, .int p1), (2, .int p2)] dX12_spend_40 (by decide) rfl ?_
        refine PWk.sub [3, 4, 5, 2, 1, 0] rfl ?_
        refine PWk.loopV (fun N' hx' => lp_X12_spend_42 fu p1 p2 R fu 0 (-1) 0 x4 L N' F hx') (fun x13 => ?_)
        refine PWk.iload_n 0 dX12_spend_87 rfl ?_
        refine PWk.if_ne 95 dX12_spend_88 (by decide) (fun h14 => ?_) (fun h14 => ?_)
        · refine PWk.iload_n 1 dX12_spend_91 rfl ?_
          refine PWk.goto 97 dX12_spend_92 (by decide) ?_
          exact PWk.iret dX12_spend_97 rfl (fun h => h)
        · refine PWk.iload 2 dX12_spend_95 rfl ?_
          exact PWk.iret dX12_spend_97 rfl (fun h => h)
/-! LakeMarketModel.price(III)I -/
def f_X12_price_L49 (fu : Nat) : Nat → HI → HL → Int32 → Int32 → Int32 → Int32 → Int32 → Option (Int32 × Int32 × HI × HL)
  | 0, _, _, _, _, _, _, _ => none
  | n + 1, I, L, u2, u4, u5, u6, u7 =>
    if u4 < u7 then
      some (u5, u6, I, L)
    else
      jnt (β := Int32 × Int32 × HI × HL) (fun y17 =>
        f_X12_price_L49 fu n y17.2.2.1 y17.2.2.2 u2 u4 y17.1 y17.2.1 (u7 + 1)) fun j5 =>
      if (u7 &&& (u4 ^^^ (-1))) = 0 then
        (f_X12_worthOf fu I L 0 u7).bind fun x6 =>
        bnd ((x6.1 - u2)) fun v7 =>
        if v7 < 0 then
          j5 (u5, u6, x6.2.1, x6.2.2)
        else
          if u6 < v7 then
            j5 (u5, u6, x6.2.1, x6.2.2)
          else
            jnt (β := Unit) (fun y13 =>
              j5 (u7, v7, x6.2.1, x6.2.2)) fun j8 =>
            if v7 = u6 then
              (f_X12_bits fu u7).bind fun x9 =>
              (f_X12_bits fu u5).bind fun x10 =>
              if x9 < x10 then
                j8 ()
              else
                j5 (u5, u6, x6.2.1, x6.2.2)
            else
              j8 ()
      else
        j5 (u5, u6, I, L)
def f_X12_price (fu : Nat) (I : HI) (L : HL) (p1 : Int32) (p2 : Int32) (p3 : Int32) : Option (Int32 × HI × HL) :=
  (f_X12_isOwner I p1).bind fun x1 =>
  if x1 = 0 then
    some ((-1), I, L)
  else
    (f_X12_is p2 0 9999).bind fun x2 =>
    if x2 = 0 then
      some ((-1), I, L)
    else
      (f_X12_is p3 0 1).bind fun x3 =>
      if x3 = 0 then
        some ((-1), I, L)
      else
        (f_X12_lakesOf fu I 0 p1).bind fun x4 =>
        (f_X12_price_L49 fu fu I L p2 x4 (-1) 100000000 0).bind fun x19 =>
        jnt (β := Unit) (fun y23 =>
          some (x19.1, x19.2.2.1, x19.2.2.2)) fun j20 =>
        if x19.1 = (-1) then
          j20 ()
        else
          if p3 = 0 then
            j20 ()
          else
            some (x19.2.1, x19.2.2.1, x19.2.2.2)
set_option maxRecDepth 20000 in
theorem lp_X12_price_49 (fu : Nat) (u2 : Int32) (u3 : Int32) (u4 : Int32) (R : HR) : ∀ (n : Nat) (u5 : Int32) (u6 : Int32) (u7 : Int32) (I : HI) (L : HL) (N : (Int32 × Int32 × HI × HL) → Prop) (F : HF), (∀ v : Int32 × Int32 × HI × HL, N v → PW 100 147 5 RX12 cX12_price 9 (some .int) 129 [(3, .int u3), (5, .int v.1), (6, .int v.2.1)] [] v.2.2.1 v.2.2.2 R F) → PWk 100 147 5 RX12 cX12_price 9 (some .int) 49 [(0, .ref 100), (2, .int u2), (3, .int u3), (4, .int u4), (5, .int u5), (6, .int u6), (7, .int u7)] [] I L R (f_X12_price_L49 fu n I L u2 u4 u5 u6 u7) N F := by
  intro n
  induction n with
  | zero => intro u5 u6 u7 I L N F hx; exact PWk.none'
  | succ n ih =>
    intro u5 u6 u7 I L N F hx
    unfold f_X12_price_L49
    refine PWk.iload 6 dX12_price_49 rfl ?_
    refine PWk.iload 3 dX12_price_51 rfl ?_
    refine PWk.icmp_gt 129 dX12_price_53 (by decide) (fun h18 => ?_) (fun h18 => ?_)
    · refine PWk.sub [2, 4, 5] rfl ?_
      exact PWk.done (fun h => hx _ h)
    · refine PWk.iload 6 dX12_price_56 rfl ?_
      refine PWk.iload 3 dX12_price_58 rfl ?_
      refine PWk.iconst (v := (-1)) dX12_price_60 ic_m1 ?_
      refine PWk.ixor dX12_price_61 ?_
      refine PWk.iand dX12_price_62 ?_
      refine PWk.jn (pc' := 123) (lv' := fun y17 => [(0, .ref 100), (2, .int u2), (3, .int u3), (4, .int u4), (5, .int y17.1), (6, .int y17.2.1), (7, .int u7)]) (st' := fun y17 => []) (I' := fun y17 => y17.2.2.1) (L' := fun y17 => y17.2.2.2) (R' := fun y17 => R) (fun j5 hj5 => ?_) (fun y17 => ?_)
      · refine PWk.if_eq 69 dX12_price_63 (by decide) (fun h16 => ?_) (fun h16 => ?_)
        · refine PWk.aload_n 0 dX12_price_69 rfl ?_
          refine PWk.iconst (v := 0) dX12_price_70 ic_0 ?_
          refine PWk.iload 6 dX12_price_71 rfl ?_
          refine PWk.callViIL (pc_X12_worthOf fu I L R 0 u7) dX12_price_73 ml_X12_489 rfl rg_100 lc_100 vq_12 (by decide) rfl (Nat.le_of_ble_eq_true rfl) (fun x6 => ?_)
          refine PWk.iload_n 1 dX12_price_76 rfl ?_
          refine PWk.isub dX12_price_77 ?_
          refine PWk.bi (fun v7 => ?_)
          refine PWk.istore [(8, .int v7), (0, .ref 100), (2, .int u2), (3, .int u3), (4, .int u4), (5, .int u5), (6, .int u6), (7, .int u7)] dX12_price_78 (by decide) rfl ?_
          refine PWk.iload 0 dX12_price_80 rfl ?_
          refine PWk.if_lt 123 dX12_price_82 (by decide) (fun h15 => ?_) (fun h15 => ?_)
          · refine PWk.sub [1, 2, 3, 4, 5, 6, 7] rfl ?_
            exact hj5 (u5, u6, x6.2.1, x6.2.2)
          · refine PWk.iload 0 dX12_price_85 rfl ?_
            refine PWk.iload 6 dX12_price_87 rfl ?_
            refine PWk.icmp_gt 123 dX12_price_89 (by decide) (fun h14 => ?_) (fun h14 => ?_)
            · refine PWk.sub [1, 2, 3, 4, 5, 6, 7] rfl ?_
              exact hj5 (u5, u6, x6.2.1, x6.2.2)
            · refine PWk.iload 0 dX12_price_92 rfl ?_
              refine PWk.iload 6 dX12_price_94 rfl ?_
              refine PWk.jn (pc' := 115) (lv' := fun y13 => [(0, .ref 100), (2, .int u2), (3, .int u3), (4, .int u4), (7, .int u7), (8, .int v7)]) (st' := fun y13 => []) (I' := fun y13 => x6.2.1) (L' := fun y13 => x6.2.2) (R' := fun y13 => R) (fun j8 hj8 => ?_) (fun y13 => ?_)
              · refine PWk.icmp_ne 115 dX12_price_96 (by decide) (fun h12 => ?_) (fun h12 => ?_)
                · refine PWk.iload 7 dX12_price_99 rfl ?_
                  refine PWk.callSi (pc_X12_bits fu x6.2.1 x6.2.2 R u7) dX12_price_101 ml_X12_517 rfl (by decide) rfl (Nat.le_of_ble_eq_true rfl) (fun x9 => ?_)
                  refine PWk.iload 5 dX12_price_104 rfl ?_
                  refine PWk.callSi (pc_X12_bits fu x6.2.1 x6.2.2 R u5) dX12_price_106 ml_X12_517 rfl (by decide) rfl (Nat.le_of_ble_eq_true rfl) (fun x10 => ?_)
                  refine PWk.icmp_lt 115 dX12_price_109 (by decide) (fun h11 => ?_) (fun h11 => ?_)
                  · refine PWk.sub [1, 2, 3, 4, 7, 0] rfl ?_
                    exact hj8 ()
                  · refine PWk.goto 123 dX12_price_112 (by decide) ?_
                    refine PWk.sub [1, 2, 3, 4, 5, 6, 7] rfl ?_
                    exact hj5 (u5, u6, x6.2.1, x6.2.2)
                · refine PWk.sub [1, 2, 3, 4, 7, 0] rfl ?_
                  exact hj8 ()
              · refine PWk.iload 5 dX12_price_115 rfl ?_
                refine PWk.istore [(6, .int v7), (0, .ref 100), (2, .int u2), (3, .int u3), (4, .int u4), (7, .int u7), (8, .int v7)] dX12_price_117 (by decide) rfl ?_
                refine PWk.iload 5 dX12_price_119 rfl ?_
                refine PWk.istore [(5, .int u7), (6, .int v7), (0, .ref 100), (2, .int u2), (3, .int u3), (4, .int u4), (7, .int u7), (8, .int v7)] dX12_price_121 (by decide) rfl ?_
                refine PWk.sub [2, 3, 4, 5, 0, 1, 6] rfl ?_
                exact hj5 (u7, v7, x6.2.1, x6.2.2)
        · refine PWk.goto 123 dX12_price_66 (by decide) ?_
          exact hj5 (u5, u6, I, L)
      · refine PWk.iinc (v := (u7 + 1)) 6 [(7, .int (u7 + 1)), (0, .ref 100), (2, .int u2), (3, .int u3), (4, .int u4), (5, .int y17.1), (6, .int y17.2.1)] dX12_price_123 rfl (by rw [ic_1]) (by decide) rfl ?_
        refine PWk.goto 49 dX12_price_126 (by decide) ?_
        refine PWk.sub [1, 2, 3, 4, 5, 6, 0] rfl ?_
        exact ih y17.1 y17.2.1 (u7 + 1) y17.2.2.1 y17.2.2.2 N F hx
set_option maxRecDepth 20000 in
theorem pc_X12_price (fu : Nat) (I : HI) (L : HL) (R : HR) (p1 : Int32) (p2 : Int32) (p3 : Int32) : PCo 100 147 5 yX12_price cX12_price 9 (some .int) [.ref 100, .int p1, .int p2, .int p3] I L R (f_X12_price fu I L p1 p2 p3) (fun x : Int32 × HI × HL => ((some (.int x.1), x.2.1, x.2.2, R) : HF)) := by
  refine PCo.of (own := RX12) (by decide +kernel) (Nat.le_of_ble_eq_true rfl) rfl rfl (fun F => ?_)
  unfold f_X12_price
  refine PWk.aload_n 0 dX12_price_0 rfl ?_
  refine PWk.iload_n 1 dX12_price_1 rfl ?_
  refine PWk.callVi (pc_X12_isOwner I L R p1) dX12_price_2 ml_X12_504 rfl rg_100 lc_100 vq_12 (by decide) rfl (Nat.le_of_ble_eq_true rfl) (fun x1 => ?_)
  refine PWk.if_eq 28 dX12_price_5 (by decide) (fun h26 => ?_) (fun h26 => ?_)
  · refine PWk.iconst (v := (-1)) dX12_price_28 ic_m1 ?_
    exact PWk.iret dX12_price_29 rfl (fun h => h)
  · refine PWk.iload_n 2 dX12_price_8 rfl ?_
    refine PWk.iconst (v := 0) dX12_price_9 ic_0 ?_
    refine PWk.sipush (v := 9999) dX12_price_10 sp_9999 ?_
    refine PWk.callSi (pc_X12_is I L R p2 0 9999) dX12_price_13 ml_X12_319 rfl (by decide) rfl (Nat.le_of_ble_eq_true rfl) (fun x2 => ?_)
    refine PWk.if_eq 28 dX12_price_16 (by decide) (fun h25 => ?_) (fun h25 => ?_)
    · refine PWk.iconst (v := (-1)) dX12_price_28 ic_m1 ?_
      exact PWk.iret dX12_price_29 rfl (fun h => h)
    · refine PWk.iload_n 3 dX12_price_19 rfl ?_
      refine PWk.iconst (v := 0) dX12_price_20 ic_0 ?_
      refine PWk.iconst (v := 1) dX12_price_21 ic_1 ?_
      refine PWk.callSi (pc_X12_is I L R p3 0 1) dX12_price_22 ml_X12_319 rfl (by decide) rfl (Nat.le_of_ble_eq_true rfl) (fun x3 => ?_)
      refine PWk.if_ne 30 dX12_price_25 (by decide) (fun h24 => ?_) (fun h24 => ?_)
      · refine PWk.iconst (v := (-1)) dX12_price_28 ic_m1 ?_
        exact PWk.iret dX12_price_29 rfl (fun h => h)
      · refine PWk.aload_n 0 dX12_price_30 rfl ?_
        refine PWk.iconst (v := 0) dX12_price_31 ic_0 ?_
        refine PWk.iload_n 1 dX12_price_32 rfl ?_
        refine PWk.callVi (pc_X12_lakesOf fu I L R 0 p1) dX12_price_33 ml_X12_486 rfl rg_100 lc_100 vq_12 (by decide) rfl (Nat.le_of_ble_eq_true rfl) (fun x4 => ?_)
        refine PWk.istore [(4, .int x4), (0, .ref 100), (1, .int p1), (2, .int p2), (3, .int p3)] dX12_price_36 (by decide) rfl ?_
        refine PWk.iconst (v := (-1)) dX12_price_38 ic_m1 ?_
        refine PWk.istore [(5, .int (-1)), (4, .int x4), (0, .ref 100), (1, .int p1), (2, .int p2), (3, .int p3)] dX12_price_39 (by decide) rfl ?_
        refine PWk.ldcw (v := 100000000) dX12_price_41 kc_X12_516 ?_
        refine PWk.istore [(6, .int 100000000), (5, .int (-1)), (4, .int x4), (0, .ref 100), (1, .int p1), (2, .int p2), (3, .int p3)] dX12_price_44 (by decide) rfl ?_
        refine PWk.iconst (v := 0) dX12_price_46 ic_0 ?_
        refine PWk.istore [(7, .int 0), (6, .int 100000000), (5, .int (-1)), (4, .int x4), (0, .ref 100), (1, .int p1), (2, .int p2), (3, .int p3)] dX12_price_47 (by decide) rfl ?_
        refine PWk.sub [4, 6, 7, 3, 2, 1, 0] rfl ?_
        refine PWk.loopV (fun N' hx' => lp_X12_price_49 fu p2 p3 x4 R fu (-1) 100000000 0 I L N' F hx') (fun x19 => ?_)
        refine PWk.iload 1 dX12_price_129 rfl ?_
        refine PWk.iconst (v := (-1)) dX12_price_131 ic_m1 ?_
        refine PWk.jn (pc' := 139) (lv' := fun y23 => [(5, .int x19.1)]) (st' := fun y23 => []) (I' := fun y23 => x19.2.2.1) (L' := fun y23 => x19.2.2.2) (R' := fun y23 => R) (fun j20 hj20 => ?_) (fun y23 => ?_)
        · refine PWk.icmp_eq 139 dX12_price_132 (by decide) (fun h22 => ?_) (fun h22 => ?_)
          · refine PWk.sub [1] rfl ?_
            exact hj20 ()
          · refine PWk.iload_n 0 dX12_price_135 rfl ?_
            refine PWk.if_ne 144 dX12_price_136 (by decide) (fun h21 => ?_) (fun h21 => ?_)
            · refine PWk.sub [1] rfl ?_
              exact hj20 ()
            · refine PWk.iload 2 dX12_price_144 rfl ?_
              exact PWk.iret dX12_price_146 rfl (fun h => h)
        · refine PWk.iload 0 dX12_price_139 rfl ?_
          refine PWk.goto 146 dX12_price_141 (by decide) ?_
          exact PWk.iret dX12_price_146 rfl (fun h => h)
/-! LakeMarketModel.astray(I)I -/
def f_X12_astray_L4 : Nat → HI → Int32 → Int32 → Int32 → Option (Int32)
  | 0, _, _, _, _ => none
  | n + 1, I, u1, u2, u3 =>
    ldI (I 106) 2 (I 100 13) fun v1 =>
    if v1 ≤ u3 then
      some u2
    else
      ldI (I 137) 8 u3 fun v2 =>
      jnt (β := Int32) (fun y10 =>
        bnd ((u2 + y10)) fun v11 =>
        f_X12_astray_L4 n I u1 v11 (u3 + 1)) fun j4 =>
      jnt (β := Unit) (fun y9 =>
        j4 0) fun j3 =>
      if v2 = (-1) then
        j3 ()
      else
        (f_X12_liesIn I u1 u3).bind fun x5 =>
        ldI (I 137) 8 u3 fun v6 =>
        if x5 = v6 then
          j3 ()
        else
          j4 1
def f_X12_astray (fu : Nat) (I : HI) (p1 : Int32) : Option (Int32) :=
  (f_X12_astray_L4 fu I p1 0 0).bind fun x13 =>
  some x13
set_option maxRecDepth 20000 in
theorem lp_X12_astray_4 (fu : Nat) (u1 : Int32) (I : HI) (L : HL) (R : HR) : ∀ (n : Nat) (u2 : Int32) (u3 : Int32) (N : (Int32) → Prop) (F : HF), (∀ v : Int32, N v → PW 100 147 1 RX12 cX12_astray 4 (some .int) 56 [(2, .int v)] [] I L R F) → PWk 100 147 1 RX12 cX12_astray 4 (some .int) 4 [(0, .ref 100), (1, .int u1), (2, .int u2), (3, .int u3)] [] I L R (f_X12_astray_L4 n I u1 u2 u3) N F := by
  intro n
  induction n with
  | zero => intro u2 u3 N F hx; exact PWk.none'
  | succ n ih =>
    intro u2 u3 N F hx
    unfold f_X12_astray_L4
    refine PWk.iload_n 3 dX12_astray_4 rfl ?_
    refine PWk.aload_n 0 dX12_astray_5 rfl ?_
    refine PWk.gets dX12_astray_6 rg_100 lc_100 fl_X12_66 rfl st_100_18 ?_
    refine PWk.aload_n 0 dX12_astray_9 rfl ?_
    refine PWk.geti dX12_astray_10 rg_100 lc_100 fl_X12_51 rfl ?_
    refine PWk.iald dX12_astray_13 rg_106 ly_106 (fun v1 => ?_)
    refine PWk.icmp_ge 56 dX12_astray_14 (by decide) (fun h12 => ?_) (fun h12 => ?_)
    · refine PWk.sub [2] rfl ?_
      exact PWk.done (fun h => hx _ h)
    · refine PWk.iload_n 2 dX12_astray_17 rfl ?_
      refine PWk.aload_n 0 dX12_astray_18 rfl ?_
      refine PWk.gets dX12_astray_19 rg_100 lc_100 fl_X12_192 rfl st_100_59 ?_
      refine PWk.iload_n 3 dX12_astray_22 rfl ?_
      refine PWk.iald dX12_astray_23 rg_137 ly_137 (fun v2 => ?_)
      refine PWk.iconst (v := (-1)) dX12_astray_24 ic_m1 ?_
      refine PWk.jn (pc' := 48) (lv' := fun y10 => [(0, .ref 100), (1, .int u1), (3, .int u3)]) (st' := fun y10 => [.int y10, .int u2]) (I' := fun y10 => I) (L' := fun y10 => L) (R' := fun y10 => R) (fun j4 hj4 => ?_) (fun y10 => ?_)
      · refine PWk.jn (pc' := 47) (lv' := fun y9 => [(0, .ref 100), (1, .int u1), (3, .int u3)]) (st' := fun y9 => [.int u2]) (I' := fun y9 => I) (L' := fun y9 => L) (R' := fun y9 => R) (fun j3 hj3 => ?_) (fun y9 => ?_)
        · refine PWk.icmp_eq 47 dX12_astray_25 (by decide) (fun h8 => ?_) (fun h8 => ?_)
          · refine PWk.sub [0, 1, 3] rfl ?_
            exact hj3 ()
          · refine PWk.aload_n 0 dX12_astray_28 rfl ?_
            refine PWk.iload_n 1 dX12_astray_29 rfl ?_
            refine PWk.iload_n 3 dX12_astray_30 rfl ?_
            refine PWk.callVi (pc_X12_liesIn I L R u1 u3) dX12_astray_31 ml_X12_437 rfl rg_100 lc_100 vq_12 (by decide) rfl (Nat.le_of_ble_eq_true rfl) (fun x5 => ?_)
            refine PWk.aload_n 0 dX12_astray_34 rfl ?_
            refine PWk.gets dX12_astray_35 rg_100 lc_100 fl_X12_192 rfl st_100_59 ?_
            refine PWk.iload_n 3 dX12_astray_38 rfl ?_
            refine PWk.iald dX12_astray_39 rg_137 ly_137 (fun v6 => ?_)
            refine PWk.icmp_eq 47 dX12_astray_40 (by decide) (fun h7 => ?_) (fun h7 => ?_)
            · refine PWk.sub [0, 1, 3] rfl ?_
              exact hj3 ()
            · refine PWk.iconst (v := 1) dX12_astray_43 ic_1 ?_
              refine PWk.goto 48 dX12_astray_44 (by decide) ?_
              refine PWk.sub [0, 1, 3] rfl ?_
              exact hj4 1
        · refine PWk.iconst (v := 0) dX12_astray_47 ic_0 ?_
          exact hj4 0
      · refine PWk.iadd dX12_astray_48 ?_
        refine PWk.bi (fun v11 => ?_)
        refine PWk.istore_n [(2, .int v11), (0, .ref 100), (1, .int u1), (3, .int u3)] dX12_astray_49 (by decide) rfl ?_
        refine PWk.iinc (v := (u3 + 1)) 3 [(3, .int (u3 + 1)), (2, .int v11), (0, .ref 100), (1, .int u1)] dX12_astray_50 rfl (by rw [ic_1]) (by decide) rfl ?_
        refine PWk.goto 4 dX12_astray_53 (by decide) ?_
        refine PWk.sub [2, 3, 1, 0] rfl ?_
        exact ih v11 (u3 + 1) N F hx
set_option maxRecDepth 20000 in
theorem pc_X12_astray (fu : Nat) (I : HI) (L : HL) (R : HR) (p1 : Int32) : PCo 100 147 1 yX12_astray cX12_astray 4 (some .int) [.ref 100, .int p1] I L R (f_X12_astray fu I p1) (fun x : Int32 => ((some (.int x), I, L, R) : HF)) := by
  refine PCo.of (own := RX12) (by decide +kernel) (Nat.le_of_ble_eq_true rfl) rfl rfl (fun F => ?_)
  unfold f_X12_astray
  refine PWk.iconst (v := 0) dX12_astray_0 ic_0 ?_
  refine PWk.istore_n [(2, .int 0), (0, .ref 100), (1, .int p1)] dX12_astray_1 (by decide) rfl ?_
  refine PWk.iconst (v := 0) dX12_astray_2 ic_0 ?_
  refine PWk.istore_n [(3, .int 0), (2, .int 0), (0, .ref 100), (1, .int p1)] dX12_astray_3 (by decide) rfl ?_
  refine PWk.sub [2, 3, 1, 0] rfl ?_
  refine PWk.loopV (fun N' hx' => lp_X12_astray_4 fu p1 I L R fu 0 0 N' F hx') (fun x13 => ?_)
  refine PWk.iload_n 0 dX12_astray_56 rfl ?_
  exact PWk.iret dX12_astray_57 rfl (fun h => h)
/-! LakeMarketModel.movesNext(II)Z -/
def f_X12_movesNext_L21 (fu : Nat) : Nat → HI → HL → Int32 → Int32 → Int32 → Int32 → Option ((Int32 × HI × HL) ⊕ (HI × HL))
  | 0, _, _, _, _, _, _ => none
  | n + 1, I, L, u1, u2, u3, u4 =>
    ldI (I 138) 5 u1 fun v5 =>
    ldI (I 106) 2 (I 100 13) fun v6 =>
    if (8 * v6) ≤ v5 then
      some (.inr (I, L))
    else
      ldI (I 138) 5 u1 fun v7 =>
      dvI 8 <|
      bnd ((v7 / 8)) fun v8 =>
      ldI (I 138) 5 u1 fun v9 =>
      dvI 8 <|
      bnd ((v9 - v9 / 8 * 8)) fun v10 =>
      (f_X12_isHollow I v10).bind fun x11 =>
      jnt (β := HI × HL) (fun y25 =>
        ldI (y25.1 138) 5 u1 fun v26 =>
        inb 5 u1 <|
        bnd (sI y25.1 138 (u1 : Int32).toNatClampNeg (v26 + 1)) fun I27 =>
        f_X12_movesNext_L21 fu n I27 y25.2 u1 u2 u3 u4) fun j12 =>
      if x11 = 0 then
        j12 (I, L)
      else
        jnt (β := Unit) (fun y17 =>
          (f_X12_canMove fu I L u3 v8 v10).bind fun x18 =>
          if x18.1 = 0 then
            j12 (x18.2.1, x18.2.2)
          else
            (f_X12_copies fu x18.2.1 (u3 + 1) u3).bind fun x19 =>
            inb 208 ((8 * (u3 + 1)) + v8) <|
            bnd (sI x19 129 (((8 * (u3 + 1)) + v8) : Int32).toNatClampNeg v10) fun I20 =>
            (f_X12_astray fu I20 (u3 + 1)).bind fun x21 =>
            if (u2 - 1) < x21 then
              j12 (I20, x18.2.2)
            else
              gz 1 (some (.inl (1, I20, x18.2.2)))) fun j13 =>
        if u4 = u2 then
          ldI (I 137) 8 v8 fun v14 =>
          if v14 = v10 then
            j13 ()
          else
            j12 (I, L)
        else
          j13 ()
def f_X12_movesNext (fu : Nat) (I : HI) (L : HL) (p1 : Int32) (p2 : Int32) : Option (Int32 × HI × HL) :=
  bnd ((1 + p1)) fun v1 =>
  (f_X12_astray fu I v1).bind fun x2 =>
  ldI (I 138) 5 p1 fun v3 =>
  inb 5 p1 <|
  bnd (sI I 138 (p1 : Int32).toNatClampNeg (v3 + 1)) fun I4 =>
  (f_X12_movesNext_L21 fu fu I4 L p1 p2 v1 x2).bind (Sum.elim (fun r => some r) fun x29 =>
  gz 0 (some (0, x29.1, x29.2)))
set_option maxRecDepth 20000 in
theorem lp_X12_movesNext_21 (fu : Nat) (u1 : Int32) (u2 : Int32) (u3 : Int32) (u4 : Int32) (R : HR) : ∀ (n : Nat) (I : HI) (L : HL) (N : ((Int32 × HI × HL) ⊕ (HI × HL)) → Prop) (F : HF), (∀ v : HI × HL, N (.inr v) → PW 100 147 4 RX12 cX12_movesNext 7 (some .boolean) 161 [] [] v.1 v.2 R F) → (∀ r : Int32 × HI × HL, N (.inl r) → F = (fun x : Int32 × HI × HL => ((some (.int x.1), x.2.1, x.2.2, R) : HF)) r) → PWk 100 147 4 RX12 cX12_movesNext 7 (some .boolean) 21 [(0, .ref 100), (1, .int u1), (2, .int u2), (3, .int u3), (4, .int u4)] [] I L R (f_X12_movesNext_L21 fu n I L u1 u2 u3 u4) N F := by
  intro n
  induction n with
  | zero => intro I L N F hx hr; exact PWk.none'
  | succ n ih =>
    intro I L N F hx hr
    unfold f_X12_movesNext_L21
    refine PWk.aload_n 0 dX12_movesNext_21 rfl ?_
    refine PWk.gets dX12_movesNext_22 rg_100 lc_100 fl_X12_195 rfl st_100_60 ?_
    refine PWk.iload_n 1 dX12_movesNext_25 rfl ?_
    refine PWk.iald dX12_movesNext_26 rg_138 ly_138 (fun v5 => ?_)
    refine PWk.bipush (v := 8) dX12_movesNext_27 bp_8 ?_
    refine PWk.aload_n 0 dX12_movesNext_29 rfl ?_
    refine PWk.gets dX12_movesNext_30 rg_100 lc_100 fl_X12_66 rfl st_100_18 ?_
    refine PWk.aload_n 0 dX12_movesNext_33 rfl ?_
    refine PWk.geti dX12_movesNext_34 rg_100 lc_100 fl_X12_51 rfl ?_
    refine PWk.iald dX12_movesNext_37 rg_106 ly_106 (fun v6 => ?_)
    refine PWk.imul dX12_movesNext_38 ?_
    refine PWk.icmp_ge 161 dX12_movesNext_39 (by decide) (fun h28 => ?_) (fun h28 => ?_)
    · refine PWk.sub [] rfl ?_
      exact PWk.done (fun h => hx _ h)
    · refine PWk.aload_n 0 dX12_movesNext_42 rfl ?_
      refine PWk.gets dX12_movesNext_43 rg_100 lc_100 fl_X12_195 rfl st_100_60 ?_
      refine PWk.iload_n 1 dX12_movesNext_46 rfl ?_
      refine PWk.iald dX12_movesNext_47 rg_138 ly_138 (fun v7 => ?_)
      refine PWk.bipush (v := 8) dX12_movesNext_48 bp_8 ?_
      refine PWk.idiv dX12_movesNext_50 ?_
      refine PWk.bi (fun v8 => ?_)
      refine PWk.istore [(5, .int v8), (0, .ref 100), (1, .int u1), (2, .int u2), (3, .int u3), (4, .int u4)] dX12_movesNext_51 (by decide) rfl ?_
      refine PWk.aload_n 1 dX12_movesNext_53 rfl ?_
      refine PWk.gets dX12_movesNext_54 rg_100 lc_100 fl_X12_195 rfl st_100_60 ?_
      refine PWk.iload_n 2 dX12_movesNext_57 rfl ?_
      refine PWk.iald dX12_movesNext_58 rg_138 ly_138 (fun v9 => ?_)
      refine PWk.bipush (v := 8) dX12_movesNext_59 bp_8 ?_
      refine PWk.irem dX12_movesNext_61 ?_
      refine PWk.bi (fun v10 => ?_)
      refine PWk.istore [(6, .int v10), (5, .int v8), (0, .ref 100), (1, .int u1), (2, .int u2), (3, .int u3), (4, .int u4)] dX12_movesNext_62 (by decide) rfl ?_
      refine PWk.aload_n 2 dX12_movesNext_64 rfl ?_
      refine PWk.iload 0 dX12_movesNext_65 rfl ?_
      refine PWk.callVi (pc_X12_isHollow I L R v10) dX12_movesNext_67 ml_X12_498 rfl rg_100 lc_100 vq_12 (by decide) rfl (Nat.le_of_ble_eq_true rfl) (fun x11 => ?_)
      refine PWk.jn (pc' := 148) (lv' := fun y25 => [(0, .ref 100), (1, .int u1), (2, .int u2), (3, .int u3), (4, .int u4)]) (st' := fun y25 => []) (I' := fun y25 => y25.1) (L' := fun y25 => y25.2) (R' := fun y25 => R) (fun j12 hj12 => ?_) (fun y25 => ?_)
      · refine PWk.if_eq 148 dX12_movesNext_70 (by decide) (fun h24 => ?_) (fun h24 => ?_)
        · refine PWk.sub [2, 3, 4, 5, 6] rfl ?_
          exact hj12 (I, L)
        · refine PWk.iload 6 dX12_movesNext_73 rfl ?_
          refine PWk.iload_n 4 dX12_movesNext_75 rfl ?_
          refine PWk.jn (pc' := 94) (lv' := fun y17 => [(0, .ref 100), (1, .int u1), (2, .int u2), (3, .int u3), (4, .int u4), (5, .int v8), (6, .int v10)]) (st' := fun y17 => []) (I' := fun y17 => I) (L' := fun y17 => L) (R' := fun y17 => R) (fun j13 hj13 => ?_) (fun y17 => ?_)
          · refine PWk.icmp_ne 94 dX12_movesNext_76 (by decide) (fun h16 => ?_) (fun h16 => ?_)
            · refine PWk.aload_n 2 dX12_movesNext_79 rfl ?_
              refine PWk.gets dX12_movesNext_80 rg_100 lc_100 fl_X12_192 rfl st_100_59 ?_
              refine PWk.iload 1 dX12_movesNext_83 rfl ?_
              refine PWk.iald dX12_movesNext_85 rg_137 ly_137 (fun v14 => ?_)
              refine PWk.iload 0 dX12_movesNext_86 rfl ?_
              refine PWk.icmp_eq 94 dX12_movesNext_88 (by decide) (fun h15 => ?_) (fun h15 => ?_)
              · refine PWk.sub [2, 3, 4, 5, 6, 1, 0] rfl ?_
                exact hj13 ()
              · refine PWk.goto 148 dX12_movesNext_91 (by decide) ?_
                refine PWk.sub [2, 3, 4, 5, 6] rfl ?_
                exact hj12 (I, L)
            · refine PWk.sub [2, 3, 4, 5, 6, 1, 0] rfl ?_
              exact hj13 ()
          · refine PWk.aload_n 0 dX12_movesNext_94 rfl ?_
            refine PWk.iload_n 3 dX12_movesNext_95 rfl ?_
            refine PWk.iload 5 dX12_movesNext_96 rfl ?_
            refine PWk.iload 6 dX12_movesNext_98 rfl ?_
            refine PWk.callViIL (pc_X12_canMove fu I L R u3 v8 v10) dX12_movesNext_100 ml_X12_523 rfl rg_100 lc_100 vq_12 (by decide) rfl (Nat.le_of_ble_eq_true rfl) (fun x18 => ?_)
            refine PWk.if_ne 109 dX12_movesNext_103 (by decide) (fun h23 => ?_) (fun h23 => ?_)
            · refine PWk.goto 148 dX12_movesNext_106 (by decide) ?_
              refine PWk.sub [0, 1, 2, 3, 4] rfl ?_
              exact hj12 (x18.2.1, x18.2.2)
            · refine PWk.aload_n 0 dX12_movesNext_109 rfl ?_
              refine PWk.iload_n 3 dX12_movesNext_110 rfl ?_
              refine PWk.iconst (v := 1) dX12_movesNext_111 ic_1 ?_
              refine PWk.iadd dX12_movesNext_112 ?_
              refine PWk.iload_n 3 dX12_movesNext_113 rfl ?_
              refine PWk.callVvI (pc_X12_copies fu x18.2.1 x18.2.2 R (u3 + 1) u3) dX12_movesNext_114 ml_X12_418 rfl rg_100 lc_100 vq_12 (by decide) rfl (Nat.le_of_ble_eq_true rfl) (fun x19 => ?_)
              refine PWk.aload_n 0 dX12_movesNext_117 rfl ?_
              refine PWk.gets dX12_movesNext_118 rg_100 lc_100 fl_X12_159 rfl st_100_48 ?_
              refine PWk.bipush (v := 8) dX12_movesNext_121 bp_8 ?_
              refine PWk.iload_n 3 dX12_movesNext_123 rfl ?_
              refine PWk.iconst (v := 1) dX12_movesNext_124 ic_1 ?_
              refine PWk.iadd dX12_movesNext_125 ?_
              refine PWk.imul dX12_movesNext_126 ?_
              refine PWk.iload 5 dX12_movesNext_127 rfl ?_
              refine PWk.iadd dX12_movesNext_129 ?_
              refine PWk.iload 6 dX12_movesNext_130 rfl ?_
              refine PWk.iast dX12_movesNext_132 rg_129 ly_129 ?_
              refine PWk.bI (fun I20 => ?_)
              refine PWk.aload_n 0 dX12_movesNext_133 rfl ?_
              refine PWk.iload_n 3 dX12_movesNext_134 rfl ?_
              refine PWk.iconst (v := 1) dX12_movesNext_135 ic_1 ?_
              refine PWk.iadd dX12_movesNext_136 ?_
              refine PWk.callVi (pc_X12_astray fu I20 x18.2.2 R (u3 + 1)) dX12_movesNext_137 ml_X12_520 rfl rg_100 lc_100 vq_12 (by decide) rfl (Nat.le_of_ble_eq_true rfl) (fun x21 => ?_)
              refine PWk.iload_n 2 dX12_movesNext_140 rfl ?_
              refine PWk.iconst (v := 1) dX12_movesNext_141 ic_1 ?_
              refine PWk.isub dX12_movesNext_142 ?_
              refine PWk.icmp_gt 148 dX12_movesNext_143 (by decide) (fun h22 => ?_) (fun h22 => ?_)
              · refine PWk.sub [0, 1, 2, 3, 4] rfl ?_
                exact hj12 (I20, x18.2.2)
              · refine PWk.iconst (v := 1) dX12_movesNext_146 ic_1 ?_
                exact PWk.zret dX12_movesNext_147 rfl (hr _)
      · refine PWk.aload_n 0 dX12_movesNext_148 rfl ?_
        refine PWk.gets dX12_movesNext_149 rg_100 lc_100 fl_X12_195 rfl st_100_60 ?_
        refine PWk.iload_n 1 dX12_movesNext_152 rfl ?_
        refine PWk.dup2 dX12_movesNext_153 rfl rfl ?_
        refine PWk.iald dX12_movesNext_154 rg_138 ly_138 (fun v26 => ?_)
        refine PWk.iconst (v := 1) dX12_movesNext_155 ic_1 ?_
        refine PWk.iadd dX12_movesNext_156 ?_
        refine PWk.iast dX12_movesNext_157 rg_138 ly_138 ?_
        refine PWk.bI (fun I27 => ?_)
        refine PWk.goto 21 dX12_movesNext_158 (by decide) ?_
        exact ih I27 y25.2 N F hx hr
set_option maxRecDepth 20000 in
theorem pc_X12_movesNext (fu : Nat) (I : HI) (L : HL) (R : HR) (p1 : Int32) (p2 : Int32) : PCo 100 147 4 yX12_movesNext cX12_movesNext 7 (some .boolean) [.ref 100, .int p1, .int p2] I L R (f_X12_movesNext fu I L p1 p2) (fun x : Int32 × HI × HL => ((some (.int x.1), x.2.1, x.2.2, R) : HF)) := by
  refine PCo.of (own := RX12) (by decide +kernel) (Nat.le_of_ble_eq_true rfl) rfl rfl (fun F => ?_)
  unfold f_X12_movesNext
  refine PWk.iconst (v := 1) dX12_movesNext_0 ic_1 ?_
  refine PWk.iload_n 1 dX12_movesNext_1 rfl ?_
  refine PWk.iadd dX12_movesNext_2 ?_
  refine PWk.bi (fun v1 => ?_)
  refine PWk.istore_n [(3, .int v1), (0, .ref 100), (1, .int p1), (2, .int p2)] dX12_movesNext_3 (by decide) rfl ?_
  refine PWk.aload_n 1 dX12_movesNext_4 rfl ?_
  refine PWk.iload_n 0 dX12_movesNext_5 rfl ?_
  refine PWk.callVi (pc_X12_astray fu I L R v1) dX12_movesNext_6 ml_X12_520 rfl rg_100 lc_100 vq_12 (by decide) rfl (Nat.le_of_ble_eq_true rfl) (fun x2 => ?_)
  refine PWk.istore [(4, .int x2), (3, .int v1), (0, .ref 100), (1, .int p1), (2, .int p2)] dX12_movesNext_9 (by decide) rfl ?_
  refine PWk.aload_n 2 dX12_movesNext_11 rfl ?_
  refine PWk.gets dX12_movesNext_12 rg_100 lc_100 fl_X12_195 rfl st_100_60 ?_
  refine PWk.iload_n 3 dX12_movesNext_15 rfl ?_
  refine PWk.dup2 dX12_movesNext_16 rfl rfl ?_
  refine PWk.iald dX12_movesNext_17 rg_138 ly_138 (fun v3 => ?_)
  refine PWk.iconst (v := 1) dX12_movesNext_18 ic_1 ?_
  refine PWk.iadd dX12_movesNext_19 ?_
  refine PWk.iast dX12_movesNext_20 rg_138 ly_138 ?_
  refine PWk.bI (fun I4 => ?_)
  refine PWk.sub [2, 3, 4, 1, 0] rfl ?_
  refine PWk.loopS (fun N' hx' hr' => lp_X12_movesNext_21 fu p1 p2 v1 x2 R fu I4 L N' F hx' hr') (fun r a e h => by cases e; exact h) (fun x29 => ?_)
  refine PWk.iconst (v := 0) dX12_movesNext_161 ic_0 ?_
  exact PWk.zret dX12_movesNext_162 rfl (fun h => h)
/-! LakeMarketModel.isEnough(I)Z -/
def f_X12_isEnough_L32 (fu : Nat) : Nat → HI → HL → Int32 → Int32 → Option ((Int32 × HI × HL) ⊕ (HI × HL))
  | 0, _, _, _, _ => none
  | n + 1, I, L, u1, u2 =>
    if u2 < 0 then
      some (.inr (I, L))
    else
      (f_X12_movesNext fu I L u2 (u1 - u2)).bind fun x4 =>
      if x4.1 = 0 then
        f_X12_isEnough_L32 fu n x4.2.1 x4.2.2 u1 (u2 + (-1))
      else
        if (u2 + 1) = u1 then
          gz 1 (some (.inl (1, x4.2.1, x4.2.2)))
        else
          inb 5 (u2 + 1) <|
          bnd (sI x4.2.1 138 ((u2 + 1) : Int32).toNatClampNeg (-1)) fun I5 =>
          f_X12_isEnough_L32 fu n I5 x4.2.2 u1 (u2 + 1)
def f_X12_isEnough (fu : Nat) (I : HI) (L : HL) (p1 : Int32) : Option (Int32 × HI × HL) :=
  (f_X12_copies fu I 1 0).bind fun x1 =>
  (f_X12_astray fu x1 1).bind fun x2 =>
  if x2 ≤ p1 then
    if p1 = 0 then
      gz 1 (some (1, x1, L))
    else
      inb 5 0 <|
      bnd (sI x1 138 (0 : Int32).toNatClampNeg (-1)) fun I3 =>
      (f_X12_isEnough_L32 fu fu I3 L p1 0).bind (Sum.elim (fun r => some r) fun x9 =>
      gz 0 (some (0, x9.1, x9.2)))
  else
    gz 0 (some (0, x1, L))
set_option maxRecDepth 20000 in
theorem lp_X12_isEnough_32 (fu : Nat) (u1 : Int32) (R : HR) : ∀ (n : Nat) (u2 : Int32) (I : HI) (L : HL) (N : ((Int32 × HI × HL) ⊕ (HI × HL)) → Prop) (F : HF), (∀ v : HI × HL, N (.inr v) → PW 100 147 5 RX12 cX12_isEnough 3 (some .boolean) 75 [] [] v.1 v.2 R F) → (∀ r : Int32 × HI × HL, N (.inl r) → F = (fun x : Int32 × HI × HL => ((some (.int x.1), x.2.1, x.2.2, R) : HF)) r) → PWk 100 147 5 RX12 cX12_isEnough 3 (some .boolean) 32 [(0, .ref 100), (1, .int u1), (2, .int u2)] [] I L R (f_X12_isEnough_L32 fu n I L u1 u2) N F := by
  intro n
  induction n with
  | zero => intro u2 I L N F hx hr; exact PWk.none'
  | succ n ih =>
    intro u2 I L N F hx hr
    unfold f_X12_isEnough_L32
    refine PWk.iload_n 2 dX12_isEnough_32 rfl ?_
    refine PWk.if_lt 75 dX12_isEnough_33 (by decide) (fun h8 => ?_) (fun h8 => ?_)
    · refine PWk.sub [] rfl ?_
      exact PWk.done (fun h => hx _ h)
    · refine PWk.aload_n 0 dX12_isEnough_36 rfl ?_
      refine PWk.iload_n 2 dX12_isEnough_37 rfl ?_
      refine PWk.iload_n 1 dX12_isEnough_38 rfl ?_
      refine PWk.iload_n 2 dX12_isEnough_39 rfl ?_
      refine PWk.isub dX12_isEnough_40 ?_
      refine PWk.callViIL (pc_X12_movesNext fu I L R u2 (u1 - u2)) dX12_isEnough_41 ml_X12_526 rfl rg_100 lc_100 vq_12 (by decide) rfl (Nat.le_of_ble_eq_true rfl) (fun x4 => ?_)
      refine PWk.if_ne 53 dX12_isEnough_44 (by decide) (fun h7 => ?_) (fun h7 => ?_)
      · refine PWk.iinc (v := (u2 + (-1))) 2 [(2, .int (u2 + (-1))), (0, .ref 100), (1, .int u1)] dX12_isEnough_47 rfl (by rw [ic_m1]) (by decide) rfl ?_
        refine PWk.goto 32 dX12_isEnough_50 (by decide) ?_
        refine PWk.sub [1, 2, 0] rfl ?_
        exact ih (u2 + (-1)) x4.2.1 x4.2.2 N F hx hr
      · refine PWk.iload_n 2 dX12_isEnough_53 rfl ?_
        refine PWk.iconst (v := 1) dX12_isEnough_54 ic_1 ?_
        refine PWk.iadd dX12_isEnough_55 ?_
        refine PWk.iload_n 1 dX12_isEnough_56 rfl ?_
        refine PWk.icmp_ne 62 dX12_isEnough_57 (by decide) (fun h6 => ?_) (fun h6 => ?_)
        · refine PWk.iconst (v := 1) dX12_isEnough_60 ic_1 ?_
          exact PWk.zret dX12_isEnough_61 rfl (hr _)
        · refine PWk.iinc (v := (u2 + 1)) 2 [(2, .int (u2 + 1)), (0, .ref 100), (1, .int u1)] dX12_isEnough_62 rfl (by rw [ic_1]) (by decide) rfl ?_
          refine PWk.aload_n 1 dX12_isEnough_65 rfl ?_
          refine PWk.gets dX12_isEnough_66 rg_100 lc_100 fl_X12_195 rfl st_100_60 ?_
          refine PWk.iload_n 0 dX12_isEnough_69 rfl ?_
          refine PWk.iconst (v := (-1)) dX12_isEnough_70 ic_m1 ?_
          refine PWk.iast dX12_isEnough_71 rg_138 ly_138 ?_
          refine PWk.bI (fun I5 => ?_)
          refine PWk.goto 32 dX12_isEnough_72 (by decide) ?_
          refine PWk.sub [1, 2, 0] rfl ?_
          exact ih (u2 + 1) I5 x4.2.2 N F hx hr
set_option maxRecDepth 20000 in
theorem pc_X12_isEnough (fu : Nat) (I : HI) (L : HL) (R : HR) (p1 : Int32) : PCo 100 147 5 yX12_isEnough cX12_isEnough 3 (some .boolean) [.ref 100, .int p1] I L R (f_X12_isEnough fu I L p1) (fun x : Int32 × HI × HL => ((some (.int x.1), x.2.1, x.2.2, R) : HF)) := by
  refine PCo.of (own := RX12) (by decide +kernel) (Nat.le_of_ble_eq_true rfl) rfl rfl (fun F => ?_)
  unfold f_X12_isEnough
  refine PWk.aload_n 0 dX12_isEnough_0 rfl ?_
  refine PWk.iconst (v := 1) dX12_isEnough_1 ic_1 ?_
  refine PWk.iconst (v := 0) dX12_isEnough_2 ic_0 ?_
  refine PWk.callVvI (pc_X12_copies fu I L R 1 0) dX12_isEnough_3 ml_X12_418 rfl rg_100 lc_100 vq_12 (by decide) rfl (Nat.le_of_ble_eq_true rfl) (fun x1 => ?_)
  refine PWk.aload_n 0 dX12_isEnough_6 rfl ?_
  refine PWk.iconst (v := 1) dX12_isEnough_7 ic_1 ?_
  refine PWk.callVi (pc_X12_astray fu x1 L R 1) dX12_isEnough_8 ml_X12_520 rfl rg_100 lc_100 vq_12 (by decide) rfl (Nat.le_of_ble_eq_true rfl) (fun x2 => ?_)
  refine PWk.iload_n 1 dX12_isEnough_11 rfl ?_
  refine PWk.icmp_le 17 dX12_isEnough_12 (by decide) (fun h11 => ?_) (fun h11 => ?_)
  · refine PWk.iload_n 1 dX12_isEnough_17 rfl ?_
    refine PWk.if_ne 23 dX12_isEnough_18 (by decide) (fun h10 => ?_) (fun h10 => ?_)
    · refine PWk.iconst (v := 1) dX12_isEnough_21 ic_1 ?_
      exact PWk.zret dX12_isEnough_22 rfl (fun h => h)
    · refine PWk.iconst (v := 0) dX12_isEnough_23 ic_0 ?_
      refine PWk.istore_n [(2, .int 0), (0, .ref 100), (1, .int p1)] dX12_isEnough_24 (by decide) rfl ?_
      refine PWk.aload_n 1 dX12_isEnough_25 rfl ?_
      refine PWk.gets dX12_isEnough_26 rg_100 lc_100 fl_X12_195 rfl st_100_60 ?_
      refine PWk.iconst (v := 0) dX12_isEnough_29 ic_0 ?_
      refine PWk.iconst (v := (-1)) dX12_isEnough_30 ic_m1 ?_
      refine PWk.iast dX12_isEnough_31 rg_138 ly_138 ?_
      refine PWk.bI (fun I3 => ?_)
      refine PWk.sub [1, 2, 0] rfl ?_
      refine PWk.loopS (fun N' hx' hr' => lp_X12_isEnough_32 fu p1 R fu 0 I3 L N' F hx' hr') (fun r a e h => by cases e; exact h) (fun x9 => ?_)
      refine PWk.iconst (v := 0) dX12_isEnough_75 ic_0 ?_
      exact PWk.zret dX12_isEnough_76 rfl (fun h => h)
  · refine PWk.iconst (v := 0) dX12_isEnough_15 ic_0 ?_
    exact PWk.zret dX12_isEnough_16 rfl (fun h => h)
/-! LakeMarketModel.moves()I -/
def f_X12_moves_L178 (fu : Nat) : Nat → HI → HL → Int32 → Option ((Int32 × HI × HL) ⊕ (HI × HL))
  | 0, _, _, _ => none
  | n + 1, I, L, u3 =>
    if 4 < u3 then
      some (.inr (I, L))
    else
      (f_X12_isEnough fu I L u3).bind fun x43 =>
      if x43.1 = 0 then
        f_X12_moves_L178 fu n x43.2.1 x43.2.2 (u3 + 1)
      else
        some (.inl (u3, x43.2.1, x43.2.2))
def f_X12_moves_L55 : Nat → HI → Int32 → Int32 → Int32 → Option (Int32 × HI)
  | 0, _, _, _, _ => none
  | n + 1, I, u1, u2, u3 =>
    if u1 ≤ u3 then
      some (u2, I)
    else
      if u2 = 0 then
        some (u2, I)
      else
        ldI (I 101) 1800 u3 fun v12 =>
        (f_X12_isLake I v12).bind fun x13 =>
        jnt (β := Int32) (fun y21 =>
          jnt (β := Int32) (fun y32 =>
            jnt (β := HI) (fun y38 =>
              f_X12_moves_L55 n y38 u1 y32 (u3 + 2)) fun j33 =>
            if y32 = 0 then
              j33 I
            else
              ldI (I 101) 1800 u3 fun v34 =>
              ldI (I 101) 1800 (u3 + 1) fun v35 =>
              inb 8 v34 <|
              bnd (sI I 137 (v34 : Int32).toNatClampNeg v35) fun I36 =>
              j33 I36) fun j23 =>
          jnt (β := Unit) (fun y31 =>
            j23 0) fun j22 =>
          if y21 = 0 then
            j22 ()
          else
            ldI (I 101) 1800 u3 fun v24 =>
            (f_X12_fill I 0 v24).bind fun x25 =>
            if x25 ≤ 0 then
              j22 ()
            else
              ldI (I 101) 1800 u3 fun v26 =>
              ldI (I 137) 8 v26 fun v27 =>
              if v27 = (-1) then
                j23 1
              else
                j22 ()) fun j15 =>
        jnt (β := Unit) (fun y20 =>
          j15 0) fun j14 =>
        if x13 = 0 then
          j14 ()
        else
          ldI (I 101) 1800 (u3 + 1) fun v16 =>
          (f_X12_isHollow I v16).bind fun x17 =>
          if x17 = 0 then
            j14 ()
          else
            j15 1
def f_X12_moves_L34 : Nat → HI → Int32 → Option (HI)
  | 0, _, _ => none
  | n + 1, I, u3 =>
    if 8 ≤ u3 then
      some I
    else
      inb 8 u3 <|
      bnd (sI I 137 (u3 : Int32).toNatClampNeg (-1)) fun I9 =>
      f_X12_moves_L34 n I9 (u3 + 1)
def f_X12_moves (fu : Nat) (I : HI) (L : HL) : Option (Int32 × HI × HL) :=
  bnd (sI I 100 1 0) fun I1 =>
  jnt (β := Int32) (fun y8 =>
    (f_X12_moves_L34 fu I1 0).bind fun x11 =>
    (f_X12_moves_L55 fu x11 (I 100 1) y8 0).bind fun x41 =>
    if x41.1 = 0 then
      (f_X12_refuses x41.2 5).bind fun x42 =>
      some (x42.1, x42.2, L)
    else
      (f_X12_moves_L178 fu fu x41.2 L 0).bind (Sum.elim (fun r => some r) fun x46 =>
      some ((-1), x46.1, x46.2))) fun j3 =>
  jnt (β := Unit) (fun y7 =>
    j3 0) fun j2 =>
  if (I 100 1) ≤ 0 then
    j2 ()
  else
    dvI 2 <|
    if ((I 100 1) - (I 100 1) / 2 * 2) = 0 then
      if 16 < (I 100 1) then
        j2 ()
      else
        j3 1
    else
      j2 ()
set_option maxRecDepth 20000 in
theorem lp_X12_moves_178 (fu : Nat) (R : HR) : ∀ (n : Nat) (u3 : Int32) (I : HI) (L : HL) (N : ((Int32 × HI × HL) ⊕ (HI × HL)) → Prop) (F : HF), (∀ v : HI × HL, N (.inr v) → PW 100 147 6 RX12 cX12_moves 4 (some .int) 199 [] [] v.1 v.2 R F) → (∀ r : Int32 × HI × HL, N (.inl r) → F = (fun x : Int32 × HI × HL => ((some (.int x.1), x.2.1, x.2.2, R) : HF)) r) → PWk 100 147 6 RX12 cX12_moves 4 (some .int) 178 [(0, .ref 100), (3, .int u3)] [] I L R (f_X12_moves_L178 fu n I L u3) N F := by
  intro n
  induction n with
  | zero => intro u3 I L N F hx hr; exact PWk.none'
  | succ n ih =>
    intro u3 I L N F hx hr
    unfold f_X12_moves_L178
    refine PWk.iload_n 1 dX12_moves_178 rfl ?_
    refine PWk.iconst (v := 4) dX12_moves_179 ic_4 ?_
    refine PWk.icmp_gt 199 dX12_moves_180 (by decide) (fun h45 => ?_) (fun h45 => ?_)
    · refine PWk.sub [] rfl ?_
      exact PWk.done (fun h => hx _ h)
    · refine PWk.aload_n 0 dX12_moves_183 rfl ?_
      refine PWk.iload_n 1 dX12_moves_184 rfl ?_
      refine PWk.callViIL (pc_X12_isEnough fu I L R u3) dX12_moves_185 ml_X12_529 rfl rg_100 lc_100 vq_12 (by decide) rfl (Nat.le_of_ble_eq_true rfl) (fun x43 => ?_)
      refine PWk.if_eq 193 dX12_moves_188 (by decide) (fun h44 => ?_) (fun h44 => ?_)
      · refine PWk.iinc (v := (u3 + 1)) 1 [(3, .int (u3 + 1)), (0, .ref 100)] dX12_moves_193 rfl (by rw [ic_1]) (by decide) rfl ?_
        refine PWk.goto 178 dX12_moves_196 (by decide) ?_
        refine PWk.sub [1, 0] rfl ?_
        exact ih (u3 + 1) x43.2.1 x43.2.2 N F hx hr
      · refine PWk.iload_n 1 dX12_moves_191 rfl ?_
        exact PWk.iret dX12_moves_192 rfl (hr _)
set_option maxRecDepth 20000 in
theorem lp_X12_moves_55 (fu : Nat) (u1 : Int32) (L : HL) (R : HR) : ∀ (n : Nat) (u2 : Int32) (u3 : Int32) (I : HI) (N : (Int32 × HI) → Prop) (F : HF), (∀ v : Int32 × HI, N v → PW 100 147 6 RX12 cX12_moves 4 (some .int) 166 [(0, .ref 100), (2, .int v.1)] [] v.2 L R F) → PWk 100 147 6 RX12 cX12_moves 4 (some .int) 55 [(0, .ref 100), (1, .int u1), (2, .int u2), (3, .int u3)] [] I L R (f_X12_moves_L55 n I u1 u2 u3) N F := by
  intro n
  induction n with
  | zero => intro u2 u3 I N F hx; exact PWk.none'
  | succ n ih =>
    intro u2 u3 I N F hx
    unfold f_X12_moves_L55
    refine PWk.iload_n 3 dX12_moves_55 rfl ?_
    refine PWk.iload_n 1 dX12_moves_56 rfl ?_
    refine PWk.icmp_ge 166 dX12_moves_57 (by decide) (fun h40 => ?_) (fun h40 => ?_)
    · refine PWk.sub [0, 2] rfl ?_
      exact PWk.done (fun h => hx _ h)
    · refine PWk.iload_n 2 dX12_moves_60 rfl ?_
      refine PWk.if_eq 166 dX12_moves_61 (by decide) (fun h39 => ?_) (fun h39 => ?_)
      · refine PWk.sub [0, 2] rfl ?_
        exact PWk.done (fun h => hx _ h)
      · refine PWk.aload_n 0 dX12_moves_64 rfl ?_
        refine PWk.aload_n 0 dX12_moves_65 rfl ?_
        refine PWk.gets dX12_moves_66 rg_100 lc_100 fl_X12_7 rfl st_100_0 ?_
        refine PWk.iload_n 3 dX12_moves_69 rfl ?_
        refine PWk.iald dX12_moves_70 rg_101 ly_101 (fun v12 => ?_)
        refine PWk.callVi (pc_X12_isLake I L R v12) dX12_moves_71 ml_X12_501 rfl rg_100 lc_100 vq_12 (by decide) rfl (Nat.le_of_ble_eq_true rfl) (fun x13 => ?_)
        refine PWk.jn (pc' := 97) (lv' := fun y21 => [(0, .ref 100), (1, .int u1), (3, .int u3)]) (st' := fun y21 => [.int y21]) (I' := fun y21 => I) (L' := fun y21 => L) (R' := fun y21 => R) (fun j15 hj15 => ?_) (fun y21 => ?_)
        · refine PWk.jn (pc' := 96) (lv' := fun y20 => [(0, .ref 100), (1, .int u1), (3, .int u3)]) (st' := fun y20 => []) (I' := fun y20 => I) (L' := fun y20 => L) (R' := fun y20 => R) (fun j14 hj14 => ?_) (fun y20 => ?_)
          · refine PWk.if_eq 96 dX12_moves_74 (by decide) (fun h19 => ?_) (fun h19 => ?_)
            · refine PWk.sub [0, 1, 3] rfl ?_
              exact hj14 ()
            · refine PWk.aload_n 0 dX12_moves_77 rfl ?_
              refine PWk.aload_n 0 dX12_moves_78 rfl ?_
              refine PWk.gets dX12_moves_79 rg_100 lc_100 fl_X12_7 rfl st_100_0 ?_
              refine PWk.iload_n 3 dX12_moves_82 rfl ?_
              refine PWk.iconst (v := 1) dX12_moves_83 ic_1 ?_
              refine PWk.iadd dX12_moves_84 ?_
              refine PWk.iald dX12_moves_85 rg_101 ly_101 (fun v16 => ?_)
              refine PWk.callVi (pc_X12_isHollow I L R v16) dX12_moves_86 ml_X12_498 rfl rg_100 lc_100 vq_12 (by decide) rfl (Nat.le_of_ble_eq_true rfl) (fun x17 => ?_)
              refine PWk.if_eq 96 dX12_moves_89 (by decide) (fun h18 => ?_) (fun h18 => ?_)
              · refine PWk.sub [0, 1, 3] rfl ?_
                exact hj14 ()
              · refine PWk.iconst (v := 1) dX12_moves_92 ic_1 ?_
                refine PWk.goto 97 dX12_moves_93 (by decide) ?_
                refine PWk.sub [0, 1, 3] rfl ?_
                exact hj15 1
          · refine PWk.iconst (v := 0) dX12_moves_96 ic_0 ?_
            exact hj15 0
        · refine PWk.istore_n [(2, .int y21), (0, .ref 100), (1, .int u1), (3, .int u3)] dX12_moves_97 (by decide) rfl ?_
          refine PWk.iload_n 0 dX12_moves_98 rfl ?_
          refine PWk.jn (pc' := 136) (lv' := fun y32 => [(0, .ref 100), (1, .int u1), (3, .int u3)]) (st' := fun y32 => [.int y32]) (I' := fun y32 => I) (L' := fun y32 => L) (R' := fun y32 => R) (fun j23 hj23 => ?_) (fun y32 => ?_)
          · refine PWk.jn (pc' := 135) (lv' := fun y31 => [(0, .ref 100), (1, .int u1), (3, .int u3)]) (st' := fun y31 => []) (I' := fun y31 => I) (L' := fun y31 => L) (R' := fun y31 => R) (fun j22 hj22 => ?_) (fun y31 => ?_)
            · refine PWk.if_eq 135 dX12_moves_99 (by decide) (fun h30 => ?_) (fun h30 => ?_)
              · refine PWk.sub [1, 2, 3] rfl ?_
                exact hj22 ()
              · refine PWk.aload_n 1 dX12_moves_102 rfl ?_
                refine PWk.iconst (v := 0) dX12_moves_103 ic_0 ?_
                refine PWk.aload_n 1 dX12_moves_104 rfl ?_
                refine PWk.gets dX12_moves_105 rg_100 lc_100 fl_X12_7 rfl st_100_0 ?_
                refine PWk.iload_n 3 dX12_moves_108 rfl ?_
                refine PWk.iald dX12_moves_109 rg_101 ly_101 (fun v24 => ?_)
                refine PWk.callVi (pc_X12_fill I L R 0 v24) dX12_moves_110 ml_X12_440 rfl rg_100 lc_100 vq_12 (by decide) rfl (Nat.le_of_ble_eq_true rfl) (fun x25 => ?_)
                refine PWk.if_le 135 dX12_moves_113 (by decide) (fun h29 => ?_) (fun h29 => ?_)
                · refine PWk.sub [1, 2, 3] rfl ?_
                  exact hj22 ()
                · refine PWk.aload_n 1 dX12_moves_116 rfl ?_
                  refine PWk.gets dX12_moves_117 rg_100 lc_100 fl_X12_192 rfl st_100_59 ?_
                  refine PWk.aload_n 1 dX12_moves_120 rfl ?_
                  refine PWk.gets dX12_moves_121 rg_100 lc_100 fl_X12_7 rfl st_100_0 ?_
                  refine PWk.iload_n 3 dX12_moves_124 rfl ?_
                  refine PWk.iald dX12_moves_125 rg_101 ly_101 (fun v26 => ?_)
                  refine PWk.iald dX12_moves_126 rg_137 ly_137 (fun v27 => ?_)
                  refine PWk.iconst (v := (-1)) dX12_moves_127 ic_m1 ?_
                  refine PWk.icmp_ne 135 dX12_moves_128 (by decide) (fun h28 => ?_) (fun h28 => ?_)
                  · refine PWk.iconst (v := 1) dX12_moves_131 ic_1 ?_
                    refine PWk.goto 136 dX12_moves_132 (by decide) ?_
                    refine PWk.sub [1, 2, 3] rfl ?_
                    exact hj23 1
                  · refine PWk.sub [1, 2, 3] rfl ?_
                    exact hj22 ()
            · refine PWk.iconst (v := 0) dX12_moves_135 ic_0 ?_
              exact hj23 0
          · refine PWk.istore_n [(2, .int y32), (0, .ref 100), (1, .int u1), (3, .int u3)] dX12_moves_136 (by decide) rfl ?_
            refine PWk.iload_n 0 dX12_moves_137 rfl ?_
            refine PWk.jn (pc' := 160) (lv' := fun y38 => [(0, .ref 100), (1, .int u1), (2, .int y32), (3, .int u3)]) (st' := fun y38 => []) (I' := fun y38 => y38) (L' := fun y38 => L) (R' := fun y38 => R) (fun j33 hj33 => ?_) (fun y38 => ?_)
            · refine PWk.if_eq 160 dX12_moves_138 (by decide) (fun h37 => ?_) (fun h37 => ?_)
              · refine PWk.sub [1, 2, 0, 3] rfl ?_
                exact hj33 I
              · refine PWk.aload_n 1 dX12_moves_141 rfl ?_
                refine PWk.gets dX12_moves_142 rg_100 lc_100 fl_X12_192 rfl st_100_59 ?_
                refine PWk.aload_n 1 dX12_moves_145 rfl ?_
                refine PWk.gets dX12_moves_146 rg_100 lc_100 fl_X12_7 rfl st_100_0 ?_
                refine PWk.iload_n 3 dX12_moves_149 rfl ?_
                refine PWk.iald dX12_moves_150 rg_101 ly_101 (fun v34 => ?_)
                refine PWk.aload_n 1 dX12_moves_151 rfl ?_
                refine PWk.gets dX12_moves_152 rg_100 lc_100 fl_X12_7 rfl st_100_0 ?_
                refine PWk.iload_n 3 dX12_moves_155 rfl ?_
                refine PWk.iconst (v := 1) dX12_moves_156 ic_1 ?_
                refine PWk.iadd dX12_moves_157 ?_
                refine PWk.iald dX12_moves_158 rg_101 ly_101 (fun v35 => ?_)
                refine PWk.iast dX12_moves_159 rg_137 ly_137 ?_
                refine PWk.bI (fun I36 => ?_)
                refine PWk.sub [1, 2, 0, 3] rfl ?_
                exact hj33 I36
            · refine PWk.iinc (v := (u3 + 2)) 3 [(3, .int (u3 + 2)), (0, .ref 100), (1, .int u1), (2, .int y32)] dX12_moves_160 rfl (by rw [ic_2]) (by decide) rfl ?_
              refine PWk.goto 55 dX12_moves_163 (by decide) ?_
              refine PWk.sub [1, 2, 3, 0] rfl ?_
              exact ih y32 (u3 + 2) y38 N F hx
set_option maxRecDepth 20000 in
theorem lp_X12_moves_34 (fu : Nat) (u1 : Int32) (u2 : Int32) (L : HL) (R : HR) : ∀ (n : Nat) (u3 : Int32) (I : HI) (N : (HI) → Prop) (F : HF), (∀ v : HI, N v → PW 100 147 6 RX12 cX12_moves 4 (some .int) 53 [(0, .ref 100), (1, .int u1), (2, .int u2)] [] v L R F) → PWk 100 147 6 RX12 cX12_moves 4 (some .int) 34 [(0, .ref 100), (1, .int u1), (2, .int u2), (3, .int u3)] [] I L R (f_X12_moves_L34 n I u3) N F := by
  intro n
  induction n with
  | zero => intro u3 I N F hx; exact PWk.none'
  | succ n ih =>
    intro u3 I N F hx
    unfold f_X12_moves_L34
    refine PWk.iload_n 3 dX12_moves_34 rfl ?_
    refine PWk.bipush (v := 8) dX12_moves_35 bp_8 ?_
    refine PWk.icmp_ge 53 dX12_moves_37 (by decide) (fun h10 => ?_) (fun h10 => ?_)
    · refine PWk.sub [0, 1, 2] rfl ?_
      exact PWk.done (fun h => hx _ h)
    · refine PWk.aload_n 0 dX12_moves_40 rfl ?_
      refine PWk.gets dX12_moves_41 rg_100 lc_100 fl_X12_192 rfl st_100_59 ?_
      refine PWk.iload_n 3 dX12_moves_44 rfl ?_
      refine PWk.iconst (v := (-1)) dX12_moves_45 ic_m1 ?_
      refine PWk.iast dX12_moves_46 rg_137 ly_137 ?_
      refine PWk.bI (fun I9 => ?_)
      refine PWk.iinc (v := (u3 + 1)) 3 [(3, .int (u3 + 1)), (0, .ref 100), (1, .int u1), (2, .int u2)] dX12_moves_47 rfl (by rw [ic_1]) (by decide) rfl ?_
      refine PWk.goto 34 dX12_moves_50 (by decide) ?_
      refine PWk.sub [1, 2, 3, 0] rfl ?_
      exact ih (u3 + 1) I9 N F hx
set_option maxRecDepth 20000 in
theorem pc_X12_moves (fu : Nat) (I : HI) (L : HL) (R : HR) : PCo 100 147 6 yX12_moves cX12_moves 4 (some .int) [.ref 100] I L R (f_X12_moves fu I L) (fun x : Int32 × HI × HL => ((some (.int x.1), x.2.1, x.2.2, R) : HF)) := by
  refine PCo.of (own := RX12) (by decide +kernel) (Nat.le_of_ble_eq_true rfl) rfl rfl (fun F => ?_)
  unfold f_X12_moves
  refine PWk.aload_n 0 dX12_moves_0 rfl ?_
  refine PWk.geti dX12_moves_1 rg_100 lc_100 fl_X12_13 rfl ?_
  refine PWk.istore_n [(1, .int (I 100 1)), (0, .ref 100)] dX12_moves_4 (by decide) rfl ?_
  refine PWk.aload_n 1 dX12_moves_5 rfl ?_
  refine PWk.iconst (v := 0) dX12_moves_6 ic_0 ?_
  refine PWk.puti dX12_moves_7 rg_100 lc_100 fl_X12_13 fp_12_1 rfl ?_
  refine PWk.bI (fun I1 => ?_)
  refine PWk.iload_n 0 dX12_moves_10 rfl ?_
  refine PWk.jn (pc' := 31) (lv' := fun y8 => [(0, .ref 100), (1, .int (I 100 1))]) (st' := fun y8 => [.int y8]) (I' := fun y8 => I1) (L' := fun y8 => L) (R' := fun y8 => R) (fun j3 hj3 => ?_) (fun y8 => ?_)
  · refine PWk.jn (pc' := 30) (lv' := fun y7 => [(0, .ref 100), (1, .int (I 100 1))]) (st' := fun y7 => []) (I' := fun y7 => I1) (L' := fun y7 => L) (R' := fun y7 => R) (fun j2 hj2 => ?_) (fun y7 => ?_)
    · refine PWk.if_le 30 dX12_moves_11 (by decide) (fun h6 => ?_) (fun h6 => ?_)
      · refine PWk.sub [1, 0] rfl ?_
        exact hj2 ()
      · refine PWk.iload_n 0 dX12_moves_14 rfl ?_
        refine PWk.iconst (v := 2) dX12_moves_15 ic_2 ?_
        refine PWk.irem dX12_moves_16 ?_
        refine PWk.if_ne 30 dX12_moves_17 (by decide) (fun h5 => ?_) (fun h5 => ?_)
        · refine PWk.iload_n 0 dX12_moves_20 rfl ?_
          refine PWk.bipush (v := 16) dX12_moves_21 bp_16 ?_
          refine PWk.icmp_gt 30 dX12_moves_23 (by decide) (fun h4 => ?_) (fun h4 => ?_)
          · refine PWk.sub [1, 0] rfl ?_
            exact hj2 ()
          · refine PWk.iconst (v := 1) dX12_moves_26 ic_1 ?_
            refine PWk.goto 31 dX12_moves_27 (by decide) ?_
            refine PWk.sub [1, 0] rfl ?_
            exact hj3 1
        · refine PWk.sub [1, 0] rfl ?_
          exact hj2 ()
    · refine PWk.iconst (v := 0) dX12_moves_30 ic_0 ?_
      exact hj3 0
  · refine PWk.istore_n [(2, .int y8), (0, .ref 100), (1, .int (I 100 1))] dX12_moves_31 (by decide) rfl ?_
    refine PWk.iconst (v := 0) dX12_moves_32 ic_0 ?_
    refine PWk.istore_n [(3, .int 0), (2, .int y8), (0, .ref 100), (1, .int (I 100 1))] dX12_moves_33 (by decide) rfl ?_
    refine PWk.sub [2, 3, 1, 0] rfl ?_
    refine PWk.loopV (fun N' hx' => lp_X12_moves_34 fu (I 100 1) y8 L R fu 0 I1 N' F hx') (fun x11 => ?_)
    refine PWk.iconst (v := 0) dX12_moves_53 ic_0 ?_
    refine PWk.istore_n [(3, .int 0), (0, .ref 100), (1, .int (I 100 1)), (2, .int y8)] dX12_moves_54 (by decide) rfl ?_
    refine PWk.sub [1, 2, 3, 0] rfl ?_
    refine PWk.loopV (fun N' hx' => lp_X12_moves_55 fu (I 100 1) L R fu y8 0 x11 N' F hx') (fun x41 => ?_)
    refine PWk.iload_n 1 dX12_moves_166 rfl ?_
    refine PWk.if_ne 176 dX12_moves_167 (by decide) (fun h47 => ?_) (fun h47 => ?_)
    · refine PWk.aload_n 0 dX12_moves_170 rfl ?_
      refine PWk.iconst (v := 5) dX12_moves_171 ic_5 ?_
      refine PWk.callViI (pc_X12_refuses x41.2 L R 5) dX12_moves_172 ml_X12_229 rfl rg_100 lc_100 vq_12 (by decide) rfl (Nat.le_of_ble_eq_true rfl) (fun x42 => ?_)
      exact PWk.iret dX12_moves_175 rfl (fun h => h)
    · refine PWk.iconst (v := 0) dX12_moves_176 ic_0 ?_
      refine PWk.istore_n [(3, .int 0), (0, .ref 100), (2, .int x41.1)] dX12_moves_177 (by decide) rfl ?_
      refine PWk.sub [1, 0] rfl ?_
      refine PWk.loopS (fun N' hx' hr' => lp_X12_moves_178 fu R fu 0 x41.2 L N' F hx' hr') (fun r a e h => by cases e; exact h) (fun x46 => ?_)
      refine PWk.iconst (v := (-1)) dX12_moves_199 ic_m1 ?_
      exact PWk.iret dX12_moves_200 rfl (fun h => h)
