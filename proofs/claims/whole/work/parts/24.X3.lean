/-! LakeMarket$Machine.setLake(III)V -/
def f_X3_setLake (I : HI) (a0 : Nat) (p1 : Int32) (p2 : Int32) (p3 : Int32) : Option (HI) :=
  inb 6 0 <|
  bnd (sI I (a0 + 2) (0 : Int32).toNatClampNeg p1) fun I1 =>
  inb 6 1 <|
  bnd (sI I1 (a0 + 2) (1 : Int32).toNatClampNeg p2) fun I2 =>
  inb 6 2 <|
  bnd (sI I2 (a0 + 2) (2 : Int32).toNatClampNeg p3) fun I3 =>
  some I3
set_option maxRecDepth 20000 in
theorem pc_X3_setLake (I : HI) (L : HL) (R : HR) (a0 : Nat) (hy_a0 : isMc a0) (p1 : Int32) (p2 : Int32) (p3 : Int32) : PCo 1 93 0 yX3_setLake cX3_setLake 4 none [.ref a0, .int p1, .int p2, .int p3] I L R (f_X3_setLake I a0 p1 p2 p3) (fun x : HI => ((none, x, L, R) : HF)) := by
  refine PCo.of (own := RX3) (by decide +kernel) (Nat.le_of_ble_eq_true rfl) rfl rfl (fun F => ?_)
  unfold f_X3_setLake
  refine PWk.aload_n 0 dX3_setLake_0 rfl ?_
  refine PWk.gets dX3_setLake_1 (rgMc_0 hy_a0) (lcMc hy_a0) fl_X3_15 rfl (stMc_2 hy_a0) ?_
  refine PWk.iconst (v := 0) dX3_setLake_4 ic_0 ?_
  refine PWk.iload_n 1 dX3_setLake_5 rfl ?_
  refine PWk.iast dX3_setLake_6 (rgMc_2 hy_a0) (lyMc_2 hy_a0) ?_
  refine PWk.bI (fun I1 => ?_)
  refine PWk.aload_n 0 dX3_setLake_7 rfl ?_
  refine PWk.gets dX3_setLake_8 (rgMc_0 hy_a0) (lcMc hy_a0) fl_X3_15 rfl (stMc_2 hy_a0) ?_
  refine PWk.iconst (v := 1) dX3_setLake_11 ic_1 ?_
  refine PWk.iload_n 2 dX3_setLake_12 rfl ?_
  refine PWk.iast dX3_setLake_13 (rgMc_2 hy_a0) (lyMc_2 hy_a0) ?_
  refine PWk.bI (fun I2 => ?_)
  refine PWk.aload_n 0 dX3_setLake_14 rfl ?_
  refine PWk.gets dX3_setLake_15 (rgMc_0 hy_a0) (lcMc hy_a0) fl_X3_15 rfl (stMc_2 hy_a0) ?_
  refine PWk.iconst (v := 2) dX3_setLake_18 ic_2 ?_
  refine PWk.iload_n 3 dX3_setLake_19 rfl ?_
  refine PWk.iast dX3_setLake_20 (rgMc_2 hy_a0) (lyMc_2 hy_a0) ?_
  refine PWk.bI (fun I3 => ?_)
  exact PWk.vret dX3_setLake_21 rfl (fun h => h)
/-! LakeMarket$Machine.setDrought(I)V -/
def f_X3_setDrought (I : HI) (a0 : Nat) (p1 : Int32) : Option (HI) :=
  inb 6 3 <|
  bnd (sI I (a0 + 2) (3 : Int32).toNatClampNeg p1) fun I1 =>
  some I1
set_option maxRecDepth 20000 in
theorem pc_X3_setDrought (I : HI) (L : HL) (R : HR) (a0 : Nat) (hy_a0 : isMc a0) (p1 : Int32) : PCo 1 93 0 yX3_setDrought cX3_setDrought 2 none [.ref a0, .int p1] I L R (f_X3_setDrought I a0 p1) (fun x : HI => ((none, x, L, R) : HF)) := by
  refine PCo.of (own := RX3) (by decide +kernel) (Nat.le_of_ble_eq_true rfl) rfl rfl (fun F => ?_)
  unfold f_X3_setDrought
  refine PWk.aload_n 0 dX3_setDrought_0 rfl ?_
  refine PWk.gets dX3_setDrought_1 (rgMc_0 hy_a0) (lcMc hy_a0) fl_X3_15 rfl (stMc_2 hy_a0) ?_
  refine PWk.iconst (v := 3) dX3_setDrought_4 ic_3 ?_
  refine PWk.iload_n 1 dX3_setDrought_5 rfl ?_
  refine PWk.iast dX3_setDrought_6 (rgMc_2 hy_a0) (lyMc_2 hy_a0) ?_
  refine PWk.bI (fun I1 => ?_)
  exact PWk.vret dX3_setDrought_7 rfl (fun h => h)
/-! LakeMarket$Machine.setWay(II)V -/
def f_X3_setWay (I : HI) (a0 : Nat) (p1 : Int32) (p2 : Int32) : Option (HI) :=
  inb 6 4 <|
  bnd (sI I (a0 + 2) (4 : Int32).toNatClampNeg p1) fun I1 =>
  inb 6 5 <|
  bnd (sI I1 (a0 + 2) (5 : Int32).toNatClampNeg p2) fun I2 =>
  some I2
set_option maxRecDepth 20000 in
theorem pc_X3_setWay (I : HI) (L : HL) (R : HR) (a0 : Nat) (hy_a0 : isMc a0) (p1 : Int32) (p2 : Int32) : PCo 1 93 0 yX3_setWay cX3_setWay 3 none [.ref a0, .int p1, .int p2] I L R (f_X3_setWay I a0 p1 p2) (fun x : HI => ((none, x, L, R) : HF)) := by
  refine PCo.of (own := RX3) (by decide +kernel) (Nat.le_of_ble_eq_true rfl) rfl rfl (fun F => ?_)
  unfold f_X3_setWay
  refine PWk.aload_n 0 dX3_setWay_0 rfl ?_
  refine PWk.gets dX3_setWay_1 (rgMc_0 hy_a0) (lcMc hy_a0) fl_X3_15 rfl (stMc_2 hy_a0) ?_
  refine PWk.iconst (v := 4) dX3_setWay_4 ic_4 ?_
  refine PWk.iload_n 1 dX3_setWay_5 rfl ?_
  refine PWk.iast dX3_setWay_6 (rgMc_2 hy_a0) (lyMc_2 hy_a0) ?_
  refine PWk.bI (fun I1 => ?_)
  refine PWk.aload_n 0 dX3_setWay_7 rfl ?_
  refine PWk.gets dX3_setWay_8 (rgMc_0 hy_a0) (lcMc hy_a0) fl_X3_15 rfl (stMc_2 hy_a0) ?_
  refine PWk.iconst (v := 5) dX3_setWay_11 ic_5 ?_
  refine PWk.iload_n 2 dX3_setWay_12 rfl ?_
  refine PWk.iast dX3_setWay_13 (rgMc_2 hy_a0) (lyMc_2 hy_a0) ?_
  refine PWk.bI (fun I2 => ?_)
  exact PWk.vret dX3_setWay_14 rfl (fun h => h)
/-! LakeMarket$Machine.push(I)V -/
def f_X3_push (I : HI) (a0 : Nat) (p1 : Int32) : Option (HI) :=
  if 128 ≤ (I a0 1) then
    some I
  else
    inb 128 (I a0 1) <|
    bnd (sI I (a0 + 1) ((I a0 1) : Int32).toNatClampNeg p1) fun I1 =>
    bnd (sI I1 a0 1 ((I1 a0 1) + 1)) fun I2 =>
    some I2
set_option maxRecDepth 20000 in
theorem pc_X3_push (I : HI) (L : HL) (R : HR) (a0 : Nat) (hy_a0 : isMc a0) (p1 : Int32) : PCo 1 93 0 yX3_push cX3_push 2 none [.ref a0, .int p1] I L R (f_X3_push I a0 p1) (fun x : HI => ((none, x, L, R) : HF)) := by
  refine PCo.of (own := RX3) (by decide +kernel) (Nat.le_of_ble_eq_true rfl) rfl rfl (fun F => ?_)
  unfold f_X3_push
  refine PWk.aload_n 0 dX3_push_0 rfl ?_
  refine PWk.geti dX3_push_1 (rgMc_0 hy_a0) (lcMc hy_a0) fl_X3_18 rfl ?_
  refine PWk.sipush (v := 128) dX3_push_4 sp_128 ?_
  refine PWk.icmp_ge 30 dX3_push_7 (by decide) (fun h3 => ?_) (fun h3 => ?_)
  · exact PWk.vret dX3_push_30 rfl (fun h => h)
  · refine PWk.aload_n 0 dX3_push_10 rfl ?_
    refine PWk.gets dX3_push_11 (rgMc_0 hy_a0) (lcMc hy_a0) fl_X3_11 rfl (stMc_0 hy_a0) ?_
    refine PWk.aload_n 0 dX3_push_14 rfl ?_
    refine PWk.geti dX3_push_15 (rgMc_0 hy_a0) (lcMc hy_a0) fl_X3_18 rfl ?_
    refine PWk.iload_n 1 dX3_push_18 rfl ?_
    refine PWk.iast dX3_push_19 (rgMc_1 hy_a0) (lyMc_1 hy_a0) ?_
    refine PWk.bI (fun I1 => ?_)
    refine PWk.aload_n 0 dX3_push_20 rfl ?_
    refine PWk.dup dX3_push_21 rfl ?_
    refine PWk.geti dX3_push_22 (rgMc_0 hy_a0) (lcMc hy_a0) fl_X3_18 rfl ?_
    refine PWk.iconst (v := 1) dX3_push_25 ic_1 ?_
    refine PWk.iadd dX3_push_26 ?_
    refine PWk.puti dX3_push_27 (rgMc_0 hy_a0) (lcMc hy_a0) fl_X3_18 fp_3_1 rfl ?_
    refine PWk.bI (fun I2 => ?_)
    exact PWk.vret dX3_push_30 rfl (fun h => h)
/-! LakeMarket$Machine.pop()I -/
def f_X3_pop (I : HI) (a0 : Nat) : Option (Int32 × HI) :=
  if (I a0 1) = 0 then
    some (0, I)
  else
    bnd (sI I a0 1 ((I a0 1) - 1)) fun I1 =>
    ldI (I1 (a0 + 1)) 128 (I1 a0 1) fun v2 =>
    some (v2, I1)
set_option maxRecDepth 20000 in
theorem pc_X3_pop (I : HI) (L : HL) (R : HR) (a0 : Nat) (hy_a0 : isMc a0) : PCo 1 93 0 yX3_pop cX3_pop 1 (some .int) [.ref a0] I L R (f_X3_pop I a0) (fun x : Int32 × HI => ((some (.int x.1), x.2, L, R) : HF)) := by
  refine PCo.of (own := RX3) (by decide +kernel) (Nat.le_of_ble_eq_true rfl) rfl rfl (fun F => ?_)
  unfold f_X3_pop
  refine PWk.aload_n 0 dX3_pop_0 rfl ?_
  refine PWk.geti dX3_pop_1 (rgMc_0 hy_a0) (lcMc hy_a0) fl_X3_18 rfl ?_
  refine PWk.if_ne 9 dX3_pop_4 (by decide) (fun h3 => ?_) (fun h3 => ?_)
  · refine PWk.iconst (v := 0) dX3_pop_7 ic_0 ?_
    exact PWk.iret dX3_pop_8 rfl (fun h => h)
  · refine PWk.aload_n 0 dX3_pop_9 rfl ?_
    refine PWk.dup dX3_pop_10 rfl ?_
    refine PWk.geti dX3_pop_11 (rgMc_0 hy_a0) (lcMc hy_a0) fl_X3_18 rfl ?_
    refine PWk.iconst (v := 1) dX3_pop_14 ic_1 ?_
    refine PWk.isub dX3_pop_15 ?_
    refine PWk.puti dX3_pop_16 (rgMc_0 hy_a0) (lcMc hy_a0) fl_X3_18 fp_3_1 rfl ?_
    refine PWk.bI (fun I1 => ?_)
    refine PWk.aload_n 0 dX3_pop_19 rfl ?_
    refine PWk.gets dX3_pop_20 (rgMc_0 hy_a0) (lcMc hy_a0) fl_X3_11 rfl (stMc_0 hy_a0) ?_
    refine PWk.aload_n 0 dX3_pop_23 rfl ?_
    refine PWk.geti dX3_pop_24 (rgMc_0 hy_a0) (lcMc hy_a0) fl_X3_18 rfl ?_
    refine PWk.iald dX3_pop_27 (rgMc_1 hy_a0) (lyMc_1 hy_a0) (fun v2 => ?_)
    exact PWk.iret dX3_pop_28 rfl (fun h => h)
/-! LakeMarket$Machine.combine(IJJ)J -/
def f_X3_combine (p0 : Int32) (p1 : Int64) (p2 : Int64) : Option (Int64) :=
  if p0 = (-19) then
    some (p1 &&& p2)
  else
  if p0 = (-18) then
    if (lg_cmp p1 p2) = 0 then
      some 1
    else
      some 0
  else
  if p0 = (-17) then
    if (lg_cmp p1 p2) ≤ 0 then
      some 0
    else
      some 1
  else
  if p0 = (-16) then
    if 0 ≤ (lg_cmp p1 p2) then
      some 0
    else
      some 1
  else
  if p0 = (-15) then
    (f_J9_max_f86c9 p1 p2).bind fun x4 =>
    some x4
  else
  if p0 = (-14) then
    (f_J9_min_f86c9 p1 p2).bind fun x5 =>
    some x5
  else
  if p0 = (-13) then
    if (lg_cmp p2 0) = 0 then
      some 0
    else
      (f_J9_floorMod_f86c9 p1 p2).bind fun x6 =>
      some x6
  else
  if p0 = (-12) then
    if (lg_cmp p2 0) = 0 then
      some 0
    else
      (f_J9_floorDiv_f86c9 p1 p2).bind fun x8 =>
      some x8
  else
  if p0 = (-11) then
    some (p1 * p2)
  else
  if p0 = (-10) then
    some (p1 - p2)
  else
  if p0 = (-9) then
    some (p1 + p2)
  else
    some (p1 ||| p2)
set_option maxRecDepth 20000 in
theorem pc_X3_combine (I : HI) (L : HL) (R : HR) (p0 : Int32) (p1 : Int64) (p2 : Int64) : PCo 1 93 1 yX3_combine cX3_combine 5 (some .long) [.int p0, .long p1, .long p2] I L R (f_X3_combine p0 p1 p2) (fun x : Int64 => ((some (.long x), I, L, R) : HF)) := by
  refine PCo.of (own := RX3) (by decide +kernel) (Nat.le_of_ble_eq_true rfl) rfl rfl (fun F => ?_)
  unfold f_X3_combine
  refine PWk.iload_n 0 dX3_combine_0 rfl ?_
  refine PWk.ite (fun h10 => ?_) (fun h10 => ?_)
  · refine PWk.tIn 152 (off := 151) (v := (-19)) dX3_combine_1 (by rw [h10]; decide) (by decide) (by decide) (by decide +kernel) (by decide) ?_
    refine PWk.lload_n 1 dX3_combine_152 rfl ?_
    refine PWk.lload_n 2 dX3_combine_153 rfl ?_
    refine PWk.land dX3_combine_154 ?_
    exact PWk.lret dX3_combine_155 rfl (fun h => h)
  · skip
    refine PWk.ite (fun h11 => ?_) (fun h11 => ?_)
    · refine PWk.tIn 140 (off := 139) (v := (-18)) dX3_combine_1 (by rw [h11]; decide) (by decide) (by decide) (by decide +kernel) (by decide) ?_
      refine PWk.lload_n 1 dX3_combine_140 rfl ?_
      refine PWk.lload_n 2 dX3_combine_141 rfl ?_
      refine PWk.lcmp dX3_combine_142 ?_
      refine PWk.if_ne 150 dX3_combine_143 (by decide) (fun h1 => ?_) (fun h1 => ?_)
      · refine PWk.lconst (v := 1) dX3_combine_146 rfl ?_
        refine PWk.goto 151 dX3_combine_147 (by decide) ?_
        exact PWk.lret dX3_combine_151 rfl (fun h => h)
      · refine PWk.lconst (v := 0) dX3_combine_150 rfl ?_
        exact PWk.lret dX3_combine_151 rfl (fun h => h)
    · skip
      refine PWk.ite (fun h12 => ?_) (fun h12 => ?_)
      · refine PWk.tIn 128 (off := 127) (v := (-17)) dX3_combine_1 (by rw [h12]; decide) (by decide) (by decide) (by decide +kernel) (by decide) ?_
        refine PWk.lload_n 1 dX3_combine_128 rfl ?_
        refine PWk.lload_n 2 dX3_combine_129 rfl ?_
        refine PWk.lcmp dX3_combine_130 ?_
        refine PWk.if_le 138 dX3_combine_131 (by decide) (fun h2 => ?_) (fun h2 => ?_)
        · refine PWk.lconst (v := 0) dX3_combine_138 rfl ?_
          exact PWk.lret dX3_combine_139 rfl (fun h => h)
        · refine PWk.lconst (v := 1) dX3_combine_134 rfl ?_
          refine PWk.goto 139 dX3_combine_135 (by decide) ?_
          exact PWk.lret dX3_combine_139 rfl (fun h => h)
      · skip
        refine PWk.ite (fun h13 => ?_) (fun h13 => ?_)
        · refine PWk.tIn 116 (off := 115) (v := (-16)) dX3_combine_1 (by rw [h13]; decide) (by decide) (by decide) (by decide +kernel) (by decide) ?_
          refine PWk.lload_n 1 dX3_combine_116 rfl ?_
          refine PWk.lload_n 2 dX3_combine_117 rfl ?_
          refine PWk.lcmp dX3_combine_118 ?_
          refine PWk.if_ge 126 dX3_combine_119 (by decide) (fun h3 => ?_) (fun h3 => ?_)
          · refine PWk.lconst (v := 0) dX3_combine_126 rfl ?_
            exact PWk.lret dX3_combine_127 rfl (fun h => h)
          · refine PWk.lconst (v := 1) dX3_combine_122 rfl ?_
            refine PWk.goto 127 dX3_combine_123 (by decide) ?_
            exact PWk.lret dX3_combine_127 rfl (fun h => h)
        · skip
          refine PWk.ite (fun h14 => ?_) (fun h14 => ?_)
          · refine PWk.tIn 110 (off := 109) (v := (-15)) dX3_combine_1 (by rw [h14]; decide) (by decide) (by decide) (by decide +kernel) (by decide) ?_
            refine PWk.lload_n 1 dX3_combine_110 rfl ?_
            refine PWk.lload_n 2 dX3_combine_111 rfl ?_
            refine PWk.callSl (pc_J9_max_f86c9 I L R p1 p2) dX3_combine_112 ml_X3_70 rfl (by decide) rfl (Nat.le_of_ble_eq_true rfl) (fun x4 => ?_)
            exact PWk.lret dX3_combine_115 rfl (fun h => h)
          · skip
            refine PWk.ite (fun h15 => ?_) (fun h15 => ?_)
            · refine PWk.tIn 104 (off := 103) (v := (-14)) dX3_combine_1 (by rw [h15]; decide) (by decide) (by decide) (by decide +kernel) (by decide) ?_
              refine PWk.lload_n 1 dX3_combine_104 rfl ?_
              refine PWk.lload_n 2 dX3_combine_105 rfl ?_
              refine PWk.callSl (pc_J9_min_f86c9 I L R p1 p2) dX3_combine_106 ml_X3_68 rfl (by decide) rfl (Nat.le_of_ble_eq_true rfl) (fun x5 => ?_)
              exact PWk.lret dX3_combine_109 rfl (fun h => h)
            · skip
              refine PWk.ite (fun h16 => ?_) (fun h16 => ?_)
              · refine PWk.tIn 88 (off := 87) (v := (-13)) dX3_combine_1 (by rw [h16]; decide) (by decide) (by decide) (by decide +kernel) (by decide) ?_
                refine PWk.lload_n 2 dX3_combine_88 rfl ?_
                refine PWk.lconst (v := 0) dX3_combine_89 rfl ?_
                refine PWk.lcmp dX3_combine_90 ?_
                refine PWk.if_ne 98 dX3_combine_91 (by decide) (fun h7 => ?_) (fun h7 => ?_)
                · refine PWk.lconst (v := 0) dX3_combine_94 rfl ?_
                  refine PWk.goto 103 dX3_combine_95 (by decide) ?_
                  exact PWk.lret dX3_combine_103 rfl (fun h => h)
                · refine PWk.lload_n 1 dX3_combine_98 rfl ?_
                  refine PWk.lload_n 2 dX3_combine_99 rfl ?_
                  refine PWk.callSl (pc_J9_floorMod_f86c9 I L R p1 p2) dX3_combine_100 ml_X3_65 rfl (by decide) rfl (Nat.le_of_ble_eq_true rfl) (fun x6 => ?_)
                  exact PWk.lret dX3_combine_103 rfl (fun h => h)
              · skip
                refine PWk.ite (fun h17 => ?_) (fun h17 => ?_)
                · refine PWk.tIn 72 (off := 71) (v := (-12)) dX3_combine_1 (by rw [h17]; decide) (by decide) (by decide) (by decide +kernel) (by decide) ?_
                  refine PWk.lload_n 2 dX3_combine_72 rfl ?_
                  refine PWk.lconst (v := 0) dX3_combine_73 rfl ?_
                  refine PWk.lcmp dX3_combine_74 ?_
                  refine PWk.if_ne 82 dX3_combine_75 (by decide) (fun h9 => ?_) (fun h9 => ?_)
                  · refine PWk.lconst (v := 0) dX3_combine_78 rfl ?_
                    refine PWk.goto 87 dX3_combine_79 (by decide) ?_
                    exact PWk.lret dX3_combine_87 rfl (fun h => h)
                  · refine PWk.lload_n 1 dX3_combine_82 rfl ?_
                    refine PWk.lload_n 2 dX3_combine_83 rfl ?_
                    refine PWk.callSl (pc_J9_floorDiv_f86c9 I L R p1 p2) dX3_combine_84 ml_X3_61 rfl (by decide) rfl (Nat.le_of_ble_eq_true rfl) (fun x8 => ?_)
                    exact PWk.lret dX3_combine_87 rfl (fun h => h)
                · skip
                  refine PWk.ite (fun h18 => ?_) (fun h18 => ?_)
                  · refine PWk.tIn 68 (off := 67) (v := (-11)) dX3_combine_1 (by rw [h18]; decide) (by decide) (by decide) (by decide +kernel) (by decide) ?_
                    refine PWk.lload_n 1 dX3_combine_68 rfl ?_
                    refine PWk.lload_n 2 dX3_combine_69 rfl ?_
                    refine PWk.lmul dX3_combine_70 ?_
                    exact PWk.lret dX3_combine_71 rfl (fun h => h)
                  · skip
                    refine PWk.ite (fun h19 => ?_) (fun h19 => ?_)
                    · refine PWk.tIn 64 (off := 63) (v := (-10)) dX3_combine_1 (by rw [h19]; decide) (by decide) (by decide) (by decide +kernel) (by decide) ?_
                      refine PWk.lload_n 1 dX3_combine_64 rfl ?_
                      refine PWk.lload_n 2 dX3_combine_65 rfl ?_
                      refine PWk.lsub dX3_combine_66 ?_
                      exact PWk.lret dX3_combine_67 rfl (fun h => h)
                    · skip
                      refine PWk.ite (fun h20 => ?_) (fun h20 => ?_)
                      · refine PWk.tIn 60 (off := 59) (v := (-9)) dX3_combine_1 (by rw [h20]; decide) (by decide) (by decide) (by decide +kernel) (by decide) ?_
                        refine PWk.lload_n 1 dX3_combine_60 rfl ?_
                        refine PWk.lload_n 2 dX3_combine_61 rfl ?_
                        refine PWk.ladd dX3_combine_62 ?_
                        exact PWk.lret dX3_combine_63 rfl (fun h => h)
                      · skip
                        have q_0 : (p0).toInt ≠ (-19) := fun e => h10 (Int32.toInt_inj.mp (e.trans (by decide)))
                        have q_1 : (p0).toInt ≠ (-18) := fun e => h11 (Int32.toInt_inj.mp (e.trans (by decide)))
                        have q_2 : (p0).toInt ≠ (-17) := fun e => h12 (Int32.toInt_inj.mp (e.trans (by decide)))
                        have q_3 : (p0).toInt ≠ (-16) := fun e => h13 (Int32.toInt_inj.mp (e.trans (by decide)))
                        have q_4 : (p0).toInt ≠ (-15) := fun e => h14 (Int32.toInt_inj.mp (e.trans (by decide)))
                        have q_5 : (p0).toInt ≠ (-14) := fun e => h15 (Int32.toInt_inj.mp (e.trans (by decide)))
                        have q_6 : (p0).toInt ≠ (-13) := fun e => h16 (Int32.toInt_inj.mp (e.trans (by decide)))
                        have q_7 : (p0).toInt ≠ (-12) := fun e => h17 (Int32.toInt_inj.mp (e.trans (by decide)))
                        have q_8 : (p0).toInt ≠ (-11) := fun e => h18 (Int32.toInt_inj.mp (e.trans (by decide)))
                        have q_9 : (p0).toInt ≠ (-10) := fun e => h19 (Int32.toInt_inj.mp (e.trans (by decide)))
                        have q_10 : (p0).toInt ≠ (-9) := fun e => h20 (Int32.toInt_inj.mp (e.trans (by decide)))
                        refine PWk.tOut 156 dX3_combine_1 (by omega) (by decide) ?_
                        refine PWk.lload_n 1 dX3_combine_156 rfl ?_
                        refine PWk.lload_n 2 dX3_combine_157 rfl ?_
                        refine PWk.lor dX3_combine_158 ?_
                        exact PWk.lret dX3_combine_159 rfl (fun h => h)
/-! LakeMarket$Machine.limited(J)I -/
def f_X3_limited (p0 : Int64) : Option (Int32) :=
  (f_J9_min_f86c9 1000000 p0).bind fun x1 =>
  (f_J9_max_f86c9 (-1000000) x1).bind fun x2 =>
  some (Int64.toInt32 x2)
set_option maxRecDepth 20000 in
theorem pc_X3_limited (I : HI) (L : HL) (R : HR) (p0 : Int64) : PCo 1 93 1 yX3_limited cX3_limited 2 (some .int) [.long p0] I L R (f_X3_limited p0) (fun x : Int32 => ((some (.int x), I, L, R) : HF)) := by
  refine PCo.of (own := RX3) (by decide +kernel) (Nat.le_of_ble_eq_true rfl) rfl rfl (fun F => ?_)
  unfold f_X3_limited
  refine PWk.ldc2 (v := (-1000000)) dX3_limited_0 kc_X3_72 ?_
  refine PWk.ldc2 (v := 1000000) dX3_limited_3 kc_X3_74 ?_
  refine PWk.lload_n 0 dX3_limited_6 rfl ?_
  refine PWk.callSl (pc_J9_min_f86c9 I L R 1000000 p0) dX3_limited_7 ml_X3_68 rfl (by decide) rfl (Nat.le_of_ble_eq_true rfl) (fun x1 => ?_)
  refine PWk.callSl (pc_J9_max_f86c9 I L R (-1000000) x1) dX3_limited_10 ml_X3_70 rfl (by decide) rfl (Nat.le_of_ble_eq_true rfl) (fun x2 => ?_)
  refine PWk.l2i dX3_limited_13 ?_
  exact PWk.iret dX3_limited_14 rfl (fun h => h)
/-! LakeMarket$Machine.step(I)V -/
def f_X3_step (I : HI) (a0 : Nat) (p1 : Int32) : Option (HI) :=
  if p1 < 0 then
    if p1 < (-6) then
      if p1 = (-7) then
        (f_X3_pop I a0).bind fun x1 =>
        (f_X3_push x1.2 a0 (1 - x1.1)).bind fun x2 =>
        some x2
      else
        if p1 = (-8) then
          (f_X3_pop I a0).bind fun x3 =>
          (f_X3_pop x3.2 a0).bind fun x4 =>
          (f_X3_pop x4.2 a0).bind fun x5 =>
          jnt (β := Int32) (fun y8 =>
            (f_X3_push x5.2 a0 y8).bind fun x9 =>
            some x9) fun j6 =>
          if x5.1 = 0 then
            j6 x3.1
          else
            j6 x4.1
        else
          (f_X3_pop I a0).bind fun x10 =>
          (f_X3_pop x10.2 a0).bind fun x11 =>
          (f_X3_combine p1 (Int32.toInt64 x11.1) (Int32.toInt64 x10.1)).bind fun x12 =>
          (f_X3_limited x12).bind fun x13 =>
          (f_X3_push x11.2 a0 x13).bind fun x14 =>
          some x14
    else
      ldI (I (a0 + 2)) 6 ((-1) - p1) fun v17 =>
      (f_X3_push I a0 v17).bind fun x18 =>
      some x18
  else
    (f_X3_push I a0 p1).bind fun x20 =>
    some x20
set_option maxRecDepth 20000 in
theorem pc_X3_step (I : HI) (L : HL) (R : HR) (a0 : Nat) (hy_a0 : isMc a0) (p1 : Int32) : PCo 1 93 2 yX3_step cX3_step 4 none [.ref a0, .int p1] I L R (f_X3_step I a0 p1) (fun x : HI => ((none, x, L, R) : HF)) := by
  refine PCo.of (own := RX3) (by decide +kernel) (Nat.le_of_ble_eq_true rfl) rfl rfl (fun F => ?_)
  unfold f_X3_step
  refine PWk.iload_n 1 dX3_step_0 rfl ?_
  refine PWk.if_lt 12 dX3_step_1 (by decide) (fun h21 => ?_) (fun h21 => ?_)
  · refine PWk.iload_n 1 dX3_step_12 rfl ?_
    refine PWk.bipush (v := (-6)) dX3_step_13 bp_m6 ?_
    refine PWk.icmp_lt 33 dX3_step_15 (by decide) (fun h19 => ?_) (fun h19 => ?_)
    · refine PWk.iload_n 1 dX3_step_33 rfl ?_
      refine PWk.bipush (v := (-7)) dX3_step_34 bp_m7 ?_
      refine PWk.icmp_ne 52 dX3_step_36 (by decide) (fun h16 => ?_) (fun h16 => ?_)
      · refine PWk.aload_n 0 dX3_step_39 rfl ?_
        refine PWk.iconst (v := 1) dX3_step_40 ic_1 ?_
        refine PWk.aload_n 0 dX3_step_41 rfl ?_
        refine PWk.callViI (pc_X3_pop I L R a0 hy_a0) dX3_step_42 ml_X3_46 rfl (rgMc_0 hy_a0) (lcMc hy_a0) vq_3 (by decide) rfl (Nat.le_of_ble_eq_true rfl) (fun x1 => ?_)
        refine PWk.isub dX3_step_45 ?_
        refine PWk.callVvI (pc_X3_push x1.2 L R a0 hy_a0 (1 - x1.1)) dX3_step_46 ml_X3_50 rfl (rgMc_0 hy_a0) (lcMc hy_a0) vq_3 (by decide) rfl (Nat.le_of_ble_eq_true rfl) (fun x2 => ?_)
        refine PWk.goto 110 dX3_step_49 (by decide) ?_
        exact PWk.vret dX3_step_110 rfl (fun h => h)
      · refine PWk.iload_n 1 dX3_step_52 rfl ?_
        refine PWk.bipush (v := (-8)) dX3_step_53 bp_m8 ?_
        refine PWk.icmp_ne 87 dX3_step_55 (by decide) (fun h15 => ?_) (fun h15 => ?_)
        · refine PWk.aload_n 0 dX3_step_58 rfl ?_
          refine PWk.callViI (pc_X3_pop I L R a0 hy_a0) dX3_step_59 ml_X3_46 rfl (rgMc_0 hy_a0) (lcMc hy_a0) vq_3 (by decide) rfl (Nat.le_of_ble_eq_true rfl) (fun x3 => ?_)
          refine PWk.istore_n [(2, .int x3.1), (0, .ref a0), (1, .int p1)] dX3_step_62 (by decide) rfl ?_
          refine PWk.aload_n 1 dX3_step_63 rfl ?_
          refine PWk.callViI (pc_X3_pop x3.2 L R a0 hy_a0) dX3_step_64 ml_X3_46 rfl (rgMc_0 hy_a0) (lcMc hy_a0) vq_3 (by decide) rfl (Nat.le_of_ble_eq_true rfl) (fun x4 => ?_)
          refine PWk.istore_n [(3, .int x4.1), (2, .int x3.1), (0, .ref a0), (1, .int p1)] dX3_step_67 (by decide) rfl ?_
          refine PWk.aload_n 2 dX3_step_68 rfl ?_
          refine PWk.aload_n 2 dX3_step_69 rfl ?_
          refine PWk.callViI (pc_X3_pop x4.2 L R a0 hy_a0) dX3_step_70 ml_X3_46 rfl (rgMc_0 hy_a0) (lcMc hy_a0) vq_3 (by decide) rfl (Nat.le_of_ble_eq_true rfl) (fun x5 => ?_)
          refine PWk.jn (pc' := 81) (lv' := fun y8 => []) (st' := fun y8 => [.int y8, .ref a0]) (I' := fun y8 => x5.2) (L' := fun y8 => L) (R' := fun y8 => R) (fun j6 hj6 => ?_) (fun y8 => ?_)
          · refine PWk.if_eq 80 dX3_step_73 (by decide) (fun h7 => ?_) (fun h7 => ?_)
            · refine PWk.iload_n 1 dX3_step_80 rfl ?_
              refine PWk.sub [] rfl ?_
              exact hj6 x3.1
            · refine PWk.iload_n 0 dX3_step_76 rfl ?_
              refine PWk.goto 81 dX3_step_77 (by decide) ?_
              refine PWk.sub [] rfl ?_
              exact hj6 x4.1
          · refine PWk.callVvI (pc_X3_push x5.2 L R a0 hy_a0 y8) dX3_step_81 ml_X3_50 rfl (rgMc_0 hy_a0) (lcMc hy_a0) vq_3 (by decide) rfl (Nat.le_of_ble_eq_true rfl) (fun x9 => ?_)
            refine PWk.goto 110 dX3_step_84 (by decide) ?_
            exact PWk.vret dX3_step_110 rfl (fun h => h)
        · refine PWk.aload_n 0 dX3_step_87 rfl ?_
          refine PWk.callViI (pc_X3_pop I L R a0 hy_a0) dX3_step_88 ml_X3_46 rfl (rgMc_0 hy_a0) (lcMc hy_a0) vq_3 (by decide) rfl (Nat.le_of_ble_eq_true rfl) (fun x10 => ?_)
          refine PWk.istore_n [(2, .int x10.1), (0, .ref a0), (1, .int p1)] dX3_step_91 (by decide) rfl ?_
          refine PWk.aload_n 1 dX3_step_92 rfl ?_
          refine PWk.iload_n 2 dX3_step_93 rfl ?_
          refine PWk.aload_n 1 dX3_step_94 rfl ?_
          refine PWk.callViI (pc_X3_pop x10.2 L R a0 hy_a0) dX3_step_95 ml_X3_46 rfl (rgMc_0 hy_a0) (lcMc hy_a0) vq_3 (by decide) rfl (Nat.le_of_ble_eq_true rfl) (fun x11 => ?_)
          refine PWk.i2l dX3_step_98 ?_
          refine PWk.iload_n 0 dX3_step_99 rfl ?_
          refine PWk.i2l dX3_step_100 ?_
          refine PWk.callSl (pc_X3_combine x11.2 L R p1 (Int32.toInt64 x11.1) (Int32.toInt64 x10.1)) dX3_step_101 ml_X3_53 rfl (by decide) rfl (Nat.le_of_ble_eq_true rfl) (fun x12 => ?_)
          refine PWk.callSi (pc_X3_limited x11.2 L R x12) dX3_step_104 ml_X3_57 rfl (by decide) rfl (Nat.le_of_ble_eq_true rfl) (fun x13 => ?_)
          refine PWk.callVvI (pc_X3_push x11.2 L R a0 hy_a0 x13) dX3_step_107 ml_X3_50 rfl (rgMc_0 hy_a0) (lcMc hy_a0) vq_3 (by decide) rfl (Nat.le_of_ble_eq_true rfl) (fun x14 => ?_)
          exact PWk.vret dX3_step_110 rfl (fun h => h)
    · refine PWk.aload_n 0 dX3_step_18 rfl ?_
      refine PWk.aload_n 0 dX3_step_19 rfl ?_
      refine PWk.gets dX3_step_20 (rgMc_0 hy_a0) (lcMc hy_a0) fl_X3_15 rfl (stMc_2 hy_a0) ?_
      refine PWk.iconst (v := (-1)) dX3_step_23 ic_m1 ?_
      refine PWk.iload_n 1 dX3_step_24 rfl ?_
      refine PWk.isub dX3_step_25 ?_
      refine PWk.iald dX3_step_26 (rgMc_2 hy_a0) (lyMc_2 hy_a0) (fun v17 => ?_)
      refine PWk.callVvI (pc_X3_push I L R a0 hy_a0 v17) dX3_step_27 ml_X3_50 rfl (rgMc_0 hy_a0) (lcMc hy_a0) vq_3 (by decide) rfl (Nat.le_of_ble_eq_true rfl) (fun x18 => ?_)
      refine PWk.goto 110 dX3_step_30 (by decide) ?_
      exact PWk.vret dX3_step_110 rfl (fun h => h)
  · refine PWk.aload_n 0 dX3_step_4 rfl ?_
    refine PWk.iload_n 1 dX3_step_5 rfl ?_
    refine PWk.callVvI (pc_X3_push I L R a0 hy_a0 p1) dX3_step_6 ml_X3_50 rfl (rgMc_0 hy_a0) (lcMc hy_a0) vq_3 (by decide) rfl (Nat.le_of_ble_eq_true rfl) (fun x20 => ?_)
    refine PWk.goto 110 dX3_step_9 (by decide) ?_
    exact PWk.vret dX3_step_110 rfl (fun h => h)
/-! LakeMarket$Machine.run(LLakeMarket$Lowland;I)I -/
def f_X3_run_L30 : Nat → HI → Nat → Nat → Int32 → Int32 → Option (HI)
  | 0, _, _, _, _, _ => none
  | n + 1, I, b0, b1, u3, u4 =>
    if u3 ≤ u4 then
      some I
    else
      ldI (I (b1 + 10)) 1600 u4 fun v6 =>
      (f_X3_step I b0 v6).bind fun x7 =>
      f_X3_run_L30 n x7 b0 b1 u3 (u4 + 1)
def f_X3_run (fu : Nat) (I : HI) (a0 : Nat) (a1 : Nat) (p2 : Int32) : Option (Int32 × HI) :=
  bnd (sI I a0 1 0) fun I1 =>
  ldI (I1 (a1 + 12)) 3 p2 fun v2 =>
  (f_J9_min_7cf53 v2 1600).bind fun x3 =>
  ldI (I1 (a1 + 11)) 3 p2 fun v4 =>
  (f_J9_max_7cf53 0 v4).bind fun x5 =>
  (f_X3_run_L30 fu I1 a0 a1 x3 x5).bind fun x9 =>
  (f_X3_pop x9 a0).bind fun x10 =>
  some (x10.1, x10.2)
set_option maxRecDepth 20000 in
theorem lp_X3_run_30 (fu : Nat) (b0 : Nat) (hb0 : isMc b0) (b1 : Nat) (hb1 : isLd b1) (u3 : Int32) (L : HL) (R : HR) : ∀ (n : Nat) (u4 : Int32) (I : HI) (N : (HI) → Prop) (F : HF), (∀ v : HI, N v → PW 1 93 3 RX3 cX3_run 5 (some .int) 53 [(0, .ref b0)] [] v L R F) → PWk 1 93 3 RX3 cX3_run 5 (some .int) 30 [(0, .ref b0), (1, .ref b1), (3, .int u3), (4, .int u4)] [] I L R (f_X3_run_L30 n I b0 b1 u3 u4) N F := by
  intro n
  induction n with
  | zero => intro u4 I N F hx; exact PWk.none'
  | succ n ih =>
    intro u4 I N F hx
    unfold f_X3_run_L30
    refine PWk.iload 3 dX3_run_30 rfl ?_
    refine PWk.iload_n 2 dX3_run_32 rfl ?_
    refine PWk.icmp_ge 53 dX3_run_33 (by decide) (fun h8 => ?_) (fun h8 => ?_)
    · refine PWk.sub [0] rfl ?_
      exact PWk.done (fun h => hx _ h)
    · refine PWk.aload_n 0 dX3_run_36 rfl ?_
      refine PWk.aload_n 1 dX3_run_37 rfl ?_
      refine PWk.gets dX3_run_38 (rgLd_0 hb1) (lcLd hb1) fl_X3_39 rfl (stLd_15 hb1) ?_
      refine PWk.iload 3 dX3_run_41 rfl ?_
      refine PWk.iald dX3_run_43 (rgLd_10 hb1) (lyLd_10 hb1) (fun v6 => ?_)
      refine PWk.callVvI (pc_X3_step I L R b0 hb0 v6) dX3_run_44 ml_X3_42 rfl (rgMc_0 hb0) (lcMc hb0) vq_3 (by decide) rfl (Nat.le_of_ble_eq_true rfl) (fun x7 => ?_)
      refine PWk.iinc (v := (u4 + 1)) 3 [(4, .int (u4 + 1)), (0, .ref b0), (1, .ref b1), (3, .int u3)] dX3_run_47 rfl (by rw [ic_1]) (by decide) rfl ?_
      refine PWk.goto 30 dX3_run_50 (by decide) ?_
      refine PWk.sub [1, 2, 3, 0] rfl ?_
      exact ih (u4 + 1) x7 N F hx
set_option maxRecDepth 20000 in
theorem pc_X3_run (fu : Nat) (I : HI) (L : HL) (R : HR) (a0 : Nat) (hy_a0 : isMc a0) (a1 : Nat) (hy_a1 : isLd a1) (p2 : Int32) : PCo 1 93 3 yX3_run cX3_run 5 (some .int) [.ref a0, .ref a1, .int p2] I L R (f_X3_run fu I a0 a1 p2) (fun x : Int32 × HI => ((some (.int x.1), x.2, L, R) : HF)) := by
  refine PCo.of (own := RX3) (by decide +kernel) (Nat.le_of_ble_eq_true rfl) rfl rfl (fun F => ?_)
  unfold f_X3_run
  refine PWk.aload_n 0 dX3_run_0 rfl ?_
  refine PWk.iconst (v := 0) dX3_run_1 ic_0 ?_
  refine PWk.puti dX3_run_2 (rgMc_0 hy_a0) (lcMc hy_a0) fl_X3_18 fp_3_1 rfl ?_
  refine PWk.bI (fun I1 => ?_)
  refine PWk.aload_n 1 dX3_run_5 rfl ?_
  refine PWk.gets dX3_run_6 (rgLd_0 hy_a1) (lcLd hy_a1) fl_X3_22 rfl (stLd_18 hy_a1) ?_
  refine PWk.iload_n 2 dX3_run_9 rfl ?_
  refine PWk.iald dX3_run_10 (rgLd_12 hy_a1) (lyLd_12 hy_a1) (fun v2 => ?_)
  refine PWk.sipush (v := 1600) dX3_run_11 sp_1600 ?_
  refine PWk.callSi (pc_J9_min_7cf53 I1 L R v2 1600) dX3_run_14 ml_X3_27 rfl (by decide) rfl (Nat.le_of_ble_eq_true rfl) (fun x3 => ?_)
  refine PWk.istore_n [(3, .int x3), (0, .ref a0), (1, .ref a1), (2, .int p2)] dX3_run_17 (by decide) rfl ?_
  refine PWk.iconst (v := 0) dX3_run_18 ic_0 ?_
  refine PWk.aload_n 2 dX3_run_19 rfl ?_
  refine PWk.gets dX3_run_20 (rgLd_0 hy_a1) (lcLd hy_a1) fl_X3_33 rfl (stLd_17 hy_a1) ?_
  refine PWk.iload_n 3 dX3_run_23 rfl ?_
  refine PWk.iald dX3_run_24 (rgLd_11 hy_a1) (lyLd_11 hy_a1) (fun v4 => ?_)
  refine PWk.callSi (pc_J9_max_7cf53 I1 L R 0 v4) dX3_run_25 ml_X3_36 rfl (by decide) rfl (Nat.le_of_ble_eq_true rfl) (fun x5 => ?_)
  refine PWk.istore [(4, .int x5), (3, .int x3), (0, .ref a0), (1, .ref a1), (2, .int p2)] dX3_run_28 (by decide) rfl ?_
  refine PWk.sub [2, 3, 1, 0] rfl ?_
  refine PWk.loopV (fun N' hx' => lp_X3_run_30 fu a0 hy_a0 a1 hy_a1 x3 L R fu x5 I1 N' F hx') (fun x9 => ?_)
  refine PWk.aload_n 0 dX3_run_53 rfl ?_
  refine PWk.callViI (pc_X3_pop x9 L R a0 hy_a0) dX3_run_54 ml_X3_46 rfl (rgMc_0 hy_a0) (lcMc hy_a0) vq_3 (by decide) rfl (Nat.le_of_ble_eq_true rfl) (fun x10 => ?_)
  exact PWk.iret dX3_run_57 rfl (fun h => h)
