/-! LakeMarket$RuleReader.mayOpen(I)Z -/
def f_X8_mayOpen (I : HI) (p1 : Int32) : Option (Int32 × HI) :=
  jnt (β := HI) (fun y5 =>
    gz 1 (some (1, y5))) fun j1 =>
  if p1 < 7 then
    j1 I
  else
    (f_X10_fail I 5).bind fun x2 =>
    if x2.1 = 0 then
      gz 0 (some (0, x2.2))
    else
      j1 x2.2
set_option maxRecDepth 20000 in
theorem pc_X8_mayOpen (I : HI) (L : HL) (R : HR) (p1 : Int32) : PCo 1 93 1 yX8_mayOpen cX8_mayOpen 2 (some .boolean) [.ref 8, .int p1] I L R (f_X8_mayOpen I p1) (fun x : Int32 × HI => ((some (.int x.1), x.2, L, R) : HF)) := by
  refine PCo.of (own := RX8) (by decide +kernel) (Nat.le_of_ble_eq_true rfl) rfl rfl (fun F => ?_)
  unfold f_X8_mayOpen
  refine PWk.iload_n 1 dX8_mayOpen_0 rfl ?_
  refine PWk.bipush (v := 7) dX8_mayOpen_1 bp_7 ?_
  refine PWk.jn (pc' := 17) (lv' := fun y5 => []) (st' := fun y5 => []) (I' := fun y5 => y5) (L' := fun y5 => L) (R' := fun y5 => R) (fun j1 hj1 => ?_) (fun y5 => ?_)
  · refine PWk.icmp_lt 17 dX8_mayOpen_3 (by decide) (fun h4 => ?_) (fun h4 => ?_)
    · refine PWk.sub [] rfl ?_
      exact hj1 I
    · refine PWk.aload_n 0 dX8_mayOpen_6 rfl ?_
      refine PWk.gets dX8_mayOpen_7 rg_8 lc_8 fl_X8_9 rfl st_8_0 ?_
      refine PWk.iconst (v := 5) dX8_mayOpen_10 ic_5 ?_
      refine PWk.callViI (pc_X10_fail I L R 5) dX8_mayOpen_11 ml_X8_48 rfl rg_7 lc_7 vq_10 (by decide) rfl (Nat.le_of_ble_eq_true rfl) (fun x2 => ?_)
      refine PWk.if_eq 21 dX8_mayOpen_14 (by decide) (fun h3 => ?_) (fun h3 => ?_)
      · refine PWk.iconst (v := 0) dX8_mayOpen_21 ic_0 ?_
        exact PWk.zret dX8_mayOpen_22 rfl (fun h => h)
      · refine PWk.sub [] rfl ?_
        exact hj1 x2.2
  · refine PWk.iconst (v := 1) dX8_mayOpen_17 ic_1 ?_
    refine PWk.goto 22 dX8_mayOpen_18 (by decide) ?_
    exact PWk.zret dX8_mayOpen_22 rfl (fun h => h)
/-! LakeMarket$RuleReader.compareOp()I -/
def f_X8_compareOp (I : HI) : Option (Int32) :=
  (f_X10_isSign I 60).bind fun x1 =>
  if x1 = 0 then
    (f_X10_isSign I 62).bind fun x2 =>
    if x2 = 0 then
      (f_X10_isSign I 61).bind fun x3 =>
      if x3 = 0 then
        some 0
      else
        some (-18)
    else
      some (-17)
  else
    some (-16)
set_option maxRecDepth 20000 in
theorem pc_X8_compareOp (I : HI) (L : HL) (R : HR) : PCo 1 93 1 yX8_compareOp cX8_compareOp 1 (some .int) [.ref 8] I L R (f_X8_compareOp I) (fun x : Int32 => ((some (.int x), I, L, R) : HF)) := by
  refine PCo.of (own := RX8) (by decide +kernel) (Nat.le_of_ble_eq_true rfl) rfl rfl (fun F => ?_)
  unfold f_X8_compareOp
  refine PWk.aload_n 0 dX8_compareOp_0 rfl ?_
  refine PWk.gets dX8_compareOp_1 rg_8 lc_8 fl_X8_9 rfl st_8_0 ?_
  refine PWk.bipush (v := 60) dX8_compareOp_4 bp_60 ?_
  refine PWk.callVi (pc_X10_isSign I L R 60) dX8_compareOp_6 ml_X8_66 rfl rg_7 lc_7 vq_10 (by decide) rfl (Nat.le_of_ble_eq_true rfl) (fun x1 => ?_)
  refine PWk.if_eq 15 dX8_compareOp_9 (by decide) (fun h6 => ?_) (fun h6 => ?_)
  · refine PWk.aload_n 0 dX8_compareOp_15 rfl ?_
    refine PWk.gets dX8_compareOp_16 rg_8 lc_8 fl_X8_9 rfl st_8_0 ?_
    refine PWk.bipush (v := 62) dX8_compareOp_19 bp_62 ?_
    refine PWk.callVi (pc_X10_isSign I L R 62) dX8_compareOp_21 ml_X8_66 rfl rg_7 lc_7 vq_10 (by decide) rfl (Nat.le_of_ble_eq_true rfl) (fun x2 => ?_)
    refine PWk.if_eq 30 dX8_compareOp_24 (by decide) (fun h5 => ?_) (fun h5 => ?_)
    · refine PWk.aload_n 0 dX8_compareOp_30 rfl ?_
      refine PWk.gets dX8_compareOp_31 rg_8 lc_8 fl_X8_9 rfl st_8_0 ?_
      refine PWk.bipush (v := 61) dX8_compareOp_34 bp_61 ?_
      refine PWk.callVi (pc_X10_isSign I L R 61) dX8_compareOp_36 ml_X8_66 rfl rg_7 lc_7 vq_10 (by decide) rfl (Nat.le_of_ble_eq_true rfl) (fun x3 => ?_)
      refine PWk.if_eq 47 dX8_compareOp_39 (by decide) (fun h4 => ?_) (fun h4 => ?_)
      · refine PWk.iconst (v := 0) dX8_compareOp_47 ic_0 ?_
        exact PWk.iret dX8_compareOp_48 rfl (fun h => h)
      · refine PWk.bipush (v := (-18)) dX8_compareOp_42 bp_m18 ?_
        refine PWk.goto 48 dX8_compareOp_44 (by decide) ?_
        exact PWk.iret dX8_compareOp_48 rfl (fun h => h)
    · refine PWk.bipush (v := (-17)) dX8_compareOp_27 bp_m17 ?_
      exact PWk.iret dX8_compareOp_29 rfl (fun h => h)
  · refine PWk.bipush (v := (-16)) dX8_compareOp_12 bp_m16 ?_
    exact PWk.iret dX8_compareOp_14 rfl (fun h => h)
/-! LakeMarket$RuleReader.addOp()I -/
def f_X8_addOp (I : HI) : Option (Int32) :=
  (f_X10_isSign I 43).bind fun x1 =>
  if x1 = 0 then
    (f_X10_isSign I 45).bind fun x2 =>
    if x2 = 0 then
      some 0
    else
      some (-10)
  else
    some (-9)
set_option maxRecDepth 20000 in
theorem pc_X8_addOp (I : HI) (L : HL) (R : HR) : PCo 1 93 1 yX8_addOp cX8_addOp 1 (some .int) [.ref 8] I L R (f_X8_addOp I) (fun x : Int32 => ((some (.int x), I, L, R) : HF)) := by
  refine PCo.of (own := RX8) (by decide +kernel) (Nat.le_of_ble_eq_true rfl) rfl rfl (fun F => ?_)
  unfold f_X8_addOp
  refine PWk.aload_n 0 dX8_addOp_0 rfl ?_
  refine PWk.gets dX8_addOp_1 rg_8 lc_8 fl_X8_9 rfl st_8_0 ?_
  refine PWk.bipush (v := 43) dX8_addOp_4 bp_43 ?_
  refine PWk.callVi (pc_X10_isSign I L R 43) dX8_addOp_6 ml_X8_66 rfl rg_7 lc_7 vq_10 (by decide) rfl (Nat.le_of_ble_eq_true rfl) (fun x1 => ?_)
  refine PWk.if_eq 15 dX8_addOp_9 (by decide) (fun h4 => ?_) (fun h4 => ?_)
  · refine PWk.aload_n 0 dX8_addOp_15 rfl ?_
    refine PWk.gets dX8_addOp_16 rg_8 lc_8 fl_X8_9 rfl st_8_0 ?_
    refine PWk.bipush (v := 45) dX8_addOp_19 bp_45 ?_
    refine PWk.callVi (pc_X10_isSign I L R 45) dX8_addOp_21 ml_X8_66 rfl rg_7 lc_7 vq_10 (by decide) rfl (Nat.le_of_ble_eq_true rfl) (fun x2 => ?_)
    refine PWk.if_eq 32 dX8_addOp_24 (by decide) (fun h3 => ?_) (fun h3 => ?_)
    · refine PWk.iconst (v := 0) dX8_addOp_32 ic_0 ?_
      exact PWk.iret dX8_addOp_33 rfl (fun h => h)
    · refine PWk.bipush (v := (-10)) dX8_addOp_27 bp_m10 ?_
      refine PWk.goto 33 dX8_addOp_29 (by decide) ?_
      exact PWk.iret dX8_addOp_33 rfl (fun h => h)
  · refine PWk.bipush (v := (-9)) dX8_addOp_12 bp_m9 ?_
    exact PWk.iret dX8_addOp_14 rfl (fun h => h)
/-! LakeMarket$RuleReader.timesOp()I -/
def f_X8_timesOp (I : HI) : Option (Int32) :=
  (f_X10_isSign I 42).bind fun x1 =>
  if x1 = 0 then
    (f_X10_isSign I 47).bind fun x2 =>
    if x2 = 0 then
      (f_X10_isSign I 37).bind fun x3 =>
      if x3 = 0 then
        some 0
      else
        some (-13)
    else
      some (-12)
  else
    some (-11)
set_option maxRecDepth 20000 in
theorem pc_X8_timesOp (I : HI) (L : HL) (R : HR) : PCo 1 93 1 yX8_timesOp cX8_timesOp 1 (some .int) [.ref 8] I L R (f_X8_timesOp I) (fun x : Int32 => ((some (.int x), I, L, R) : HF)) := by
  refine PCo.of (own := RX8) (by decide +kernel) (Nat.le_of_ble_eq_true rfl) rfl rfl (fun F => ?_)
  unfold f_X8_timesOp
  refine PWk.aload_n 0 dX8_timesOp_0 rfl ?_
  refine PWk.gets dX8_timesOp_1 rg_8 lc_8 fl_X8_9 rfl st_8_0 ?_
  refine PWk.bipush (v := 42) dX8_timesOp_4 bp_42 ?_
  refine PWk.callVi (pc_X10_isSign I L R 42) dX8_timesOp_6 ml_X8_66 rfl rg_7 lc_7 vq_10 (by decide) rfl (Nat.le_of_ble_eq_true rfl) (fun x1 => ?_)
  refine PWk.if_eq 15 dX8_timesOp_9 (by decide) (fun h6 => ?_) (fun h6 => ?_)
  · refine PWk.aload_n 0 dX8_timesOp_15 rfl ?_
    refine PWk.gets dX8_timesOp_16 rg_8 lc_8 fl_X8_9 rfl st_8_0 ?_
    refine PWk.bipush (v := 47) dX8_timesOp_19 bp_47 ?_
    refine PWk.callVi (pc_X10_isSign I L R 47) dX8_timesOp_21 ml_X8_66 rfl rg_7 lc_7 vq_10 (by decide) rfl (Nat.le_of_ble_eq_true rfl) (fun x2 => ?_)
    refine PWk.if_eq 30 dX8_timesOp_24 (by decide) (fun h5 => ?_) (fun h5 => ?_)
    · refine PWk.aload_n 0 dX8_timesOp_30 rfl ?_
      refine PWk.gets dX8_timesOp_31 rg_8 lc_8 fl_X8_9 rfl st_8_0 ?_
      refine PWk.bipush (v := 37) dX8_timesOp_34 bp_37 ?_
      refine PWk.callVi (pc_X10_isSign I L R 37) dX8_timesOp_36 ml_X8_66 rfl rg_7 lc_7 vq_10 (by decide) rfl (Nat.le_of_ble_eq_true rfl) (fun x3 => ?_)
      refine PWk.if_eq 47 dX8_timesOp_39 (by decide) (fun h4 => ?_) (fun h4 => ?_)
      · refine PWk.iconst (v := 0) dX8_timesOp_47 ic_0 ?_
        exact PWk.iret dX8_timesOp_48 rfl (fun h => h)
      · refine PWk.bipush (v := (-13)) dX8_timesOp_42 bp_m13 ?_
        refine PWk.goto 48 dX8_timesOp_44 (by decide) ?_
        exact PWk.iret dX8_timesOp_48 rfl (fun h => h)
    · refine PWk.bipush (v := (-12)) dX8_timesOp_27 bp_m12 ?_
      exact PWk.iret dX8_timesOp_29 rfl (fun h => h)
  · refine PWk.bipush (v := (-11)) dX8_timesOp_12 bp_m11 ?_
    exact PWk.iret dX8_timesOp_14 rfl (fun h => h)
/-! LakeMarket$RuleReader.figureOp(I)I -/
def f_X8_figureOp (I : HI) (p1 : Int32) : Option (Int32) :=
  if p1 = 5 then
    some (-1)
  else
  if p1 = 13 then
    some (-2)
  else
  if p1 = 14 then
    some (-3)
  else
  if p1 = 15 then
    if (I 8 2) = 2 then
      some (-5)
    else
      some 0
  else
  if p1 = 16 then
    if (I 8 2) = 2 then
      some (-6)
    else
      some 0
  else
  if p1 = 24 then
    if (I 8 2) = 0 then
      some (-4)
    else
      some 0
  else
    some 0
set_option maxRecDepth 20000 in
theorem pc_X8_figureOp (I : HI) (L : HL) (R : HR) (p1 : Int32) : PCo 1 93 0 yX8_figureOp cX8_figureOp 2 (some .int) [.ref 8, .int p1] I L R (f_X8_figureOp I p1) (fun x : Int32 => ((some (.int x), I, L, R) : HF)) := by
  refine PCo.of (own := RX8) (by decide +kernel) (Nat.le_of_ble_eq_true rfl) rfl rfl (fun F => ?_)
  unfold f_X8_figureOp
  refine PWk.iload_n 1 dX8_figureOp_0 rfl ?_
  refine PWk.ite (fun h4 => ?_) (fun h4 => ?_)
  · refine PWk.tIn 96 (off := 95) (v := 5) dX8_figureOp_1 (by rw [h4]; decide) (by decide) (by decide) (by decide +kernel) (by decide) ?_
    refine PWk.iconst (v := (-1)) dX8_figureOp_96 ic_m1 ?_
    exact PWk.iret dX8_figureOp_97 rfl (fun h => h)
  · skip
    refine PWk.ite (fun h5 => ?_) (fun h5 => ?_)
    · refine PWk.tIn 98 (off := 97) (v := 13) dX8_figureOp_1 (by rw [h5]; decide) (by decide) (by decide) (by decide +kernel) (by decide) ?_
      refine PWk.bipush (v := (-2)) dX8_figureOp_98 bp_m2 ?_
      exact PWk.iret dX8_figureOp_100 rfl (fun h => h)
    · skip
      refine PWk.ite (fun h6 => ?_) (fun h6 => ?_)
      · refine PWk.tIn 101 (off := 100) (v := 14) dX8_figureOp_1 (by rw [h6]; decide) (by decide) (by decide) (by decide +kernel) (by decide) ?_
        refine PWk.bipush (v := (-3)) dX8_figureOp_101 bp_m3 ?_
        exact PWk.iret dX8_figureOp_103 rfl (fun h => h)
      · skip
        refine PWk.ite (fun h7 => ?_) (fun h7 => ?_)
        · refine PWk.tIn 118 (off := 117) (v := 15) dX8_figureOp_1 (by rw [h7]; decide) (by decide) (by decide) (by decide +kernel) (by decide) ?_
          refine PWk.aload_n 0 dX8_figureOp_118 rfl ?_
          refine PWk.geti dX8_figureOp_119 rg_8 lc_8 fl_X8_15 rfl ?_
          refine PWk.iconst (v := 2) dX8_figureOp_122 ic_2 ?_
          refine PWk.icmp_ne 131 dX8_figureOp_123 (by decide) (fun h1 => ?_) (fun h1 => ?_)
          · refine PWk.bipush (v := (-5)) dX8_figureOp_126 bp_m5 ?_
            refine PWk.goto 132 dX8_figureOp_128 (by decide) ?_
            exact PWk.iret dX8_figureOp_132 rfl (fun h => h)
          · refine PWk.iconst (v := 0) dX8_figureOp_131 ic_0 ?_
            exact PWk.iret dX8_figureOp_132 rfl (fun h => h)
        · skip
          refine PWk.ite (fun h8 => ?_) (fun h8 => ?_)
          · refine PWk.tIn 133 (off := 132) (v := 16) dX8_figureOp_1 (by rw [h8]; decide) (by decide) (by decide) (by decide +kernel) (by decide) ?_
            refine PWk.aload_n 0 dX8_figureOp_133 rfl ?_
            refine PWk.geti dX8_figureOp_134 rg_8 lc_8 fl_X8_15 rfl ?_
            refine PWk.iconst (v := 2) dX8_figureOp_137 ic_2 ?_
            refine PWk.icmp_ne 146 dX8_figureOp_138 (by decide) (fun h2 => ?_) (fun h2 => ?_)
            · refine PWk.bipush (v := (-6)) dX8_figureOp_141 bp_m6 ?_
              refine PWk.goto 147 dX8_figureOp_143 (by decide) ?_
              exact PWk.iret dX8_figureOp_147 rfl (fun h => h)
            · refine PWk.iconst (v := 0) dX8_figureOp_146 ic_0 ?_
              exact PWk.iret dX8_figureOp_147 rfl (fun h => h)
          · skip
            refine PWk.ite (fun h9 => ?_) (fun h9 => ?_)
            · refine PWk.tIn 104 (off := 103) (v := 24) dX8_figureOp_1 (by rw [h9]; decide) (by decide) (by decide) (by decide +kernel) (by decide) ?_
              refine PWk.aload_n 0 dX8_figureOp_104 rfl ?_
              refine PWk.geti dX8_figureOp_105 rg_8 lc_8 fl_X8_15 rfl ?_
              refine PWk.if_ne 116 dX8_figureOp_108 (by decide) (fun h3 => ?_) (fun h3 => ?_)
              · refine PWk.bipush (v := (-4)) dX8_figureOp_111 bp_m4 ?_
                refine PWk.goto 117 dX8_figureOp_113 (by decide) ?_
                exact PWk.iret dX8_figureOp_117 rfl (fun h => h)
              · refine PWk.iconst (v := 0) dX8_figureOp_116 ic_0 ?_
                exact PWk.iret dX8_figureOp_117 rfl (fun h => h)
            · skip
              by_cases h10 : p1 = 6
              · refine PWk.tIn 148 (off := 147) (v := 6) dX8_figureOp_1 (by rw [h10]; decide) (by decide) (by decide) (by decide +kernel) (by decide) ?_
                refine PWk.iconst (v := 0) dX8_figureOp_148 ic_0 ?_
                exact PWk.iret dX8_figureOp_149 rfl (fun h => h)
              · skip
                by_cases h11 : p1 = 7
                · refine PWk.tIn 148 (off := 147) (v := 7) dX8_figureOp_1 (by rw [h11]; decide) (by decide) (by decide) (by decide +kernel) (by decide) ?_
                  refine PWk.iconst (v := 0) dX8_figureOp_148 ic_0 ?_
                  exact PWk.iret dX8_figureOp_149 rfl (fun h => h)
                · skip
                  by_cases h12 : p1 = 8
                  · refine PWk.tIn 148 (off := 147) (v := 8) dX8_figureOp_1 (by rw [h12]; decide) (by decide) (by decide) (by decide +kernel) (by decide) ?_
                    refine PWk.iconst (v := 0) dX8_figureOp_148 ic_0 ?_
                    exact PWk.iret dX8_figureOp_149 rfl (fun h => h)
                  · skip
                    by_cases h13 : p1 = 9
                    · refine PWk.tIn 148 (off := 147) (v := 9) dX8_figureOp_1 (by rw [h13]; decide) (by decide) (by decide) (by decide +kernel) (by decide) ?_
                      refine PWk.iconst (v := 0) dX8_figureOp_148 ic_0 ?_
                      exact PWk.iret dX8_figureOp_149 rfl (fun h => h)
                    · skip
                      by_cases h14 : p1 = 10
                      · refine PWk.tIn 148 (off := 147) (v := 10) dX8_figureOp_1 (by rw [h14]; decide) (by decide) (by decide) (by decide +kernel) (by decide) ?_
                        refine PWk.iconst (v := 0) dX8_figureOp_148 ic_0 ?_
                        exact PWk.iret dX8_figureOp_149 rfl (fun h => h)
                      · skip
                        by_cases h15 : p1 = 11
                        · refine PWk.tIn 148 (off := 147) (v := 11) dX8_figureOp_1 (by rw [h15]; decide) (by decide) (by decide) (by decide +kernel) (by decide) ?_
                          refine PWk.iconst (v := 0) dX8_figureOp_148 ic_0 ?_
                          exact PWk.iret dX8_figureOp_149 rfl (fun h => h)
                        · skip
                          by_cases h16 : p1 = 12
                          · refine PWk.tIn 148 (off := 147) (v := 12) dX8_figureOp_1 (by rw [h16]; decide) (by decide) (by decide) (by decide +kernel) (by decide) ?_
                            refine PWk.iconst (v := 0) dX8_figureOp_148 ic_0 ?_
                            exact PWk.iret dX8_figureOp_149 rfl (fun h => h)
                          · skip
                            by_cases h17 : p1 = 17
                            · refine PWk.tIn 148 (off := 147) (v := 17) dX8_figureOp_1 (by rw [h17]; decide) (by decide) (by decide) (by decide +kernel) (by decide) ?_
                              refine PWk.iconst (v := 0) dX8_figureOp_148 ic_0 ?_
                              exact PWk.iret dX8_figureOp_149 rfl (fun h => h)
                            · skip
                              by_cases h18 : p1 = 18
                              · refine PWk.tIn 148 (off := 147) (v := 18) dX8_figureOp_1 (by rw [h18]; decide) (by decide) (by decide) (by decide +kernel) (by decide) ?_
                                refine PWk.iconst (v := 0) dX8_figureOp_148 ic_0 ?_
                                exact PWk.iret dX8_figureOp_149 rfl (fun h => h)
                              · skip
                                by_cases h19 : p1 = 19
                                · refine PWk.tIn 148 (off := 147) (v := 19) dX8_figureOp_1 (by rw [h19]; decide) (by decide) (by decide) (by decide +kernel) (by decide) ?_
                                  refine PWk.iconst (v := 0) dX8_figureOp_148 ic_0 ?_
                                  exact PWk.iret dX8_figureOp_149 rfl (fun h => h)
                                · skip
                                  by_cases h20 : p1 = 20
                                  · refine PWk.tIn 148 (off := 147) (v := 20) dX8_figureOp_1 (by rw [h20]; decide) (by decide) (by decide) (by decide +kernel) (by decide) ?_
                                    refine PWk.iconst (v := 0) dX8_figureOp_148 ic_0 ?_
                                    exact PWk.iret dX8_figureOp_149 rfl (fun h => h)
                                  · skip
                                    by_cases h21 : p1 = 21
                                    · refine PWk.tIn 148 (off := 147) (v := 21) dX8_figureOp_1 (by rw [h21]; decide) (by decide) (by decide) (by decide +kernel) (by decide) ?_
                                      refine PWk.iconst (v := 0) dX8_figureOp_148 ic_0 ?_
                                      exact PWk.iret dX8_figureOp_149 rfl (fun h => h)
                                    · skip
                                      by_cases h22 : p1 = 22
                                      · refine PWk.tIn 148 (off := 147) (v := 22) dX8_figureOp_1 (by rw [h22]; decide) (by decide) (by decide) (by decide +kernel) (by decide) ?_
                                        refine PWk.iconst (v := 0) dX8_figureOp_148 ic_0 ?_
                                        exact PWk.iret dX8_figureOp_149 rfl (fun h => h)
                                      · skip
                                        by_cases h23 : p1 = 23
                                        · refine PWk.tIn 148 (off := 147) (v := 23) dX8_figureOp_1 (by rw [h23]; decide) (by decide) (by decide) (by decide +kernel) (by decide) ?_
                                          refine PWk.iconst (v := 0) dX8_figureOp_148 ic_0 ?_
                                          exact PWk.iret dX8_figureOp_149 rfl (fun h => h)
                                        · skip
                                          have q_0 : (p1).toInt ≠ 5 := fun e => h4 (Int32.toInt_inj.mp (e.trans (by decide)))
                                          have q_1 : (p1).toInt ≠ 6 := fun e => h10 (Int32.toInt_inj.mp (e.trans (by decide)))
                                          have q_2 : (p1).toInt ≠ 7 := fun e => h11 (Int32.toInt_inj.mp (e.trans (by decide)))
                                          have q_3 : (p1).toInt ≠ 8 := fun e => h12 (Int32.toInt_inj.mp (e.trans (by decide)))
                                          have q_4 : (p1).toInt ≠ 9 := fun e => h13 (Int32.toInt_inj.mp (e.trans (by decide)))
                                          have q_5 : (p1).toInt ≠ 10 := fun e => h14 (Int32.toInt_inj.mp (e.trans (by decide)))
                                          have q_6 : (p1).toInt ≠ 11 := fun e => h15 (Int32.toInt_inj.mp (e.trans (by decide)))
                                          have q_7 : (p1).toInt ≠ 12 := fun e => h16 (Int32.toInt_inj.mp (e.trans (by decide)))
                                          have q_8 : (p1).toInt ≠ 13 := fun e => h5 (Int32.toInt_inj.mp (e.trans (by decide)))
                                          have q_9 : (p1).toInt ≠ 14 := fun e => h6 (Int32.toInt_inj.mp (e.trans (by decide)))
                                          have q_10 : (p1).toInt ≠ 15 := fun e => h7 (Int32.toInt_inj.mp (e.trans (by decide)))
                                          have q_11 : (p1).toInt ≠ 16 := fun e => h8 (Int32.toInt_inj.mp (e.trans (by decide)))
                                          have q_12 : (p1).toInt ≠ 17 := fun e => h17 (Int32.toInt_inj.mp (e.trans (by decide)))
                                          have q_13 : (p1).toInt ≠ 18 := fun e => h18 (Int32.toInt_inj.mp (e.trans (by decide)))
                                          have q_14 : (p1).toInt ≠ 19 := fun e => h19 (Int32.toInt_inj.mp (e.trans (by decide)))
                                          have q_15 : (p1).toInt ≠ 20 := fun e => h20 (Int32.toInt_inj.mp (e.trans (by decide)))
                                          have q_16 : (p1).toInt ≠ 21 := fun e => h21 (Int32.toInt_inj.mp (e.trans (by decide)))
                                          have q_17 : (p1).toInt ≠ 22 := fun e => h22 (Int32.toInt_inj.mp (e.trans (by decide)))
                                          have q_18 : (p1).toInt ≠ 23 := fun e => h23 (Int32.toInt_inj.mp (e.trans (by decide)))
                                          have q_19 : (p1).toInt ≠ 24 := fun e => h9 (Int32.toInt_inj.mp (e.trans (by decide)))
                                          refine PWk.tOut 148 dX8_figureOp_1 (by omega) (by decide) ?_
                                          refine PWk.iconst (v := 0) dX8_figureOp_148 ic_0 ?_
                                          exact PWk.iret dX8_figureOp_149 rfl (fun h => h)
/-! LakeMarket$RuleReader.readBoth(I)Z -/
def f_X8_readBoth_L8 (rec : Nat → HI → HR → Int32 → Int32 → Option (Int32 × HI)) (fu : Nat) : Nat → HI → HR → Int32 → Int32 → Int32 → Option (Int32 × HI)
  | 0, _, _, _, _, _ => none
  | n + 1, I, R, u1, u2, u3 =>
    if 1600 ≤ u3 then
      some (u2, I)
    else
      if u2 = 0 then
        some (u2, I)
      else
        (f_X10_isOwn I 19).bind fun x2 =>
        if x2 = 0 then
          some (u2, I)
        else
          (f_X10_advance fu I).bind fun x3 =>
          (rec 2 x3.2 R u1 0).bind fun x4 =>
          jnt (β := Int32 × HI) (fun y12 =>
            f_X8_readBoth_L8 rec fu n y12.2 R u1 y12.1 (u3 + 1)) fun j6 =>
          jnt (β := HI) (fun y11 =>
            j6 (0, y11)) fun j5 =>
          if x4.1 = 0 then
            j5 x4.2
          else
            gr (okLd (R 8 1)) <|
            (f_X2_emit x4.2 (R 8 1) (-19)).bind fun x8 =>
            if x8.1 = 0 then
              j5 x8.2
            else
              j6 (1, x8.2)
def f_X8_readBoth (rec : Nat → HI → HR → Int32 → Int32 → Option (Int32 × HI)) (fu : Nat) (I : HI) (R : HR) (p1 : Int32) : Option (Int32 × HI) :=
  (rec 2 I R p1 0).bind fun x1 =>
  (f_X8_readBoth_L8 rec fu fu x1.2 R p1 x1.1 0).bind fun x16 =>
  gz x16.1 (some (x16.1, x16.2))
set_option maxRecDepth 20000 in
theorem lp_X8_readBoth_8 (rec : Nat → HI → HR → Int32 → Int32 → Option (Int32 × HI)) (D0 : Nat) (fu : Nat) (u1 : Int32) (L : HL) (R : HR) (hD0 : 6 ≤ D0) (hrec : (∀ (I : HI) (L : HL) (R : HR) (a0 : Int32), PCo 1 93 D0 yX8_readBoth cX8_readBoth 4 (some .boolean) [.ref 8, .int a0] I L R (rec 0 I R a0 0) (fun x : Int32 × HI => ((some (.int x.1), x.2, L, R) : HF))) ∧ (∀ (I : HI) (L : HL) (R : HR) (a0 : Int32), PCo 1 93 D0 yX8_readChoice cX8_readChoice 2 (some .boolean) [.ref 8, .int a0] I L R (rec 1 I R a0 0) (fun x : Int32 × HI => ((some (.int x.1), x.2, L, R) : HF))) ∧ (∀ (I : HI) (L : HL) (R : HR) (a0 : Int32), PCo 1 93 D0 yX8_readFact cX8_readFact 3 (some .boolean) [.ref 8, .int a0] I L R (rec 2 I R a0 0) (fun x : Int32 × HI => ((some (.int x.1), x.2, L, R) : HF))) ∧ (∀ (I : HI) (L : HL) (R : HR) (a0 : Int32) (a1 : Int32), PCo 1 93 D0 yX8_readPair cX8_readPair 3 (some .boolean) [.ref 8, .int a0, .int a1] I L R (rec 3 I R a0 a1) (fun x : Int32 × HI => ((some (.int x.1), x.2, L, R) : HF))) ∧ (∀ (I : HI) (L : HL) (R : HR) (a0 : Int32), PCo 1 93 D0 yX8_readPart cX8_readPart 3 (some .boolean) [.ref 8, .int a0] I L R (rec 4 I R a0 0) (fun x : Int32 × HI => ((some (.int x.1), x.2, L, R) : HF))) ∧ (∀ (I : HI) (L : HL) (R : HR) (a0 : Int32), PCo 1 93 D0 yX8_readProduct cX8_readProduct 5 (some .boolean) [.ref 8, .int a0] I L R (rec 5 I R a0 0) (fun x : Int32 × HI => ((some (.int x.1), x.2, L, R) : HF))) ∧ (∀ (I : HI) (L : HL) (R : HR) (a0 : Int32), PCo 1 93 D0 yX8_readSum cX8_readSum 5 (some .boolean) [.ref 8, .int a0] I L R (rec 6 I R a0 0) (fun x : Int32 × HI => ((some (.int x.1), x.2, L, R) : HF))) ∧ (∀ (I : HI) (L : HL) (R : HR) (a0 : Int32), PCo 1 93 D0 yX8_readTest cX8_readTest 4 (some .boolean) [.ref 8, .int a0] I L R (rec 7 I R a0 0) (fun x : Int32 × HI => ((some (.int x.1), x.2, L, R) : HF)))) : ∀ (n : Nat) (u2 : Int32) (u3 : Int32) (I : HI) (N : (Int32 × HI) → Prop) (F : HF), (∀ v : Int32 × HI, N v → PW 1 93 (D0 + 1) RX8 cX8_readBoth 4 (some .boolean) 71 [(2, .int v.1)] [] v.2 L R F) → PWk 1 93 (D0 + 1) RX8 cX8_readBoth 4 (some .boolean) 8 [(0, .ref 8), (1, .int u1), (2, .int u2), (3, .int u3)] [] I L R (f_X8_readBoth_L8 rec fu n I R u1 u2 u3) N F := by
  intro n
  induction n with
  | zero => intro u2 u3 I N F hx; exact PWk.none'
  | succ n ih =>
    intro u2 u3 I N F hx
    unfold f_X8_readBoth_L8
    refine PWk.iload_n 3 dX8_readBoth_8 rfl ?_
    refine PWk.sipush (v := 1600) dX8_readBoth_9 sp_1600 ?_
    refine PWk.icmp_ge 71 dX8_readBoth_12 (by decide) (fun h15 => ?_) (fun h15 => ?_)
    · refine PWk.sub [2] rfl ?_
      exact PWk.done (fun h => hx _ h)
    · refine PWk.iload_n 2 dX8_readBoth_15 rfl ?_
      refine PWk.if_eq 71 dX8_readBoth_16 (by decide) (fun h14 => ?_) (fun h14 => ?_)
      · refine PWk.sub [2] rfl ?_
        exact PWk.done (fun h => hx _ h)
      · refine PWk.aload_n 0 dX8_readBoth_19 rfl ?_
        refine PWk.gets dX8_readBoth_20 rg_8 lc_8 fl_X8_9 rfl st_8_0 ?_
        refine PWk.bipush (v := 19) dX8_readBoth_23 bp_19 ?_
        refine PWk.callVi (pc_X10_isOwn I L R 19) dX8_readBoth_25 ml_X8_54 rfl rg_7 lc_7 vq_10 (by omega) rfl (Nat.le_of_ble_eq_true rfl) (fun x2 => ?_)
        refine PWk.if_eq 71 dX8_readBoth_28 (by decide) (fun h13 => ?_) (fun h13 => ?_)
        · refine PWk.sub [2] rfl ?_
          exact PWk.done (fun h => hx _ h)
        · refine PWk.aload_n 0 dX8_readBoth_31 rfl ?_
          refine PWk.gets dX8_readBoth_32 rg_8 lc_8 fl_X8_9 rfl st_8_0 ?_
          refine PWk.callViI (pc_X10_advance fu I L R) dX8_readBoth_35 ml_X8_28 rfl rg_7 lc_7 vq_10 (by omega) rfl (Nat.le_of_ble_eq_true rfl) (fun x3 => ?_)
          refine PWk.pop dX8_readBoth_38 rfl ?_
          refine PWk.aload_n 0 dX8_readBoth_39 rfl ?_
          refine PWk.iload_n 1 dX8_readBoth_40 rfl ?_
          refine PWk.callViI (hrec.2.2.1 x3.2 L R u1) dX8_readBoth_41 ml_X8_60 rfl rg_8 lc_8 vq_8 (by omega) rfl (Nat.le_of_ble_eq_true rfl) (fun x4 => ?_)
          refine PWk.jn (pc' := 64) (lv' := fun y12 => [(0, .ref 8), (1, .int u1), (3, .int u3)]) (st' := fun y12 => [.int y12.1]) (I' := fun y12 => y12.2) (L' := fun y12 => L) (R' := fun y12 => R) (fun j6 hj6 => ?_) (fun y12 => ?_)
          · refine PWk.jn (pc' := 63) (lv' := fun y11 => [(0, .ref 8), (1, .int u1), (3, .int u3)]) (st' := fun y11 => []) (I' := fun y11 => y11) (L' := fun y11 => L) (R' := fun y11 => R) (fun j5 hj5 => ?_) (fun y11 => ?_)
            · refine PWk.if_eq 63 dX8_readBoth_44 (by decide) (fun h10 => ?_) (fun h10 => ?_)
              · refine PWk.sub [0, 1, 3] rfl ?_
                exact hj5 x4.2
              · refine PWk.aload_n 0 dX8_readBoth_47 rfl ?_
                refine PWk.getr dX8_readBoth_48 rg_8 lc_8 fl_X8_19 rfl okLd_ne (fun hk7 => ?_)
                refine PWk.bipush (v := (-19)) dX8_readBoth_51 bp_m19 ?_
                refine PWk.callViI (pc_X2_emit x4.2 L R (R 8 1) (okLd_is hk7) (-19)) dX8_readBoth_53 ml_X8_57 rfl (rgLd_0 (okLd_is hk7)) (lcLd (okLd_is hk7)) vq_2 (by omega) rfl (Nat.le_of_ble_eq_true rfl) (fun x8 => ?_)
                refine PWk.if_eq 63 dX8_readBoth_56 (by decide) (fun h9 => ?_) (fun h9 => ?_)
                · refine PWk.sub [0, 1, 3] rfl ?_
                  exact hj5 x8.2
                · refine PWk.iconst (v := 1) dX8_readBoth_59 ic_1 ?_
                  refine PWk.goto 64 dX8_readBoth_60 (by decide) ?_
                  refine PWk.sub [0, 1, 3] rfl ?_
                  exact hj6 (1, x8.2)
            · refine PWk.iconst (v := 0) dX8_readBoth_63 ic_0 ?_
              exact hj6 (0, y11)
          · refine PWk.istore_n [(2, .int y12.1), (0, .ref 8), (1, .int u1), (3, .int u3)] dX8_readBoth_64 (by decide) rfl ?_
            refine PWk.iinc (v := (u3 + 1)) 3 [(3, .int (u3 + 1)), (2, .int y12.1), (0, .ref 8), (1, .int u1)] dX8_readBoth_65 rfl (by rw [ic_1]) (by decide) rfl ?_
            refine PWk.goto 8 dX8_readBoth_68 (by decide) ?_
            refine PWk.sub [2, 3, 1, 0] rfl ?_
            exact ih y12.1 (u3 + 1) y12.2 N F hx
set_option maxRecDepth 20000 in
theorem pc_X8_readBoth (rec : Nat → HI → HR → Int32 → Int32 → Option (Int32 × HI)) (D0 : Nat) (fu : Nat) (I : HI) (L : HL) (R : HR) (p1 : Int32) (hD0 : 6 ≤ D0) (hrec : (∀ (I : HI) (L : HL) (R : HR) (a0 : Int32), PCo 1 93 D0 yX8_readBoth cX8_readBoth 4 (some .boolean) [.ref 8, .int a0] I L R (rec 0 I R a0 0) (fun x : Int32 × HI => ((some (.int x.1), x.2, L, R) : HF))) ∧ (∀ (I : HI) (L : HL) (R : HR) (a0 : Int32), PCo 1 93 D0 yX8_readChoice cX8_readChoice 2 (some .boolean) [.ref 8, .int a0] I L R (rec 1 I R a0 0) (fun x : Int32 × HI => ((some (.int x.1), x.2, L, R) : HF))) ∧ (∀ (I : HI) (L : HL) (R : HR) (a0 : Int32), PCo 1 93 D0 yX8_readFact cX8_readFact 3 (some .boolean) [.ref 8, .int a0] I L R (rec 2 I R a0 0) (fun x : Int32 × HI => ((some (.int x.1), x.2, L, R) : HF))) ∧ (∀ (I : HI) (L : HL) (R : HR) (a0 : Int32) (a1 : Int32), PCo 1 93 D0 yX8_readPair cX8_readPair 3 (some .boolean) [.ref 8, .int a0, .int a1] I L R (rec 3 I R a0 a1) (fun x : Int32 × HI => ((some (.int x.1), x.2, L, R) : HF))) ∧ (∀ (I : HI) (L : HL) (R : HR) (a0 : Int32), PCo 1 93 D0 yX8_readPart cX8_readPart 3 (some .boolean) [.ref 8, .int a0] I L R (rec 4 I R a0 0) (fun x : Int32 × HI => ((some (.int x.1), x.2, L, R) : HF))) ∧ (∀ (I : HI) (L : HL) (R : HR) (a0 : Int32), PCo 1 93 D0 yX8_readProduct cX8_readProduct 5 (some .boolean) [.ref 8, .int a0] I L R (rec 5 I R a0 0) (fun x : Int32 × HI => ((some (.int x.1), x.2, L, R) : HF))) ∧ (∀ (I : HI) (L : HL) (R : HR) (a0 : Int32), PCo 1 93 D0 yX8_readSum cX8_readSum 5 (some .boolean) [.ref 8, .int a0] I L R (rec 6 I R a0 0) (fun x : Int32 × HI => ((some (.int x.1), x.2, L, R) : HF))) ∧ (∀ (I : HI) (L : HL) (R : HR) (a0 : Int32), PCo 1 93 D0 yX8_readTest cX8_readTest 4 (some .boolean) [.ref 8, .int a0] I L R (rec 7 I R a0 0) (fun x : Int32 × HI => ((some (.int x.1), x.2, L, R) : HF)))) : PCo 1 93 (D0 + 1) yX8_readBoth cX8_readBoth 4 (some .boolean) [.ref 8, .int p1] I L R (f_X8_readBoth rec fu I R p1) (fun x : Int32 × HI => ((some (.int x.1), x.2, L, R) : HF)) := by
  refine PCo.of (own := RX8) (by decide +kernel) (Nat.le_of_ble_eq_true rfl) rfl rfl (fun F => ?_)
  unfold f_X8_readBoth
  refine PWk.aload_n 0 dX8_readBoth_0 rfl ?_
  refine PWk.iload_n 1 dX8_readBoth_1 rfl ?_
  refine PWk.callViI (hrec.2.2.1 I L R p1) dX8_readBoth_2 ml_X8_60 rfl rg_8 lc_8 vq_8 (by omega) rfl (Nat.le_of_ble_eq_true rfl) (fun x1 => ?_)
  refine PWk.istore_n [(2, .int x1.1), (0, .ref 8), (1, .int p1)] dX8_readBoth_5 (by decide) rfl ?_
  refine PWk.iconst (v := 0) dX8_readBoth_6 ic_0 ?_
  refine PWk.istore_n [(3, .int 0), (2, .int x1.1), (0, .ref 8), (1, .int p1)] dX8_readBoth_7 (by decide) rfl ?_
  refine PWk.sub [2, 3, 1, 0] rfl ?_
  refine PWk.loopV (fun N' hx' => lp_X8_readBoth_8 rec D0 fu p1 L R hD0 hrec fu x1.1 0 x1.2 N' F hx') (fun x16 => ?_)
  refine PWk.iload_n 0 dX8_readBoth_71 rfl ?_
  exact PWk.zret dX8_readBoth_72 rfl (fun h => h)
/-! LakeMarket$RuleReader.readChoice(I)Z -/
def f_X8_readChoice (rec : Nat → HI → HR → Int32 → Int32 → Option (Int32 × HI)) (fu : Nat) (I : HI) (R : HR) (p1 : Int32) : Option (Int32 × HI) :=
  (f_X10_advance fu I).bind fun x1 =>
  if x1.1 = 0 then
    gz 0 (some (0, x1.2))
  else
    (f_X10_needSign x1.2 40).bind fun x2 =>
    if x2.1 = 0 then
      gz 0 (some (0, x2.2))
    else
      (f_X8_mayOpen x2.2 p1).bind fun x3 =>
      if x3.1 = 0 then
        gz 0 (some (0, x3.2))
      else
        (f_X10_advance fu x3.2).bind fun x4 =>
        if x4.1 = 0 then
          gz 0 (some (0, x4.2))
        else
          (rec 7 x4.2 R (p1 + 1) 0).bind fun x5 =>
          if x5.1 = 0 then
            gz 0 (some (0, x5.2))
          else
            (f_X10_needSign x5.2 44).bind fun x6 =>
            if x6.1 = 0 then
              gz 0 (some (0, x6.2))
            else
              (f_X10_advance fu x6.2).bind fun x7 =>
              if x7.1 = 0 then
                gz 0 (some (0, x7.2))
              else
                (rec 6 x7.2 R (p1 + 1) 0).bind fun x8 =>
                if x8.1 = 0 then
                  gz 0 (some (0, x8.2))
                else
                  (f_X10_needSign x8.2 44).bind fun x9 =>
                  if x9.1 = 0 then
                    gz 0 (some (0, x9.2))
                  else
                    (f_X10_advance fu x9.2).bind fun x10 =>
                    if x10.1 = 0 then
                      gz 0 (some (0, x10.2))
                    else
                      (rec 6 x10.2 R (p1 + 1) 0).bind fun x11 =>
                      if x11.1 = 0 then
                        gz 0 (some (0, x11.2))
                      else
                        (f_X10_needSign x11.2 41).bind fun x12 =>
                        if x12.1 = 0 then
                          gz 0 (some (0, x12.2))
                        else
                          (f_X10_advance fu x12.2).bind fun x13 =>
                          if x13.1 = 0 then
                            gz 0 (some (0, x13.2))
                          else
                            gr (okLd (R 8 1)) <|
                            (f_X2_emit x13.2 (R 8 1) (-8)).bind fun x15 =>
                            if x15.1 = 0 then
                              gz 0 (some (0, x15.2))
                            else
                              gz 1 (some (1, x15.2))
set_option maxRecDepth 20000 in
theorem pc_X8_readChoice (rec : Nat → HI → HR → Int32 → Int32 → Option (Int32 × HI)) (D0 : Nat) (fu : Nat) (I : HI) (L : HL) (R : HR) (p1 : Int32) (hD0 : 6 ≤ D0) (hrec : (∀ (I : HI) (L : HL) (R : HR) (a0 : Int32), PCo 1 93 D0 yX8_readBoth cX8_readBoth 4 (some .boolean) [.ref 8, .int a0] I L R (rec 0 I R a0 0) (fun x : Int32 × HI => ((some (.int x.1), x.2, L, R) : HF))) ∧ (∀ (I : HI) (L : HL) (R : HR) (a0 : Int32), PCo 1 93 D0 yX8_readChoice cX8_readChoice 2 (some .boolean) [.ref 8, .int a0] I L R (rec 1 I R a0 0) (fun x : Int32 × HI => ((some (.int x.1), x.2, L, R) : HF))) ∧ (∀ (I : HI) (L : HL) (R : HR) (a0 : Int32), PCo 1 93 D0 yX8_readFact cX8_readFact 3 (some .boolean) [.ref 8, .int a0] I L R (rec 2 I R a0 0) (fun x : Int32 × HI => ((some (.int x.1), x.2, L, R) : HF))) ∧ (∀ (I : HI) (L : HL) (R : HR) (a0 : Int32) (a1 : Int32), PCo 1 93 D0 yX8_readPair cX8_readPair 3 (some .boolean) [.ref 8, .int a0, .int a1] I L R (rec 3 I R a0 a1) (fun x : Int32 × HI => ((some (.int x.1), x.2, L, R) : HF))) ∧ (∀ (I : HI) (L : HL) (R : HR) (a0 : Int32), PCo 1 93 D0 yX8_readPart cX8_readPart 3 (some .boolean) [.ref 8, .int a0] I L R (rec 4 I R a0 0) (fun x : Int32 × HI => ((some (.int x.1), x.2, L, R) : HF))) ∧ (∀ (I : HI) (L : HL) (R : HR) (a0 : Int32), PCo 1 93 D0 yX8_readProduct cX8_readProduct 5 (some .boolean) [.ref 8, .int a0] I L R (rec 5 I R a0 0) (fun x : Int32 × HI => ((some (.int x.1), x.2, L, R) : HF))) ∧ (∀ (I : HI) (L : HL) (R : HR) (a0 : Int32), PCo 1 93 D0 yX8_readSum cX8_readSum 5 (some .boolean) [.ref 8, .int a0] I L R (rec 6 I R a0 0) (fun x : Int32 × HI => ((some (.int x.1), x.2, L, R) : HF))) ∧ (∀ (I : HI) (L : HL) (R : HR) (a0 : Int32), PCo 1 93 D0 yX8_readTest cX8_readTest 4 (some .boolean) [.ref 8, .int a0] I L R (rec 7 I R a0 0) (fun x : Int32 × HI => ((some (.int x.1), x.2, L, R) : HF)))) : PCo 1 93 (D0 + 1) yX8_readChoice cX8_readChoice 2 (some .boolean) [.ref 8, .int p1] I L R (f_X8_readChoice rec fu I R p1) (fun x : Int32 × HI => ((some (.int x.1), x.2, L, R) : HF)) := by
  refine PCo.of (own := RX8) (by decide +kernel) (Nat.le_of_ble_eq_true rfl) rfl rfl (fun F => ?_)
  unfold f_X8_readChoice
  refine PWk.aload_n 0 dX8_readChoice_0 rfl ?_
  refine PWk.gets dX8_readChoice_1 rg_8 lc_8 fl_X8_9 rfl st_8_0 ?_
  refine PWk.callViI (pc_X10_advance fu I L R) dX8_readChoice_4 ml_X8_28 rfl rg_7 lc_7 vq_10 (by omega) rfl (Nat.le_of_ble_eq_true rfl) (fun x1 => ?_)
  refine PWk.if_eq 152 dX8_readChoice_7 (by decide) (fun h29 => ?_) (fun h29 => ?_)
  · refine PWk.iconst (v := 0) dX8_readChoice_152 ic_0 ?_
    exact PWk.zret dX8_readChoice_153 rfl (fun h => h)
  · refine PWk.aload_n 0 dX8_readChoice_10 rfl ?_
    refine PWk.gets dX8_readChoice_11 rg_8 lc_8 fl_X8_9 rfl st_8_0 ?_
    refine PWk.bipush (v := 40) dX8_readChoice_14 bp_40 ?_
    refine PWk.callViI (pc_X10_needSign x1.2 L R 40) dX8_readChoice_16 ml_X8_69 rfl rg_7 lc_7 vq_10 (by omega) rfl (Nat.le_of_ble_eq_true rfl) (fun x2 => ?_)
    refine PWk.if_eq 152 dX8_readChoice_19 (by decide) (fun h28 => ?_) (fun h28 => ?_)
    · refine PWk.iconst (v := 0) dX8_readChoice_152 ic_0 ?_
      exact PWk.zret dX8_readChoice_153 rfl (fun h => h)
    · refine PWk.aload_n 0 dX8_readChoice_22 rfl ?_
      refine PWk.iload_n 1 dX8_readChoice_23 rfl ?_
      refine PWk.callViI (pc_X8_mayOpen x2.2 L R p1) dX8_readChoice_24 ml_X8_63 rfl rg_8 lc_8 vq_8 (by omega) rfl (Nat.le_of_ble_eq_true rfl) (fun x3 => ?_)
      refine PWk.if_eq 152 dX8_readChoice_27 (by decide) (fun h27 => ?_) (fun h27 => ?_)
      · refine PWk.iconst (v := 0) dX8_readChoice_152 ic_0 ?_
        exact PWk.zret dX8_readChoice_153 rfl (fun h => h)
      · refine PWk.aload_n 0 dX8_readChoice_30 rfl ?_
        refine PWk.gets dX8_readChoice_31 rg_8 lc_8 fl_X8_9 rfl st_8_0 ?_
        refine PWk.callViI (pc_X10_advance fu x3.2 L R) dX8_readChoice_34 ml_X8_28 rfl rg_7 lc_7 vq_10 (by omega) rfl (Nat.le_of_ble_eq_true rfl) (fun x4 => ?_)
        refine PWk.if_eq 152 dX8_readChoice_37 (by decide) (fun h26 => ?_) (fun h26 => ?_)
        · refine PWk.iconst (v := 0) dX8_readChoice_152 ic_0 ?_
          exact PWk.zret dX8_readChoice_153 rfl (fun h => h)
        · refine PWk.aload_n 0 dX8_readChoice_40 rfl ?_
          refine PWk.iload_n 1 dX8_readChoice_41 rfl ?_
          refine PWk.iconst (v := 1) dX8_readChoice_42 ic_1 ?_
          refine PWk.iadd dX8_readChoice_43 ?_
          refine PWk.callViI (hrec.2.2.2.2.2.2.2 x4.2 L R (p1 + 1)) dX8_readChoice_44 ml_X8_34 rfl rg_8 lc_8 vq_8 (by omega) rfl (Nat.le_of_ble_eq_true rfl) (fun x5 => ?_)
          refine PWk.if_eq 152 dX8_readChoice_47 (by decide) (fun h25 => ?_) (fun h25 => ?_)
          · refine PWk.iconst (v := 0) dX8_readChoice_152 ic_0 ?_
            exact PWk.zret dX8_readChoice_153 rfl (fun h => h)
          · refine PWk.aload_n 0 dX8_readChoice_50 rfl ?_
            refine PWk.gets dX8_readChoice_51 rg_8 lc_8 fl_X8_9 rfl st_8_0 ?_
            refine PWk.bipush (v := 44) dX8_readChoice_54 bp_44 ?_
            refine PWk.callViI (pc_X10_needSign x5.2 L R 44) dX8_readChoice_56 ml_X8_69 rfl rg_7 lc_7 vq_10 (by omega) rfl (Nat.le_of_ble_eq_true rfl) (fun x6 => ?_)
            refine PWk.if_eq 152 dX8_readChoice_59 (by decide) (fun h24 => ?_) (fun h24 => ?_)
            · refine PWk.iconst (v := 0) dX8_readChoice_152 ic_0 ?_
              exact PWk.zret dX8_readChoice_153 rfl (fun h => h)
            · refine PWk.aload_n 0 dX8_readChoice_62 rfl ?_
              refine PWk.gets dX8_readChoice_63 rg_8 lc_8 fl_X8_9 rfl st_8_0 ?_
              refine PWk.callViI (pc_X10_advance fu x6.2 L R) dX8_readChoice_66 ml_X8_28 rfl rg_7 lc_7 vq_10 (by omega) rfl (Nat.le_of_ble_eq_true rfl) (fun x7 => ?_)
              refine PWk.if_eq 152 dX8_readChoice_69 (by decide) (fun h23 => ?_) (fun h23 => ?_)
              · refine PWk.iconst (v := 0) dX8_readChoice_152 ic_0 ?_
                exact PWk.zret dX8_readChoice_153 rfl (fun h => h)
              · refine PWk.aload_n 0 dX8_readChoice_72 rfl ?_
                refine PWk.iload_n 1 dX8_readChoice_73 rfl ?_
                refine PWk.iconst (v := 1) dX8_readChoice_74 ic_1 ?_
                refine PWk.iadd dX8_readChoice_75 ?_
                refine PWk.callViI (hrec.2.2.2.2.2.2.1 x7.2 L R (p1 + 1)) dX8_readChoice_76 ml_X8_38 rfl rg_8 lc_8 vq_8 (by omega) rfl (Nat.le_of_ble_eq_true rfl) (fun x8 => ?_)
                refine PWk.if_eq 152 dX8_readChoice_79 (by decide) (fun h22 => ?_) (fun h22 => ?_)
                · refine PWk.iconst (v := 0) dX8_readChoice_152 ic_0 ?_
                  exact PWk.zret dX8_readChoice_153 rfl (fun h => h)
                · refine PWk.aload_n 0 dX8_readChoice_82 rfl ?_
                  refine PWk.gets dX8_readChoice_83 rg_8 lc_8 fl_X8_9 rfl st_8_0 ?_
                  refine PWk.bipush (v := 44) dX8_readChoice_86 bp_44 ?_
                  refine PWk.callViI (pc_X10_needSign x8.2 L R 44) dX8_readChoice_88 ml_X8_69 rfl rg_7 lc_7 vq_10 (by omega) rfl (Nat.le_of_ble_eq_true rfl) (fun x9 => ?_)
                  refine PWk.if_eq 152 dX8_readChoice_91 (by decide) (fun h21 => ?_) (fun h21 => ?_)
                  · refine PWk.iconst (v := 0) dX8_readChoice_152 ic_0 ?_
                    exact PWk.zret dX8_readChoice_153 rfl (fun h => h)
                  · refine PWk.aload_n 0 dX8_readChoice_94 rfl ?_
                    refine PWk.gets dX8_readChoice_95 rg_8 lc_8 fl_X8_9 rfl st_8_0 ?_
                    refine PWk.callViI (pc_X10_advance fu x9.2 L R) dX8_readChoice_98 ml_X8_28 rfl rg_7 lc_7 vq_10 (by omega) rfl (Nat.le_of_ble_eq_true rfl) (fun x10 => ?_)
                    refine PWk.if_eq 152 dX8_readChoice_101 (by decide) (fun h20 => ?_) (fun h20 => ?_)
                    · refine PWk.iconst (v := 0) dX8_readChoice_152 ic_0 ?_
                      exact PWk.zret dX8_readChoice_153 rfl (fun h => h)
                    · refine PWk.aload_n 0 dX8_readChoice_104 rfl ?_
                      refine PWk.iload_n 1 dX8_readChoice_105 rfl ?_
                      refine PWk.iconst (v := 1) dX8_readChoice_106 ic_1 ?_
                      refine PWk.iadd dX8_readChoice_107 ?_
                      refine PWk.callViI (hrec.2.2.2.2.2.2.1 x10.2 L R (p1 + 1)) dX8_readChoice_108 ml_X8_38 rfl rg_8 lc_8 vq_8 (by omega) rfl (Nat.le_of_ble_eq_true rfl) (fun x11 => ?_)
                      refine PWk.if_eq 152 dX8_readChoice_111 (by decide) (fun h19 => ?_) (fun h19 => ?_)
                      · refine PWk.iconst (v := 0) dX8_readChoice_152 ic_0 ?_
                        exact PWk.zret dX8_readChoice_153 rfl (fun h => h)
                      · refine PWk.aload_n 0 dX8_readChoice_114 rfl ?_
                        refine PWk.gets dX8_readChoice_115 rg_8 lc_8 fl_X8_9 rfl st_8_0 ?_
                        refine PWk.bipush (v := 41) dX8_readChoice_118 bp_41 ?_
                        refine PWk.callViI (pc_X10_needSign x11.2 L R 41) dX8_readChoice_120 ml_X8_69 rfl rg_7 lc_7 vq_10 (by omega) rfl (Nat.le_of_ble_eq_true rfl) (fun x12 => ?_)
                        refine PWk.if_eq 152 dX8_readChoice_123 (by decide) (fun h18 => ?_) (fun h18 => ?_)
                        · refine PWk.iconst (v := 0) dX8_readChoice_152 ic_0 ?_
                          exact PWk.zret dX8_readChoice_153 rfl (fun h => h)
                        · refine PWk.aload_n 0 dX8_readChoice_126 rfl ?_
                          refine PWk.gets dX8_readChoice_127 rg_8 lc_8 fl_X8_9 rfl st_8_0 ?_
                          refine PWk.callViI (pc_X10_advance fu x12.2 L R) dX8_readChoice_130 ml_X8_28 rfl rg_7 lc_7 vq_10 (by omega) rfl (Nat.le_of_ble_eq_true rfl) (fun x13 => ?_)
                          refine PWk.if_eq 152 dX8_readChoice_133 (by decide) (fun h17 => ?_) (fun h17 => ?_)
                          · refine PWk.iconst (v := 0) dX8_readChoice_152 ic_0 ?_
                            exact PWk.zret dX8_readChoice_153 rfl (fun h => h)
                          · refine PWk.aload_n 0 dX8_readChoice_136 rfl ?_
                            refine PWk.getr dX8_readChoice_137 rg_8 lc_8 fl_X8_19 rfl okLd_ne (fun hk14 => ?_)
                            refine PWk.bipush (v := (-8)) dX8_readChoice_140 bp_m8 ?_
                            refine PWk.callViI (pc_X2_emit x13.2 L R (R 8 1) (okLd_is hk14) (-8)) dX8_readChoice_142 ml_X8_57 rfl (rgLd_0 (okLd_is hk14)) (lcLd (okLd_is hk14)) vq_2 (by omega) rfl (Nat.le_of_ble_eq_true rfl) (fun x15 => ?_)
                            refine PWk.if_eq 152 dX8_readChoice_145 (by decide) (fun h16 => ?_) (fun h16 => ?_)
                            · refine PWk.iconst (v := 0) dX8_readChoice_152 ic_0 ?_
                              exact PWk.zret dX8_readChoice_153 rfl (fun h => h)
                            · refine PWk.iconst (v := 1) dX8_readChoice_148 ic_1 ?_
                              refine PWk.goto 153 dX8_readChoice_149 (by decide) ?_
                              exact PWk.zret dX8_readChoice_153 rfl (fun h => h)
/-! LakeMarket$RuleReader.readFact(I)Z -/
def f_X8_readFact (rec : Nat → HI → HR → Int32 → Int32 → Option (Int32 × HI)) (fu : Nat) (I : HI) (R : HR) (p1 : Int32) : Option (Int32 × HI) :=
  (f_X10_isOwn I 20).bind fun x1 =>
  if x1 = 0 then
    (f_X10_isSign I 91).bind fun x2 =>
    if x2 = 0 then
      (f_X10_isOwn I 21).bind fun x3 =>
      if x3 = 0 then
        (rec 6 I R p1 0).bind fun x4 =>
        if x4.1 = 0 then
          gz 0 (some (0, x4.2))
        else
          (f_X8_compareOp x4.2).bind fun x5 =>
          if x5 = 0 then
            (f_X10_failForm x4.2).bind fun x6 =>
            gz x6.1 (some (x6.1, x6.2))
          else
            (f_X10_advance fu x4.2).bind fun x7 =>
            if x7.1 = 0 then
              gz 0 (some (0, x7.2))
            else
              (rec 6 x7.2 R p1 0).bind fun x8 =>
              if x8.1 = 0 then
                gz 0 (some (0, x8.2))
              else
                gr (okLd (R 8 1)) <|
                (f_X2_emit x8.2 (R 8 1) x5).bind fun x10 =>
                if x10.1 = 0 then
                  gz 0 (some (0, x10.2))
                else
                  gz 1 (some (1, x10.2))
      else
        (f_X10_advance fu I).bind fun x16 =>
        if x16.1 = 0 then
          gz 0 (some (0, x16.2))
        else
          gr (okLd (R 8 1)) <|
          (f_X2_emit x16.2 (R 8 1) 1).bind fun x18 =>
          if x18.1 = 0 then
            gz 0 (some (0, x18.2))
          else
            gz 1 (some (1, x18.2))
    else
      (f_X8_mayOpen I p1).bind fun x22 =>
      if x22.1 = 0 then
        gz 0 (some (0, x22.2))
      else
        (f_X10_advance fu x22.2).bind fun x23 =>
        if x23.1 = 0 then
          gz 0 (some (0, x23.2))
        else
          (rec 7 x23.2 R (p1 + 1) 0).bind fun x24 =>
          if x24.1 = 0 then
            gz 0 (some (0, x24.2))
          else
            (f_X10_needSign x24.2 93).bind fun x25 =>
            if x25.1 = 0 then
              gz 0 (some (0, x25.2))
            else
              (f_X10_advance fu x25.2).bind fun x26 =>
              if x26.1 = 0 then
                gz 0 (some (0, x26.2))
              else
                gz 1 (some (1, x26.2))
  else
    (f_X8_mayOpen I p1).bind fun x33 =>
    if x33.1 = 0 then
      gz 0 (some (0, x33.2))
    else
      (f_X10_advance fu x33.2).bind fun x34 =>
      if x34.1 = 0 then
        gz 0 (some (0, x34.2))
      else
        (rec 2 x34.2 R (p1 + 1) 0).bind fun x35 =>
        if x35.1 = 0 then
          gz 0 (some (0, x35.2))
        else
          gr (okLd (R 8 1)) <|
          (f_X2_emit x35.2 (R 8 1) (-7)).bind fun x37 =>
          if x37.1 = 0 then
            gz 0 (some (0, x37.2))
          else
            gz 1 (some (1, x37.2))
set_option maxRecDepth 20000 in
theorem pc_X8_readFact (rec : Nat → HI → HR → Int32 → Int32 → Option (Int32 × HI)) (D0 : Nat) (fu : Nat) (I : HI) (L : HL) (R : HR) (p1 : Int32) (hD0 : 6 ≤ D0) (hrec : (∀ (I : HI) (L : HL) (R : HR) (a0 : Int32), PCo 1 93 D0 yX8_readBoth cX8_readBoth 4 (some .boolean) [.ref 8, .int a0] I L R (rec 0 I R a0 0) (fun x : Int32 × HI => ((some (.int x.1), x.2, L, R) : HF))) ∧ (∀ (I : HI) (L : HL) (R : HR) (a0 : Int32), PCo 1 93 D0 yX8_readChoice cX8_readChoice 2 (some .boolean) [.ref 8, .int a0] I L R (rec 1 I R a0 0) (fun x : Int32 × HI => ((some (.int x.1), x.2, L, R) : HF))) ∧ (∀ (I : HI) (L : HL) (R : HR) (a0 : Int32), PCo 1 93 D0 yX8_readFact cX8_readFact 3 (some .boolean) [.ref 8, .int a0] I L R (rec 2 I R a0 0) (fun x : Int32 × HI => ((some (.int x.1), x.2, L, R) : HF))) ∧ (∀ (I : HI) (L : HL) (R : HR) (a0 : Int32) (a1 : Int32), PCo 1 93 D0 yX8_readPair cX8_readPair 3 (some .boolean) [.ref 8, .int a0, .int a1] I L R (rec 3 I R a0 a1) (fun x : Int32 × HI => ((some (.int x.1), x.2, L, R) : HF))) ∧ (∀ (I : HI) (L : HL) (R : HR) (a0 : Int32), PCo 1 93 D0 yX8_readPart cX8_readPart 3 (some .boolean) [.ref 8, .int a0] I L R (rec 4 I R a0 0) (fun x : Int32 × HI => ((some (.int x.1), x.2, L, R) : HF))) ∧ (∀ (I : HI) (L : HL) (R : HR) (a0 : Int32), PCo 1 93 D0 yX8_readProduct cX8_readProduct 5 (some .boolean) [.ref 8, .int a0] I L R (rec 5 I R a0 0) (fun x : Int32 × HI => ((some (.int x.1), x.2, L, R) : HF))) ∧ (∀ (I : HI) (L : HL) (R : HR) (a0 : Int32), PCo 1 93 D0 yX8_readSum cX8_readSum 5 (some .boolean) [.ref 8, .int a0] I L R (rec 6 I R a0 0) (fun x : Int32 × HI => ((some (.int x.1), x.2, L, R) : HF))) ∧ (∀ (I : HI) (L : HL) (R : HR) (a0 : Int32), PCo 1 93 D0 yX8_readTest cX8_readTest 4 (some .boolean) [.ref 8, .int a0] I L R (rec 7 I R a0 0) (fun x : Int32 × HI => ((some (.int x.1), x.2, L, R) : HF)))) : PCo 1 93 (D0 + 1) yX8_readFact cX8_readFact 3 (some .boolean) [.ref 8, .int p1] I L R (f_X8_readFact rec fu I R p1) (fun x : Int32 × HI => ((some (.int x.1), x.2, L, R) : HF)) := by
  refine PCo.of (own := RX8) (by decide +kernel) (Nat.le_of_ble_eq_true rfl) rfl rfl (fun F => ?_)
  unfold f_X8_readFact
  refine PWk.aload_n 0 dX8_readFact_0 rfl ?_
  refine PWk.gets dX8_readFact_1 rg_8 lc_8 fl_X8_9 rfl st_8_0 ?_
  refine PWk.bipush (v := 20) dX8_readFact_4 bp_20 ?_
  refine PWk.callVi (pc_X10_isOwn I L R 20) dX8_readFact_6 ml_X8_54 rfl rg_7 lc_7 vq_10 (by omega) rfl (Nat.le_of_ble_eq_true rfl) (fun x1 => ?_)
  refine PWk.if_eq 58 dX8_readFact_9 (by decide) (fun h42 => ?_) (fun h42 => ?_)
  · refine PWk.aload_n 0 dX8_readFact_58 rfl ?_
    refine PWk.gets dX8_readFact_59 rg_8 lc_8 fl_X8_9 rfl st_8_0 ?_
    refine PWk.bipush (v := 91) dX8_readFact_62 bp_91 ?_
    refine PWk.callVi (pc_X10_isSign I L R 91) dX8_readFact_64 ml_X8_66 rfl rg_7 lc_7 vq_10 (by omega) rfl (Nat.le_of_ble_eq_true rfl) (fun x2 => ?_)
    refine PWk.if_eq 126 dX8_readFact_67 (by decide) (fun h32 => ?_) (fun h32 => ?_)
    · refine PWk.aload_n 0 dX8_readFact_126 rfl ?_
      refine PWk.gets dX8_readFact_127 rg_8 lc_8 fl_X8_9 rfl st_8_0 ?_
      refine PWk.bipush (v := 21) dX8_readFact_130 bp_21 ?_
      refine PWk.callVi (pc_X10_isOwn I L R 21) dX8_readFact_132 ml_X8_54 rfl rg_7 lc_7 vq_10 (by omega) rfl (Nat.le_of_ble_eq_true rfl) (fun x3 => ?_)
      refine PWk.if_eq 165 dX8_readFact_135 (by decide) (fun h21 => ?_) (fun h21 => ?_)
      · refine PWk.aload_n 0 dX8_readFact_165 rfl ?_
        refine PWk.iload_n 1 dX8_readFact_166 rfl ?_
        refine PWk.callViI (hrec.2.2.2.2.2.2.1 I L R p1) dX8_readFact_167 ml_X8_38 rfl rg_8 lc_8 vq_8 (by omega) rfl (Nat.le_of_ble_eq_true rfl) (fun x4 => ?_)
        refine PWk.if_ne 175 dX8_readFact_170 (by decide) (fun h15 => ?_) (fun h15 => ?_)
        · refine PWk.iconst (v := 0) dX8_readFact_173 ic_0 ?_
          exact PWk.zret dX8_readFact_174 rfl (fun h => h)
        · refine PWk.aload_n 0 dX8_readFact_175 rfl ?_
          refine PWk.callVi (pc_X8_compareOp x4.2 L R) dX8_readFact_176 ml_X8_72 rfl rg_8 lc_8 vq_8 (by omega) rfl (Nat.le_of_ble_eq_true rfl) (fun x5 => ?_)
          refine PWk.istore_n [(2, .int x5), (0, .ref 8), (1, .int p1)] dX8_readFact_179 (by decide) rfl ?_
          refine PWk.iload_n 0 dX8_readFact_180 rfl ?_
          refine PWk.if_ne 192 dX8_readFact_181 (by decide) (fun h14 => ?_) (fun h14 => ?_)
          · refine PWk.aload_n 1 dX8_readFact_184 rfl ?_
            refine PWk.gets dX8_readFact_185 rg_8 lc_8 fl_X8_9 rfl st_8_0 ?_
            refine PWk.callViI (pc_X10_failForm x4.2 L R) dX8_readFact_188 ml_X8_76 rfl rg_7 lc_7 vq_10 (by omega) rfl (Nat.le_of_ble_eq_true rfl) (fun x6 => ?_)
            exact PWk.zret dX8_readFact_191 rfl (fun h => h)
          · refine PWk.aload_n 1 dX8_readFact_192 rfl ?_
            refine PWk.gets dX8_readFact_193 rg_8 lc_8 fl_X8_9 rfl st_8_0 ?_
            refine PWk.callViI (pc_X10_advance fu x4.2 L R) dX8_readFact_196 ml_X8_28 rfl rg_7 lc_7 vq_10 (by omega) rfl (Nat.le_of_ble_eq_true rfl) (fun x7 => ?_)
            refine PWk.if_eq 225 dX8_readFact_199 (by decide) (fun h13 => ?_) (fun h13 => ?_)
            · refine PWk.iconst (v := 0) dX8_readFact_225 ic_0 ?_
              exact PWk.zret dX8_readFact_226 rfl (fun h => h)
            · refine PWk.aload_n 1 dX8_readFact_202 rfl ?_
              refine PWk.iload_n 2 dX8_readFact_203 rfl ?_
              refine PWk.callViI (hrec.2.2.2.2.2.2.1 x7.2 L R p1) dX8_readFact_204 ml_X8_38 rfl rg_8 lc_8 vq_8 (by omega) rfl (Nat.le_of_ble_eq_true rfl) (fun x8 => ?_)
              refine PWk.if_eq 225 dX8_readFact_207 (by decide) (fun h12 => ?_) (fun h12 => ?_)
              · refine PWk.iconst (v := 0) dX8_readFact_225 ic_0 ?_
                exact PWk.zret dX8_readFact_226 rfl (fun h => h)
              · refine PWk.aload_n 1 dX8_readFact_210 rfl ?_
                refine PWk.getr dX8_readFact_211 rg_8 lc_8 fl_X8_19 rfl okLd_ne (fun hk9 => ?_)
                refine PWk.iload_n 0 dX8_readFact_214 rfl ?_
                refine PWk.callViI (pc_X2_emit x8.2 L R (R 8 1) (okLd_is hk9) x5) dX8_readFact_215 ml_X8_57 rfl (rgLd_0 (okLd_is hk9)) (lcLd (okLd_is hk9)) vq_2 (by omega) rfl (Nat.le_of_ble_eq_true rfl) (fun x10 => ?_)
                refine PWk.if_eq 225 dX8_readFact_218 (by decide) (fun h11 => ?_) (fun h11 => ?_)
                · refine PWk.iconst (v := 0) dX8_readFact_225 ic_0 ?_
                  exact PWk.zret dX8_readFact_226 rfl (fun h => h)
                · refine PWk.iconst (v := 1) dX8_readFact_221 ic_1 ?_
                  refine PWk.goto 226 dX8_readFact_222 (by decide) ?_
                  exact PWk.zret dX8_readFact_226 rfl (fun h => h)
      · refine PWk.aload_n 0 dX8_readFact_138 rfl ?_
        refine PWk.gets dX8_readFact_139 rg_8 lc_8 fl_X8_9 rfl st_8_0 ?_
        refine PWk.callViI (pc_X10_advance fu I L R) dX8_readFact_142 ml_X8_28 rfl rg_7 lc_7 vq_10 (by omega) rfl (Nat.le_of_ble_eq_true rfl) (fun x16 => ?_)
        refine PWk.if_eq 163 dX8_readFact_145 (by decide) (fun h20 => ?_) (fun h20 => ?_)
        · refine PWk.iconst (v := 0) dX8_readFact_163 ic_0 ?_
          exact PWk.zret dX8_readFact_164 rfl (fun h => h)
        · refine PWk.aload_n 0 dX8_readFact_148 rfl ?_
          refine PWk.getr dX8_readFact_149 rg_8 lc_8 fl_X8_19 rfl okLd_ne (fun hk17 => ?_)
          refine PWk.iconst (v := 1) dX8_readFact_152 ic_1 ?_
          refine PWk.callViI (pc_X2_emit x16.2 L R (R 8 1) (okLd_is hk17) 1) dX8_readFact_153 ml_X8_57 rfl (rgLd_0 (okLd_is hk17)) (lcLd (okLd_is hk17)) vq_2 (by omega) rfl (Nat.le_of_ble_eq_true rfl) (fun x18 => ?_)
          refine PWk.if_eq 163 dX8_readFact_156 (by decide) (fun h19 => ?_) (fun h19 => ?_)
          · refine PWk.iconst (v := 0) dX8_readFact_163 ic_0 ?_
            exact PWk.zret dX8_readFact_164 rfl (fun h => h)
          · refine PWk.iconst (v := 1) dX8_readFact_159 ic_1 ?_
            refine PWk.goto 164 dX8_readFact_160 (by decide) ?_
            exact PWk.zret dX8_readFact_164 rfl (fun h => h)
    · refine PWk.aload_n 0 dX8_readFact_70 rfl ?_
      refine PWk.iload_n 1 dX8_readFact_71 rfl ?_
      refine PWk.callViI (pc_X8_mayOpen I L R p1) dX8_readFact_72 ml_X8_63 rfl rg_8 lc_8 vq_8 (by omega) rfl (Nat.le_of_ble_eq_true rfl) (fun x22 => ?_)
      refine PWk.if_eq 124 dX8_readFact_75 (by decide) (fun h31 => ?_) (fun h31 => ?_)
      · refine PWk.iconst (v := 0) dX8_readFact_124 ic_0 ?_
        exact PWk.zret dX8_readFact_125 rfl (fun h => h)
      · refine PWk.aload_n 0 dX8_readFact_78 rfl ?_
        refine PWk.gets dX8_readFact_79 rg_8 lc_8 fl_X8_9 rfl st_8_0 ?_
        refine PWk.callViI (pc_X10_advance fu x22.2 L R) dX8_readFact_82 ml_X8_28 rfl rg_7 lc_7 vq_10 (by omega) rfl (Nat.le_of_ble_eq_true rfl) (fun x23 => ?_)
        refine PWk.if_eq 124 dX8_readFact_85 (by decide) (fun h30 => ?_) (fun h30 => ?_)
        · refine PWk.iconst (v := 0) dX8_readFact_124 ic_0 ?_
          exact PWk.zret dX8_readFact_125 rfl (fun h => h)
        · refine PWk.aload_n 0 dX8_readFact_88 rfl ?_
          refine PWk.iload_n 1 dX8_readFact_89 rfl ?_
          refine PWk.iconst (v := 1) dX8_readFact_90 ic_1 ?_
          refine PWk.iadd dX8_readFact_91 ?_
          refine PWk.callViI (hrec.2.2.2.2.2.2.2 x23.2 L R (p1 + 1)) dX8_readFact_92 ml_X8_34 rfl rg_8 lc_8 vq_8 (by omega) rfl (Nat.le_of_ble_eq_true rfl) (fun x24 => ?_)
          refine PWk.if_eq 124 dX8_readFact_95 (by decide) (fun h29 => ?_) (fun h29 => ?_)
          · refine PWk.iconst (v := 0) dX8_readFact_124 ic_0 ?_
            exact PWk.zret dX8_readFact_125 rfl (fun h => h)
          · refine PWk.aload_n 0 dX8_readFact_98 rfl ?_
            refine PWk.gets dX8_readFact_99 rg_8 lc_8 fl_X8_9 rfl st_8_0 ?_
            refine PWk.bipush (v := 93) dX8_readFact_102 bp_93 ?_
            refine PWk.callViI (pc_X10_needSign x24.2 L R 93) dX8_readFact_104 ml_X8_69 rfl rg_7 lc_7 vq_10 (by omega) rfl (Nat.le_of_ble_eq_true rfl) (fun x25 => ?_)
            refine PWk.if_eq 124 dX8_readFact_107 (by decide) (fun h28 => ?_) (fun h28 => ?_)
            · refine PWk.iconst (v := 0) dX8_readFact_124 ic_0 ?_
              exact PWk.zret dX8_readFact_125 rfl (fun h => h)
            · refine PWk.aload_n 0 dX8_readFact_110 rfl ?_
              refine PWk.gets dX8_readFact_111 rg_8 lc_8 fl_X8_9 rfl st_8_0 ?_
              refine PWk.callViI (pc_X10_advance fu x25.2 L R) dX8_readFact_114 ml_X8_28 rfl rg_7 lc_7 vq_10 (by omega) rfl (Nat.le_of_ble_eq_true rfl) (fun x26 => ?_)
              refine PWk.if_eq 124 dX8_readFact_117 (by decide) (fun h27 => ?_) (fun h27 => ?_)
              · refine PWk.iconst (v := 0) dX8_readFact_124 ic_0 ?_
                exact PWk.zret dX8_readFact_125 rfl (fun h => h)
              · refine PWk.iconst (v := 1) dX8_readFact_120 ic_1 ?_
                refine PWk.goto 125 dX8_readFact_121 (by decide) ?_
                exact PWk.zret dX8_readFact_125 rfl (fun h => h)
  · refine PWk.aload_n 0 dX8_readFact_12 rfl ?_
    refine PWk.iload_n 1 dX8_readFact_13 rfl ?_
    refine PWk.callViI (pc_X8_mayOpen I L R p1) dX8_readFact_14 ml_X8_63 rfl rg_8 lc_8 vq_8 (by omega) rfl (Nat.le_of_ble_eq_true rfl) (fun x33 => ?_)
    refine PWk.if_eq 56 dX8_readFact_17 (by decide) (fun h41 => ?_) (fun h41 => ?_)
    · refine PWk.iconst (v := 0) dX8_readFact_56 ic_0 ?_
      exact PWk.zret dX8_readFact_57 rfl (fun h => h)
    · refine PWk.aload_n 0 dX8_readFact_20 rfl ?_
      refine PWk.gets dX8_readFact_21 rg_8 lc_8 fl_X8_9 rfl st_8_0 ?_
      refine PWk.callViI (pc_X10_advance fu x33.2 L R) dX8_readFact_24 ml_X8_28 rfl rg_7 lc_7 vq_10 (by omega) rfl (Nat.le_of_ble_eq_true rfl) (fun x34 => ?_)
      refine PWk.if_eq 56 dX8_readFact_27 (by decide) (fun h40 => ?_) (fun h40 => ?_)
      · refine PWk.iconst (v := 0) dX8_readFact_56 ic_0 ?_
        exact PWk.zret dX8_readFact_57 rfl (fun h => h)
      · refine PWk.aload_n 0 dX8_readFact_30 rfl ?_
        refine PWk.iload_n 1 dX8_readFact_31 rfl ?_
        refine PWk.iconst (v := 1) dX8_readFact_32 ic_1 ?_
        refine PWk.iadd dX8_readFact_33 ?_
        refine PWk.callViI (hrec.2.2.1 x34.2 L R (p1 + 1)) dX8_readFact_34 ml_X8_60 rfl rg_8 lc_8 vq_8 (by omega) rfl (Nat.le_of_ble_eq_true rfl) (fun x35 => ?_)
        refine PWk.if_eq 56 dX8_readFact_37 (by decide) (fun h39 => ?_) (fun h39 => ?_)
        · refine PWk.iconst (v := 0) dX8_readFact_56 ic_0 ?_
          exact PWk.zret dX8_readFact_57 rfl (fun h => h)
        · refine PWk.aload_n 0 dX8_readFact_40 rfl ?_
          refine PWk.getr dX8_readFact_41 rg_8 lc_8 fl_X8_19 rfl okLd_ne (fun hk36 => ?_)
          refine PWk.bipush (v := (-7)) dX8_readFact_44 bp_m7 ?_
          refine PWk.callViI (pc_X2_emit x35.2 L R (R 8 1) (okLd_is hk36) (-7)) dX8_readFact_46 ml_X8_57 rfl (rgLd_0 (okLd_is hk36)) (lcLd (okLd_is hk36)) vq_2 (by omega) rfl (Nat.le_of_ble_eq_true rfl) (fun x37 => ?_)
          refine PWk.if_eq 56 dX8_readFact_49 (by decide) (fun h38 => ?_) (fun h38 => ?_)
          · refine PWk.iconst (v := 0) dX8_readFact_56 ic_0 ?_
            exact PWk.zret dX8_readFact_57 rfl (fun h => h)
          · refine PWk.iconst (v := 1) dX8_readFact_52 ic_1 ?_
            refine PWk.goto 57 dX8_readFact_53 (by decide) ?_
            exact PWk.zret dX8_readFact_57 rfl (fun h => h)
/-! LakeMarket$RuleReader.readPair(II)Z -/
def f_X8_readPair (rec : Nat → HI → HR → Int32 → Int32 → Option (Int32 × HI)) (fu : Nat) (I : HI) (R : HR) (p1 : Int32) (p2 : Int32) : Option (Int32 × HI) :=
  (f_X10_advance fu I).bind fun x1 =>
  if x1.1 = 0 then
    gz 0 (some (0, x1.2))
  else
    (f_X10_needSign x1.2 40).bind fun x2 =>
    if x2.1 = 0 then
      gz 0 (some (0, x2.2))
    else
      (f_X8_mayOpen x2.2 p1).bind fun x3 =>
      if x3.1 = 0 then
        gz 0 (some (0, x3.2))
      else
        (f_X10_advance fu x3.2).bind fun x4 =>
        if x4.1 = 0 then
          gz 0 (some (0, x4.2))
        else
          (rec 6 x4.2 R (p1 + 1) 0).bind fun x5 =>
          if x5.1 = 0 then
            gz 0 (some (0, x5.2))
          else
            (f_X10_needSign x5.2 44).bind fun x6 =>
            if x6.1 = 0 then
              gz 0 (some (0, x6.2))
            else
              (f_X10_advance fu x6.2).bind fun x7 =>
              if x7.1 = 0 then
                gz 0 (some (0, x7.2))
              else
                (rec 6 x7.2 R (p1 + 1) 0).bind fun x8 =>
                if x8.1 = 0 then
                  gz 0 (some (0, x8.2))
                else
                  (f_X10_needSign x8.2 41).bind fun x9 =>
                  if x9.1 = 0 then
                    gz 0 (some (0, x9.2))
                  else
                    (f_X10_advance fu x9.2).bind fun x10 =>
                    if x10.1 = 0 then
                      gz 0 (some (0, x10.2))
                    else
                      gr (okLd (R 8 1)) <|
                      (f_X2_emit x10.2 (R 8 1) p2).bind fun x12 =>
                      if x12.1 = 0 then
                        gz 0 (some (0, x12.2))
                      else
                        gz 1 (some (1, x12.2))
set_option maxRecDepth 20000 in
theorem pc_X8_readPair (rec : Nat → HI → HR → Int32 → Int32 → Option (Int32 × HI)) (D0 : Nat) (fu : Nat) (I : HI) (L : HL) (R : HR) (p1 : Int32) (p2 : Int32) (hD0 : 6 ≤ D0) (hrec : (∀ (I : HI) (L : HL) (R : HR) (a0 : Int32), PCo 1 93 D0 yX8_readBoth cX8_readBoth 4 (some .boolean) [.ref 8, .int a0] I L R (rec 0 I R a0 0) (fun x : Int32 × HI => ((some (.int x.1), x.2, L, R) : HF))) ∧ (∀ (I : HI) (L : HL) (R : HR) (a0 : Int32), PCo 1 93 D0 yX8_readChoice cX8_readChoice 2 (some .boolean) [.ref 8, .int a0] I L R (rec 1 I R a0 0) (fun x : Int32 × HI => ((some (.int x.1), x.2, L, R) : HF))) ∧ (∀ (I : HI) (L : HL) (R : HR) (a0 : Int32), PCo 1 93 D0 yX8_readFact cX8_readFact 3 (some .boolean) [.ref 8, .int a0] I L R (rec 2 I R a0 0) (fun x : Int32 × HI => ((some (.int x.1), x.2, L, R) : HF))) ∧ (∀ (I : HI) (L : HL) (R : HR) (a0 : Int32) (a1 : Int32), PCo 1 93 D0 yX8_readPair cX8_readPair 3 (some .boolean) [.ref 8, .int a0, .int a1] I L R (rec 3 I R a0 a1) (fun x : Int32 × HI => ((some (.int x.1), x.2, L, R) : HF))) ∧ (∀ (I : HI) (L : HL) (R : HR) (a0 : Int32), PCo 1 93 D0 yX8_readPart cX8_readPart 3 (some .boolean) [.ref 8, .int a0] I L R (rec 4 I R a0 0) (fun x : Int32 × HI => ((some (.int x.1), x.2, L, R) : HF))) ∧ (∀ (I : HI) (L : HL) (R : HR) (a0 : Int32), PCo 1 93 D0 yX8_readProduct cX8_readProduct 5 (some .boolean) [.ref 8, .int a0] I L R (rec 5 I R a0 0) (fun x : Int32 × HI => ((some (.int x.1), x.2, L, R) : HF))) ∧ (∀ (I : HI) (L : HL) (R : HR) (a0 : Int32), PCo 1 93 D0 yX8_readSum cX8_readSum 5 (some .boolean) [.ref 8, .int a0] I L R (rec 6 I R a0 0) (fun x : Int32 × HI => ((some (.int x.1), x.2, L, R) : HF))) ∧ (∀ (I : HI) (L : HL) (R : HR) (a0 : Int32), PCo 1 93 D0 yX8_readTest cX8_readTest 4 (some .boolean) [.ref 8, .int a0] I L R (rec 7 I R a0 0) (fun x : Int32 × HI => ((some (.int x.1), x.2, L, R) : HF)))) : PCo 1 93 (D0 + 1) yX8_readPair cX8_readPair 3 (some .boolean) [.ref 8, .int p1, .int p2] I L R (f_X8_readPair rec fu I R p1 p2) (fun x : Int32 × HI => ((some (.int x.1), x.2, L, R) : HF)) := by
  refine PCo.of (own := RX8) (by decide +kernel) (Nat.le_of_ble_eq_true rfl) rfl rfl (fun F => ?_)
  unfold f_X8_readPair
  refine PWk.aload_n 0 dX8_readPair_0 rfl ?_
  refine PWk.gets dX8_readPair_1 rg_8 lc_8 fl_X8_9 rfl st_8_0 ?_
  refine PWk.callViI (pc_X10_advance fu I L R) dX8_readPair_4 ml_X8_28 rfl rg_7 lc_7 vq_10 (by omega) rfl (Nat.le_of_ble_eq_true rfl) (fun x1 => ?_)
  refine PWk.if_eq 119 dX8_readPair_7 (by decide) (fun h23 => ?_) (fun h23 => ?_)
  · refine PWk.iconst (v := 0) dX8_readPair_119 ic_0 ?_
    exact PWk.zret dX8_readPair_120 rfl (fun h => h)
  · refine PWk.aload_n 0 dX8_readPair_10 rfl ?_
    refine PWk.gets dX8_readPair_11 rg_8 lc_8 fl_X8_9 rfl st_8_0 ?_
    refine PWk.bipush (v := 40) dX8_readPair_14 bp_40 ?_
    refine PWk.callViI (pc_X10_needSign x1.2 L R 40) dX8_readPair_16 ml_X8_69 rfl rg_7 lc_7 vq_10 (by omega) rfl (Nat.le_of_ble_eq_true rfl) (fun x2 => ?_)
    refine PWk.if_eq 119 dX8_readPair_19 (by decide) (fun h22 => ?_) (fun h22 => ?_)
    · refine PWk.iconst (v := 0) dX8_readPair_119 ic_0 ?_
      exact PWk.zret dX8_readPair_120 rfl (fun h => h)
    · refine PWk.aload_n 0 dX8_readPair_22 rfl ?_
      refine PWk.iload_n 1 dX8_readPair_23 rfl ?_
      refine PWk.callViI (pc_X8_mayOpen x2.2 L R p1) dX8_readPair_24 ml_X8_63 rfl rg_8 lc_8 vq_8 (by omega) rfl (Nat.le_of_ble_eq_true rfl) (fun x3 => ?_)
      refine PWk.if_eq 119 dX8_readPair_27 (by decide) (fun h21 => ?_) (fun h21 => ?_)
      · refine PWk.iconst (v := 0) dX8_readPair_119 ic_0 ?_
        exact PWk.zret dX8_readPair_120 rfl (fun h => h)
      · refine PWk.aload_n 0 dX8_readPair_30 rfl ?_
        refine PWk.gets dX8_readPair_31 rg_8 lc_8 fl_X8_9 rfl st_8_0 ?_
        refine PWk.callViI (pc_X10_advance fu x3.2 L R) dX8_readPair_34 ml_X8_28 rfl rg_7 lc_7 vq_10 (by omega) rfl (Nat.le_of_ble_eq_true rfl) (fun x4 => ?_)
        refine PWk.if_eq 119 dX8_readPair_37 (by decide) (fun h20 => ?_) (fun h20 => ?_)
        · refine PWk.iconst (v := 0) dX8_readPair_119 ic_0 ?_
          exact PWk.zret dX8_readPair_120 rfl (fun h => h)
        · refine PWk.aload_n 0 dX8_readPair_40 rfl ?_
          refine PWk.iload_n 1 dX8_readPair_41 rfl ?_
          refine PWk.iconst (v := 1) dX8_readPair_42 ic_1 ?_
          refine PWk.iadd dX8_readPair_43 ?_
          refine PWk.callViI (hrec.2.2.2.2.2.2.1 x4.2 L R (p1 + 1)) dX8_readPair_44 ml_X8_38 rfl rg_8 lc_8 vq_8 (by omega) rfl (Nat.le_of_ble_eq_true rfl) (fun x5 => ?_)
          refine PWk.if_eq 119 dX8_readPair_47 (by decide) (fun h19 => ?_) (fun h19 => ?_)
          · refine PWk.iconst (v := 0) dX8_readPair_119 ic_0 ?_
            exact PWk.zret dX8_readPair_120 rfl (fun h => h)
          · refine PWk.aload_n 0 dX8_readPair_50 rfl ?_
            refine PWk.gets dX8_readPair_51 rg_8 lc_8 fl_X8_9 rfl st_8_0 ?_
            refine PWk.bipush (v := 44) dX8_readPair_54 bp_44 ?_
            refine PWk.callViI (pc_X10_needSign x5.2 L R 44) dX8_readPair_56 ml_X8_69 rfl rg_7 lc_7 vq_10 (by omega) rfl (Nat.le_of_ble_eq_true rfl) (fun x6 => ?_)
            refine PWk.if_eq 119 dX8_readPair_59 (by decide) (fun h18 => ?_) (fun h18 => ?_)
            · refine PWk.iconst (v := 0) dX8_readPair_119 ic_0 ?_
              exact PWk.zret dX8_readPair_120 rfl (fun h => h)
            · refine PWk.aload_n 0 dX8_readPair_62 rfl ?_
              refine PWk.gets dX8_readPair_63 rg_8 lc_8 fl_X8_9 rfl st_8_0 ?_
              refine PWk.callViI (pc_X10_advance fu x6.2 L R) dX8_readPair_66 ml_X8_28 rfl rg_7 lc_7 vq_10 (by omega) rfl (Nat.le_of_ble_eq_true rfl) (fun x7 => ?_)
              refine PWk.if_eq 119 dX8_readPair_69 (by decide) (fun h17 => ?_) (fun h17 => ?_)
              · refine PWk.iconst (v := 0) dX8_readPair_119 ic_0 ?_
                exact PWk.zret dX8_readPair_120 rfl (fun h => h)
              · refine PWk.aload_n 0 dX8_readPair_72 rfl ?_
                refine PWk.iload_n 1 dX8_readPair_73 rfl ?_
                refine PWk.iconst (v := 1) dX8_readPair_74 ic_1 ?_
                refine PWk.iadd dX8_readPair_75 ?_
                refine PWk.callViI (hrec.2.2.2.2.2.2.1 x7.2 L R (p1 + 1)) dX8_readPair_76 ml_X8_38 rfl rg_8 lc_8 vq_8 (by omega) rfl (Nat.le_of_ble_eq_true rfl) (fun x8 => ?_)
                refine PWk.if_eq 119 dX8_readPair_79 (by decide) (fun h16 => ?_) (fun h16 => ?_)
                · refine PWk.iconst (v := 0) dX8_readPair_119 ic_0 ?_
                  exact PWk.zret dX8_readPair_120 rfl (fun h => h)
                · refine PWk.aload_n 0 dX8_readPair_82 rfl ?_
                  refine PWk.gets dX8_readPair_83 rg_8 lc_8 fl_X8_9 rfl st_8_0 ?_
                  refine PWk.bipush (v := 41) dX8_readPair_86 bp_41 ?_
                  refine PWk.callViI (pc_X10_needSign x8.2 L R 41) dX8_readPair_88 ml_X8_69 rfl rg_7 lc_7 vq_10 (by omega) rfl (Nat.le_of_ble_eq_true rfl) (fun x9 => ?_)
                  refine PWk.if_eq 119 dX8_readPair_91 (by decide) (fun h15 => ?_) (fun h15 => ?_)
                  · refine PWk.iconst (v := 0) dX8_readPair_119 ic_0 ?_
                    exact PWk.zret dX8_readPair_120 rfl (fun h => h)
                  · refine PWk.aload_n 0 dX8_readPair_94 rfl ?_
                    refine PWk.gets dX8_readPair_95 rg_8 lc_8 fl_X8_9 rfl st_8_0 ?_
                    refine PWk.callViI (pc_X10_advance fu x9.2 L R) dX8_readPair_98 ml_X8_28 rfl rg_7 lc_7 vq_10 (by omega) rfl (Nat.le_of_ble_eq_true rfl) (fun x10 => ?_)
                    refine PWk.if_eq 119 dX8_readPair_101 (by decide) (fun h14 => ?_) (fun h14 => ?_)
                    · refine PWk.iconst (v := 0) dX8_readPair_119 ic_0 ?_
                      exact PWk.zret dX8_readPair_120 rfl (fun h => h)
                    · refine PWk.aload_n 0 dX8_readPair_104 rfl ?_
                      refine PWk.getr dX8_readPair_105 rg_8 lc_8 fl_X8_19 rfl okLd_ne (fun hk11 => ?_)
                      refine PWk.iload_n 2 dX8_readPair_108 rfl ?_
                      refine PWk.callViI (pc_X2_emit x10.2 L R (R 8 1) (okLd_is hk11) p2) dX8_readPair_109 ml_X8_57 rfl (rgLd_0 (okLd_is hk11)) (lcLd (okLd_is hk11)) vq_2 (by omega) rfl (Nat.le_of_ble_eq_true rfl) (fun x12 => ?_)
                      refine PWk.if_eq 119 dX8_readPair_112 (by decide) (fun h13 => ?_) (fun h13 => ?_)
                      · refine PWk.iconst (v := 0) dX8_readPair_119 ic_0 ?_
                        exact PWk.zret dX8_readPair_120 rfl (fun h => h)
                      · refine PWk.iconst (v := 1) dX8_readPair_115 ic_1 ?_
                        refine PWk.goto 120 dX8_readPair_116 (by decide) ?_
                        exact PWk.zret dX8_readPair_120 rfl (fun h => h)
/-! LakeMarket$RuleReader.readPart(I)Z -/
def f_X8_readPart (rec : Nat → HI → HR → Int32 → Int32 → Option (Int32 × HI)) (fu : Nat) (I : HI) (R : HR) (p1 : Int32) : Option (Int32 × HI) :=
  if (I 7 3) = 3 then
    gr (okLd (R 8 1)) <|
    (f_X2_emit I (R 8 1) (I 7 6)).bind fun x2 =>
    if x2.1 = 0 then
      gz 0 (some (0, x2.2))
    else
      (f_X10_advance fu x2.2).bind fun x3 =>
      if x3.1 = 0 then
        gz 0 (some (0, x3.2))
      else
        gz 1 (some (1, x3.2))
  else
    (f_X10_isSign I 40).bind fun x6 =>
    if x6 = 0 then
      (f_X10_needKind I 2).bind fun x7 =>
      if x7.1 = 0 then
        gz 0 (some (0, x7.2))
      else
        if (x7.2 7 6) = 17 then
          (rec 1 x7.2 R p1 0).bind fun x8 =>
          gz x8.1 (some (x8.1, x8.2))
        else
        if (x7.2 7 6) = 22 then
          (rec 3 x7.2 R p1 (-14)).bind fun x9 =>
          gz x9.1 (some (x9.1, x9.2))
        else
        if (x7.2 7 6) = 23 then
          (rec 3 x7.2 R p1 (-15)).bind fun x10 =>
          gz x10.1 (some (x10.1, x10.2))
        else
          (f_X8_figureOp x7.2 (x7.2 7 6)).bind fun x11 =>
          if x11 = 0 then
            (f_X10_failForm x7.2).bind fun x12 =>
            gz x12.1 (some (x12.1, x12.2))
          else
            gr (okLd (R 8 1)) <|
            (f_X2_emit x7.2 (R 8 1) x11).bind fun x14 =>
            if x14.1 = 0 then
              gz 0 (some (0, x14.2))
            else
              (f_X10_advance fu x14.2).bind fun x15 =>
              if x15.1 = 0 then
                gz 0 (some (0, x15.2))
              else
                gz 1 (some (1, x15.2))
    else
      (f_X8_mayOpen I p1).bind fun x23 =>
      if x23.1 = 0 then
        gz 0 (some (0, x23.2))
      else
        (f_X10_advance fu x23.2).bind fun x24 =>
        if x24.1 = 0 then
          gz 0 (some (0, x24.2))
        else
          (rec 6 x24.2 R (p1 + 1) 0).bind fun x25 =>
          if x25.1 = 0 then
            gz 0 (some (0, x25.2))
          else
            (f_X10_needSign x25.2 41).bind fun x26 =>
            if x26.1 = 0 then
              gz 0 (some (0, x26.2))
            else
              (f_X10_advance fu x26.2).bind fun x27 =>
              if x27.1 = 0 then
                gz 0 (some (0, x27.2))
              else
                gz 1 (some (1, x27.2))
set_option maxRecDepth 20000 in
theorem pc_X8_readPart (rec : Nat → HI → HR → Int32 → Int32 → Option (Int32 × HI)) (D0 : Nat) (fu : Nat) (I : HI) (L : HL) (R : HR) (p1 : Int32) (hD0 : 6 ≤ D0) (hrec : (∀ (I : HI) (L : HL) (R : HR) (a0 : Int32), PCo 1 93 D0 yX8_readBoth cX8_readBoth 4 (some .boolean) [.ref 8, .int a0] I L R (rec 0 I R a0 0) (fun x : Int32 × HI => ((some (.int x.1), x.2, L, R) : HF))) ∧ (∀ (I : HI) (L : HL) (R : HR) (a0 : Int32), PCo 1 93 D0 yX8_readChoice cX8_readChoice 2 (some .boolean) [.ref 8, .int a0] I L R (rec 1 I R a0 0) (fun x : Int32 × HI => ((some (.int x.1), x.2, L, R) : HF))) ∧ (∀ (I : HI) (L : HL) (R : HR) (a0 : Int32), PCo 1 93 D0 yX8_readFact cX8_readFact 3 (some .boolean) [.ref 8, .int a0] I L R (rec 2 I R a0 0) (fun x : Int32 × HI => ((some (.int x.1), x.2, L, R) : HF))) ∧ (∀ (I : HI) (L : HL) (R : HR) (a0 : Int32) (a1 : Int32), PCo 1 93 D0 yX8_readPair cX8_readPair 3 (some .boolean) [.ref 8, .int a0, .int a1] I L R (rec 3 I R a0 a1) (fun x : Int32 × HI => ((some (.int x.1), x.2, L, R) : HF))) ∧ (∀ (I : HI) (L : HL) (R : HR) (a0 : Int32), PCo 1 93 D0 yX8_readPart cX8_readPart 3 (some .boolean) [.ref 8, .int a0] I L R (rec 4 I R a0 0) (fun x : Int32 × HI => ((some (.int x.1), x.2, L, R) : HF))) ∧ (∀ (I : HI) (L : HL) (R : HR) (a0 : Int32), PCo 1 93 D0 yX8_readProduct cX8_readProduct 5 (some .boolean) [.ref 8, .int a0] I L R (rec 5 I R a0 0) (fun x : Int32 × HI => ((some (.int x.1), x.2, L, R) : HF))) ∧ (∀ (I : HI) (L : HL) (R : HR) (a0 : Int32), PCo 1 93 D0 yX8_readSum cX8_readSum 5 (some .boolean) [.ref 8, .int a0] I L R (rec 6 I R a0 0) (fun x : Int32 × HI => ((some (.int x.1), x.2, L, R) : HF))) ∧ (∀ (I : HI) (L : HL) (R : HR) (a0 : Int32), PCo 1 93 D0 yX8_readTest cX8_readTest 4 (some .boolean) [.ref 8, .int a0] I L R (rec 7 I R a0 0) (fun x : Int32 × HI => ((some (.int x.1), x.2, L, R) : HF)))) : PCo 1 93 (D0 + 1) yX8_readPart cX8_readPart 3 (some .boolean) [.ref 8, .int p1] I L R (f_X8_readPart rec fu I R p1) (fun x : Int32 × HI => ((some (.int x.1), x.2, L, R) : HF)) := by
  refine PCo.of (own := RX8) (by decide +kernel) (Nat.le_of_ble_eq_true rfl) rfl rfl (fun F => ?_)
  unfold f_X8_readPart
  refine PWk.aload_n 0 dX8_readPart_0 rfl ?_
  refine PWk.gets dX8_readPart_1 rg_8 lc_8 fl_X8_9 rfl st_8_0 ?_
  refine PWk.geti dX8_readPart_4 rg_7 lc_7 fl_X8_91 rfl ?_
  refine PWk.iconst (v := 3) dX8_readPart_7 ic_3 ?_
  refine PWk.icmp_ne 44 dX8_readPart_8 (by decide) (fun h34 => ?_) (fun h34 => ?_)
  · refine PWk.aload_n 0 dX8_readPart_11 rfl ?_
    refine PWk.getr dX8_readPart_12 rg_8 lc_8 fl_X8_19 rfl okLd_ne (fun hk1 => ?_)
    refine PWk.aload_n 0 dX8_readPart_15 rfl ?_
    refine PWk.gets dX8_readPart_16 rg_8 lc_8 fl_X8_9 rfl st_8_0 ?_
    refine PWk.geti dX8_readPart_19 rg_7 lc_7 fl_X8_94 rfl ?_
    refine PWk.callViI (pc_X2_emit I L R (R 8 1) (okLd_is hk1) (I 7 6)) dX8_readPart_22 ml_X8_57 rfl (rgLd_0 (okLd_is hk1)) (lcLd (okLd_is hk1)) vq_2 (by omega) rfl (Nat.le_of_ble_eq_true rfl) (fun x2 => ?_)
    refine PWk.if_eq 42 dX8_readPart_25 (by decide) (fun h5 => ?_) (fun h5 => ?_)
    · refine PWk.iconst (v := 0) dX8_readPart_42 ic_0 ?_
      exact PWk.zret dX8_readPart_43 rfl (fun h => h)
    · refine PWk.aload_n 0 dX8_readPart_28 rfl ?_
      refine PWk.gets dX8_readPart_29 rg_8 lc_8 fl_X8_9 rfl st_8_0 ?_
      refine PWk.callViI (pc_X10_advance fu x2.2 L R) dX8_readPart_32 ml_X8_28 rfl rg_7 lc_7 vq_10 (by omega) rfl (Nat.le_of_ble_eq_true rfl) (fun x3 => ?_)
      refine PWk.if_eq 42 dX8_readPart_35 (by decide) (fun h4 => ?_) (fun h4 => ?_)
      · refine PWk.iconst (v := 0) dX8_readPart_42 ic_0 ?_
        exact PWk.zret dX8_readPart_43 rfl (fun h => h)
      · refine PWk.iconst (v := 1) dX8_readPart_38 ic_1 ?_
        refine PWk.goto 43 dX8_readPart_39 (by decide) ?_
        exact PWk.zret dX8_readPart_43 rfl (fun h => h)
  · refine PWk.aload_n 0 dX8_readPart_44 rfl ?_
    refine PWk.gets dX8_readPart_45 rg_8 lc_8 fl_X8_9 rfl st_8_0 ?_
    refine PWk.bipush (v := 40) dX8_readPart_48 bp_40 ?_
    refine PWk.callVi (pc_X10_isSign I L R 40) dX8_readPart_50 ml_X8_66 rfl rg_7 lc_7 vq_10 (by omega) rfl (Nat.le_of_ble_eq_true rfl) (fun x6 => ?_)
    refine PWk.if_eq 112 dX8_readPart_53 (by decide) (fun h33 => ?_) (fun h33 => ?_)
    · refine PWk.aload_n 0 dX8_readPart_112 rfl ?_
      refine PWk.gets dX8_readPart_113 rg_8 lc_8 fl_X8_9 rfl st_8_0 ?_
      refine PWk.iconst (v := 2) dX8_readPart_116 ic_2 ?_
      refine PWk.callViI (pc_X10_needKind I L R 2) dX8_readPart_117 ml_X8_97 rfl rg_7 lc_7 vq_10 (by omega) rfl (Nat.le_of_ble_eq_true rfl) (fun x7 => ?_)
      refine PWk.if_ne 125 dX8_readPart_120 (by decide) (fun h22 => ?_) (fun h22 => ?_)
      · refine PWk.iconst (v := 0) dX8_readPart_123 ic_0 ?_
        exact PWk.zret dX8_readPart_124 rfl (fun h => h)
      · refine PWk.aload_n 0 dX8_readPart_125 rfl ?_
        refine PWk.gets dX8_readPart_126 rg_8 lc_8 fl_X8_9 rfl st_8_0 ?_
        refine PWk.geti dX8_readPart_129 rg_7 lc_7 fl_X8_94 rfl ?_
        refine PWk.ite (fun h19 => ?_) (fun h19 => ?_)
        · refine PWk.look 184 (off := 52) dX8_readPart_132 (by decide +kernel) (by rw [h19]; decide +kernel) (by decide) ?_
          refine PWk.aload_n 0 dX8_readPart_184 rfl ?_
          refine PWk.iload_n 1 dX8_readPart_185 rfl ?_
          refine PWk.callViI (hrec.2.1 x7.2 L R p1) dX8_readPart_186 ml_X8_104 rfl rg_8 lc_8 vq_8 (by omega) rfl (Nat.le_of_ble_eq_true rfl) (fun x8 => ?_)
          exact PWk.zret dX8_readPart_189 rfl (fun h => h)
        · skip
          refine PWk.ite (fun h20 => ?_) (fun h20 => ?_)
          · refine PWk.look 168 (off := 36) dX8_readPart_132 (by decide +kernel) (by rw [h20]; decide +kernel) (by decide) ?_
            refine PWk.aload_n 0 dX8_readPart_168 rfl ?_
            refine PWk.iload_n 1 dX8_readPart_169 rfl ?_
            refine PWk.bipush (v := (-14)) dX8_readPart_170 bp_m14 ?_
            refine PWk.callViI (hrec.2.2.2.1 x7.2 L R p1 (-14)) dX8_readPart_172 ml_X8_100 rfl rg_8 lc_8 vq_8 (by omega) rfl (Nat.le_of_ble_eq_true rfl) (fun x9 => ?_)
            exact PWk.zret dX8_readPart_175 rfl (fun h => h)
          · skip
            refine PWk.ite (fun h21 => ?_) (fun h21 => ?_)
            · refine PWk.look 176 (off := 44) dX8_readPart_132 (by decide +kernel) (by rw [h21]; decide +kernel) (by decide) ?_
              refine PWk.aload_n 0 dX8_readPart_176 rfl ?_
              refine PWk.iload_n 1 dX8_readPart_177 rfl ?_
              refine PWk.bipush (v := (-15)) dX8_readPart_178 bp_m15 ?_
              refine PWk.callViI (hrec.2.2.2.1 x7.2 L R p1 (-15)) dX8_readPart_180 ml_X8_100 rfl rg_8 lc_8 vq_8 (by omega) rfl (Nat.le_of_ble_eq_true rfl) (fun x10 => ?_)
              exact PWk.zret dX8_readPart_183 rfl (fun h => h)
            · skip
              refine PWk.look 190 (off := 58) dX8_readPart_132 (by decide +kernel) (by show Op.lookupswitch.offset [(17, 52), (22, 36), (23, 44)] _ _ = _; rw [lv_osw (k := 17) h19 (by decide), lv_osw (k := 22) h20 (by decide), lv_osw (k := 23) h21 (by decide)]; rfl) (by decide) ?_
              refine PWk.aload_n 0 dX8_readPart_190 rfl ?_
              refine PWk.aload_n 0 dX8_readPart_191 rfl ?_
              refine PWk.gets dX8_readPart_192 rg_8 lc_8 fl_X8_9 rfl st_8_0 ?_
              refine PWk.geti dX8_readPart_195 rg_7 lc_7 fl_X8_94 rfl ?_
              refine PWk.callVi (pc_X8_figureOp x7.2 L R (x7.2 7 6)) dX8_readPart_198 ml_X8_107 rfl rg_8 lc_8 vq_8 (by omega) rfl (Nat.le_of_ble_eq_true rfl) (fun x11 => ?_)
              refine PWk.istore_n [(2, .int x11), (0, .ref 8), (1, .int p1)] dX8_readPart_201 (by decide) rfl ?_
              refine PWk.iload_n 0 dX8_readPart_202 rfl ?_
              refine PWk.if_ne 216 dX8_readPart_203 (by decide) (fun h18 => ?_) (fun h18 => ?_)
              · refine PWk.aload_n 1 dX8_readPart_206 rfl ?_
                refine PWk.gets dX8_readPart_207 rg_8 lc_8 fl_X8_9 rfl st_8_0 ?_
                refine PWk.callViI (pc_X10_failForm x7.2 L R) dX8_readPart_210 ml_X8_76 rfl rg_7 lc_7 vq_10 (by omega) rfl (Nat.le_of_ble_eq_true rfl) (fun x12 => ?_)
                refine PWk.goto 242 dX8_readPart_213 (by decide) ?_
                exact PWk.zret dX8_readPart_242 rfl (fun h => h)
              · refine PWk.aload_n 1 dX8_readPart_216 rfl ?_
                refine PWk.getr dX8_readPart_217 rg_8 lc_8 fl_X8_19 rfl okLd_ne (fun hk13 => ?_)
                refine PWk.iload_n 0 dX8_readPart_220 rfl ?_
                refine PWk.callViI (pc_X2_emit x7.2 L R (R 8 1) (okLd_is hk13) x11) dX8_readPart_221 ml_X8_57 rfl (rgLd_0 (okLd_is hk13)) (lcLd (okLd_is hk13)) vq_2 (by omega) rfl (Nat.le_of_ble_eq_true rfl) (fun x14 => ?_)
                refine PWk.if_eq 241 dX8_readPart_224 (by decide) (fun h17 => ?_) (fun h17 => ?_)
                · refine PWk.iconst (v := 0) dX8_readPart_241 ic_0 ?_
                  exact PWk.zret dX8_readPart_242 rfl (fun h => h)
                · refine PWk.aload_n 1 dX8_readPart_227 rfl ?_
                  refine PWk.gets dX8_readPart_228 rg_8 lc_8 fl_X8_9 rfl st_8_0 ?_
                  refine PWk.callViI (pc_X10_advance fu x14.2 L R) dX8_readPart_231 ml_X8_28 rfl rg_7 lc_7 vq_10 (by omega) rfl (Nat.le_of_ble_eq_true rfl) (fun x15 => ?_)
                  refine PWk.if_eq 241 dX8_readPart_234 (by decide) (fun h16 => ?_) (fun h16 => ?_)
                  · refine PWk.iconst (v := 0) dX8_readPart_241 ic_0 ?_
                    exact PWk.zret dX8_readPart_242 rfl (fun h => h)
                  · refine PWk.iconst (v := 1) dX8_readPart_237 ic_1 ?_
                    refine PWk.goto 242 dX8_readPart_238 (by decide) ?_
                    exact PWk.zret dX8_readPart_242 rfl (fun h => h)
    · refine PWk.aload_n 0 dX8_readPart_56 rfl ?_
      refine PWk.iload_n 1 dX8_readPart_57 rfl ?_
      refine PWk.callViI (pc_X8_mayOpen I L R p1) dX8_readPart_58 ml_X8_63 rfl rg_8 lc_8 vq_8 (by omega) rfl (Nat.le_of_ble_eq_true rfl) (fun x23 => ?_)
      refine PWk.if_eq 110 dX8_readPart_61 (by decide) (fun h32 => ?_) (fun h32 => ?_)
      · refine PWk.iconst (v := 0) dX8_readPart_110 ic_0 ?_
        exact PWk.zret dX8_readPart_111 rfl (fun h => h)
      · refine PWk.aload_n 0 dX8_readPart_64 rfl ?_
        refine PWk.gets dX8_readPart_65 rg_8 lc_8 fl_X8_9 rfl st_8_0 ?_
        refine PWk.callViI (pc_X10_advance fu x23.2 L R) dX8_readPart_68 ml_X8_28 rfl rg_7 lc_7 vq_10 (by omega) rfl (Nat.le_of_ble_eq_true rfl) (fun x24 => ?_)
        refine PWk.if_eq 110 dX8_readPart_71 (by decide) (fun h31 => ?_) (fun h31 => ?_)
        · refine PWk.iconst (v := 0) dX8_readPart_110 ic_0 ?_
          exact PWk.zret dX8_readPart_111 rfl (fun h => h)
        · refine PWk.aload_n 0 dX8_readPart_74 rfl ?_
          refine PWk.iload_n 1 dX8_readPart_75 rfl ?_
          refine PWk.iconst (v := 1) dX8_readPart_76 ic_1 ?_
          refine PWk.iadd dX8_readPart_77 ?_
          refine PWk.callViI (hrec.2.2.2.2.2.2.1 x24.2 L R (p1 + 1)) dX8_readPart_78 ml_X8_38 rfl rg_8 lc_8 vq_8 (by omega) rfl (Nat.le_of_ble_eq_true rfl) (fun x25 => ?_)
          refine PWk.if_eq 110 dX8_readPart_81 (by decide) (fun h30 => ?_) (fun h30 => ?_)
          · refine PWk.iconst (v := 0) dX8_readPart_110 ic_0 ?_
            exact PWk.zret dX8_readPart_111 rfl (fun h => h)
          · refine PWk.aload_n 0 dX8_readPart_84 rfl ?_
            refine PWk.gets dX8_readPart_85 rg_8 lc_8 fl_X8_9 rfl st_8_0 ?_
            refine PWk.bipush (v := 41) dX8_readPart_88 bp_41 ?_
            refine PWk.callViI (pc_X10_needSign x25.2 L R 41) dX8_readPart_90 ml_X8_69 rfl rg_7 lc_7 vq_10 (by omega) rfl (Nat.le_of_ble_eq_true rfl) (fun x26 => ?_)
            refine PWk.if_eq 110 dX8_readPart_93 (by decide) (fun h29 => ?_) (fun h29 => ?_)
            · refine PWk.iconst (v := 0) dX8_readPart_110 ic_0 ?_
              exact PWk.zret dX8_readPart_111 rfl (fun h => h)
            · refine PWk.aload_n 0 dX8_readPart_96 rfl ?_
              refine PWk.gets dX8_readPart_97 rg_8 lc_8 fl_X8_9 rfl st_8_0 ?_
              refine PWk.callViI (pc_X10_advance fu x26.2 L R) dX8_readPart_100 ml_X8_28 rfl rg_7 lc_7 vq_10 (by omega) rfl (Nat.le_of_ble_eq_true rfl) (fun x27 => ?_)
              refine PWk.if_eq 110 dX8_readPart_103 (by decide) (fun h28 => ?_) (fun h28 => ?_)
              · refine PWk.iconst (v := 0) dX8_readPart_110 ic_0 ?_
                exact PWk.zret dX8_readPart_111 rfl (fun h => h)
              · refine PWk.iconst (v := 1) dX8_readPart_106 ic_1 ?_
                refine PWk.goto 111 dX8_readPart_107 (by decide) ?_
                exact PWk.zret dX8_readPart_111 rfl (fun h => h)
/-! LakeMarket$RuleReader.readProduct(I)Z -/
def f_X8_readProduct_L8 (rec : Nat → HI → HR → Int32 → Int32 → Option (Int32 × HI)) (fu : Nat) : Nat → HI → HR → Int32 → Int32 → Int32 → Option (Int32 × HI)
  | 0, _, _, _, _, _ => none
  | n + 1, I, R, u1, u2, u3 =>
    if 1600 ≤ u3 then
      some (u2, I)
    else
      if u2 = 0 then
        some (u2, I)
      else
        (f_X8_timesOp I).bind fun x2 =>
        if x2 = 0 then
          some (u2, I)
        else
          (f_X8_timesOp I).bind fun x3 =>
          (f_X10_advance fu I).bind fun x4 =>
          jnt (β := Int32 × HI) (fun y14 =>
            f_X8_readProduct_L8 rec fu n y14.2 R u1 y14.1 (u3 + 1)) fun j6 =>
          jnt (β := HI) (fun y13 =>
            j6 (0, y13)) fun j5 =>
          if x4.1 = 0 then
            j5 x4.2
          else
            (rec 4 x4.2 R u1 0).bind fun x7 =>
            if x7.1 = 0 then
              j5 x7.2
            else
              gr (okLd (R 8 1)) <|
              (f_X2_emit x7.2 (R 8 1) x3).bind fun x9 =>
              if x9.1 = 0 then
                j5 x9.2
              else
                j6 (1, x9.2)
def f_X8_readProduct (rec : Nat → HI → HR → Int32 → Int32 → Option (Int32 × HI)) (fu : Nat) (I : HI) (R : HR) (p1 : Int32) : Option (Int32 × HI) :=
  (rec 4 I R p1 0).bind fun x1 =>
  (f_X8_readProduct_L8 rec fu fu x1.2 R p1 x1.1 0).bind fun x18 =>
  gz x18.1 (some (x18.1, x18.2))
set_option maxRecDepth 20000 in
theorem lp_X8_readProduct_8 (rec : Nat → HI → HR → Int32 → Int32 → Option (Int32 × HI)) (D0 : Nat) (fu : Nat) (u1 : Int32) (L : HL) (R : HR) (hD0 : 6 ≤ D0) (hrec : (∀ (I : HI) (L : HL) (R : HR) (a0 : Int32), PCo 1 93 D0 yX8_readBoth cX8_readBoth 4 (some .boolean) [.ref 8, .int a0] I L R (rec 0 I R a0 0) (fun x : Int32 × HI => ((some (.int x.1), x.2, L, R) : HF))) ∧ (∀ (I : HI) (L : HL) (R : HR) (a0 : Int32), PCo 1 93 D0 yX8_readChoice cX8_readChoice 2 (some .boolean) [.ref 8, .int a0] I L R (rec 1 I R a0 0) (fun x : Int32 × HI => ((some (.int x.1), x.2, L, R) : HF))) ∧ (∀ (I : HI) (L : HL) (R : HR) (a0 : Int32), PCo 1 93 D0 yX8_readFact cX8_readFact 3 (some .boolean) [.ref 8, .int a0] I L R (rec 2 I R a0 0) (fun x : Int32 × HI => ((some (.int x.1), x.2, L, R) : HF))) ∧ (∀ (I : HI) (L : HL) (R : HR) (a0 : Int32) (a1 : Int32), PCo 1 93 D0 yX8_readPair cX8_readPair 3 (some .boolean) [.ref 8, .int a0, .int a1] I L R (rec 3 I R a0 a1) (fun x : Int32 × HI => ((some (.int x.1), x.2, L, R) : HF))) ∧ (∀ (I : HI) (L : HL) (R : HR) (a0 : Int32), PCo 1 93 D0 yX8_readPart cX8_readPart 3 (some .boolean) [.ref 8, .int a0] I L R (rec 4 I R a0 0) (fun x : Int32 × HI => ((some (.int x.1), x.2, L, R) : HF))) ∧ (∀ (I : HI) (L : HL) (R : HR) (a0 : Int32), PCo 1 93 D0 yX8_readProduct cX8_readProduct 5 (some .boolean) [.ref 8, .int a0] I L R (rec 5 I R a0 0) (fun x : Int32 × HI => ((some (.int x.1), x.2, L, R) : HF))) ∧ (∀ (I : HI) (L : HL) (R : HR) (a0 : Int32), PCo 1 93 D0 yX8_readSum cX8_readSum 5 (some .boolean) [.ref 8, .int a0] I L R (rec 6 I R a0 0) (fun x : Int32 × HI => ((some (.int x.1), x.2, L, R) : HF))) ∧ (∀ (I : HI) (L : HL) (R : HR) (a0 : Int32), PCo 1 93 D0 yX8_readTest cX8_readTest 4 (some .boolean) [.ref 8, .int a0] I L R (rec 7 I R a0 0) (fun x : Int32 × HI => ((some (.int x.1), x.2, L, R) : HF)))) : ∀ (n : Nat) (u2 : Int32) (u3 : Int32) (I : HI) (N : (Int32 × HI) → Prop) (F : HF), (∀ v : Int32 × HI, N v → PW 1 93 (D0 + 1) RX8 cX8_readProduct 5 (some .boolean) 74 [(2, .int v.1)] [] v.2 L R F) → PWk 1 93 (D0 + 1) RX8 cX8_readProduct 5 (some .boolean) 8 [(0, .ref 8), (1, .int u1), (2, .int u2), (3, .int u3)] [] I L R (f_X8_readProduct_L8 rec fu n I R u1 u2 u3) N F := by
  intro n
  induction n with
  | zero => intro u2 u3 I N F hx; exact PWk.none'
  | succ n ih =>
    intro u2 u3 I N F hx
    unfold f_X8_readProduct_L8
    refine PWk.iload_n 3 dX8_readProduct_8 rfl ?_
    refine PWk.sipush (v := 1600) dX8_readProduct_9 sp_1600 ?_
    refine PWk.icmp_ge 74 dX8_readProduct_12 (by decide) (fun h17 => ?_) (fun h17 => ?_)
    · refine PWk.sub [2] rfl ?_
      exact PWk.done (fun h => hx _ h)
    · refine PWk.iload_n 2 dX8_readProduct_15 rfl ?_
      refine PWk.if_eq 74 dX8_readProduct_16 (by decide) (fun h16 => ?_) (fun h16 => ?_)
      · refine PWk.sub [2] rfl ?_
        exact PWk.done (fun h => hx _ h)
      · refine PWk.aload_n 0 dX8_readProduct_19 rfl ?_
        refine PWk.callVi (pc_X8_timesOp I L R) dX8_readProduct_20 ml_X8_88 rfl rg_8 lc_8 vq_8 (by omega) rfl (Nat.le_of_ble_eq_true rfl) (fun x2 => ?_)
        refine PWk.if_eq 74 dX8_readProduct_23 (by decide) (fun h15 => ?_) (fun h15 => ?_)
        · refine PWk.sub [2] rfl ?_
          exact PWk.done (fun h => hx _ h)
        · refine PWk.aload_n 0 dX8_readProduct_26 rfl ?_
          refine PWk.callVi (pc_X8_timesOp I L R) dX8_readProduct_27 ml_X8_88 rfl rg_8 lc_8 vq_8 (by omega) rfl (Nat.le_of_ble_eq_true rfl) (fun x3 => ?_)
          refine PWk.istore [(4, .int x3), (0, .ref 8), (1, .int u1), (2, .int u2), (3, .int u3)] dX8_readProduct_30 (by decide) rfl ?_
          refine PWk.aload_n 1 dX8_readProduct_32 rfl ?_
          refine PWk.gets dX8_readProduct_33 rg_8 lc_8 fl_X8_9 rfl st_8_0 ?_
          refine PWk.callViI (pc_X10_advance fu I L R) dX8_readProduct_36 ml_X8_28 rfl rg_7 lc_7 vq_10 (by omega) rfl (Nat.le_of_ble_eq_true rfl) (fun x4 => ?_)
          refine PWk.jn (pc' := 67) (lv' := fun y14 => [(0, .ref 8), (1, .int u1), (3, .int u3)]) (st' := fun y14 => [.int y14.1]) (I' := fun y14 => y14.2) (L' := fun y14 => L) (R' := fun y14 => R) (fun j6 hj6 => ?_) (fun y14 => ?_)
          · refine PWk.jn (pc' := 66) (lv' := fun y13 => [(0, .ref 8), (1, .int u1), (3, .int u3)]) (st' := fun y13 => []) (I' := fun y13 => y13) (L' := fun y13 => L) (R' := fun y13 => R) (fun j5 hj5 => ?_) (fun y13 => ?_)
            · refine PWk.if_eq 66 dX8_readProduct_39 (by decide) (fun h12 => ?_) (fun h12 => ?_)
              · refine PWk.sub [1, 2, 4] rfl ?_
                exact hj5 x4.2
              · refine PWk.aload_n 1 dX8_readProduct_42 rfl ?_
                refine PWk.iload_n 2 dX8_readProduct_43 rfl ?_
                refine PWk.callViI (hrec.2.2.2.2.1 x4.2 L R u1) dX8_readProduct_44 ml_X8_85 rfl rg_8 lc_8 vq_8 (by omega) rfl (Nat.le_of_ble_eq_true rfl) (fun x7 => ?_)
                refine PWk.if_eq 66 dX8_readProduct_47 (by decide) (fun h11 => ?_) (fun h11 => ?_)
                · refine PWk.sub [1, 2, 4] rfl ?_
                  exact hj5 x7.2
                · refine PWk.aload_n 1 dX8_readProduct_50 rfl ?_
                  refine PWk.getr dX8_readProduct_51 rg_8 lc_8 fl_X8_19 rfl okLd_ne (fun hk8 => ?_)
                  refine PWk.iload 0 dX8_readProduct_54 rfl ?_
                  refine PWk.callViI (pc_X2_emit x7.2 L R (R 8 1) (okLd_is hk8) x3) dX8_readProduct_56 ml_X8_57 rfl (rgLd_0 (okLd_is hk8)) (lcLd (okLd_is hk8)) vq_2 (by omega) rfl (Nat.le_of_ble_eq_true rfl) (fun x9 => ?_)
                  refine PWk.if_eq 66 dX8_readProduct_59 (by decide) (fun h10 => ?_) (fun h10 => ?_)
                  · refine PWk.sub [1, 2, 4] rfl ?_
                    exact hj5 x9.2
                  · refine PWk.iconst (v := 1) dX8_readProduct_62 ic_1 ?_
                    refine PWk.goto 67 dX8_readProduct_63 (by decide) ?_
                    refine PWk.sub [1, 2, 4] rfl ?_
                    exact hj6 (1, x9.2)
            · refine PWk.iconst (v := 0) dX8_readProduct_66 ic_0 ?_
              exact hj6 (0, y13)
          · refine PWk.istore_n [(2, .int y14.1), (0, .ref 8), (1, .int u1), (3, .int u3)] dX8_readProduct_67 (by decide) rfl ?_
            refine PWk.iinc (v := (u3 + 1)) 3 [(3, .int (u3 + 1)), (2, .int y14.1), (0, .ref 8), (1, .int u1)] dX8_readProduct_68 rfl (by rw [ic_1]) (by decide) rfl ?_
            refine PWk.goto 8 dX8_readProduct_71 (by decide) ?_
            refine PWk.sub [2, 3, 1, 0] rfl ?_
            exact ih y14.1 (u3 + 1) y14.2 N F hx
set_option maxRecDepth 20000 in
theorem pc_X8_readProduct (rec : Nat → HI → HR → Int32 → Int32 → Option (Int32 × HI)) (D0 : Nat) (fu : Nat) (I : HI) (L : HL) (R : HR) (p1 : Int32) (hD0 : 6 ≤ D0) (hrec : (∀ (I : HI) (L : HL) (R : HR) (a0 : Int32), PCo 1 93 D0 yX8_readBoth cX8_readBoth 4 (some .boolean) [.ref 8, .int a0] I L R (rec 0 I R a0 0) (fun x : Int32 × HI => ((some (.int x.1), x.2, L, R) : HF))) ∧ (∀ (I : HI) (L : HL) (R : HR) (a0 : Int32), PCo 1 93 D0 yX8_readChoice cX8_readChoice 2 (some .boolean) [.ref 8, .int a0] I L R (rec 1 I R a0 0) (fun x : Int32 × HI => ((some (.int x.1), x.2, L, R) : HF))) ∧ (∀ (I : HI) (L : HL) (R : HR) (a0 : Int32), PCo 1 93 D0 yX8_readFact cX8_readFact 3 (some .boolean) [.ref 8, .int a0] I L R (rec 2 I R a0 0) (fun x : Int32 × HI => ((some (.int x.1), x.2, L, R) : HF))) ∧ (∀ (I : HI) (L : HL) (R : HR) (a0 : Int32) (a1 : Int32), PCo 1 93 D0 yX8_readPair cX8_readPair 3 (some .boolean) [.ref 8, .int a0, .int a1] I L R (rec 3 I R a0 a1) (fun x : Int32 × HI => ((some (.int x.1), x.2, L, R) : HF))) ∧ (∀ (I : HI) (L : HL) (R : HR) (a0 : Int32), PCo 1 93 D0 yX8_readPart cX8_readPart 3 (some .boolean) [.ref 8, .int a0] I L R (rec 4 I R a0 0) (fun x : Int32 × HI => ((some (.int x.1), x.2, L, R) : HF))) ∧ (∀ (I : HI) (L : HL) (R : HR) (a0 : Int32), PCo 1 93 D0 yX8_readProduct cX8_readProduct 5 (some .boolean) [.ref 8, .int a0] I L R (rec 5 I R a0 0) (fun x : Int32 × HI => ((some (.int x.1), x.2, L, R) : HF))) ∧ (∀ (I : HI) (L : HL) (R : HR) (a0 : Int32), PCo 1 93 D0 yX8_readSum cX8_readSum 5 (some .boolean) [.ref 8, .int a0] I L R (rec 6 I R a0 0) (fun x : Int32 × HI => ((some (.int x.1), x.2, L, R) : HF))) ∧ (∀ (I : HI) (L : HL) (R : HR) (a0 : Int32), PCo 1 93 D0 yX8_readTest cX8_readTest 4 (some .boolean) [.ref 8, .int a0] I L R (rec 7 I R a0 0) (fun x : Int32 × HI => ((some (.int x.1), x.2, L, R) : HF)))) : PCo 1 93 (D0 + 1) yX8_readProduct cX8_readProduct 5 (some .boolean) [.ref 8, .int p1] I L R (f_X8_readProduct rec fu I R p1) (fun x : Int32 × HI => ((some (.int x.1), x.2, L, R) : HF)) := by
  refine PCo.of (own := RX8) (by decide +kernel) (Nat.le_of_ble_eq_true rfl) rfl rfl (fun F => ?_)
  unfold f_X8_readProduct
  refine PWk.aload_n 0 dX8_readProduct_0 rfl ?_
  refine PWk.iload_n 1 dX8_readProduct_1 rfl ?_
  refine PWk.callViI (hrec.2.2.2.2.1 I L R p1) dX8_readProduct_2 ml_X8_85 rfl rg_8 lc_8 vq_8 (by omega) rfl (Nat.le_of_ble_eq_true rfl) (fun x1 => ?_)
  refine PWk.istore_n [(2, .int x1.1), (0, .ref 8), (1, .int p1)] dX8_readProduct_5 (by decide) rfl ?_
  refine PWk.iconst (v := 0) dX8_readProduct_6 ic_0 ?_
  refine PWk.istore_n [(3, .int 0), (2, .int x1.1), (0, .ref 8), (1, .int p1)] dX8_readProduct_7 (by decide) rfl ?_
  refine PWk.sub [2, 3, 1, 0] rfl ?_
  refine PWk.loopV (fun N' hx' => lp_X8_readProduct_8 rec D0 fu p1 L R hD0 hrec fu x1.1 0 x1.2 N' F hx') (fun x18 => ?_)
  refine PWk.iload_n 0 dX8_readProduct_74 rfl ?_
  exact PWk.zret dX8_readProduct_75 rfl (fun h => h)
/-! LakeMarket$RuleReader.readSum(I)Z -/
def f_X8_readSum_L8 (rec : Nat → HI → HR → Int32 → Int32 → Option (Int32 × HI)) (fu : Nat) : Nat → HI → HR → Int32 → Int32 → Int32 → Option (Int32 × HI)
  | 0, _, _, _, _, _ => none
  | n + 1, I, R, u1, u2, u3 =>
    if 1600 ≤ u3 then
      some (u2, I)
    else
      if u2 = 0 then
        some (u2, I)
      else
        (f_X8_addOp I).bind fun x2 =>
        if x2 = 0 then
          some (u2, I)
        else
          (f_X8_addOp I).bind fun x3 =>
          (f_X10_advance fu I).bind fun x4 =>
          jnt (β := Int32 × HI) (fun y14 =>
            f_X8_readSum_L8 rec fu n y14.2 R u1 y14.1 (u3 + 1)) fun j6 =>
          jnt (β := HI) (fun y13 =>
            j6 (0, y13)) fun j5 =>
          if x4.1 = 0 then
            j5 x4.2
          else
            (rec 5 x4.2 R u1 0).bind fun x7 =>
            if x7.1 = 0 then
              j5 x7.2
            else
              gr (okLd (R 8 1)) <|
              (f_X2_emit x7.2 (R 8 1) x3).bind fun x9 =>
              if x9.1 = 0 then
                j5 x9.2
              else
                j6 (1, x9.2)
def f_X8_readSum (rec : Nat → HI → HR → Int32 → Int32 → Option (Int32 × HI)) (fu : Nat) (I : HI) (R : HR) (p1 : Int32) : Option (Int32 × HI) :=
  (rec 5 I R p1 0).bind fun x1 =>
  (f_X8_readSum_L8 rec fu fu x1.2 R p1 x1.1 0).bind fun x18 =>
  gz x18.1 (some (x18.1, x18.2))
set_option maxRecDepth 20000 in
theorem lp_X8_readSum_8 (rec : Nat → HI → HR → Int32 → Int32 → Option (Int32 × HI)) (D0 : Nat) (fu : Nat) (u1 : Int32) (L : HL) (R : HR) (hD0 : 6 ≤ D0) (hrec : (∀ (I : HI) (L : HL) (R : HR) (a0 : Int32), PCo 1 93 D0 yX8_readBoth cX8_readBoth 4 (some .boolean) [.ref 8, .int a0] I L R (rec 0 I R a0 0) (fun x : Int32 × HI => ((some (.int x.1), x.2, L, R) : HF))) ∧ (∀ (I : HI) (L : HL) (R : HR) (a0 : Int32), PCo 1 93 D0 yX8_readChoice cX8_readChoice 2 (some .boolean) [.ref 8, .int a0] I L R (rec 1 I R a0 0) (fun x : Int32 × HI => ((some (.int x.1), x.2, L, R) : HF))) ∧ (∀ (I : HI) (L : HL) (R : HR) (a0 : Int32), PCo 1 93 D0 yX8_readFact cX8_readFact 3 (some .boolean) [.ref 8, .int a0] I L R (rec 2 I R a0 0) (fun x : Int32 × HI => ((some (.int x.1), x.2, L, R) : HF))) ∧ (∀ (I : HI) (L : HL) (R : HR) (a0 : Int32) (a1 : Int32), PCo 1 93 D0 yX8_readPair cX8_readPair 3 (some .boolean) [.ref 8, .int a0, .int a1] I L R (rec 3 I R a0 a1) (fun x : Int32 × HI => ((some (.int x.1), x.2, L, R) : HF))) ∧ (∀ (I : HI) (L : HL) (R : HR) (a0 : Int32), PCo 1 93 D0 yX8_readPart cX8_readPart 3 (some .boolean) [.ref 8, .int a0] I L R (rec 4 I R a0 0) (fun x : Int32 × HI => ((some (.int x.1), x.2, L, R) : HF))) ∧ (∀ (I : HI) (L : HL) (R : HR) (a0 : Int32), PCo 1 93 D0 yX8_readProduct cX8_readProduct 5 (some .boolean) [.ref 8, .int a0] I L R (rec 5 I R a0 0) (fun x : Int32 × HI => ((some (.int x.1), x.2, L, R) : HF))) ∧ (∀ (I : HI) (L : HL) (R : HR) (a0 : Int32), PCo 1 93 D0 yX8_readSum cX8_readSum 5 (some .boolean) [.ref 8, .int a0] I L R (rec 6 I R a0 0) (fun x : Int32 × HI => ((some (.int x.1), x.2, L, R) : HF))) ∧ (∀ (I : HI) (L : HL) (R : HR) (a0 : Int32), PCo 1 93 D0 yX8_readTest cX8_readTest 4 (some .boolean) [.ref 8, .int a0] I L R (rec 7 I R a0 0) (fun x : Int32 × HI => ((some (.int x.1), x.2, L, R) : HF)))) : ∀ (n : Nat) (u2 : Int32) (u3 : Int32) (I : HI) (N : (Int32 × HI) → Prop) (F : HF), (∀ v : Int32 × HI, N v → PW 1 93 (D0 + 1) RX8 cX8_readSum 5 (some .boolean) 74 [(2, .int v.1)] [] v.2 L R F) → PWk 1 93 (D0 + 1) RX8 cX8_readSum 5 (some .boolean) 8 [(0, .ref 8), (1, .int u1), (2, .int u2), (3, .int u3)] [] I L R (f_X8_readSum_L8 rec fu n I R u1 u2 u3) N F := by
  intro n
  induction n with
  | zero => intro u2 u3 I N F hx; exact PWk.none'
  | succ n ih =>
    intro u2 u3 I N F hx
    unfold f_X8_readSum_L8
    refine PWk.iload_n 3 dX8_readSum_8 rfl ?_
    refine PWk.sipush (v := 1600) dX8_readSum_9 sp_1600 ?_
    refine PWk.icmp_ge 74 dX8_readSum_12 (by decide) (fun h17 => ?_) (fun h17 => ?_)
    · refine PWk.sub [2] rfl ?_
      exact PWk.done (fun h => hx _ h)
    · refine PWk.iload_n 2 dX8_readSum_15 rfl ?_
      refine PWk.if_eq 74 dX8_readSum_16 (by decide) (fun h16 => ?_) (fun h16 => ?_)
      · refine PWk.sub [2] rfl ?_
        exact PWk.done (fun h => hx _ h)
      · refine PWk.aload_n 0 dX8_readSum_19 rfl ?_
        refine PWk.callVi (pc_X8_addOp I L R) dX8_readSum_20 ml_X8_82 rfl rg_8 lc_8 vq_8 (by omega) rfl (Nat.le_of_ble_eq_true rfl) (fun x2 => ?_)
        refine PWk.if_eq 74 dX8_readSum_23 (by decide) (fun h15 => ?_) (fun h15 => ?_)
        · refine PWk.sub [2] rfl ?_
          exact PWk.done (fun h => hx _ h)
        · refine PWk.aload_n 0 dX8_readSum_26 rfl ?_
          refine PWk.callVi (pc_X8_addOp I L R) dX8_readSum_27 ml_X8_82 rfl rg_8 lc_8 vq_8 (by omega) rfl (Nat.le_of_ble_eq_true rfl) (fun x3 => ?_)
          refine PWk.istore [(4, .int x3), (0, .ref 8), (1, .int u1), (2, .int u2), (3, .int u3)] dX8_readSum_30 (by decide) rfl ?_
          refine PWk.aload_n 1 dX8_readSum_32 rfl ?_
          refine PWk.gets dX8_readSum_33 rg_8 lc_8 fl_X8_9 rfl st_8_0 ?_
          refine PWk.callViI (pc_X10_advance fu I L R) dX8_readSum_36 ml_X8_28 rfl rg_7 lc_7 vq_10 (by omega) rfl (Nat.le_of_ble_eq_true rfl) (fun x4 => ?_)
          refine PWk.jn (pc' := 67) (lv' := fun y14 => [(0, .ref 8), (1, .int u1), (3, .int u3)]) (st' := fun y14 => [.int y14.1]) (I' := fun y14 => y14.2) (L' := fun y14 => L) (R' := fun y14 => R) (fun j6 hj6 => ?_) (fun y14 => ?_)
          · refine PWk.jn (pc' := 66) (lv' := fun y13 => [(0, .ref 8), (1, .int u1), (3, .int u3)]) (st' := fun y13 => []) (I' := fun y13 => y13) (L' := fun y13 => L) (R' := fun y13 => R) (fun j5 hj5 => ?_) (fun y13 => ?_)
            · refine PWk.if_eq 66 dX8_readSum_39 (by decide) (fun h12 => ?_) (fun h12 => ?_)
              · refine PWk.sub [1, 2, 4] rfl ?_
                exact hj5 x4.2
              · refine PWk.aload_n 1 dX8_readSum_42 rfl ?_
                refine PWk.iload_n 2 dX8_readSum_43 rfl ?_
                refine PWk.callViI (hrec.2.2.2.2.2.1 x4.2 L R u1) dX8_readSum_44 ml_X8_79 rfl rg_8 lc_8 vq_8 (by omega) rfl (Nat.le_of_ble_eq_true rfl) (fun x7 => ?_)
                refine PWk.if_eq 66 dX8_readSum_47 (by decide) (fun h11 => ?_) (fun h11 => ?_)
                · refine PWk.sub [1, 2, 4] rfl ?_
                  exact hj5 x7.2
                · refine PWk.aload_n 1 dX8_readSum_50 rfl ?_
                  refine PWk.getr dX8_readSum_51 rg_8 lc_8 fl_X8_19 rfl okLd_ne (fun hk8 => ?_)
                  refine PWk.iload 0 dX8_readSum_54 rfl ?_
                  refine PWk.callViI (pc_X2_emit x7.2 L R (R 8 1) (okLd_is hk8) x3) dX8_readSum_56 ml_X8_57 rfl (rgLd_0 (okLd_is hk8)) (lcLd (okLd_is hk8)) vq_2 (by omega) rfl (Nat.le_of_ble_eq_true rfl) (fun x9 => ?_)
                  refine PWk.if_eq 66 dX8_readSum_59 (by decide) (fun h10 => ?_) (fun h10 => ?_)
                  · refine PWk.sub [1, 2, 4] rfl ?_
                    exact hj5 x9.2
                  · refine PWk.iconst (v := 1) dX8_readSum_62 ic_1 ?_
                    refine PWk.goto 67 dX8_readSum_63 (by decide) ?_
                    refine PWk.sub [1, 2, 4] rfl ?_
                    exact hj6 (1, x9.2)
            · refine PWk.iconst (v := 0) dX8_readSum_66 ic_0 ?_
              exact hj6 (0, y13)
          · refine PWk.istore_n [(2, .int y14.1), (0, .ref 8), (1, .int u1), (3, .int u3)] dX8_readSum_67 (by decide) rfl ?_
            refine PWk.iinc (v := (u3 + 1)) 3 [(3, .int (u3 + 1)), (2, .int y14.1), (0, .ref 8), (1, .int u1)] dX8_readSum_68 rfl (by rw [ic_1]) (by decide) rfl ?_
            refine PWk.goto 8 dX8_readSum_71 (by decide) ?_
            refine PWk.sub [2, 3, 1, 0] rfl ?_
            exact ih y14.1 (u3 + 1) y14.2 N F hx
set_option maxRecDepth 20000 in
theorem pc_X8_readSum (rec : Nat → HI → HR → Int32 → Int32 → Option (Int32 × HI)) (D0 : Nat) (fu : Nat) (I : HI) (L : HL) (R : HR) (p1 : Int32) (hD0 : 6 ≤ D0) (hrec : (∀ (I : HI) (L : HL) (R : HR) (a0 : Int32), PCo 1 93 D0 yX8_readBoth cX8_readBoth 4 (some .boolean) [.ref 8, .int a0] I L R (rec 0 I R a0 0) (fun x : Int32 × HI => ((some (.int x.1), x.2, L, R) : HF))) ∧ (∀ (I : HI) (L : HL) (R : HR) (a0 : Int32), PCo 1 93 D0 yX8_readChoice cX8_readChoice 2 (some .boolean) [.ref 8, .int a0] I L R (rec 1 I R a0 0) (fun x : Int32 × HI => ((some (.int x.1), x.2, L, R) : HF))) ∧ (∀ (I : HI) (L : HL) (R : HR) (a0 : Int32), PCo 1 93 D0 yX8_readFact cX8_readFact 3 (some .boolean) [.ref 8, .int a0] I L R (rec 2 I R a0 0) (fun x : Int32 × HI => ((some (.int x.1), x.2, L, R) : HF))) ∧ (∀ (I : HI) (L : HL) (R : HR) (a0 : Int32) (a1 : Int32), PCo 1 93 D0 yX8_readPair cX8_readPair 3 (some .boolean) [.ref 8, .int a0, .int a1] I L R (rec 3 I R a0 a1) (fun x : Int32 × HI => ((some (.int x.1), x.2, L, R) : HF))) ∧ (∀ (I : HI) (L : HL) (R : HR) (a0 : Int32), PCo 1 93 D0 yX8_readPart cX8_readPart 3 (some .boolean) [.ref 8, .int a0] I L R (rec 4 I R a0 0) (fun x : Int32 × HI => ((some (.int x.1), x.2, L, R) : HF))) ∧ (∀ (I : HI) (L : HL) (R : HR) (a0 : Int32), PCo 1 93 D0 yX8_readProduct cX8_readProduct 5 (some .boolean) [.ref 8, .int a0] I L R (rec 5 I R a0 0) (fun x : Int32 × HI => ((some (.int x.1), x.2, L, R) : HF))) ∧ (∀ (I : HI) (L : HL) (R : HR) (a0 : Int32), PCo 1 93 D0 yX8_readSum cX8_readSum 5 (some .boolean) [.ref 8, .int a0] I L R (rec 6 I R a0 0) (fun x : Int32 × HI => ((some (.int x.1), x.2, L, R) : HF))) ∧ (∀ (I : HI) (L : HL) (R : HR) (a0 : Int32), PCo 1 93 D0 yX8_readTest cX8_readTest 4 (some .boolean) [.ref 8, .int a0] I L R (rec 7 I R a0 0) (fun x : Int32 × HI => ((some (.int x.1), x.2, L, R) : HF)))) : PCo 1 93 (D0 + 1) yX8_readSum cX8_readSum 5 (some .boolean) [.ref 8, .int p1] I L R (f_X8_readSum rec fu I R p1) (fun x : Int32 × HI => ((some (.int x.1), x.2, L, R) : HF)) := by
  refine PCo.of (own := RX8) (by decide +kernel) (Nat.le_of_ble_eq_true rfl) rfl rfl (fun F => ?_)
  unfold f_X8_readSum
  refine PWk.aload_n 0 dX8_readSum_0 rfl ?_
  refine PWk.iload_n 1 dX8_readSum_1 rfl ?_
  refine PWk.callViI (hrec.2.2.2.2.2.1 I L R p1) dX8_readSum_2 ml_X8_79 rfl rg_8 lc_8 vq_8 (by omega) rfl (Nat.le_of_ble_eq_true rfl) (fun x1 => ?_)
  refine PWk.istore_n [(2, .int x1.1), (0, .ref 8), (1, .int p1)] dX8_readSum_5 (by decide) rfl ?_
  refine PWk.iconst (v := 0) dX8_readSum_6 ic_0 ?_
  refine PWk.istore_n [(3, .int 0), (2, .int x1.1), (0, .ref 8), (1, .int p1)] dX8_readSum_7 (by decide) rfl ?_
  refine PWk.sub [2, 3, 1, 0] rfl ?_
  refine PWk.loopV (fun N' hx' => lp_X8_readSum_8 rec D0 fu p1 L R hD0 hrec fu x1.1 0 x1.2 N' F hx') (fun x18 => ?_)
  refine PWk.iload_n 0 dX8_readSum_74 rfl ?_
  exact PWk.zret dX8_readSum_75 rfl (fun h => h)
/-! LakeMarket$RuleReader.readTest(I)Z -/
def f_X8_readTest_L8 (rec : Nat → HI → HR → Int32 → Int32 → Option (Int32 × HI)) (fu : Nat) : Nat → HI → HR → Int32 → Int32 → Int32 → Option (Int32 × HI)
  | 0, _, _, _, _, _ => none
  | n + 1, I, R, u1, u2, u3 =>
    if 1600 ≤ u3 then
      some (u2, I)
    else
      if u2 = 0 then
        some (u2, I)
      else
        (f_X10_isOwn I 18).bind fun x2 =>
        if x2 = 0 then
          some (u2, I)
        else
          (f_X10_advance fu I).bind fun x3 =>
          (rec 0 x3.2 R u1 0).bind fun x4 =>
          jnt (β := Int32 × HI) (fun y12 =>
            f_X8_readTest_L8 rec fu n y12.2 R u1 y12.1 (u3 + 1)) fun j6 =>
          jnt (β := HI) (fun y11 =>
            j6 (0, y11)) fun j5 =>
          if x4.1 = 0 then
            j5 x4.2
          else
            gr (okLd (R 8 1)) <|
            (f_X2_emit x4.2 (R 8 1) (-20)).bind fun x8 =>
            if x8.1 = 0 then
              j5 x8.2
            else
              j6 (1, x8.2)
def f_X8_readTest (rec : Nat → HI → HR → Int32 → Int32 → Option (Int32 × HI)) (fu : Nat) (I : HI) (R : HR) (p1 : Int32) : Option (Int32 × HI) :=
  (rec 0 I R p1 0).bind fun x1 =>
  (f_X8_readTest_L8 rec fu fu x1.2 R p1 x1.1 0).bind fun x16 =>
  gz x16.1 (some (x16.1, x16.2))
set_option maxRecDepth 20000 in
theorem lp_X8_readTest_8 (rec : Nat → HI → HR → Int32 → Int32 → Option (Int32 × HI)) (D0 : Nat) (fu : Nat) (u1 : Int32) (L : HL) (R : HR) (hD0 : 6 ≤ D0) (hrec : (∀ (I : HI) (L : HL) (R : HR) (a0 : Int32), PCo 1 93 D0 yX8_readBoth cX8_readBoth 4 (some .boolean) [.ref 8, .int a0] I L R (rec 0 I R a0 0) (fun x : Int32 × HI => ((some (.int x.1), x.2, L, R) : HF))) ∧ (∀ (I : HI) (L : HL) (R : HR) (a0 : Int32), PCo 1 93 D0 yX8_readChoice cX8_readChoice 2 (some .boolean) [.ref 8, .int a0] I L R (rec 1 I R a0 0) (fun x : Int32 × HI => ((some (.int x.1), x.2, L, R) : HF))) ∧ (∀ (I : HI) (L : HL) (R : HR) (a0 : Int32), PCo 1 93 D0 yX8_readFact cX8_readFact 3 (some .boolean) [.ref 8, .int a0] I L R (rec 2 I R a0 0) (fun x : Int32 × HI => ((some (.int x.1), x.2, L, R) : HF))) ∧ (∀ (I : HI) (L : HL) (R : HR) (a0 : Int32) (a1 : Int32), PCo 1 93 D0 yX8_readPair cX8_readPair 3 (some .boolean) [.ref 8, .int a0, .int a1] I L R (rec 3 I R a0 a1) (fun x : Int32 × HI => ((some (.int x.1), x.2, L, R) : HF))) ∧ (∀ (I : HI) (L : HL) (R : HR) (a0 : Int32), PCo 1 93 D0 yX8_readPart cX8_readPart 3 (some .boolean) [.ref 8, .int a0] I L R (rec 4 I R a0 0) (fun x : Int32 × HI => ((some (.int x.1), x.2, L, R) : HF))) ∧ (∀ (I : HI) (L : HL) (R : HR) (a0 : Int32), PCo 1 93 D0 yX8_readProduct cX8_readProduct 5 (some .boolean) [.ref 8, .int a0] I L R (rec 5 I R a0 0) (fun x : Int32 × HI => ((some (.int x.1), x.2, L, R) : HF))) ∧ (∀ (I : HI) (L : HL) (R : HR) (a0 : Int32), PCo 1 93 D0 yX8_readSum cX8_readSum 5 (some .boolean) [.ref 8, .int a0] I L R (rec 6 I R a0 0) (fun x : Int32 × HI => ((some (.int x.1), x.2, L, R) : HF))) ∧ (∀ (I : HI) (L : HL) (R : HR) (a0 : Int32), PCo 1 93 D0 yX8_readTest cX8_readTest 4 (some .boolean) [.ref 8, .int a0] I L R (rec 7 I R a0 0) (fun x : Int32 × HI => ((some (.int x.1), x.2, L, R) : HF)))) : ∀ (n : Nat) (u2 : Int32) (u3 : Int32) (I : HI) (N : (Int32 × HI) → Prop) (F : HF), (∀ v : Int32 × HI, N v → PW 1 93 (D0 + 1) RX8 cX8_readTest 4 (some .boolean) 71 [(2, .int v.1)] [] v.2 L R F) → PWk 1 93 (D0 + 1) RX8 cX8_readTest 4 (some .boolean) 8 [(0, .ref 8), (1, .int u1), (2, .int u2), (3, .int u3)] [] I L R (f_X8_readTest_L8 rec fu n I R u1 u2 u3) N F := by
  intro n
  induction n with
  | zero => intro u2 u3 I N F hx; exact PWk.none'
  | succ n ih =>
    intro u2 u3 I N F hx
    unfold f_X8_readTest_L8
    refine PWk.iload_n 3 dX8_readTest_8 rfl ?_
    refine PWk.sipush (v := 1600) dX8_readTest_9 sp_1600 ?_
    refine PWk.icmp_ge 71 dX8_readTest_12 (by decide) (fun h15 => ?_) (fun h15 => ?_)
    · refine PWk.sub [2] rfl ?_
      exact PWk.done (fun h => hx _ h)
    · refine PWk.iload_n 2 dX8_readTest_15 rfl ?_
      refine PWk.if_eq 71 dX8_readTest_16 (by decide) (fun h14 => ?_) (fun h14 => ?_)
      · refine PWk.sub [2] rfl ?_
        exact PWk.done (fun h => hx _ h)
      · refine PWk.aload_n 0 dX8_readTest_19 rfl ?_
        refine PWk.gets dX8_readTest_20 rg_8 lc_8 fl_X8_9 rfl st_8_0 ?_
        refine PWk.bipush (v := 18) dX8_readTest_23 bp_18 ?_
        refine PWk.callVi (pc_X10_isOwn I L R 18) dX8_readTest_25 ml_X8_54 rfl rg_7 lc_7 vq_10 (by omega) rfl (Nat.le_of_ble_eq_true rfl) (fun x2 => ?_)
        refine PWk.if_eq 71 dX8_readTest_28 (by decide) (fun h13 => ?_) (fun h13 => ?_)
        · refine PWk.sub [2] rfl ?_
          exact PWk.done (fun h => hx _ h)
        · refine PWk.aload_n 0 dX8_readTest_31 rfl ?_
          refine PWk.gets dX8_readTest_32 rg_8 lc_8 fl_X8_9 rfl st_8_0 ?_
          refine PWk.callViI (pc_X10_advance fu I L R) dX8_readTest_35 ml_X8_28 rfl rg_7 lc_7 vq_10 (by omega) rfl (Nat.le_of_ble_eq_true rfl) (fun x3 => ?_)
          refine PWk.pop dX8_readTest_38 rfl ?_
          refine PWk.aload_n 0 dX8_readTest_39 rfl ?_
          refine PWk.iload_n 1 dX8_readTest_40 rfl ?_
          refine PWk.callViI (hrec.1 x3.2 L R u1) dX8_readTest_41 ml_X8_51 rfl rg_8 lc_8 vq_8 (by omega) rfl (Nat.le_of_ble_eq_true rfl) (fun x4 => ?_)
          refine PWk.jn (pc' := 64) (lv' := fun y12 => [(0, .ref 8), (1, .int u1), (3, .int u3)]) (st' := fun y12 => [.int y12.1]) (I' := fun y12 => y12.2) (L' := fun y12 => L) (R' := fun y12 => R) (fun j6 hj6 => ?_) (fun y12 => ?_)
          · refine PWk.jn (pc' := 63) (lv' := fun y11 => [(0, .ref 8), (1, .int u1), (3, .int u3)]) (st' := fun y11 => []) (I' := fun y11 => y11) (L' := fun y11 => L) (R' := fun y11 => R) (fun j5 hj5 => ?_) (fun y11 => ?_)
            · refine PWk.if_eq 63 dX8_readTest_44 (by decide) (fun h10 => ?_) (fun h10 => ?_)
              · refine PWk.sub [0, 1, 3] rfl ?_
                exact hj5 x4.2
              · refine PWk.aload_n 0 dX8_readTest_47 rfl ?_
                refine PWk.getr dX8_readTest_48 rg_8 lc_8 fl_X8_19 rfl okLd_ne (fun hk7 => ?_)
                refine PWk.bipush (v := (-20)) dX8_readTest_51 bp_m20 ?_
                refine PWk.callViI (pc_X2_emit x4.2 L R (R 8 1) (okLd_is hk7) (-20)) dX8_readTest_53 ml_X8_57 rfl (rgLd_0 (okLd_is hk7)) (lcLd (okLd_is hk7)) vq_2 (by omega) rfl (Nat.le_of_ble_eq_true rfl) (fun x8 => ?_)
                refine PWk.if_eq 63 dX8_readTest_56 (by decide) (fun h9 => ?_) (fun h9 => ?_)
                · refine PWk.sub [0, 1, 3] rfl ?_
                  exact hj5 x8.2
                · refine PWk.iconst (v := 1) dX8_readTest_59 ic_1 ?_
                  refine PWk.goto 64 dX8_readTest_60 (by decide) ?_
                  refine PWk.sub [0, 1, 3] rfl ?_
                  exact hj6 (1, x8.2)
            · refine PWk.iconst (v := 0) dX8_readTest_63 ic_0 ?_
              exact hj6 (0, y11)
          · refine PWk.istore_n [(2, .int y12.1), (0, .ref 8), (1, .int u1), (3, .int u3)] dX8_readTest_64 (by decide) rfl ?_
            refine PWk.iinc (v := (u3 + 1)) 3 [(3, .int (u3 + 1)), (2, .int y12.1), (0, .ref 8), (1, .int u1)] dX8_readTest_65 rfl (by rw [ic_1]) (by decide) rfl ?_
            refine PWk.goto 8 dX8_readTest_68 (by decide) ?_
            refine PWk.sub [2, 3, 1, 0] rfl ?_
            exact ih y12.1 (u3 + 1) y12.2 N F hx
set_option maxRecDepth 20000 in
theorem pc_X8_readTest (rec : Nat → HI → HR → Int32 → Int32 → Option (Int32 × HI)) (D0 : Nat) (fu : Nat) (I : HI) (L : HL) (R : HR) (p1 : Int32) (hD0 : 6 ≤ D0) (hrec : (∀ (I : HI) (L : HL) (R : HR) (a0 : Int32), PCo 1 93 D0 yX8_readBoth cX8_readBoth 4 (some .boolean) [.ref 8, .int a0] I L R (rec 0 I R a0 0) (fun x : Int32 × HI => ((some (.int x.1), x.2, L, R) : HF))) ∧ (∀ (I : HI) (L : HL) (R : HR) (a0 : Int32), PCo 1 93 D0 yX8_readChoice cX8_readChoice 2 (some .boolean) [.ref 8, .int a0] I L R (rec 1 I R a0 0) (fun x : Int32 × HI => ((some (.int x.1), x.2, L, R) : HF))) ∧ (∀ (I : HI) (L : HL) (R : HR) (a0 : Int32), PCo 1 93 D0 yX8_readFact cX8_readFact 3 (some .boolean) [.ref 8, .int a0] I L R (rec 2 I R a0 0) (fun x : Int32 × HI => ((some (.int x.1), x.2, L, R) : HF))) ∧ (∀ (I : HI) (L : HL) (R : HR) (a0 : Int32) (a1 : Int32), PCo 1 93 D0 yX8_readPair cX8_readPair 3 (some .boolean) [.ref 8, .int a0, .int a1] I L R (rec 3 I R a0 a1) (fun x : Int32 × HI => ((some (.int x.1), x.2, L, R) : HF))) ∧ (∀ (I : HI) (L : HL) (R : HR) (a0 : Int32), PCo 1 93 D0 yX8_readPart cX8_readPart 3 (some .boolean) [.ref 8, .int a0] I L R (rec 4 I R a0 0) (fun x : Int32 × HI => ((some (.int x.1), x.2, L, R) : HF))) ∧ (∀ (I : HI) (L : HL) (R : HR) (a0 : Int32), PCo 1 93 D0 yX8_readProduct cX8_readProduct 5 (some .boolean) [.ref 8, .int a0] I L R (rec 5 I R a0 0) (fun x : Int32 × HI => ((some (.int x.1), x.2, L, R) : HF))) ∧ (∀ (I : HI) (L : HL) (R : HR) (a0 : Int32), PCo 1 93 D0 yX8_readSum cX8_readSum 5 (some .boolean) [.ref 8, .int a0] I L R (rec 6 I R a0 0) (fun x : Int32 × HI => ((some (.int x.1), x.2, L, R) : HF))) ∧ (∀ (I : HI) (L : HL) (R : HR) (a0 : Int32), PCo 1 93 D0 yX8_readTest cX8_readTest 4 (some .boolean) [.ref 8, .int a0] I L R (rec 7 I R a0 0) (fun x : Int32 × HI => ((some (.int x.1), x.2, L, R) : HF)))) : PCo 1 93 (D0 + 1) yX8_readTest cX8_readTest 4 (some .boolean) [.ref 8, .int p1] I L R (f_X8_readTest rec fu I R p1) (fun x : Int32 × HI => ((some (.int x.1), x.2, L, R) : HF)) := by
  refine PCo.of (own := RX8) (by decide +kernel) (Nat.le_of_ble_eq_true rfl) rfl rfl (fun F => ?_)
  unfold f_X8_readTest
  refine PWk.aload_n 0 dX8_readTest_0 rfl ?_
  refine PWk.iload_n 1 dX8_readTest_1 rfl ?_
  refine PWk.callViI (hrec.1 I L R p1) dX8_readTest_2 ml_X8_51 rfl rg_8 lc_8 vq_8 (by omega) rfl (Nat.le_of_ble_eq_true rfl) (fun x1 => ?_)
  refine PWk.istore_n [(2, .int x1.1), (0, .ref 8), (1, .int p1)] dX8_readTest_5 (by decide) rfl ?_
  refine PWk.iconst (v := 0) dX8_readTest_6 ic_0 ?_
  refine PWk.istore_n [(3, .int 0), (2, .int x1.1), (0, .ref 8), (1, .int p1)] dX8_readTest_7 (by decide) rfl ?_
  refine PWk.sub [2, 3, 1, 0] rfl ?_
  refine PWk.loopV (fun N' hx' => lp_X8_readTest_8 rec D0 fu p1 L R hD0 hrec fu x1.1 0 x1.2 N' F hx') (fun x16 => ?_)
  refine PWk.iload_n 0 dX8_readTest_71 rfl ?_
  exact PWk.zret dX8_readTest_72 rfl (fun h => h)
def g_X8 (fu : Nat) : Nat → Nat → HI → HR → Int32 → Int32 → Option (Int32 × HI)
  | 0, _, _, _, _, _ => none
  | r + 1, w, I, R, a0, a1 =>
    if w = 0 then f_X8_readBoth (g_X8 fu r) fu I R a0 else
    if w = 1 then f_X8_readChoice (g_X8 fu r) fu I R a0 else
    if w = 2 then f_X8_readFact (g_X8 fu r) fu I R a0 else
    if w = 3 then f_X8_readPair (g_X8 fu r) fu I R a0 a1 else
    if w = 4 then f_X8_readPart (g_X8 fu r) fu I R a0 else
    if w = 5 then f_X8_readProduct (g_X8 fu r) fu I R a0 else
    if w = 6 then f_X8_readSum (g_X8 fu r) fu I R a0 else
    f_X8_readTest (g_X8 fu r) fu I R a0
theorem g_X8_ok (fu : Nat) : ∀ r : Nat, (∀ (I : HI) (L : HL) (R : HR) (a0 : Int32), PCo 1 93 (6 + r) yX8_readBoth cX8_readBoth 4 (some .boolean) [.ref 8, .int a0] I L R (g_X8 fu r 0 I R a0 0) (fun x : Int32 × HI => ((some (.int x.1), x.2, L, R) : HF))) ∧ (∀ (I : HI) (L : HL) (R : HR) (a0 : Int32), PCo 1 93 (6 + r) yX8_readChoice cX8_readChoice 2 (some .boolean) [.ref 8, .int a0] I L R (g_X8 fu r 1 I R a0 0) (fun x : Int32 × HI => ((some (.int x.1), x.2, L, R) : HF))) ∧ (∀ (I : HI) (L : HL) (R : HR) (a0 : Int32), PCo 1 93 (6 + r) yX8_readFact cX8_readFact 3 (some .boolean) [.ref 8, .int a0] I L R (g_X8 fu r 2 I R a0 0) (fun x : Int32 × HI => ((some (.int x.1), x.2, L, R) : HF))) ∧ (∀ (I : HI) (L : HL) (R : HR) (a0 : Int32) (a1 : Int32), PCo 1 93 (6 + r) yX8_readPair cX8_readPair 3 (some .boolean) [.ref 8, .int a0, .int a1] I L R (g_X8 fu r 3 I R a0 a1) (fun x : Int32 × HI => ((some (.int x.1), x.2, L, R) : HF))) ∧ (∀ (I : HI) (L : HL) (R : HR) (a0 : Int32), PCo 1 93 (6 + r) yX8_readPart cX8_readPart 3 (some .boolean) [.ref 8, .int a0] I L R (g_X8 fu r 4 I R a0 0) (fun x : Int32 × HI => ((some (.int x.1), x.2, L, R) : HF))) ∧ (∀ (I : HI) (L : HL) (R : HR) (a0 : Int32), PCo 1 93 (6 + r) yX8_readProduct cX8_readProduct 5 (some .boolean) [.ref 8, .int a0] I L R (g_X8 fu r 5 I R a0 0) (fun x : Int32 × HI => ((some (.int x.1), x.2, L, R) : HF))) ∧ (∀ (I : HI) (L : HL) (R : HR) (a0 : Int32), PCo 1 93 (6 + r) yX8_readSum cX8_readSum 5 (some .boolean) [.ref 8, .int a0] I L R (g_X8 fu r 6 I R a0 0) (fun x : Int32 × HI => ((some (.int x.1), x.2, L, R) : HF))) ∧ (∀ (I : HI) (L : HL) (R : HR) (a0 : Int32), PCo 1 93 (6 + r) yX8_readTest cX8_readTest 4 (some .boolean) [.ref 8, .int a0] I L R (g_X8 fu r 7 I R a0 0) (fun x : Int32 × HI => ((some (.int x.1), x.2, L, R) : HF))) := by
  intro r
  induction r with
  | zero => exact ⟨fun I L R a0 a h => (by cases h), fun I L R a0 a h => (by cases h), fun I L R a0 a h => (by cases h), fun I L R a0 a1 a h => (by cases h), fun I L R a0 a h => (by cases h), fun I L R a0 a h => (by cases h), fun I L R a0 a h => (by cases h), fun I L R a0 a h => (by cases h)⟩
  | succ r ih =>
    exact ⟨fun I L R a0 => pc_X8_readBoth (g_X8 fu r) (6 + r) fu I L R a0 (by omega) ih, fun I L R a0 => pc_X8_readChoice (g_X8 fu r) (6 + r) fu I L R a0 (by omega) ih, fun I L R a0 => pc_X8_readFact (g_X8 fu r) (6 + r) fu I L R a0 (by omega) ih, fun I L R a0 a1 => pc_X8_readPair (g_X8 fu r) (6 + r) fu I L R a0 a1 (by omega) ih, fun I L R a0 => pc_X8_readPart (g_X8 fu r) (6 + r) fu I L R a0 (by omega) ih, fun I L R a0 => pc_X8_readProduct (g_X8 fu r) (6 + r) fu I L R a0 (by omega) ih, fun I L R a0 => pc_X8_readSum (g_X8 fu r) (6 + r) fu I L R a0 (by omega) ih, fun I L R a0 => pc_X8_readTest (g_X8 fu r) (6 + r) fu I L R a0 (by omega) ih⟩
/-! LakeMarket$RuleReader.readRule(ILLakeMarket$Lowland;)Z -/
def f_X8_readRule (fu : Nat) (I : HI) (R : HR) (p1 : Int32) (a2 : Nat) : Option (Int32 × HI × HR) :=
  bnd (sI I 8 2 p1) fun I1 =>
  bnd (sR R 8 1 a2) fun R2 =>
  gr (okLd (R2 8 1)) <|
  bnd ((I1 (R2 8 1) 16)) fun v4 =>
  (f_X10_advance fu I1).bind fun x5 =>
  jnt (β := HI) (fun y12 =>
    inb 3 (y12 8 2) <|
    bnd (sI y12 ((R2 8 1) + 11) ((y12 8 2) : Int32).toNatClampNeg v4) fun I13 =>
    inb 3 (I13 8 2) <|
    bnd (sI I13 ((R2 8 1) + 12) ((I13 8 2) : Int32).toNatClampNeg (I13 (R2 8 1) 16)) fun I14 =>
    gz 1 (some (1, I14, R2))) fun j6 =>
  if (x5.2 8 2) = 2 then
    (g_X8 fu 80 7 x5.2 R2 0 0).bind fun x7 =>
    if x7.1 = 0 then
      gz 0 (some (0, x7.2, R2))
    else
      j6 x7.2
  else
    (g_X8 fu 80 6 x5.2 R2 0 0).bind fun x9 =>
    if x9.1 = 0 then
      gz 0 (some (0, x9.2, R2))
    else
      j6 x9.2
set_option maxRecDepth 20000 in
theorem pc_X8_readRule (fu : Nat) (I : HI) (L : HL) (R : HR) (p1 : Int32) (a2 : Nat) (hy_a2 : isLd a2) : PCo 1 93 87 yX8_readRule cX8_readRule 4 (some .boolean) [.ref 8, .int p1, .ref a2] I L R (f_X8_readRule fu I R p1 a2) (fun x : Int32 × HI × HR => ((some (.int x.1), x.2.1, L, x.2.2) : HF)) := by
  refine PCo.of (own := RX8) (by decide +kernel) (Nat.le_of_ble_eq_true rfl) rfl rfl (fun F => ?_)
  unfold f_X8_readRule
  refine PWk.aload_n 0 dX8_readRule_0 rfl ?_
  refine PWk.iload_n 1 dX8_readRule_1 rfl ?_
  refine PWk.puti dX8_readRule_2 rg_8 lc_8 fl_X8_15 fp_8_2 rfl ?_
  refine PWk.bI (fun I1 => ?_)
  refine PWk.aload_n 0 dX8_readRule_5 rfl ?_
  refine PWk.aload_n 2 dX8_readRule_6 rfl ?_
  refine PWk.putr dX8_readRule_7 rg_8 lc_8 fl_X8_19 fp_8_1 rfl (neLd hy_a2) ?_
  refine PWk.bR (fun R2 => ?_)
  refine PWk.aload_n 0 dX8_readRule_10 rfl ?_
  refine PWk.getr dX8_readRule_11 rg_8 lc_8 fl_X8_19 rfl okLd_ne (fun hk3 => ?_)
  refine PWk.geti dX8_readRule_14 (rgLd_0 (okLd_is hk3)) (lcLd (okLd_is hk3)) fl_X8_23 rfl ?_
  refine PWk.bi (fun v4 => ?_)
  refine PWk.istore_n [(3, .int v4), (0, .ref 8), (1, .int p1), (2, .ref a2)] dX8_readRule_17 (by decide) rfl ?_
  refine PWk.aload_n 1 dX8_readRule_18 rfl ?_
  refine PWk.gets dX8_readRule_19 rg_8 lc_8 fl_X8_9 rfl st_8_0 ?_
  refine PWk.callViI (pc_X10_advance fu I1 L R2) dX8_readRule_22 ml_X8_28 rfl rg_7 lc_7 vq_10 (by decide) rfl (Nat.le_of_ble_eq_true rfl) (fun x5 => ?_)
  refine PWk.pop dX8_readRule_25 rfl ?_
  refine PWk.aload_n 1 dX8_readRule_26 rfl ?_
  refine PWk.geti dX8_readRule_27 rg_8 lc_8 fl_X8_15 rfl ?_
  refine PWk.iconst (v := 2) dX8_readRule_30 ic_2 ?_
  refine PWk.jn (pc' := 55) (lv' := fun y12 => [(0, .ref 8), (3, .int v4)]) (st' := fun y12 => []) (I' := fun y12 => y12) (L' := fun y12 => L) (R' := fun y12 => R2) (fun j6 hj6 => ?_) (fun y12 => ?_)
  · refine PWk.icmp_ne 45 dX8_readRule_31 (by decide) (fun h11 => ?_) (fun h11 => ?_)
    · refine PWk.aload_n 1 dX8_readRule_34 rfl ?_
      refine PWk.iconst (v := 0) dX8_readRule_35 ic_0 ?_
      refine PWk.callViI ((g_X8_ok fu 80).2.2.2.2.2.2.2 x5.2 L R2 0) dX8_readRule_36 ml_X8_34 rfl rg_8 lc_8 vq_8 (by decide) rfl (Nat.le_of_ble_eq_true rfl) (fun x7 => ?_)
      refine PWk.if_eq 53 dX8_readRule_39 (by decide) (fun h8 => ?_) (fun h8 => ?_)
      · refine PWk.iconst (v := 0) dX8_readRule_53 ic_0 ?_
        exact PWk.zret dX8_readRule_54 rfl (fun h => h)
      · refine PWk.goto 55 dX8_readRule_42 (by decide) ?_
        refine PWk.sub [1, 0] rfl ?_
        exact hj6 x7.2
    · refine PWk.aload_n 1 dX8_readRule_45 rfl ?_
      refine PWk.iconst (v := 0) dX8_readRule_46 ic_0 ?_
      refine PWk.callViI ((g_X8_ok fu 80).2.2.2.2.2.2.1 x5.2 L R2 0) dX8_readRule_47 ml_X8_38 rfl rg_8 lc_8 vq_8 (by decide) rfl (Nat.le_of_ble_eq_true rfl) (fun x9 => ?_)
      refine PWk.if_ne 55 dX8_readRule_50 (by decide) (fun h10 => ?_) (fun h10 => ?_)
      · refine PWk.iconst (v := 0) dX8_readRule_53 ic_0 ?_
        exact PWk.zret dX8_readRule_54 rfl (fun h => h)
      · refine PWk.sub [1, 0] rfl ?_
        exact hj6 x9.2
  · refine PWk.aload_n 0 dX8_readRule_55 rfl ?_
    refine PWk.getrk dX8_readRule_56 rg_8 lc_8 fl_X8_19 rfl (neLd (okLd_is hk3)) ?_
    refine PWk.gets dX8_readRule_59 (rgLd_0 (okLd_is hk3)) (lcLd (okLd_is hk3)) fl_X8_41 rfl (stLd_17 (okLd_is hk3)) ?_
    refine PWk.aload_n 0 dX8_readRule_62 rfl ?_
    refine PWk.geti dX8_readRule_63 rg_8 lc_8 fl_X8_15 rfl ?_
    refine PWk.iload_n 1 dX8_readRule_66 rfl ?_
    refine PWk.iast dX8_readRule_67 (rgLd_11 (okLd_is hk3)) (lyLd_11 (okLd_is hk3)) ?_
    refine PWk.bI (fun I13 => ?_)
    refine PWk.aload_n 0 dX8_readRule_68 rfl ?_
    refine PWk.getrk dX8_readRule_69 rg_8 lc_8 fl_X8_19 rfl (neLd (okLd_is hk3)) ?_
    refine PWk.gets dX8_readRule_72 (rgLd_0 (okLd_is hk3)) (lcLd (okLd_is hk3)) fl_X8_45 rfl (stLd_18 (okLd_is hk3)) ?_
    refine PWk.aload_n 0 dX8_readRule_75 rfl ?_
    refine PWk.geti dX8_readRule_76 rg_8 lc_8 fl_X8_15 rfl ?_
    refine PWk.aload_n 0 dX8_readRule_79 rfl ?_
    refine PWk.getrk dX8_readRule_80 rg_8 lc_8 fl_X8_19 rfl (neLd (okLd_is hk3)) ?_
    refine PWk.geti dX8_readRule_83 (rgLd_0 (okLd_is hk3)) (lcLd (okLd_is hk3)) fl_X8_23 rfl ?_
    refine PWk.iast dX8_readRule_86 (rgLd_12 (okLd_is hk3)) (lyLd_12 (okLd_is hk3)) ?_
    refine PWk.bI (fun I14 => ?_)
    refine PWk.iconst (v := 1) dX8_readRule_87 ic_1 ?_
    exact PWk.zret dX8_readRule_88 rfl (fun h => h)
