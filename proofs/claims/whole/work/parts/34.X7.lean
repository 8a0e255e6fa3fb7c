/-! LakeMarket$Reader.isOneTooMany(I)Z -/
def f_X7_isOneTooMany (I : HI) (R : HR) (p1 : Int32) : Option (Int32) :=
  if p1 = 0 then
    gr (okLd (R 6 2)) <|
    if (I (R 6 2) 1) < 8 then
      gz 0 (some 0)
    else
      gz 1 (some 1)
  else
  if p1 = 3 then
    gr (okLd (R 6 2)) <|
    if (I (R 6 2) 2) < 6 then
      gz 0 (some 0)
    else
      gz 1 (some 1)
  else
  if p1 = 4 then
    gr (okLd (R 6 2)) <|
    if (I (R 6 2) 3) < 8 then
      gz 0 (some 0)
    else
      gz 1 (some 1)
  else
  if p1 = 9 then
    gr (okLd (R 6 2)) <|
    (f_X2_hasRule I (R 6 2) 0).bind fun x8 =>
    gz x8 (some x8)
  else
  if p1 = 10 then
    gr (okLd (R 6 2)) <|
    (f_X2_hasRule I (R 6 2) 1).bind fun x10 =>
    gz x10 (some x10)
  else
  if p1 = 11 then
    gr (okLd (R 6 2)) <|
    (f_X2_hasRule I (R 6 2) 2).bind fun x12 =>
    gz x12 (some x12)
  else
    gz 0 (some 0)
set_option maxRecDepth 20000 in
theorem pc_X7_isOneTooMany (I : HI) (L : HL) (R : HR) (p1 : Int32) : PCo 1 93 1 yX7_isOneTooMany cX7_isOneTooMany 2 (some .boolean) [.ref 6, .int p1] I L R (f_X7_isOneTooMany I R p1) (fun x : Int32 => ((some (.int x), I, L, R) : HF)) := by
  refine PCo.of (own := RX7) (by decide +kernel) (Nat.le_of_ble_eq_true rfl) rfl rfl (fun F => ?_)
  unfold f_X7_isOneTooMany
  refine PWk.iload_n 1 dX7_isOneTooMany_0 rfl ?_
  refine PWk.ite (fun h13 => ?_) (fun h13 => ?_)
  · refine PWk.tIn 64 (off := 63) (v := 0) dX7_isOneTooMany_1 (by rw [h13]; decide) (by decide) (by decide) (by decide +kernel) (by decide) ?_
    refine PWk.aload_n 0 dX7_isOneTooMany_64 rfl ?_
    refine PWk.getr dX7_isOneTooMany_65 rg_6 lc_6 fl_X7_29 rfl okLd_ne (fun hk1 => ?_)
    refine PWk.geti dX7_isOneTooMany_68 (rgLd_0 (okLd_is hk1)) (lcLd (okLd_is hk1)) fl_X7_97 rfl ?_
    refine PWk.bipush (v := 8) dX7_isOneTooMany_71 bp_8 ?_
    refine PWk.icmp_lt 80 dX7_isOneTooMany_73 (by decide) (fun h2 => ?_) (fun h2 => ?_)
    · refine PWk.iconst (v := 0) dX7_isOneTooMany_80 ic_0 ?_
      exact PWk.zret dX7_isOneTooMany_81 rfl (fun h => h)
    · refine PWk.iconst (v := 1) dX7_isOneTooMany_76 ic_1 ?_
      refine PWk.goto 81 dX7_isOneTooMany_77 (by decide) ?_
      exact PWk.zret dX7_isOneTooMany_81 rfl (fun h => h)
  · skip
    refine PWk.ite (fun h14 => ?_) (fun h14 => ?_)
    · refine PWk.tIn 82 (off := 81) (v := 3) dX7_isOneTooMany_1 (by rw [h14]; decide) (by decide) (by decide) (by decide +kernel) (by decide) ?_
      refine PWk.aload_n 0 dX7_isOneTooMany_82 rfl ?_
      refine PWk.getr dX7_isOneTooMany_83 rg_6 lc_6 fl_X7_29 rfl okLd_ne (fun hk3 => ?_)
      refine PWk.geti dX7_isOneTooMany_86 (rgLd_0 (okLd_is hk3)) (lcLd (okLd_is hk3)) fl_X7_100 rfl ?_
      refine PWk.bipush (v := 6) dX7_isOneTooMany_89 bp_6 ?_
      refine PWk.icmp_lt 98 dX7_isOneTooMany_91 (by decide) (fun h4 => ?_) (fun h4 => ?_)
      · refine PWk.iconst (v := 0) dX7_isOneTooMany_98 ic_0 ?_
        exact PWk.zret dX7_isOneTooMany_99 rfl (fun h => h)
      · refine PWk.iconst (v := 1) dX7_isOneTooMany_94 ic_1 ?_
        refine PWk.goto 99 dX7_isOneTooMany_95 (by decide) ?_
        exact PWk.zret dX7_isOneTooMany_99 rfl (fun h => h)
    · skip
      refine PWk.ite (fun h15 => ?_) (fun h15 => ?_)
      · refine PWk.tIn 100 (off := 99) (v := 4) dX7_isOneTooMany_1 (by rw [h15]; decide) (by decide) (by decide) (by decide +kernel) (by decide) ?_
        refine PWk.aload_n 0 dX7_isOneTooMany_100 rfl ?_
        refine PWk.getr dX7_isOneTooMany_101 rg_6 lc_6 fl_X7_29 rfl okLd_ne (fun hk5 => ?_)
        refine PWk.geti dX7_isOneTooMany_104 (rgLd_0 (okLd_is hk5)) (lcLd (okLd_is hk5)) fl_X7_103 rfl ?_
        refine PWk.bipush (v := 8) dX7_isOneTooMany_107 bp_8 ?_
        refine PWk.icmp_lt 116 dX7_isOneTooMany_109 (by decide) (fun h6 => ?_) (fun h6 => ?_)
        · refine PWk.iconst (v := 0) dX7_isOneTooMany_116 ic_0 ?_
          exact PWk.zret dX7_isOneTooMany_117 rfl (fun h => h)
        · refine PWk.iconst (v := 1) dX7_isOneTooMany_112 ic_1 ?_
          refine PWk.goto 117 dX7_isOneTooMany_113 (by decide) ?_
          exact PWk.zret dX7_isOneTooMany_117 rfl (fun h => h)
      · skip
        refine PWk.ite (fun h16 => ?_) (fun h16 => ?_)
        · refine PWk.tIn 118 (off := 117) (v := 9) dX7_isOneTooMany_1 (by rw [h16]; decide) (by decide) (by decide) (by decide +kernel) (by decide) ?_
          refine PWk.aload_n 0 dX7_isOneTooMany_118 rfl ?_
          refine PWk.getr dX7_isOneTooMany_119 rg_6 lc_6 fl_X7_29 rfl okLd_ne (fun hk7 => ?_)
          refine PWk.iconst (v := 0) dX7_isOneTooMany_122 ic_0 ?_
          refine PWk.callVi (pc_X2_hasRule I L R (R 6 2) (okLd_is hk7) 0) dX7_isOneTooMany_123 ml_X7_106 rfl (rgLd_0 (okLd_is hk7)) (lcLd (okLd_is hk7)) vq_2 (by decide) rfl (Nat.le_of_ble_eq_true rfl) (fun x8 => ?_)
          exact PWk.zret dX7_isOneTooMany_126 rfl (fun h => h)
        · skip
          refine PWk.ite (fun h17 => ?_) (fun h17 => ?_)
          · refine PWk.tIn 127 (off := 126) (v := 10) dX7_isOneTooMany_1 (by rw [h17]; decide) (by decide) (by decide) (by decide +kernel) (by decide) ?_
            refine PWk.aload_n 0 dX7_isOneTooMany_127 rfl ?_
            refine PWk.getr dX7_isOneTooMany_128 rg_6 lc_6 fl_X7_29 rfl okLd_ne (fun hk9 => ?_)
            refine PWk.iconst (v := 1) dX7_isOneTooMany_131 ic_1 ?_
            refine PWk.callVi (pc_X2_hasRule I L R (R 6 2) (okLd_is hk9) 1) dX7_isOneTooMany_132 ml_X7_106 rfl (rgLd_0 (okLd_is hk9)) (lcLd (okLd_is hk9)) vq_2 (by decide) rfl (Nat.le_of_ble_eq_true rfl) (fun x10 => ?_)
            exact PWk.zret dX7_isOneTooMany_135 rfl (fun h => h)
          · skip
            refine PWk.ite (fun h18 => ?_) (fun h18 => ?_)
            · refine PWk.tIn 136 (off := 135) (v := 11) dX7_isOneTooMany_1 (by rw [h18]; decide) (by decide) (by decide) (by decide +kernel) (by decide) ?_
              refine PWk.aload_n 0 dX7_isOneTooMany_136 rfl ?_
              refine PWk.getr dX7_isOneTooMany_137 rg_6 lc_6 fl_X7_29 rfl okLd_ne (fun hk11 => ?_)
              refine PWk.iconst (v := 2) dX7_isOneTooMany_140 ic_2 ?_
              refine PWk.callVi (pc_X2_hasRule I L R (R 6 2) (okLd_is hk11) 2) dX7_isOneTooMany_141 ml_X7_106 rfl (rgLd_0 (okLd_is hk11)) (lcLd (okLd_is hk11)) vq_2 (by decide) rfl (Nat.le_of_ble_eq_true rfl) (fun x12 => ?_)
              exact PWk.zret dX7_isOneTooMany_144 rfl (fun h => h)
            · skip
              by_cases h19 : p1 = 1
              · refine PWk.tIn 145 (off := 144) (v := 1) dX7_isOneTooMany_1 (by rw [h19]; decide) (by decide) (by decide) (by decide +kernel) (by decide) ?_
                refine PWk.iconst (v := 0) dX7_isOneTooMany_145 ic_0 ?_
                exact PWk.zret dX7_isOneTooMany_146 rfl (fun h => h)
              · skip
                by_cases h20 : p1 = 2
                · refine PWk.tIn 145 (off := 144) (v := 2) dX7_isOneTooMany_1 (by rw [h20]; decide) (by decide) (by decide) (by decide +kernel) (by decide) ?_
                  refine PWk.iconst (v := 0) dX7_isOneTooMany_145 ic_0 ?_
                  exact PWk.zret dX7_isOneTooMany_146 rfl (fun h => h)
                · skip
                  by_cases h21 : p1 = 5
                  · refine PWk.tIn 145 (off := 144) (v := 5) dX7_isOneTooMany_1 (by rw [h21]; decide) (by decide) (by decide) (by decide +kernel) (by decide) ?_
                    refine PWk.iconst (v := 0) dX7_isOneTooMany_145 ic_0 ?_
                    exact PWk.zret dX7_isOneTooMany_146 rfl (fun h => h)
                  · skip
                    by_cases h22 : p1 = 6
                    · refine PWk.tIn 145 (off := 144) (v := 6) dX7_isOneTooMany_1 (by rw [h22]; decide) (by decide) (by decide) (by decide +kernel) (by decide) ?_
                      refine PWk.iconst (v := 0) dX7_isOneTooMany_145 ic_0 ?_
                      exact PWk.zret dX7_isOneTooMany_146 rfl (fun h => h)
                    · skip
                      by_cases h23 : p1 = 7
                      · refine PWk.tIn 145 (off := 144) (v := 7) dX7_isOneTooMany_1 (by rw [h23]; decide) (by decide) (by decide) (by decide +kernel) (by decide) ?_
                        refine PWk.iconst (v := 0) dX7_isOneTooMany_145 ic_0 ?_
                        exact PWk.zret dX7_isOneTooMany_146 rfl (fun h => h)
                      · skip
                        by_cases h24 : p1 = 8
                        · refine PWk.tIn 145 (off := 144) (v := 8) dX7_isOneTooMany_1 (by rw [h24]; decide) (by decide) (by decide) (by decide +kernel) (by decide) ?_
                          refine PWk.iconst (v := 0) dX7_isOneTooMany_145 ic_0 ?_
                          exact PWk.zret dX7_isOneTooMany_146 rfl (fun h => h)
                        · skip
                          have q_0 : (p1).toInt ≠ 0 := fun e => h13 (Int32.toInt_inj.mp (e.trans (by decide)))
                          have q_1 : (p1).toInt ≠ 1 := fun e => h19 (Int32.toInt_inj.mp (e.trans (by decide)))
                          have q_2 : (p1).toInt ≠ 2 := fun e => h20 (Int32.toInt_inj.mp (e.trans (by decide)))
                          have q_3 : (p1).toInt ≠ 3 := fun e => h14 (Int32.toInt_inj.mp (e.trans (by decide)))
                          have q_4 : (p1).toInt ≠ 4 := fun e => h15 (Int32.toInt_inj.mp (e.trans (by decide)))
                          have q_5 : (p1).toInt ≠ 5 := fun e => h21 (Int32.toInt_inj.mp (e.trans (by decide)))
                          have q_6 : (p1).toInt ≠ 6 := fun e => h22 (Int32.toInt_inj.mp (e.trans (by decide)))
                          have q_7 : (p1).toInt ≠ 7 := fun e => h23 (Int32.toInt_inj.mp (e.trans (by decide)))
                          have q_8 : (p1).toInt ≠ 8 := fun e => h24 (Int32.toInt_inj.mp (e.trans (by decide)))
                          have q_9 : (p1).toInt ≠ 9 := fun e => h16 (Int32.toInt_inj.mp (e.trans (by decide)))
                          have q_10 : (p1).toInt ≠ 10 := fun e => h17 (Int32.toInt_inj.mp (e.trans (by decide)))
                          have q_11 : (p1).toInt ≠ 11 := fun e => h18 (Int32.toInt_inj.mp (e.trans (by decide)))
                          refine PWk.tOut 145 dX7_isOneTooMany_1 (by omega) (by decide) ?_
                          refine PWk.iconst (v := 0) dX7_isOneTooMany_145 ic_0 ?_
                          exact PWk.zret dX7_isOneTooMany_146 rfl (fun h => h)
/-! LakeMarket$Reader.takeWord(I)Z -/
def f_X7_takeWord (fu : Nat) (I : HI) (p1 : Int32) : Option (Int32 × HI) :=
  (f_X10_needOwn I p1).bind fun x1 =>
  if x1.1 = 0 then
    gz 0 (some (0, x1.2))
  else
    (f_X10_advance fu x1.2).bind fun x2 =>
    if x2.1 = 0 then
      gz 0 (some (0, x2.2))
    else
      gz 1 (some (1, x2.2))
set_option maxRecDepth 20000 in
theorem pc_X7_takeWord (fu : Nat) (I : HI) (L : HL) (R : HR) (p1 : Int32) : PCo 1 93 7 yX7_takeWord cX7_takeWord 2 (some .boolean) [.ref 6, .int p1] I L R (f_X7_takeWord fu I p1) (fun x : Int32 × HI => ((some (.int x.1), x.2, L, R) : HF)) := by
  refine PCo.of (own := RX7) (by decide +kernel) (Nat.le_of_ble_eq_true rfl) rfl rfl (fun F => ?_)
  unfold f_X7_takeWord
  refine PWk.aload_n 0 dX7_takeWord_0 rfl ?_
  refine PWk.gets dX7_takeWord_1 rg_6 lc_6 fl_X7_14 rfl st_6_0 ?_
  refine PWk.iload_n 1 dX7_takeWord_4 rfl ?_
  refine PWk.callViI (pc_X10_needOwn I L R p1) dX7_takeWord_5 ml_X7_162 rfl rg_7 lc_7 vq_10 (by decide) rfl (Nat.le_of_ble_eq_true rfl) (fun x1 => ?_)
  refine PWk.if_eq 25 dX7_takeWord_8 (by decide) (fun h4 => ?_) (fun h4 => ?_)
  · refine PWk.iconst (v := 0) dX7_takeWord_25 ic_0 ?_
    exact PWk.zret dX7_takeWord_26 rfl (fun h => h)
  · refine PWk.aload_n 0 dX7_takeWord_11 rfl ?_
    refine PWk.gets dX7_takeWord_12 rg_6 lc_6 fl_X7_14 rfl st_6_0 ?_
    refine PWk.callViI (pc_X10_advance fu x1.2 L R) dX7_takeWord_15 ml_X7_94 rfl rg_7 lc_7 vq_10 (by decide) rfl (Nat.le_of_ble_eq_true rfl) (fun x2 => ?_)
    refine PWk.if_eq 25 dX7_takeWord_18 (by decide) (fun h3 => ?_) (fun h3 => ?_)
    · refine PWk.iconst (v := 0) dX7_takeWord_25 ic_0 ?_
      exact PWk.zret dX7_takeWord_26 rfl (fun h => h)
    · refine PWk.iconst (v := 1) dX7_takeWord_21 ic_1 ?_
      refine PWk.goto 26 dX7_takeWord_22 (by decide) ?_
      exact PWk.zret dX7_takeWord_26 rfl (fun h => h)
/-! LakeMarket$Reader.takeNumber(II)Z -/
def f_X7_takeNumber (fu : Nat) (I : HI) (p1 : Int32) (p2 : Int32) : Option (Int32 × HI) :=
  (f_X10_needKind I 3).bind fun x1 =>
  if x1.1 = 0 then
    gz 0 (some (0, x1.2))
  else
    bnd (sI x1.2 6 3 (x1.2 7 6)) fun I2 =>
    jnt (β := Unit) (fun y7 =>
      (f_X10_fail I2 4).bind fun x8 =>
      gz x8.1 (some (x8.1, x8.2))) fun j3 =>
    if (I2 6 3) < p1 then
      j3 ()
    else
      if (I2 6 3) ≤ p2 then
        (f_X10_advance fu I2).bind fun x4 =>
        gz x4.1 (some (x4.1, x4.2))
      else
        j3 ()
set_option maxRecDepth 20000 in
theorem pc_X7_takeNumber (fu : Nat) (I : HI) (L : HL) (R : HR) (p1 : Int32) (p2 : Int32) : PCo 1 93 7 yX7_takeNumber cX7_takeNumber 3 (some .boolean) [.ref 6, .int p1, .int p2] I L R (f_X7_takeNumber fu I p1 p2) (fun x : Int32 × HI => ((some (.int x.1), x.2, L, R) : HF)) := by
  refine PCo.of (own := RX7) (by decide +kernel) (Nat.le_of_ble_eq_true rfl) rfl rfl (fun F => ?_)
  unfold f_X7_takeNumber
  refine PWk.aload_n 0 dX7_takeNumber_0 rfl ?_
  refine PWk.gets dX7_takeNumber_1 rg_6 lc_6 fl_X7_14 rfl st_6_0 ?_
  refine PWk.iconst (v := 3) dX7_takeNumber_4 ic_3 ?_
  refine PWk.callViI (pc_X10_needKind I L R 3) dX7_takeNumber_5 ml_X7_57 rfl rg_7 lc_7 vq_10 (by decide) rfl (Nat.le_of_ble_eq_true rfl) (fun x1 => ?_)
  refine PWk.if_ne 13 dX7_takeNumber_8 (by decide) (fun h9 => ?_) (fun h9 => ?_)
  · refine PWk.iconst (v := 0) dX7_takeNumber_11 ic_0 ?_
    exact PWk.zret dX7_takeNumber_12 rfl (fun h => h)
  · refine PWk.aload_n 0 dX7_takeNumber_13 rfl ?_
    refine PWk.aload_n 0 dX7_takeNumber_14 rfl ?_
    refine PWk.gets dX7_takeNumber_15 rg_6 lc_6 fl_X7_14 rfl st_6_0 ?_
    refine PWk.geti dX7_takeNumber_18 rg_7 lc_7 fl_X7_60 rfl ?_
    refine PWk.puti dX7_takeNumber_21 rg_6 lc_6 fl_X7_112 fp_7_3 rfl ?_
    refine PWk.bI (fun I2 => ?_)
    refine PWk.aload_n 0 dX7_takeNumber_24 rfl ?_
    refine PWk.geti dX7_takeNumber_25 rg_6 lc_6 fl_X7_112 rfl ?_
    refine PWk.iload_n 1 dX7_takeNumber_28 rfl ?_
    refine PWk.jn (pc' := 40) (lv' := fun y7 => [(0, .ref 6)]) (st' := fun y7 => []) (I' := fun y7 => I2) (L' := fun y7 => L) (R' := fun y7 => R) (fun j3 hj3 => ?_) (fun y7 => ?_)
    · refine PWk.icmp_lt 40 dX7_takeNumber_29 (by decide) (fun h6 => ?_) (fun h6 => ?_)
      · refine PWk.sub [0] rfl ?_
        exact hj3 ()
      · refine PWk.aload_n 0 dX7_takeNumber_32 rfl ?_
        refine PWk.geti dX7_takeNumber_33 rg_6 lc_6 fl_X7_112 rfl ?_
        refine PWk.iload_n 2 dX7_takeNumber_36 rfl ?_
        refine PWk.icmp_le 49 dX7_takeNumber_37 (by decide) (fun h5 => ?_) (fun h5 => ?_)
        · refine PWk.aload_n 0 dX7_takeNumber_49 rfl ?_
          refine PWk.gets dX7_takeNumber_50 rg_6 lc_6 fl_X7_14 rfl st_6_0 ?_
          refine PWk.callViI (pc_X10_advance fu I2 L R) dX7_takeNumber_53 ml_X7_94 rfl rg_7 lc_7 vq_10 (by decide) rfl (Nat.le_of_ble_eq_true rfl) (fun x4 => ?_)
          exact PWk.zret dX7_takeNumber_56 rfl (fun h => h)
        · refine PWk.sub [0] rfl ?_
          exact hj3 ()
    · refine PWk.aload_n 0 dX7_takeNumber_40 rfl ?_
      refine PWk.gets dX7_takeNumber_41 rg_6 lc_6 fl_X7_14 rfl st_6_0 ?_
      refine PWk.iconst (v := 4) dX7_takeNumber_44 ic_4 ?_
      refine PWk.callViI (pc_X10_fail I2 L R 4) dX7_takeNumber_45 ml_X7_53 rfl rg_7 lc_7 vq_10 (by decide) rfl (Nat.le_of_ble_eq_true rfl) (fun x8 => ?_)
      exact PWk.zret dX7_takeNumber_48 rfl (fun h => h)
/-! LakeMarket$Reader.takeNewName()Z -/
def f_X7_takeNewName (fu : Nat) (I : HI) (R : HR) : Option (Int32 × HI) :=
  (f_X10_needKind I 1).bind fun x1 =>
  if x1.1 = 0 then
    gz 0 (some (0, x1.2))
  else
    bnd (sI x1.2 6 3 (x1.2 7 6)) fun I2 =>
    gr (okLd (R 6 2)) <|
    (f_X2_isTaken fu I2 (R 6 2) (I2 6 3)).bind fun x4 =>
    if x4 = 0 then
      (f_X10_advance fu I2).bind fun x5 =>
      gz x5.1 (some (x5.1, x5.2))
    else
      (f_X10_fail I2 2).bind fun x6 =>
      gz x6.1 (some (x6.1, x6.2))
set_option maxRecDepth 20000 in
theorem pc_X7_takeNewName (fu : Nat) (I : HI) (L : HL) (R : HR) : PCo 1 93 7 yX7_takeNewName cX7_takeNewName 1 (some .boolean) [.ref 6] I L R (f_X7_takeNewName fu I R) (fun x : Int32 × HI => ((some (.int x.1), x.2, L, R) : HF)) := by
  refine PCo.of (own := RX7) (by decide +kernel) (Nat.le_of_ble_eq_true rfl) rfl rfl (fun F => ?_)
  unfold f_X7_takeNewName
  refine PWk.aload_n 0 dX7_takeNewName_0 rfl ?_
  refine PWk.gets dX7_takeNewName_1 rg_6 lc_6 fl_X7_14 rfl st_6_0 ?_
  refine PWk.iconst (v := 1) dX7_takeNewName_4 ic_1 ?_
  refine PWk.callViI (pc_X10_needKind I L R 1) dX7_takeNewName_5 ml_X7_57 rfl rg_7 lc_7 vq_10 (by decide) rfl (Nat.le_of_ble_eq_true rfl) (fun x1 => ?_)
  refine PWk.if_ne 13 dX7_takeNewName_8 (by decide) (fun h8 => ?_) (fun h8 => ?_)
  · refine PWk.iconst (v := 0) dX7_takeNewName_11 ic_0 ?_
    exact PWk.zret dX7_takeNewName_12 rfl (fun h => h)
  · refine PWk.aload_n 0 dX7_takeNewName_13 rfl ?_
    refine PWk.aload_n 0 dX7_takeNewName_14 rfl ?_
    refine PWk.gets dX7_takeNewName_15 rg_6 lc_6 fl_X7_14 rfl st_6_0 ?_
    refine PWk.geti dX7_takeNewName_18 rg_7 lc_7 fl_X7_60 rfl ?_
    refine PWk.puti dX7_takeNewName_21 rg_6 lc_6 fl_X7_112 fp_7_3 rfl ?_
    refine PWk.bI (fun I2 => ?_)
    refine PWk.aload_n 0 dX7_takeNewName_24 rfl ?_
    refine PWk.getr dX7_takeNewName_25 rg_6 lc_6 fl_X7_29 rfl okLd_ne (fun hk3 => ?_)
    refine PWk.aload_n 0 dX7_takeNewName_28 rfl ?_
    refine PWk.geti dX7_takeNewName_29 rg_6 lc_6 fl_X7_112 rfl ?_
    refine PWk.callVi (pc_X2_isTaken fu I2 L R (R 6 2) (okLd_is hk3) (I2 6 3)) dX7_takeNewName_32 ml_X7_165 rfl (rgLd_0 (okLd_is hk3)) (lcLd (okLd_is hk3)) vq_2 (by decide) rfl (Nat.le_of_ble_eq_true rfl) (fun x4 => ?_)
    refine PWk.if_eq 47 dX7_takeNewName_35 (by decide) (fun h7 => ?_) (fun h7 => ?_)
    · refine PWk.aload_n 0 dX7_takeNewName_47 rfl ?_
      refine PWk.gets dX7_takeNewName_48 rg_6 lc_6 fl_X7_14 rfl st_6_0 ?_
      refine PWk.callViI (pc_X10_advance fu I2 L R) dX7_takeNewName_51 ml_X7_94 rfl rg_7 lc_7 vq_10 (by decide) rfl (Nat.le_of_ble_eq_true rfl) (fun x5 => ?_)
      exact PWk.zret dX7_takeNewName_54 rfl (fun h => h)
    · refine PWk.aload_n 0 dX7_takeNewName_38 rfl ?_
      refine PWk.gets dX7_takeNewName_39 rg_6 lc_6 fl_X7_14 rfl st_6_0 ?_
      refine PWk.iconst (v := 2) dX7_takeNewName_42 ic_2 ?_
      refine PWk.callViI (pc_X10_fail I2 L R 2) dX7_takeNewName_43 ml_X7_53 rfl rg_7 lc_7 vq_10 (by decide) rfl (Nat.le_of_ble_eq_true rfl) (fun x6 => ?_)
      exact PWk.zret dX7_takeNewName_46 rfl (fun h => h)
/-! LakeMarket$Reader.takeHollowWithRoom(I)Z -/
def f_X7_takeHollowWithRoom (fu : Nat) (I : HI) (R : HR) (p1 : Int32) : Option (Int32 × HI) :=
  (f_X10_needKind I 1).bind fun x1 =>
  if x1.1 = 0 then
    gz 0 (some (0, x1.2))
  else
    gr (okLd (R 6 2)) <|
    (f_X2_findHollow fu x1.2 (R 6 2) (x1.2 7 6)).bind fun x3 =>
    bnd (sI x1.2 6 3 x3) fun I4 =>
    jnt (β := Unit) (fun y10 =>
      (f_X10_fail I4 3).bind fun x11 =>
      gz x11.1 (some (x11.1, x11.2))) fun j5 =>
    if (I4 6 3) = (-1) then
      j5 ()
    else
      (f_X2_roomAtFirst fu I4 (R 6 2) (I4 6 3)).bind fun x6 =>
      if p1 ≤ x6 then
        (f_X10_advance fu I4).bind fun x7 =>
        gz x7.1 (some (x7.1, x7.2))
      else
        j5 ()
set_option maxRecDepth 20000 in
theorem pc_X7_takeHollowWithRoom (fu : Nat) (I : HI) (L : HL) (R : HR) (p1 : Int32) : PCo 1 93 7 yX7_takeHollowWithRoom cX7_takeHollowWithRoom 2 (some .boolean) [.ref 6, .int p1] I L R (f_X7_takeHollowWithRoom fu I R p1) (fun x : Int32 × HI => ((some (.int x.1), x.2, L, R) : HF)) := by
  refine PCo.of (own := RX7) (by decide +kernel) (Nat.le_of_ble_eq_true rfl) rfl rfl (fun F => ?_)
  unfold f_X7_takeHollowWithRoom
  refine PWk.aload_n 0 dX7_takeHollowWithRoom_0 rfl ?_
  refine PWk.gets dX7_takeHollowWithRoom_1 rg_6 lc_6 fl_X7_14 rfl st_6_0 ?_
  refine PWk.iconst (v := 1) dX7_takeHollowWithRoom_4 ic_1 ?_
  refine PWk.callViI (pc_X10_needKind I L R 1) dX7_takeHollowWithRoom_5 ml_X7_57 rfl rg_7 lc_7 vq_10 (by decide) rfl (Nat.le_of_ble_eq_true rfl) (fun x1 => ?_)
  refine PWk.if_ne 13 dX7_takeHollowWithRoom_8 (by decide) (fun h12 => ?_) (fun h12 => ?_)
  · refine PWk.iconst (v := 0) dX7_takeHollowWithRoom_11 ic_0 ?_
    exact PWk.zret dX7_takeHollowWithRoom_12 rfl (fun h => h)
  · refine PWk.aload_n 0 dX7_takeHollowWithRoom_13 rfl ?_
    refine PWk.aload_n 0 dX7_takeHollowWithRoom_14 rfl ?_
    refine PWk.getr dX7_takeHollowWithRoom_15 rg_6 lc_6 fl_X7_29 rfl okLd_ne (fun hk2 => ?_)
    refine PWk.aload_n 0 dX7_takeHollowWithRoom_18 rfl ?_
    refine PWk.gets dX7_takeHollowWithRoom_19 rg_6 lc_6 fl_X7_14 rfl st_6_0 ?_
    refine PWk.geti dX7_takeHollowWithRoom_22 rg_7 lc_7 fl_X7_60 rfl ?_
    refine PWk.callVi (pc_X2_findHollow fu x1.2 L R (R 6 2) (okLd_is hk2) (x1.2 7 6)) dX7_takeHollowWithRoom_25 ml_X7_168 rfl (rgLd_0 (okLd_is hk2)) (lcLd (okLd_is hk2)) vq_2 (by decide) rfl (Nat.le_of_ble_eq_true rfl) (fun x3 => ?_)
    refine PWk.puti dX7_takeHollowWithRoom_28 rg_6 lc_6 fl_X7_112 fp_7_3 rfl ?_
    refine PWk.bI (fun I4 => ?_)
    refine PWk.aload_n 0 dX7_takeHollowWithRoom_31 rfl ?_
    refine PWk.geti dX7_takeHollowWithRoom_32 rg_6 lc_6 fl_X7_112 rfl ?_
    refine PWk.iconst (v := (-1)) dX7_takeHollowWithRoom_35 ic_m1 ?_
    refine PWk.jn (pc' := 54) (lv' := fun y10 => [(0, .ref 6)]) (st' := fun y10 => []) (I' := fun y10 => I4) (L' := fun y10 => L) (R' := fun y10 => R) (fun j5 hj5 => ?_) (fun y10 => ?_)
    · refine PWk.icmp_eq 54 dX7_takeHollowWithRoom_36 (by decide) (fun h9 => ?_) (fun h9 => ?_)
      · refine PWk.sub [0] rfl ?_
        exact hj5 ()
      · refine PWk.aload_n 0 dX7_takeHollowWithRoom_39 rfl ?_
        refine PWk.getrk dX7_takeHollowWithRoom_40 rg_6 lc_6 fl_X7_29 rfl (neLd (okLd_is hk2)) ?_
        refine PWk.aload_n 0 dX7_takeHollowWithRoom_43 rfl ?_
        refine PWk.geti dX7_takeHollowWithRoom_44 rg_6 lc_6 fl_X7_112 rfl ?_
        refine PWk.callVi (pc_X2_roomAtFirst fu I4 L R (R 6 2) (okLd_is hk2) (I4 6 3)) dX7_takeHollowWithRoom_47 ml_X7_172 rfl (rgLd_0 (okLd_is hk2)) (lcLd (okLd_is hk2)) vq_2 (by decide) rfl (Nat.le_of_ble_eq_true rfl) (fun x6 => ?_)
        refine PWk.iload_n 1 dX7_takeHollowWithRoom_50 rfl ?_
        refine PWk.icmp_ge 63 dX7_takeHollowWithRoom_51 (by decide) (fun h8 => ?_) (fun h8 => ?_)
        · refine PWk.aload_n 0 dX7_takeHollowWithRoom_63 rfl ?_
          refine PWk.gets dX7_takeHollowWithRoom_64 rg_6 lc_6 fl_X7_14 rfl st_6_0 ?_
          refine PWk.callViI (pc_X10_advance fu I4 L R) dX7_takeHollowWithRoom_67 ml_X7_94 rfl rg_7 lc_7 vq_10 (by decide) rfl (Nat.le_of_ble_eq_true rfl) (fun x7 => ?_)
          exact PWk.zret dX7_takeHollowWithRoom_70 rfl (fun h => h)
        · refine PWk.sub [0] rfl ?_
          exact hj5 ()
    · refine PWk.aload_n 0 dX7_takeHollowWithRoom_54 rfl ?_
      refine PWk.gets dX7_takeHollowWithRoom_55 rg_6 lc_6 fl_X7_14 rfl st_6_0 ?_
      refine PWk.iconst (v := 3) dX7_takeHollowWithRoom_58 ic_3 ?_
      refine PWk.callViI (pc_X10_fail I4 L R 3) dX7_takeHollowWithRoom_59 ml_X7_53 rfl rg_7 lc_7 vq_10 (by decide) rfl (Nat.le_of_ble_eq_true rfl) (fun x11 => ?_)
      exact PWk.zret dX7_takeHollowWithRoom_62 rfl (fun h => h)
/-! LakeMarket$Reader.takeOwnerBut(I)Z -/
def f_X7_takeOwnerBut (fu : Nat) (I : HI) (R : HR) (p1 : Int32) : Option (Int32 × HI) :=
  (f_X10_needKind I 1).bind fun x1 =>
  if x1.1 = 0 then
    gz 0 (some (0, x1.2))
  else
    gr (okLd (R 6 2)) <|
    (f_X2_findOwner fu x1.2 (R 6 2) (x1.2 7 6)).bind fun x3 =>
    bnd (sI x1.2 6 3 x3) fun I4 =>
    jnt (β := Unit) (fun y9 =>
      (f_X10_fail I4 3).bind fun x10 =>
      gz x10.1 (some (x10.1, x10.2))) fun j5 =>
    if (I4 6 3) = (-1) then
      j5 ()
    else
      if (I4 6 3) = p1 then
        j5 ()
      else
        (f_X10_advance fu I4).bind fun x6 =>
        gz x6.1 (some (x6.1, x6.2))
set_option maxRecDepth 20000 in
theorem pc_X7_takeOwnerBut (fu : Nat) (I : HI) (L : HL) (R : HR) (p1 : Int32) : PCo 1 93 7 yX7_takeOwnerBut cX7_takeOwnerBut 2 (some .boolean) [.ref 6, .int p1] I L R (f_X7_takeOwnerBut fu I R p1) (fun x : Int32 × HI => ((some (.int x.1), x.2, L, R) : HF)) := by
  refine PCo.of (own := RX7) (by decide +kernel) (Nat.le_of_ble_eq_true rfl) rfl rfl (fun F => ?_)
  unfold f_X7_takeOwnerBut
  refine PWk.aload_n 0 dX7_takeOwnerBut_0 rfl ?_
  refine PWk.gets dX7_takeOwnerBut_1 rg_6 lc_6 fl_X7_14 rfl st_6_0 ?_
  refine PWk.iconst (v := 1) dX7_takeOwnerBut_4 ic_1 ?_
  refine PWk.callViI (pc_X10_needKind I L R 1) dX7_takeOwnerBut_5 ml_X7_57 rfl rg_7 lc_7 vq_10 (by decide) rfl (Nat.le_of_ble_eq_true rfl) (fun x1 => ?_)
  refine PWk.if_ne 13 dX7_takeOwnerBut_8 (by decide) (fun h11 => ?_) (fun h11 => ?_)
  · refine PWk.iconst (v := 0) dX7_takeOwnerBut_11 ic_0 ?_
    exact PWk.zret dX7_takeOwnerBut_12 rfl (fun h => h)
  · refine PWk.aload_n 0 dX7_takeOwnerBut_13 rfl ?_
    refine PWk.aload_n 0 dX7_takeOwnerBut_14 rfl ?_
    refine PWk.getr dX7_takeOwnerBut_15 rg_6 lc_6 fl_X7_29 rfl okLd_ne (fun hk2 => ?_)
    refine PWk.aload_n 0 dX7_takeOwnerBut_18 rfl ?_
    refine PWk.gets dX7_takeOwnerBut_19 rg_6 lc_6 fl_X7_14 rfl st_6_0 ?_
    refine PWk.geti dX7_takeOwnerBut_22 rg_7 lc_7 fl_X7_60 rfl ?_
    refine PWk.callVi (pc_X2_findOwner fu x1.2 L R (R 6 2) (okLd_is hk2) (x1.2 7 6)) dX7_takeOwnerBut_25 ml_X7_175 rfl (rgLd_0 (okLd_is hk2)) (lcLd (okLd_is hk2)) vq_2 (by decide) rfl (Nat.le_of_ble_eq_true rfl) (fun x3 => ?_)
    refine PWk.puti dX7_takeOwnerBut_28 rg_6 lc_6 fl_X7_112 fp_7_3 rfl ?_
    refine PWk.bI (fun I4 => ?_)
    refine PWk.aload_n 0 dX7_takeOwnerBut_31 rfl ?_
    refine PWk.geti dX7_takeOwnerBut_32 rg_6 lc_6 fl_X7_112 rfl ?_
    refine PWk.iconst (v := (-1)) dX7_takeOwnerBut_35 ic_m1 ?_
    refine PWk.jn (pc' := 47) (lv' := fun y9 => [(0, .ref 6)]) (st' := fun y9 => []) (I' := fun y9 => I4) (L' := fun y9 => L) (R' := fun y9 => R) (fun j5 hj5 => ?_) (fun y9 => ?_)
    · refine PWk.icmp_eq 47 dX7_takeOwnerBut_36 (by decide) (fun h8 => ?_) (fun h8 => ?_)
      · refine PWk.sub [0] rfl ?_
        exact hj5 ()
      · refine PWk.aload_n 0 dX7_takeOwnerBut_39 rfl ?_
        refine PWk.geti dX7_takeOwnerBut_40 rg_6 lc_6 fl_X7_112 rfl ?_
        refine PWk.iload_n 1 dX7_takeOwnerBut_43 rfl ?_
        refine PWk.icmp_ne 56 dX7_takeOwnerBut_44 (by decide) (fun h7 => ?_) (fun h7 => ?_)
        · refine PWk.sub [0] rfl ?_
          exact hj5 ()
        · refine PWk.aload_n 0 dX7_takeOwnerBut_56 rfl ?_
          refine PWk.gets dX7_takeOwnerBut_57 rg_6 lc_6 fl_X7_14 rfl st_6_0 ?_
          refine PWk.callViI (pc_X10_advance fu I4 L R) dX7_takeOwnerBut_60 ml_X7_94 rfl rg_7 lc_7 vq_10 (by decide) rfl (Nat.le_of_ble_eq_true rfl) (fun x6 => ?_)
          exact PWk.zret dX7_takeOwnerBut_63 rfl (fun h => h)
    · refine PWk.aload_n 0 dX7_takeOwnerBut_47 rfl ?_
      refine PWk.gets dX7_takeOwnerBut_48 rg_6 lc_6 fl_X7_14 rfl st_6_0 ?_
      refine PWk.iconst (v := 3) dX7_takeOwnerBut_51 ic_3 ?_
      refine PWk.callViI (pc_X10_fail I4 L R 3) dX7_takeOwnerBut_52 ml_X7_53 rfl rg_7 lc_7 vq_10 (by decide) rfl (Nat.le_of_ble_eq_true rfl) (fun x10 => ?_)
      exact PWk.zret dX7_takeOwnerBut_55 rfl (fun h => h)
/-! LakeMarket$Reader.readHollow()Z -/
def f_X7_readHollow (fu : Nat) (I : HI) (R : HR) : Option (Int32 × HI) :=
  (f_X10_advance fu I).bind fun x1 =>
  (f_X7_takeNewName fu x1.2 R).bind fun x2 =>
  if x2.1 = 0 then
    gz 0 (some (0, x2.2))
  else
    bnd ((x2.2 6 3)) fun v3 =>
    (f_X7_takeWord fu x2.2 1).bind fun x4 =>
    if x4.1 = 0 then
      gz 0 (some (0, x4.2))
    else
      (f_X7_takeNumber fu x4.2 1 999).bind fun x5 =>
      if x5.1 = 0 then
        gz 0 (some (0, x5.2))
      else
        bnd ((x5.2 6 3)) fun v6 =>
        (f_X7_takeWord fu x5.2 2).bind fun x7 =>
        if x7.1 = 0 then
          gz 0 (some (0, x7.2))
        else
          (f_X7_takeNumber fu x7.2 0 99).bind fun x8 =>
          if x8.1 = 0 then
            gz 0 (some (0, x8.2))
          else
            gr (okLd (R 6 2)) <|
            inb 8 (x8.2 (R 6 2) 1) <|
            bnd (sI x8.2 ((R 6 2) + 1) ((x8.2 (R 6 2) 1) : Int32).toNatClampNeg v3) fun I10 =>
            inb 8 (I10 (R 6 2) 1) <|
            bnd (sI I10 ((R 6 2) + 4) ((I10 (R 6 2) 1) : Int32).toNatClampNeg v6) fun I11 =>
            inb 8 (I11 (R 6 2) 1) <|
            bnd (sI I11 ((R 6 2) + 5) ((I11 (R 6 2) 1) : Int32).toNatClampNeg (I11 6 3)) fun I12 =>
            bnd (sI I12 (R 6 2) 1 ((I12 (R 6 2) 1) + 1)) fun I13 =>
            gz 1 (some (1, I13))
set_option maxRecDepth 20000 in
theorem pc_X7_readHollow (fu : Nat) (I : HI) (L : HL) (R : HR) : PCo 1 93 8 yX7_readHollow cX7_readHollow 3 (some .boolean) [.ref 6] I L R (f_X7_readHollow fu I R) (fun x : Int32 × HI => ((some (.int x.1), x.2, L, R) : HF)) := by
  refine PCo.of (own := RX7) (by decide +kernel) (Nat.le_of_ble_eq_true rfl) rfl rfl (fun F => ?_)
  unfold f_X7_readHollow
  refine PWk.aload_n 0 dX7_readHollow_0 rfl ?_
  refine PWk.gets dX7_readHollow_1 rg_6 lc_6 fl_X7_14 rfl st_6_0 ?_
  refine PWk.callViI (pc_X10_advance fu I L R) dX7_readHollow_4 ml_X7_94 rfl rg_7 lc_7 vq_10 (by decide) rfl (Nat.le_of_ble_eq_true rfl) (fun x1 => ?_)
  refine PWk.pop dX7_readHollow_7 rfl ?_
  refine PWk.aload_n 0 dX7_readHollow_8 rfl ?_
  refine PWk.callViI (pc_X7_takeNewName fu x1.2 L R) dX7_readHollow_9 ml_X7_109 rfl rg_6 lc_6 vq_7 (by decide) rfl (Nat.le_of_ble_eq_true rfl) (fun x2 => ?_)
  refine PWk.if_ne 17 dX7_readHollow_12 (by decide) (fun h18 => ?_) (fun h18 => ?_)
  · refine PWk.iconst (v := 0) dX7_readHollow_15 ic_0 ?_
    exact PWk.zret dX7_readHollow_16 rfl (fun h => h)
  · refine PWk.aload_n 0 dX7_readHollow_17 rfl ?_
    refine PWk.geti dX7_readHollow_18 rg_6 lc_6 fl_X7_112 rfl ?_
    refine PWk.bi (fun v3 => ?_)
    refine PWk.istore_n [(1, .int v3), (0, .ref 6)] dX7_readHollow_21 (by decide) rfl ?_
    refine PWk.aload_n 1 dX7_readHollow_22 rfl ?_
    refine PWk.iconst (v := 1) dX7_readHollow_23 ic_1 ?_
    refine PWk.callViI (pc_X7_takeWord fu x2.2 L R 1) dX7_readHollow_24 ml_X7_115 rfl rg_6 lc_6 vq_7 (by decide) rfl (Nat.le_of_ble_eq_true rfl) (fun x4 => ?_)
    refine PWk.if_eq 41 dX7_readHollow_27 (by decide) (fun h17 => ?_) (fun h17 => ?_)
    · refine PWk.iconst (v := 0) dX7_readHollow_41 ic_0 ?_
      exact PWk.zret dX7_readHollow_42 rfl (fun h => h)
    · refine PWk.aload_n 1 dX7_readHollow_30 rfl ?_
      refine PWk.iconst (v := 1) dX7_readHollow_31 ic_1 ?_
      refine PWk.sipush (v := 999) dX7_readHollow_32 sp_999 ?_
      refine PWk.callViI (pc_X7_takeNumber fu x4.2 L R 1 999) dX7_readHollow_35 ml_X7_118 rfl rg_6 lc_6 vq_7 (by decide) rfl (Nat.le_of_ble_eq_true rfl) (fun x5 => ?_)
      refine PWk.if_ne 43 dX7_readHollow_38 (by decide) (fun h16 => ?_) (fun h16 => ?_)
      · refine PWk.iconst (v := 0) dX7_readHollow_41 ic_0 ?_
        exact PWk.zret dX7_readHollow_42 rfl (fun h => h)
      · refine PWk.aload_n 1 dX7_readHollow_43 rfl ?_
        refine PWk.geti dX7_readHollow_44 rg_6 lc_6 fl_X7_112 rfl ?_
        refine PWk.bi (fun v6 => ?_)
        refine PWk.istore_n [(2, .int v6), (1, .int v3), (0, .ref 6)] dX7_readHollow_47 (by decide) rfl ?_
        refine PWk.aload_n 2 dX7_readHollow_48 rfl ?_
        refine PWk.iconst (v := 2) dX7_readHollow_49 ic_2 ?_
        refine PWk.callViI (pc_X7_takeWord fu x5.2 L R 2) dX7_readHollow_50 ml_X7_115 rfl rg_6 lc_6 vq_7 (by decide) rfl (Nat.le_of_ble_eq_true rfl) (fun x7 => ?_)
        refine PWk.if_eq 66 dX7_readHollow_53 (by decide) (fun h15 => ?_) (fun h15 => ?_)
        · refine PWk.iconst (v := 0) dX7_readHollow_66 ic_0 ?_
          exact PWk.zret dX7_readHollow_67 rfl (fun h => h)
        · refine PWk.aload_n 2 dX7_readHollow_56 rfl ?_
          refine PWk.iconst (v := 0) dX7_readHollow_57 ic_0 ?_
          refine PWk.bipush (v := 99) dX7_readHollow_58 bp_99 ?_
          refine PWk.callViI (pc_X7_takeNumber fu x7.2 L R 0 99) dX7_readHollow_60 ml_X7_118 rfl rg_6 lc_6 vq_7 (by decide) rfl (Nat.le_of_ble_eq_true rfl) (fun x8 => ?_)
          refine PWk.if_ne 68 dX7_readHollow_63 (by decide) (fun h14 => ?_) (fun h14 => ?_)
          · refine PWk.iconst (v := 0) dX7_readHollow_66 ic_0 ?_
            exact PWk.zret dX7_readHollow_67 rfl (fun h => h)
          · refine PWk.aload_n 2 dX7_readHollow_68 rfl ?_
            refine PWk.getr dX7_readHollow_69 rg_6 lc_6 fl_X7_29 rfl okLd_ne (fun hk9 => ?_)
            refine PWk.gets dX7_readHollow_72 (rgLd_0 (okLd_is hk9)) (lcLd (okLd_is hk9)) fl_X7_122 rfl (stLd_6 (okLd_is hk9)) ?_
            refine PWk.aload_n 2 dX7_readHollow_75 rfl ?_
            refine PWk.getrk dX7_readHollow_76 rg_6 lc_6 fl_X7_29 rfl (neLd (okLd_is hk9)) ?_
            refine PWk.geti dX7_readHollow_79 (rgLd_0 (okLd_is hk9)) (lcLd (okLd_is hk9)) fl_X7_97 rfl ?_
            refine PWk.iload_n 1 dX7_readHollow_82 rfl ?_
            refine PWk.iast dX7_readHollow_83 (rgLd_1 (okLd_is hk9)) (lyLd_1 (okLd_is hk9)) ?_
            refine PWk.bI (fun I10 => ?_)
            refine PWk.aload_n 2 dX7_readHollow_84 rfl ?_
            refine PWk.getrk dX7_readHollow_85 rg_6 lc_6 fl_X7_29 rfl (neLd (okLd_is hk9)) ?_
            refine PWk.gets dX7_readHollow_88 (rgLd_0 (okLd_is hk9)) (lcLd (okLd_is hk9)) fl_X7_126 rfl (stLd_9 (okLd_is hk9)) ?_
            refine PWk.aload_n 2 dX7_readHollow_91 rfl ?_
            refine PWk.getrk dX7_readHollow_92 rg_6 lc_6 fl_X7_29 rfl (neLd (okLd_is hk9)) ?_
            refine PWk.geti dX7_readHollow_95 (rgLd_0 (okLd_is hk9)) (lcLd (okLd_is hk9)) fl_X7_97 rfl ?_
            refine PWk.iload_n 0 dX7_readHollow_98 rfl ?_
            refine PWk.iast dX7_readHollow_99 (rgLd_4 (okLd_is hk9)) (lyLd_4 (okLd_is hk9)) ?_
            refine PWk.bI (fun I11 => ?_)
            refine PWk.aload_n 2 dX7_readHollow_100 rfl ?_
            refine PWk.getrk dX7_readHollow_101 rg_6 lc_6 fl_X7_29 rfl (neLd (okLd_is hk9)) ?_
            refine PWk.gets dX7_readHollow_104 (rgLd_0 (okLd_is hk9)) (lcLd (okLd_is hk9)) fl_X7_129 rfl (stLd_10 (okLd_is hk9)) ?_
            refine PWk.aload_n 2 dX7_readHollow_107 rfl ?_
            refine PWk.getrk dX7_readHollow_108 rg_6 lc_6 fl_X7_29 rfl (neLd (okLd_is hk9)) ?_
            refine PWk.geti dX7_readHollow_111 (rgLd_0 (okLd_is hk9)) (lcLd (okLd_is hk9)) fl_X7_97 rfl ?_
            refine PWk.aload_n 2 dX7_readHollow_114 rfl ?_
            refine PWk.geti dX7_readHollow_115 rg_6 lc_6 fl_X7_112 rfl ?_
            refine PWk.iast dX7_readHollow_118 (rgLd_5 (okLd_is hk9)) (lyLd_5 (okLd_is hk9)) ?_
            refine PWk.bI (fun I12 => ?_)
            refine PWk.aload_n 2 dX7_readHollow_119 rfl ?_
            refine PWk.getrk dX7_readHollow_120 rg_6 lc_6 fl_X7_29 rfl (neLd (okLd_is hk9)) ?_
            refine PWk.dup dX7_readHollow_123 rfl ?_
            refine PWk.geti dX7_readHollow_124 (rgLd_0 (okLd_is hk9)) (lcLd (okLd_is hk9)) fl_X7_97 rfl ?_
            refine PWk.iconst (v := 1) dX7_readHollow_127 ic_1 ?_
            refine PWk.iadd dX7_readHollow_128 ?_
            refine PWk.puti dX7_readHollow_129 (rgLd_0 (okLd_is hk9)) (lcLd (okLd_is hk9)) fl_X7_97 fp_2_1 rfl ?_
            refine PWk.bI (fun I13 => ?_)
            refine PWk.iconst (v := 1) dX7_readHollow_132 ic_1 ?_
            exact PWk.zret dX7_readHollow_133 rfl (fun h => h)
/-! LakeMarket$Reader.readOwner()Z -/
def f_X7_readOwner (fu : Nat) (I : HI) (R : HR) : Option (Int32 × HI) :=
  (f_X10_advance fu I).bind fun x1 =>
  (f_X7_takeNewName fu x1.2 R).bind fun x2 =>
  if x2.1 = 0 then
    gz 0 (some (0, x2.2))
  else
    gr (okLd (R 6 2)) <|
    inb 6 (x2.2 (R 6 2) 2) <|
    bnd (sI x2.2 ((R 6 2) + 2) ((x2.2 (R 6 2) 2) : Int32).toNatClampNeg (x2.2 6 3)) fun I4 =>
    bnd (sI I4 (R 6 2) 2 ((I4 (R 6 2) 2) + 1)) fun I5 =>
    gz 1 (some (1, I5))
set_option maxRecDepth 20000 in
theorem pc_X7_readOwner (fu : Nat) (I : HI) (L : HL) (R : HR) : PCo 1 93 8 yX7_readOwner cX7_readOwner 1 (some .boolean) [.ref 6] I L R (f_X7_readOwner fu I R) (fun x : Int32 × HI => ((some (.int x.1), x.2, L, R) : HF)) := by
  refine PCo.of (own := RX7) (by decide +kernel) (Nat.le_of_ble_eq_true rfl) rfl rfl (fun F => ?_)
  unfold f_X7_readOwner
  refine PWk.aload_n 0 dX7_readOwner_0 rfl ?_
  refine PWk.gets dX7_readOwner_1 rg_6 lc_6 fl_X7_14 rfl st_6_0 ?_
  refine PWk.callViI (pc_X10_advance fu I L R) dX7_readOwner_4 ml_X7_94 rfl rg_7 lc_7 vq_10 (by decide) rfl (Nat.le_of_ble_eq_true rfl) (fun x1 => ?_)
  refine PWk.pop dX7_readOwner_7 rfl ?_
  refine PWk.aload_n 0 dX7_readOwner_8 rfl ?_
  refine PWk.callViI (pc_X7_takeNewName fu x1.2 L R) dX7_readOwner_9 ml_X7_109 rfl rg_6 lc_6 vq_7 (by decide) rfl (Nat.le_of_ble_eq_true rfl) (fun x2 => ?_)
  refine PWk.if_ne 17 dX7_readOwner_12 (by decide) (fun h6 => ?_) (fun h6 => ?_)
  · refine PWk.iconst (v := 0) dX7_readOwner_15 ic_0 ?_
    exact PWk.zret dX7_readOwner_16 rfl (fun h => h)
  · refine PWk.aload_n 0 dX7_readOwner_17 rfl ?_
    refine PWk.getr dX7_readOwner_18 rg_6 lc_6 fl_X7_29 rfl okLd_ne (fun hk3 => ?_)
    refine PWk.gets dX7_readOwner_21 (rgLd_0 (okLd_is hk3)) (lcLd (okLd_is hk3)) fl_X7_132 rfl (stLd_7 (okLd_is hk3)) ?_
    refine PWk.aload_n 0 dX7_readOwner_24 rfl ?_
    refine PWk.getrk dX7_readOwner_25 rg_6 lc_6 fl_X7_29 rfl (neLd (okLd_is hk3)) ?_
    refine PWk.geti dX7_readOwner_28 (rgLd_0 (okLd_is hk3)) (lcLd (okLd_is hk3)) fl_X7_100 rfl ?_
    refine PWk.aload_n 0 dX7_readOwner_31 rfl ?_
    refine PWk.geti dX7_readOwner_32 rg_6 lc_6 fl_X7_112 rfl ?_
    refine PWk.iast dX7_readOwner_35 (rgLd_2 (okLd_is hk3)) (lyLd_2 (okLd_is hk3)) ?_
    refine PWk.bI (fun I4 => ?_)
    refine PWk.aload_n 0 dX7_readOwner_36 rfl ?_
    refine PWk.getrk dX7_readOwner_37 rg_6 lc_6 fl_X7_29 rfl (neLd (okLd_is hk3)) ?_
    refine PWk.dup dX7_readOwner_40 rfl ?_
    refine PWk.geti dX7_readOwner_41 (rgLd_0 (okLd_is hk3)) (lcLd (okLd_is hk3)) fl_X7_100 rfl ?_
    refine PWk.iconst (v := 1) dX7_readOwner_44 ic_1 ?_
    refine PWk.iadd dX7_readOwner_45 ?_
    refine PWk.puti dX7_readOwner_46 (rgLd_0 (okLd_is hk3)) (lcLd (okLd_is hk3)) fl_X7_100 fp_2_2 rfl ?_
    refine PWk.bI (fun I5 => ?_)
    refine PWk.iconst (v := 1) dX7_readOwner_49 ic_1 ?_
    exact PWk.zret dX7_readOwner_50 rfl (fun h => h)
/-! LakeMarket$Reader.readLake()Z -/
def f_X7_readLake (fu : Nat) (I : HI) (R : HR) : Option (Int32 × HI) :=
  (f_X10_advance fu I).bind fun x1 =>
  (f_X7_takeNewName fu x1.2 R).bind fun x2 =>
  if x2.1 = 0 then
    gz 0 (some (0, x2.2))
  else
    bnd ((x2.2 6 3)) fun v3 =>
    (f_X7_takeWord fu x2.2 5).bind fun x4 =>
    if x4.1 = 0 then
      gz 0 (some (0, x4.2))
    else
      (f_X7_takeNumber fu x4.2 1 999).bind fun x5 =>
      if x5.1 = 0 then
        gz 0 (some (0, x5.2))
      else
        bnd ((x5.2 6 3)) fun v6 =>
        (f_X7_takeWord fu x5.2 6).bind fun x7 =>
        if x7.1 = 0 then
          gz 0 (some (0, x7.2))
        else
          (f_X7_takeHollowWithRoom fu x7.2 R v6).bind fun x8 =>
          if x8.1 = 0 then
            gz 0 (some (0, x8.2))
          else
            bnd ((x8.2 6 3)) fun v9 =>
            (f_X7_takeWord fu x8.2 7).bind fun x10 =>
            if x10.1 = 0 then
              gz 0 (some (0, x10.2))
            else
              (f_X7_takeOwnerBut fu x10.2 R (-1)).bind fun x11 =>
              if x11.1 = 0 then
                gz 0 (some (0, x11.2))
              else
                gr (okLd (R 6 2)) <|
                inb 8 (x11.2 (R 6 2) 3) <|
                bnd (sI x11.2 ((R 6 2) + 3) ((x11.2 (R 6 2) 3) : Int32).toNatClampNeg v3) fun I13 =>
                inb 8 (I13 (R 6 2) 3) <|
                bnd (sI I13 ((R 6 2) + 6) ((I13 (R 6 2) 3) : Int32).toNatClampNeg v6) fun I14 =>
                inb 8 (I14 (R 6 2) 3) <|
                bnd (sI I14 ((R 6 2) + 7) ((I14 (R 6 2) 3) : Int32).toNatClampNeg v9) fun I15 =>
                inb 8 (I15 (R 6 2) 3) <|
                bnd (sI I15 ((R 6 2) + 8) ((I15 (R 6 2) 3) : Int32).toNatClampNeg (I15 6 3)) fun I16 =>
                bnd (sI I16 (R 6 2) 3 ((I16 (R 6 2) 3) + 1)) fun I17 =>
                gz 1 (some (1, I17))
set_option maxRecDepth 20000 in
theorem pc_X7_readLake (fu : Nat) (I : HI) (L : HL) (R : HR) : PCo 1 93 8 yX7_readLake cX7_readLake 4 (some .boolean) [.ref 6] I L R (f_X7_readLake fu I R) (fun x : Int32 × HI => ((some (.int x.1), x.2, L, R) : HF)) := by
  refine PCo.of (own := RX7) (by decide +kernel) (Nat.le_of_ble_eq_true rfl) rfl rfl (fun F => ?_)
  unfold f_X7_readLake
  refine PWk.aload_n 0 dX7_readLake_0 rfl ?_
  refine PWk.gets dX7_readLake_1 rg_6 lc_6 fl_X7_14 rfl st_6_0 ?_
  refine PWk.callViI (pc_X10_advance fu I L R) dX7_readLake_4 ml_X7_94 rfl rg_7 lc_7 vq_10 (by decide) rfl (Nat.le_of_ble_eq_true rfl) (fun x1 => ?_)
  refine PWk.pop dX7_readLake_7 rfl ?_
  refine PWk.aload_n 0 dX7_readLake_8 rfl ?_
  refine PWk.callViI (pc_X7_takeNewName fu x1.2 L R) dX7_readLake_9 ml_X7_109 rfl rg_6 lc_6 vq_7 (by decide) rfl (Nat.le_of_ble_eq_true rfl) (fun x2 => ?_)
  refine PWk.if_ne 17 dX7_readLake_12 (by decide) (fun h24 => ?_) (fun h24 => ?_)
  · refine PWk.iconst (v := 0) dX7_readLake_15 ic_0 ?_
    exact PWk.zret dX7_readLake_16 rfl (fun h => h)
  · refine PWk.aload_n 0 dX7_readLake_17 rfl ?_
    refine PWk.geti dX7_readLake_18 rg_6 lc_6 fl_X7_112 rfl ?_
    refine PWk.bi (fun v3 => ?_)
    refine PWk.istore_n [(1, .int v3), (0, .ref 6)] dX7_readLake_21 (by decide) rfl ?_
    refine PWk.aload_n 1 dX7_readLake_22 rfl ?_
    refine PWk.iconst (v := 5) dX7_readLake_23 ic_5 ?_
    refine PWk.callViI (pc_X7_takeWord fu x2.2 L R 5) dX7_readLake_24 ml_X7_115 rfl rg_6 lc_6 vq_7 (by decide) rfl (Nat.le_of_ble_eq_true rfl) (fun x4 => ?_)
    refine PWk.if_eq 41 dX7_readLake_27 (by decide) (fun h23 => ?_) (fun h23 => ?_)
    · refine PWk.iconst (v := 0) dX7_readLake_41 ic_0 ?_
      exact PWk.zret dX7_readLake_42 rfl (fun h => h)
    · refine PWk.aload_n 1 dX7_readLake_30 rfl ?_
      refine PWk.iconst (v := 1) dX7_readLake_31 ic_1 ?_
      refine PWk.sipush (v := 999) dX7_readLake_32 sp_999 ?_
      refine PWk.callViI (pc_X7_takeNumber fu x4.2 L R 1 999) dX7_readLake_35 ml_X7_118 rfl rg_6 lc_6 vq_7 (by decide) rfl (Nat.le_of_ble_eq_true rfl) (fun x5 => ?_)
      refine PWk.if_ne 43 dX7_readLake_38 (by decide) (fun h22 => ?_) (fun h22 => ?_)
      · refine PWk.iconst (v := 0) dX7_readLake_41 ic_0 ?_
        exact PWk.zret dX7_readLake_42 rfl (fun h => h)
      · refine PWk.aload_n 1 dX7_readLake_43 rfl ?_
        refine PWk.geti dX7_readLake_44 rg_6 lc_6 fl_X7_112 rfl ?_
        refine PWk.bi (fun v6 => ?_)
        refine PWk.istore_n [(2, .int v6), (1, .int v3), (0, .ref 6)] dX7_readLake_47 (by decide) rfl ?_
        refine PWk.aload_n 2 dX7_readLake_48 rfl ?_
        refine PWk.bipush (v := 6) dX7_readLake_49 bp_6 ?_
        refine PWk.callViI (pc_X7_takeWord fu x5.2 L R 6) dX7_readLake_51 ml_X7_115 rfl rg_6 lc_6 vq_7 (by decide) rfl (Nat.le_of_ble_eq_true rfl) (fun x7 => ?_)
        refine PWk.if_eq 65 dX7_readLake_54 (by decide) (fun h21 => ?_) (fun h21 => ?_)
        · refine PWk.iconst (v := 0) dX7_readLake_65 ic_0 ?_
          exact PWk.zret dX7_readLake_66 rfl (fun h => h)
        · refine PWk.aload_n 2 dX7_readLake_57 rfl ?_
          refine PWk.iload_n 0 dX7_readLake_58 rfl ?_
          refine PWk.callViI (pc_X7_takeHollowWithRoom fu x7.2 L R v6) dX7_readLake_59 ml_X7_135 rfl rg_6 lc_6 vq_7 (by decide) rfl (Nat.le_of_ble_eq_true rfl) (fun x8 => ?_)
          refine PWk.if_ne 67 dX7_readLake_62 (by decide) (fun h20 => ?_) (fun h20 => ?_)
          · refine PWk.iconst (v := 0) dX7_readLake_65 ic_0 ?_
            exact PWk.zret dX7_readLake_66 rfl (fun h => h)
          · refine PWk.aload_n 2 dX7_readLake_67 rfl ?_
            refine PWk.geti dX7_readLake_68 rg_6 lc_6 fl_X7_112 rfl ?_
            refine PWk.bi (fun v9 => ?_)
            refine PWk.istore_n [(3, .int v9), (2, .int v6), (1, .int v3), (0, .ref 6)] dX7_readLake_71 (by decide) rfl ?_
            refine PWk.aload_n 3 dX7_readLake_72 rfl ?_
            refine PWk.bipush (v := 7) dX7_readLake_73 bp_7 ?_
            refine PWk.callViI (pc_X7_takeWord fu x8.2 L R 7) dX7_readLake_75 ml_X7_115 rfl rg_6 lc_6 vq_7 (by decide) rfl (Nat.le_of_ble_eq_true rfl) (fun x10 => ?_)
            refine PWk.if_eq 89 dX7_readLake_78 (by decide) (fun h19 => ?_) (fun h19 => ?_)
            · refine PWk.iconst (v := 0) dX7_readLake_89 ic_0 ?_
              exact PWk.zret dX7_readLake_90 rfl (fun h => h)
            · refine PWk.aload_n 3 dX7_readLake_81 rfl ?_
              refine PWk.iconst (v := (-1)) dX7_readLake_82 ic_m1 ?_
              refine PWk.callViI (pc_X7_takeOwnerBut fu x10.2 L R (-1)) dX7_readLake_83 ml_X7_138 rfl rg_6 lc_6 vq_7 (by decide) rfl (Nat.le_of_ble_eq_true rfl) (fun x11 => ?_)
              refine PWk.if_ne 91 dX7_readLake_86 (by decide) (fun h18 => ?_) (fun h18 => ?_)
              · refine PWk.iconst (v := 0) dX7_readLake_89 ic_0 ?_
                exact PWk.zret dX7_readLake_90 rfl (fun h => h)
              · refine PWk.aload_n 3 dX7_readLake_91 rfl ?_
                refine PWk.getr dX7_readLake_92 rg_6 lc_6 fl_X7_29 rfl okLd_ne (fun hk12 => ?_)
                refine PWk.gets dX7_readLake_95 (rgLd_0 (okLd_is hk12)) (lcLd (okLd_is hk12)) fl_X7_141 rfl (stLd_8 (okLd_is hk12)) ?_
                refine PWk.aload_n 3 dX7_readLake_98 rfl ?_
                refine PWk.getrk dX7_readLake_99 rg_6 lc_6 fl_X7_29 rfl (neLd (okLd_is hk12)) ?_
                refine PWk.geti dX7_readLake_102 (rgLd_0 (okLd_is hk12)) (lcLd (okLd_is hk12)) fl_X7_103 rfl ?_
                refine PWk.iload_n 2 dX7_readLake_105 rfl ?_
                refine PWk.iast dX7_readLake_106 (rgLd_3 (okLd_is hk12)) (lyLd_3 (okLd_is hk12)) ?_
                refine PWk.bI (fun I13 => ?_)
                refine PWk.aload_n 3 dX7_readLake_107 rfl ?_
                refine PWk.getrk dX7_readLake_108 rg_6 lc_6 fl_X7_29 rfl (neLd (okLd_is hk12)) ?_
                refine PWk.gets dX7_readLake_111 (rgLd_0 (okLd_is hk12)) (lcLd (okLd_is hk12)) fl_X7_144 rfl (stLd_11 (okLd_is hk12)) ?_
                refine PWk.aload_n 3 dX7_readLake_114 rfl ?_
                refine PWk.getrk dX7_readLake_115 rg_6 lc_6 fl_X7_29 rfl (neLd (okLd_is hk12)) ?_
                refine PWk.geti dX7_readLake_118 (rgLd_0 (okLd_is hk12)) (lcLd (okLd_is hk12)) fl_X7_103 rfl ?_
                refine PWk.iload_n 1 dX7_readLake_121 rfl ?_
                refine PWk.iast dX7_readLake_122 (rgLd_6 (okLd_is hk12)) (lyLd_6 (okLd_is hk12)) ?_
                refine PWk.bI (fun I14 => ?_)
                refine PWk.aload_n 3 dX7_readLake_123 rfl ?_
                refine PWk.getrk dX7_readLake_124 rg_6 lc_6 fl_X7_29 rfl (neLd (okLd_is hk12)) ?_
                refine PWk.gets dX7_readLake_127 (rgLd_0 (okLd_is hk12)) (lcLd (okLd_is hk12)) fl_X7_147 rfl (stLd_12 (okLd_is hk12)) ?_
                refine PWk.aload_n 3 dX7_readLake_130 rfl ?_
                refine PWk.getrk dX7_readLake_131 rg_6 lc_6 fl_X7_29 rfl (neLd (okLd_is hk12)) ?_
                refine PWk.geti dX7_readLake_134 (rgLd_0 (okLd_is hk12)) (lcLd (okLd_is hk12)) fl_X7_103 rfl ?_
                refine PWk.iload_n 0 dX7_readLake_137 rfl ?_
                refine PWk.iast dX7_readLake_138 (rgLd_7 (okLd_is hk12)) (lyLd_7 (okLd_is hk12)) ?_
                refine PWk.bI (fun I15 => ?_)
                refine PWk.aload_n 3 dX7_readLake_139 rfl ?_
                refine PWk.getrk dX7_readLake_140 rg_6 lc_6 fl_X7_29 rfl (neLd (okLd_is hk12)) ?_
                refine PWk.gets dX7_readLake_143 (rgLd_0 (okLd_is hk12)) (lcLd (okLd_is hk12)) fl_X7_150 rfl (stLd_13 (okLd_is hk12)) ?_
                refine PWk.aload_n 3 dX7_readLake_146 rfl ?_
                refine PWk.getrk dX7_readLake_147 rg_6 lc_6 fl_X7_29 rfl (neLd (okLd_is hk12)) ?_
                refine PWk.geti dX7_readLake_150 (rgLd_0 (okLd_is hk12)) (lcLd (okLd_is hk12)) fl_X7_103 rfl ?_
                refine PWk.aload_n 3 dX7_readLake_153 rfl ?_
                refine PWk.geti dX7_readLake_154 rg_6 lc_6 fl_X7_112 rfl ?_
                refine PWk.iast dX7_readLake_157 (rgLd_8 (okLd_is hk12)) (lyLd_8 (okLd_is hk12)) ?_
                refine PWk.bI (fun I16 => ?_)
                refine PWk.aload_n 3 dX7_readLake_158 rfl ?_
                refine PWk.getrk dX7_readLake_159 rg_6 lc_6 fl_X7_29 rfl (neLd (okLd_is hk12)) ?_
                refine PWk.dup dX7_readLake_162 rfl ?_
                refine PWk.geti dX7_readLake_163 (rgLd_0 (okLd_is hk12)) (lcLd (okLd_is hk12)) fl_X7_103 rfl ?_
                refine PWk.iconst (v := 1) dX7_readLake_166 ic_1 ?_
                refine PWk.iadd dX7_readLake_167 ?_
                refine PWk.puti dX7_readLake_168 (rgLd_0 (okLd_is hk12)) (lcLd (okLd_is hk12)) fl_X7_103 fp_2_3 rfl ?_
                refine PWk.bI (fun I17 => ?_)
                refine PWk.iconst (v := 1) dX7_readLake_171 ic_1 ?_
                exact PWk.zret dX7_readLake_172 rfl (fun h => h)
/-! LakeMarket$Reader.readDebt()Z -/
def f_X7_readDebt (fu : Nat) (I : HI) (R : HR) : Option (Int32 × HI) :=
  (f_X10_advance fu I).bind fun x1 =>
  (f_X7_takeOwnerBut fu x1.2 R (-1)).bind fun x2 =>
  if x2.1 = 0 then
    gz 0 (some (0, x2.2))
  else
    bnd ((x2.2 6 3)) fun v3 =>
    (f_X7_takeOwnerBut fu x2.2 R v3).bind fun x4 =>
    if x4.1 = 0 then
      gz 0 (some (0, x4.2))
    else
      bnd ((x4.2 6 3)) fun v5 =>
      (f_X7_takeNumber fu x4.2 0 999).bind fun x6 =>
      if x6.1 = 0 then
        gz 0 (some (0, x6.2))
      else
        gr (okLd (R 6 2)) <|
        inb 36 ((v3 * 6) + v5) <|
        bnd (sI x6.2 ((R 6 2) + 9) (((v3 * 6) + v5) : Int32).toNatClampNeg (x6.2 6 3)) fun I8 =>
        gz 1 (some (1, I8))
set_option maxRecDepth 20000 in
theorem pc_X7_readDebt (fu : Nat) (I : HI) (L : HL) (R : HR) : PCo 1 93 8 yX7_readDebt cX7_readDebt 3 (some .boolean) [.ref 6] I L R (f_X7_readDebt fu I R) (fun x : Int32 × HI => ((some (.int x.1), x.2, L, R) : HF)) := by
  refine PCo.of (own := RX7) (by decide +kernel) (Nat.le_of_ble_eq_true rfl) rfl rfl (fun F => ?_)
  unfold f_X7_readDebt
  refine PWk.aload_n 0 dX7_readDebt_0 rfl ?_
  refine PWk.gets dX7_readDebt_1 rg_6 lc_6 fl_X7_14 rfl st_6_0 ?_
  refine PWk.callViI (pc_X10_advance fu I L R) dX7_readDebt_4 ml_X7_94 rfl rg_7 lc_7 vq_10 (by decide) rfl (Nat.le_of_ble_eq_true rfl) (fun x1 => ?_)
  refine PWk.pop dX7_readDebt_7 rfl ?_
  refine PWk.aload_n 0 dX7_readDebt_8 rfl ?_
  refine PWk.iconst (v := (-1)) dX7_readDebt_9 ic_m1 ?_
  refine PWk.callViI (pc_X7_takeOwnerBut fu x1.2 L R (-1)) dX7_readDebt_10 ml_X7_138 rfl rg_6 lc_6 vq_7 (by decide) rfl (Nat.le_of_ble_eq_true rfl) (fun x2 => ?_)
  refine PWk.if_ne 18 dX7_readDebt_13 (by decide) (fun h11 => ?_) (fun h11 => ?_)
  · refine PWk.iconst (v := 0) dX7_readDebt_16 ic_0 ?_
    exact PWk.zret dX7_readDebt_17 rfl (fun h => h)
  · refine PWk.aload_n 0 dX7_readDebt_18 rfl ?_
    refine PWk.geti dX7_readDebt_19 rg_6 lc_6 fl_X7_112 rfl ?_
    refine PWk.bi (fun v3 => ?_)
    refine PWk.istore_n [(1, .int v3), (0, .ref 6)] dX7_readDebt_22 (by decide) rfl ?_
    refine PWk.aload_n 1 dX7_readDebt_23 rfl ?_
    refine PWk.iload_n 0 dX7_readDebt_24 rfl ?_
    refine PWk.callViI (pc_X7_takeOwnerBut fu x2.2 L R v3) dX7_readDebt_25 ml_X7_138 rfl rg_6 lc_6 vq_7 (by decide) rfl (Nat.le_of_ble_eq_true rfl) (fun x4 => ?_)
    refine PWk.if_ne 33 dX7_readDebt_28 (by decide) (fun h10 => ?_) (fun h10 => ?_)
    · refine PWk.iconst (v := 0) dX7_readDebt_31 ic_0 ?_
      exact PWk.zret dX7_readDebt_32 rfl (fun h => h)
    · refine PWk.aload_n 1 dX7_readDebt_33 rfl ?_
      refine PWk.geti dX7_readDebt_34 rg_6 lc_6 fl_X7_112 rfl ?_
      refine PWk.bi (fun v5 => ?_)
      refine PWk.istore_n [(2, .int v5), (1, .int v3), (0, .ref 6)] dX7_readDebt_37 (by decide) rfl ?_
      refine PWk.aload_n 2 dX7_readDebt_38 rfl ?_
      refine PWk.iconst (v := 0) dX7_readDebt_39 ic_0 ?_
      refine PWk.sipush (v := 999) dX7_readDebt_40 sp_999 ?_
      refine PWk.callViI (pc_X7_takeNumber fu x4.2 L R 0 999) dX7_readDebt_43 ml_X7_118 rfl rg_6 lc_6 vq_7 (by decide) rfl (Nat.le_of_ble_eq_true rfl) (fun x6 => ?_)
      refine PWk.if_ne 51 dX7_readDebt_46 (by decide) (fun h9 => ?_) (fun h9 => ?_)
      · refine PWk.iconst (v := 0) dX7_readDebt_49 ic_0 ?_
        exact PWk.zret dX7_readDebt_50 rfl (fun h => h)
      · refine PWk.aload_n 2 dX7_readDebt_51 rfl ?_
        refine PWk.getr dX7_readDebt_52 rg_6 lc_6 fl_X7_29 rfl okLd_ne (fun hk7 => ?_)
        refine PWk.gets dX7_readDebt_55 (rgLd_0 (okLd_is hk7)) (lcLd (okLd_is hk7)) fl_X7_153 rfl (stLd_14 (okLd_is hk7)) ?_
        refine PWk.iload_n 1 dX7_readDebt_58 rfl ?_
        refine PWk.bipush (v := 6) dX7_readDebt_59 bp_6 ?_
        refine PWk.imul dX7_readDebt_61 ?_
        refine PWk.iload_n 0 dX7_readDebt_62 rfl ?_
        refine PWk.iadd dX7_readDebt_63 ?_
        refine PWk.aload_n 2 dX7_readDebt_64 rfl ?_
        refine PWk.geti dX7_readDebt_65 rg_6 lc_6 fl_X7_112 rfl ?_
        refine PWk.iast dX7_readDebt_68 (rgLd_9 (okLd_is hk7)) (lyLd_9 (okLd_is hk7)) ?_
        refine PWk.bI (fun I8 => ?_)
        refine PWk.iconst (v := 1) dX7_readDebt_69 ic_1 ?_
        exact PWk.zret dX7_readDebt_70 rfl (fun h => h)
/-! LakeMarket$Reader.readDrought()Z -/
def f_X7_readDrought (fu : Nat) (I : HI) (R : HR) : Option (Int32 × HI) :=
  (f_X10_advance fu I).bind fun x1 =>
  (f_X7_takeNumber fu x1.2 0 100).bind fun x2 =>
  if x2.1 = 0 then
    gz 0 (some (0, x2.2))
  else
    gr (okLd (R 6 2)) <|
    bnd (sI x2.2 (R 6 2) 4 (x2.2 6 3)) fun I4 =>
    gz 1 (some (1, I4))
set_option maxRecDepth 20000 in
theorem pc_X7_readDrought (fu : Nat) (I : HI) (L : HL) (R : HR) : PCo 1 93 8 yX7_readDrought cX7_readDrought 1 (some .boolean) [.ref 6] I L R (f_X7_readDrought fu I R) (fun x : Int32 × HI => ((some (.int x.1), x.2, L, R) : HF)) := by
  refine PCo.of (own := RX7) (by decide +kernel) (Nat.le_of_ble_eq_true rfl) rfl rfl (fun F => ?_)
  unfold f_X7_readDrought
  refine PWk.aload_n 0 dX7_readDrought_0 rfl ?_
  refine PWk.gets dX7_readDrought_1 rg_6 lc_6 fl_X7_14 rfl st_6_0 ?_
  refine PWk.callViI (pc_X10_advance fu I L R) dX7_readDrought_4 ml_X7_94 rfl rg_7 lc_7 vq_10 (by decide) rfl (Nat.le_of_ble_eq_true rfl) (fun x1 => ?_)
  refine PWk.pop dX7_readDrought_7 rfl ?_
  refine PWk.aload_n 0 dX7_readDrought_8 rfl ?_
  refine PWk.iconst (v := 0) dX7_readDrought_9 ic_0 ?_
  refine PWk.bipush (v := 100) dX7_readDrought_10 bp_100 ?_
  refine PWk.callViI (pc_X7_takeNumber fu x1.2 L R 0 100) dX7_readDrought_12 ml_X7_118 rfl rg_6 lc_6 vq_7 (by decide) rfl (Nat.le_of_ble_eq_true rfl) (fun x2 => ?_)
  refine PWk.if_ne 20 dX7_readDrought_15 (by decide) (fun h5 => ?_) (fun h5 => ?_)
  · refine PWk.iconst (v := 0) dX7_readDrought_18 ic_0 ?_
    exact PWk.zret dX7_readDrought_19 rfl (fun h => h)
  · refine PWk.aload_n 0 dX7_readDrought_20 rfl ?_
    refine PWk.getr dX7_readDrought_21 rg_6 lc_6 fl_X7_29 rfl okLd_ne (fun hk3 => ?_)
    refine PWk.aload_n 0 dX7_readDrought_24 rfl ?_
    refine PWk.geti dX7_readDrought_25 rg_6 lc_6 fl_X7_112 rfl ?_
    refine PWk.puti dX7_readDrought_28 (rgLd_0 (okLd_is hk3)) (lcLd (okLd_is hk3)) fl_X7_156 fp_2_4 rfl ?_
    refine PWk.bI (fun I4 => ?_)
    refine PWk.iconst (v := 1) dX7_readDrought_31 ic_1 ?_
    exact PWk.zret dX7_readDrought_32 rfl (fun h => h)
/-! LakeMarket$Reader.readCarts()Z -/
def f_X7_readCarts (fu : Nat) (I : HI) (R : HR) : Option (Int32 × HI) :=
  (f_X10_advance fu I).bind fun x1 =>
  (f_X7_takeNumber fu x1.2 1 999).bind fun x2 =>
  if x2.1 = 0 then
    gz 0 (some (0, x2.2))
  else
    gr (okLd (R 6 2)) <|
    bnd (sI x2.2 (R 6 2) 5 (x2.2 6 3)) fun I4 =>
    gz 1 (some (1, I4))
set_option maxRecDepth 20000 in
theorem pc_X7_readCarts (fu : Nat) (I : HI) (L : HL) (R : HR) : PCo 1 93 8 yX7_readCarts cX7_readCarts 1 (some .boolean) [.ref 6] I L R (f_X7_readCarts fu I R) (fun x : Int32 × HI => ((some (.int x.1), x.2, L, R) : HF)) := by
  refine PCo.of (own := RX7) (by decide +kernel) (Nat.le_of_ble_eq_true rfl) rfl rfl (fun F => ?_)
  unfold f_X7_readCarts
  refine PWk.aload_n 0 dX7_readCarts_0 rfl ?_
  refine PWk.gets dX7_readCarts_1 rg_6 lc_6 fl_X7_14 rfl st_6_0 ?_
  refine PWk.callViI (pc_X10_advance fu I L R) dX7_readCarts_4 ml_X7_94 rfl rg_7 lc_7 vq_10 (by decide) rfl (Nat.le_of_ble_eq_true rfl) (fun x1 => ?_)
  refine PWk.pop dX7_readCarts_7 rfl ?_
  refine PWk.aload_n 0 dX7_readCarts_8 rfl ?_
  refine PWk.iconst (v := 1) dX7_readCarts_9 ic_1 ?_
  refine PWk.sipush (v := 999) dX7_readCarts_10 sp_999 ?_
  refine PWk.callViI (pc_X7_takeNumber fu x1.2 L R 1 999) dX7_readCarts_13 ml_X7_118 rfl rg_6 lc_6 vq_7 (by decide) rfl (Nat.le_of_ble_eq_true rfl) (fun x2 => ?_)
  refine PWk.if_ne 21 dX7_readCarts_16 (by decide) (fun h5 => ?_) (fun h5 => ?_)
  · refine PWk.iconst (v := 0) dX7_readCarts_19 ic_0 ?_
    exact PWk.zret dX7_readCarts_20 rfl (fun h => h)
  · refine PWk.aload_n 0 dX7_readCarts_21 rfl ?_
    refine PWk.getr dX7_readCarts_22 rg_6 lc_6 fl_X7_29 rfl okLd_ne (fun hk3 => ?_)
    refine PWk.aload_n 0 dX7_readCarts_25 rfl ?_
    refine PWk.geti dX7_readCarts_26 rg_6 lc_6 fl_X7_112 rfl ?_
    refine PWk.puti dX7_readCarts_29 (rgLd_0 (okLd_is hk3)) (lcLd (okLd_is hk3)) fl_X7_159 fp_2_5 rfl ?_
    refine PWk.bI (fun I4 => ?_)
    refine PWk.iconst (v := 1) dX7_readCarts_32 ic_1 ?_
    exact PWk.zret dX7_readCarts_33 rfl (fun h => h)
/-! LakeMarket$Reader.readStatement()Z -/
def f_X7_readStatement (fu : Nat) (I : HI) (R : HR) : Option (Int32 × HI × HR) :=
  gr (okLd (R 6 2)) <|
  if (I (R 6 2) 0) = 80 then
    (f_X10_fail I 6).bind fun x2 =>
    gz x2.1 (some (x2.1, x2.2, R))
  else
    (f_X10_needKind I 2).bind fun x3 =>
    if x3.1 = 0 then
      gz 0 (some (0, x3.2, R))
    else
      (f_X7_isOneTooMany x3.2 R (x3.2 7 6)).bind fun x4 =>
      if x4 = 0 then
        jnt (β := Int32 × HI × HR) (fun y25 =>
          if y25.1 = 0 then
            gz 0 (some (0, y25.2.1, y25.2.2))
          else
            (f_X10_needSign y25.2.1 59).bind fun x26 =>
            if x26.1 = 0 then
              gz 0 (some (0, x26.2, y25.2.2))
            else
              gr (okLd (y25.2.2 6 2)) <|
              bnd (sI x26.2 (y25.2.2 6 2) 0 ((x26.2 (y25.2.2 6 2) 0) + 1)) fun I28 =>
              (f_X10_advance fu I28).bind fun x29 =>
              gz x29.1 (some (x29.1, x29.2, y25.2.2))) fun j5 =>
        if (x3.2 7 6) = 0 then
          (f_X7_readHollow fu x3.2 R).bind fun x6 =>
          j5 (x6.1, x6.2, R)
        else
        if (x3.2 7 6) = 3 then
          (f_X7_readOwner fu x3.2 R).bind fun x7 =>
          j5 (x7.1, x7.2, R)
        else
        if (x3.2 7 6) = 4 then
          (f_X7_readLake fu x3.2 R).bind fun x8 =>
          j5 (x8.1, x8.2, R)
        else
        if (x3.2 7 6) = 8 then
          (f_X7_readDebt fu x3.2 R).bind fun x9 =>
          j5 (x9.1, x9.2, R)
        else
        if (x3.2 7 6) = 9 then
          (f_X8_readRule fu x3.2 R 0 (R 6 2)).bind fun x10 =>
          j5 (x10.1, x10.2.1, x10.2.2)
        else
        if (x3.2 7 6) = 10 then
          (f_X8_readRule fu x3.2 R 1 (R 6 2)).bind fun x11 =>
          j5 (x11.1, x11.2.1, x11.2.2)
        else
        if (x3.2 7 6) = 11 then
          (f_X8_readRule fu x3.2 R 2 (R 6 2)).bind fun x12 =>
          j5 (x12.1, x12.2.1, x12.2.2)
        else
        if (x3.2 7 6) = 12 then
          (f_X7_readCarts fu x3.2 R).bind fun x13 =>
          j5 (x13.1, x13.2, R)
        else
        if (x3.2 7 6) = 24 then
          (f_X7_readDrought fu x3.2 R).bind fun x14 =>
          j5 (x14.1, x14.2, R)
        else
          (f_X10_failForm x3.2).bind fun x15 =>
          j5 (x15.1, x15.2, R)
      else
        (f_X10_fail x3.2 6).bind fun x32 =>
        gz x32.1 (some (x32.1, x32.2, R))
set_option maxRecDepth 20000 in
theorem pc_X7_readStatement (fu : Nat) (I : HI) (L : HL) (R : HR) : PCo 1 93 88 yX7_readStatement cX7_readStatement 2 (some .boolean) [.ref 6] I L R (f_X7_readStatement fu I R) (fun x : Int32 × HI × HR => ((some (.int x.1), x.2.1, L, x.2.2) : HF)) := by
  refine PCo.of (own := RX7) (by decide +kernel) (Nat.le_of_ble_eq_true rfl) rfl rfl (fun F => ?_)
  unfold f_X7_readStatement
  refine PWk.aload_n 0 dX7_readStatement_0 rfl ?_
  refine PWk.getr dX7_readStatement_1 rg_6 lc_6 fl_X7_29 rfl okLd_ne (fun hk1 => ?_)
  refine PWk.geti dX7_readStatement_4 (rgLd_0 (okLd_is hk1)) (lcLd (okLd_is hk1)) fl_X7_50 rfl ?_
  refine PWk.bipush (v := 80) dX7_readStatement_7 bp_80 ?_
  refine PWk.icmp_ne 22 dX7_readStatement_9 (by decide) (fun h35 => ?_) (fun h35 => ?_)
  · refine PWk.aload_n 0 dX7_readStatement_12 rfl ?_
    refine PWk.gets dX7_readStatement_13 rg_6 lc_6 fl_X7_14 rfl st_6_0 ?_
    refine PWk.bipush (v := 6) dX7_readStatement_16 bp_6 ?_
    refine PWk.callViI (pc_X10_fail I L R 6) dX7_readStatement_18 ml_X7_53 rfl rg_7 lc_7 vq_10 (by decide) rfl (Nat.le_of_ble_eq_true rfl) (fun x2 => ?_)
    exact PWk.zret dX7_readStatement_21 rfl (fun h => h)
  · refine PWk.aload_n 0 dX7_readStatement_22 rfl ?_
    refine PWk.gets dX7_readStatement_23 rg_6 lc_6 fl_X7_14 rfl st_6_0 ?_
    refine PWk.iconst (v := 2) dX7_readStatement_26 ic_2 ?_
    refine PWk.callViI (pc_X10_needKind I L R 2) dX7_readStatement_27 ml_X7_57 rfl rg_7 lc_7 vq_10 (by decide) rfl (Nat.le_of_ble_eq_true rfl) (fun x3 => ?_)
    refine PWk.if_ne 35 dX7_readStatement_30 (by decide) (fun h34 => ?_) (fun h34 => ?_)
    · refine PWk.iconst (v := 0) dX7_readStatement_33 ic_0 ?_
      exact PWk.zret dX7_readStatement_34 rfl (fun h => h)
    · refine PWk.aload_n 0 dX7_readStatement_35 rfl ?_
      refine PWk.aload_n 0 dX7_readStatement_36 rfl ?_
      refine PWk.gets dX7_readStatement_37 rg_6 lc_6 fl_X7_14 rfl st_6_0 ?_
      refine PWk.geti dX7_readStatement_40 rg_7 lc_7 fl_X7_60 rfl ?_
      refine PWk.callVi (pc_X7_isOneTooMany x3.2 L R (x3.2 7 6)) dX7_readStatement_43 ml_X7_63 rfl rg_6 lc_6 vq_7 (by decide) rfl (Nat.le_of_ble_eq_true rfl) (fun x4 => ?_)
      refine PWk.if_eq 59 dX7_readStatement_46 (by decide) (fun h33 => ?_) (fun h33 => ?_)
      · refine PWk.aload_n 0 dX7_readStatement_59 rfl ?_
        refine PWk.gets dX7_readStatement_60 rg_6 lc_6 fl_X7_14 rfl st_6_0 ?_
        refine PWk.geti dX7_readStatement_63 rg_7 lc_7 fl_X7_60 rfl ?_
        refine PWk.jn (pc' := 284) (lv' := fun y25 => [(0, .ref 6), (1, .int y25.1)]) (st' := fun y25 => []) (I' := fun y25 => y25.2.1) (L' := fun y25 => L) (R' := fun y25 => y25.2.2) (fun j5 hj5 => ?_) (fun y25 => ?_)
        · refine PWk.ite (fun h16 => ?_) (fun h16 => ?_)
          · refine PWk.tIn 180 (off := 114) (v := 0) dX7_readStatement_66 (by rw [h16]; decide) (by decide) (by decide) (by decide +kernel) (by decide) ?_
            refine PWk.aload_n 0 dX7_readStatement_180 rfl ?_
            refine PWk.callViI (pc_X7_readHollow fu x3.2 L R) dX7_readStatement_181 ml_X7_66 rfl rg_6 lc_6 vq_7 (by decide) rfl (Nat.le_of_ble_eq_true rfl) (fun x6 => ?_)
            refine PWk.istore_n [(1, .int x6.1), (0, .ref 6)] dX7_readStatement_184 (by decide) rfl ?_
            refine PWk.goto 284 dX7_readStatement_185 (by decide) ?_
            refine PWk.sub [1, 0] rfl ?_
            exact hj5 (x6.1, x6.2, R)
          · skip
            refine PWk.ite (fun h17 => ?_) (fun h17 => ?_)
            · refine PWk.tIn 188 (off := 122) (v := 3) dX7_readStatement_66 (by rw [h17]; decide) (by decide) (by decide) (by decide +kernel) (by decide) ?_
              refine PWk.aload_n 0 dX7_readStatement_188 rfl ?_
              refine PWk.callViI (pc_X7_readOwner fu x3.2 L R) dX7_readStatement_189 ml_X7_69 rfl rg_6 lc_6 vq_7 (by decide) rfl (Nat.le_of_ble_eq_true rfl) (fun x7 => ?_)
              refine PWk.istore_n [(1, .int x7.1), (0, .ref 6)] dX7_readStatement_192 (by decide) rfl ?_
              refine PWk.goto 284 dX7_readStatement_193 (by decide) ?_
              refine PWk.sub [1, 0] rfl ?_
              exact hj5 (x7.1, x7.2, R)
            · skip
              refine PWk.ite (fun h18 => ?_) (fun h18 => ?_)
              · refine PWk.tIn 196 (off := 130) (v := 4) dX7_readStatement_66 (by rw [h18]; decide) (by decide) (by decide) (by decide +kernel) (by decide) ?_
                refine PWk.aload_n 0 dX7_readStatement_196 rfl ?_
                refine PWk.callViI (pc_X7_readLake fu x3.2 L R) dX7_readStatement_197 ml_X7_72 rfl rg_6 lc_6 vq_7 (by decide) rfl (Nat.le_of_ble_eq_true rfl) (fun x8 => ?_)
                refine PWk.istore_n [(1, .int x8.1), (0, .ref 6)] dX7_readStatement_200 (by decide) rfl ?_
                refine PWk.goto 284 dX7_readStatement_201 (by decide) ?_
                refine PWk.sub [1, 0] rfl ?_
                exact hj5 (x8.1, x8.2, R)
              · skip
                refine PWk.ite (fun h19 => ?_) (fun h19 => ?_)
                · refine PWk.tIn 204 (off := 138) (v := 8) dX7_readStatement_66 (by rw [h19]; decide) (by decide) (by decide) (by decide +kernel) (by decide) ?_
                  refine PWk.aload_n 0 dX7_readStatement_204 rfl ?_
                  refine PWk.callViI (pc_X7_readDebt fu x3.2 L R) dX7_readStatement_205 ml_X7_75 rfl rg_6 lc_6 vq_7 (by decide) rfl (Nat.le_of_ble_eq_true rfl) (fun x9 => ?_)
                  refine PWk.istore_n [(1, .int x9.1), (0, .ref 6)] dX7_readStatement_208 (by decide) rfl ?_
                  refine PWk.goto 284 dX7_readStatement_209 (by decide) ?_
                  refine PWk.sub [1, 0] rfl ?_
                  exact hj5 (x9.1, x9.2, R)
                · skip
                  refine PWk.ite (fun h20 => ?_) (fun h20 => ?_)
                  · refine PWk.tIn 212 (off := 146) (v := 9) dX7_readStatement_66 (by rw [h20]; decide) (by decide) (by decide) (by decide +kernel) (by decide) ?_
                    refine PWk.aload_n 0 dX7_readStatement_212 rfl ?_
                    refine PWk.gets dX7_readStatement_213 rg_6 lc_6 fl_X7_25 rfl st_6_1 ?_
                    refine PWk.iconst (v := 0) dX7_readStatement_216 ic_0 ?_
                    refine PWk.aload_n 0 dX7_readStatement_217 rfl ?_
                    refine PWk.getrk dX7_readStatement_218 rg_6 lc_6 fl_X7_29 rfl (neLd (okLd_is hk1)) ?_
                    refine PWk.callViIR (pc_X8_readRule fu x3.2 L R 0 (R 6 2) (okLd_is hk1)) dX7_readStatement_221 ml_X7_78 rfl rg_8 lc_8 vq_8 (by decide) rfl (Nat.le_of_ble_eq_true rfl) (fun x10 => ?_)
                    refine PWk.istore_n [(1, .int x10.1), (0, .ref 6)] dX7_readStatement_224 (by decide) rfl ?_
                    refine PWk.goto 284 dX7_readStatement_225 (by decide) ?_
                    refine PWk.sub [1, 0] rfl ?_
                    exact hj5 (x10.1, x10.2.1, x10.2.2)
                  · skip
                    refine PWk.ite (fun h21 => ?_) (fun h21 => ?_)
                    · refine PWk.tIn 228 (off := 162) (v := 10) dX7_readStatement_66 (by rw [h21]; decide) (by decide) (by decide) (by decide +kernel) (by decide) ?_
                      refine PWk.aload_n 0 dX7_readStatement_228 rfl ?_
                      refine PWk.gets dX7_readStatement_229 rg_6 lc_6 fl_X7_25 rfl st_6_1 ?_
                      refine PWk.iconst (v := 1) dX7_readStatement_232 ic_1 ?_
                      refine PWk.aload_n 0 dX7_readStatement_233 rfl ?_
                      refine PWk.getrk dX7_readStatement_234 rg_6 lc_6 fl_X7_29 rfl (neLd (okLd_is hk1)) ?_
                      refine PWk.callViIR (pc_X8_readRule fu x3.2 L R 1 (R 6 2) (okLd_is hk1)) dX7_readStatement_237 ml_X7_78 rfl rg_8 lc_8 vq_8 (by decide) rfl (Nat.le_of_ble_eq_true rfl) (fun x11 => ?_)
                      refine PWk.istore_n [(1, .int x11.1), (0, .ref 6)] dX7_readStatement_240 (by decide) rfl ?_
                      refine PWk.goto 284 dX7_readStatement_241 (by decide) ?_
                      refine PWk.sub [1, 0] rfl ?_
                      exact hj5 (x11.1, x11.2.1, x11.2.2)
                    · skip
                      refine PWk.ite (fun h22 => ?_) (fun h22 => ?_)
                      · refine PWk.tIn 244 (off := 178) (v := 11) dX7_readStatement_66 (by rw [h22]; decide) (by decide) (by decide) (by decide +kernel) (by decide) ?_
                        refine PWk.aload_n 0 dX7_readStatement_244 rfl ?_
                        refine PWk.gets dX7_readStatement_245 rg_6 lc_6 fl_X7_25 rfl st_6_1 ?_
                        refine PWk.iconst (v := 2) dX7_readStatement_248 ic_2 ?_
                        refine PWk.aload_n 0 dX7_readStatement_249 rfl ?_
                        refine PWk.getrk dX7_readStatement_250 rg_6 lc_6 fl_X7_29 rfl (neLd (okLd_is hk1)) ?_
                        refine PWk.callViIR (pc_X8_readRule fu x3.2 L R 2 (R 6 2) (okLd_is hk1)) dX7_readStatement_253 ml_X7_78 rfl rg_8 lc_8 vq_8 (by decide) rfl (Nat.le_of_ble_eq_true rfl) (fun x12 => ?_)
                        refine PWk.istore_n [(1, .int x12.1), (0, .ref 6)] dX7_readStatement_256 (by decide) rfl ?_
                        refine PWk.goto 284 dX7_readStatement_257 (by decide) ?_
                        refine PWk.sub [1, 0] rfl ?_
                        exact hj5 (x12.1, x12.2.1, x12.2.2)
                      · skip
                        refine PWk.ite (fun h23 => ?_) (fun h23 => ?_)
                        · refine PWk.tIn 268 (off := 202) (v := 12) dX7_readStatement_66 (by rw [h23]; decide) (by decide) (by decide) (by decide +kernel) (by decide) ?_
                          refine PWk.aload_n 0 dX7_readStatement_268 rfl ?_
                          refine PWk.callViI (pc_X7_readCarts fu x3.2 L R) dX7_readStatement_269 ml_X7_85 rfl rg_6 lc_6 vq_7 (by decide) rfl (Nat.le_of_ble_eq_true rfl) (fun x13 => ?_)
                          refine PWk.istore_n [(1, .int x13.1), (0, .ref 6)] dX7_readStatement_272 (by decide) rfl ?_
                          refine PWk.goto 284 dX7_readStatement_273 (by decide) ?_
                          refine PWk.sub [1, 0] rfl ?_
                          exact hj5 (x13.1, x13.2, R)
                        · skip
                          refine PWk.ite (fun h24 => ?_) (fun h24 => ?_)
                          · refine PWk.tIn 260 (off := 194) (v := 24) dX7_readStatement_66 (by rw [h24]; decide) (by decide) (by decide) (by decide +kernel) (by decide) ?_
                            refine PWk.aload_n 0 dX7_readStatement_260 rfl ?_
                            refine PWk.callViI (pc_X7_readDrought fu x3.2 L R) dX7_readStatement_261 ml_X7_82 rfl rg_6 lc_6 vq_7 (by decide) rfl (Nat.le_of_ble_eq_true rfl) (fun x14 => ?_)
                            refine PWk.istore_n [(1, .int x14.1), (0, .ref 6)] dX7_readStatement_264 (by decide) rfl ?_
                            refine PWk.goto 284 dX7_readStatement_265 (by decide) ?_
                            refine PWk.sub [1, 0] rfl ?_
                            exact hj5 (x14.1, x14.2, R)
                          · skip
                            by_cases h36 : (x3.2 7 6) = 1
                            · refine PWk.tIn 276 (off := 210) (v := 1) dX7_readStatement_66 (by rw [h36]; decide) (by decide) (by decide) (by decide +kernel) (by decide) ?_
                              refine PWk.aload_n 0 dX7_readStatement_276 rfl ?_
                              refine PWk.gets dX7_readStatement_277 rg_6 lc_6 fl_X7_14 rfl st_6_0 ?_
                              refine PWk.callViI (pc_X10_failForm x3.2 L R) dX7_readStatement_280 ml_X7_88 rfl rg_7 lc_7 vq_10 (by decide) rfl (Nat.le_of_ble_eq_true rfl) (fun x15 => ?_)
                              refine PWk.istore_n [(1, .int x15.1), (0, .ref 6)] dX7_readStatement_283 (by decide) rfl ?_
                              refine PWk.sub [1, 0] rfl ?_
                              exact hj5 (x15.1, x15.2, R)
                            · skip
                              by_cases h37 : (x3.2 7 6) = 2
                              · refine PWk.tIn 276 (off := 210) (v := 2) dX7_readStatement_66 (by rw [h37]; decide) (by decide) (by decide) (by decide +kernel) (by decide) ?_
                                refine PWk.aload_n 0 dX7_readStatement_276 rfl ?_
                                refine PWk.gets dX7_readStatement_277 rg_6 lc_6 fl_X7_14 rfl st_6_0 ?_
                                refine PWk.callViI (pc_X10_failForm x3.2 L R) dX7_readStatement_280 ml_X7_88 rfl rg_7 lc_7 vq_10 (by decide) rfl (Nat.le_of_ble_eq_true rfl) (fun x15 => ?_)
                                refine PWk.istore_n [(1, .int x15.1), (0, .ref 6)] dX7_readStatement_283 (by decide) rfl ?_
                                refine PWk.sub [1, 0] rfl ?_
                                exact hj5 (x15.1, x15.2, R)
                              · skip
                                by_cases h38 : (x3.2 7 6) = 5
                                · refine PWk.tIn 276 (off := 210) (v := 5) dX7_readStatement_66 (by rw [h38]; decide) (by decide) (by decide) (by decide +kernel) (by decide) ?_
                                  refine PWk.aload_n 0 dX7_readStatement_276 rfl ?_
                                  refine PWk.gets dX7_readStatement_277 rg_6 lc_6 fl_X7_14 rfl st_6_0 ?_
                                  refine PWk.callViI (pc_X10_failForm x3.2 L R) dX7_readStatement_280 ml_X7_88 rfl rg_7 lc_7 vq_10 (by decide) rfl (Nat.le_of_ble_eq_true rfl) (fun x15 => ?_)
                                  refine PWk.istore_n [(1, .int x15.1), (0, .ref 6)] dX7_readStatement_283 (by decide) rfl ?_
                                  refine PWk.sub [1, 0] rfl ?_
                                  exact hj5 (x15.1, x15.2, R)
                                · skip
                                  by_cases h39 : (x3.2 7 6) = 6
                                  · refine PWk.tIn 276 (off := 210) (v := 6) dX7_readStatement_66 (by rw [h39]; decide) (by decide) (by decide) (by decide +kernel) (by decide) ?_
                                    refine PWk.aload_n 0 dX7_readStatement_276 rfl ?_
                                    refine PWk.gets dX7_readStatement_277 rg_6 lc_6 fl_X7_14 rfl st_6_0 ?_
                                    refine PWk.callViI (pc_X10_failForm x3.2 L R) dX7_readStatement_280 ml_X7_88 rfl rg_7 lc_7 vq_10 (by decide) rfl (Nat.le_of_ble_eq_true rfl) (fun x15 => ?_)
                                    refine PWk.istore_n [(1, .int x15.1), (0, .ref 6)] dX7_readStatement_283 (by decide) rfl ?_
                                    refine PWk.sub [1, 0] rfl ?_
                                    exact hj5 (x15.1, x15.2, R)
                                  · skip
                                    by_cases h40 : (x3.2 7 6) = 7
                                    · refine PWk.tIn 276 (off := 210) (v := 7) dX7_readStatement_66 (by rw [h40]; decide) (by decide) (by decide) (by decide +kernel) (by decide) ?_
                                      refine PWk.aload_n 0 dX7_readStatement_276 rfl ?_
                                      refine PWk.gets dX7_readStatement_277 rg_6 lc_6 fl_X7_14 rfl st_6_0 ?_
                                      refine PWk.callViI (pc_X10_failForm x3.2 L R) dX7_readStatement_280 ml_X7_88 rfl rg_7 lc_7 vq_10 (by decide) rfl (Nat.le_of_ble_eq_true rfl) (fun x15 => ?_)
                                      refine PWk.istore_n [(1, .int x15.1), (0, .ref 6)] dX7_readStatement_283 (by decide) rfl ?_
                                      refine PWk.sub [1, 0] rfl ?_
                                      exact hj5 (x15.1, x15.2, R)
                                    · skip
                                      by_cases h41 : (x3.2 7 6) = 13
                                      · refine PWk.tIn 276 (off := 210) (v := 13) dX7_readStatement_66 (by rw [h41]; decide) (by decide) (by decide) (by decide +kernel) (by decide) ?_
                                        refine PWk.aload_n 0 dX7_readStatement_276 rfl ?_
                                        refine PWk.gets dX7_readStatement_277 rg_6 lc_6 fl_X7_14 rfl st_6_0 ?_
                                        refine PWk.callViI (pc_X10_failForm x3.2 L R) dX7_readStatement_280 ml_X7_88 rfl rg_7 lc_7 vq_10 (by decide) rfl (Nat.le_of_ble_eq_true rfl) (fun x15 => ?_)
                                        refine PWk.istore_n [(1, .int x15.1), (0, .ref 6)] dX7_readStatement_283 (by decide) rfl ?_
                                        refine PWk.sub [1, 0] rfl ?_
                                        exact hj5 (x15.1, x15.2, R)
                                      · skip
                                        by_cases h42 : (x3.2 7 6) = 14
                                        · refine PWk.tIn 276 (off := 210) (v := 14) dX7_readStatement_66 (by rw [h42]; decide) (by decide) (by decide) (by decide +kernel) (by decide) ?_
                                          refine PWk.aload_n 0 dX7_readStatement_276 rfl ?_
                                          refine PWk.gets dX7_readStatement_277 rg_6 lc_6 fl_X7_14 rfl st_6_0 ?_
                                          refine PWk.callViI (pc_X10_failForm x3.2 L R) dX7_readStatement_280 ml_X7_88 rfl rg_7 lc_7 vq_10 (by decide) rfl (Nat.le_of_ble_eq_true rfl) (fun x15 => ?_)
                                          refine PWk.istore_n [(1, .int x15.1), (0, .ref 6)] dX7_readStatement_283 (by decide) rfl ?_
                                          refine PWk.sub [1, 0] rfl ?_
                                          exact hj5 (x15.1, x15.2, R)
                                        · skip
                                          by_cases h43 : (x3.2 7 6) = 15
                                          · refine PWk.tIn 276 (off := 210) (v := 15) dX7_readStatement_66 (by rw [h43]; decide) (by decide) (by decide) (by decide +kernel) (by decide) ?_
                                            refine PWk.aload_n 0 dX7_readStatement_276 rfl ?_
                                            refine PWk.gets dX7_readStatement_277 rg_6 lc_6 fl_X7_14 rfl st_6_0 ?_
                                            refine PWk.callViI (pc_X10_failForm x3.2 L R) dX7_readStatement_280 ml_X7_88 rfl rg_7 lc_7 vq_10 (by decide) rfl (Nat.le_of_ble_eq_true rfl) (fun x15 => ?_)
                                            refine PWk.istore_n [(1, .int x15.1), (0, .ref 6)] dX7_readStatement_283 (by decide) rfl ?_
                                            refine PWk.sub [1, 0] rfl ?_
                                            exact hj5 (x15.1, x15.2, R)
                                          · skip
                                            by_cases h44 : (x3.2 7 6) = 16
                                            · refine PWk.tIn 276 (off := 210) (v := 16) dX7_readStatement_66 (by rw [h44]; decide) (by decide) (by decide) (by decide +kernel) (by decide) ?_
                                              refine PWk.aload_n 0 dX7_readStatement_276 rfl ?_
                                              refine PWk.gets dX7_readStatement_277 rg_6 lc_6 fl_X7_14 rfl st_6_0 ?_
                                              refine PWk.callViI (pc_X10_failForm x3.2 L R) dX7_readStatement_280 ml_X7_88 rfl rg_7 lc_7 vq_10 (by decide) rfl (Nat.le_of_ble_eq_true rfl) (fun x15 => ?_)
                                              refine PWk.istore_n [(1, .int x15.1), (0, .ref 6)] dX7_readStatement_283 (by decide) rfl ?_
                                              refine PWk.sub [1, 0] rfl ?_
                                              exact hj5 (x15.1, x15.2, R)
                                            · skip
                                              by_cases h45 : (x3.2 7 6) = 17
                                              · refine PWk.tIn 276 (off := 210) (v := 17) dX7_readStatement_66 (by rw [h45]; decide) (by decide) (by decide) (by decide +kernel) (by decide) ?_
                                                refine PWk.aload_n 0 dX7_readStatement_276 rfl ?_
                                                refine PWk.gets dX7_readStatement_277 rg_6 lc_6 fl_X7_14 rfl st_6_0 ?_
                                                refine PWk.callViI (pc_X10_failForm x3.2 L R) dX7_readStatement_280 ml_X7_88 rfl rg_7 lc_7 vq_10 (by decide) rfl (Nat.le_of_ble_eq_true rfl) (fun x15 => ?_)
                                                refine PWk.istore_n [(1, .int x15.1), (0, .ref 6)] dX7_readStatement_283 (by decide) rfl ?_
                                                refine PWk.sub [1, 0] rfl ?_
                                                exact hj5 (x15.1, x15.2, R)
                                              · skip
                                                by_cases h46 : (x3.2 7 6) = 18
                                                · refine PWk.tIn 276 (off := 210) (v := 18) dX7_readStatement_66 (by rw [h46]; decide) (by decide) (by decide) (by decide +kernel) (by decide) ?_
                                                  refine PWk.aload_n 0 dX7_readStatement_276 rfl ?_
                                                  refine PWk.gets dX7_readStatement_277 rg_6 lc_6 fl_X7_14 rfl st_6_0 ?_
                                                  refine PWk.callViI (pc_X10_failForm x3.2 L R) dX7_readStatement_280 ml_X7_88 rfl rg_7 lc_7 vq_10 (by decide) rfl (Nat.le_of_ble_eq_true rfl) (fun x15 => ?_)
                                                  refine PWk.istore_n [(1, .int x15.1), (0, .ref 6)] dX7_readStatement_283 (by decide) rfl ?_
                                                  refine PWk.sub [1, 0] rfl ?_
                                                  exact hj5 (x15.1, x15.2, R)
                                                · skip
                                                  by_cases h47 : (x3.2 7 6) = 19
                                                  · refine PWk.tIn 276 (off := 210) (v := 19) dX7_readStatement_66 (by rw [h47]; decide) (by decide) (by decide) (by decide +kernel) (by decide) ?_
                                                    refine PWk.aload_n 0 dX7_readStatement_276 rfl ?_
                                                    refine PWk.gets dX7_readStatement_277 rg_6 lc_6 fl_X7_14 rfl st_6_0 ?_
                                                    refine PWk.callViI (pc_X10_failForm x3.2 L R) dX7_readStatement_280 ml_X7_88 rfl rg_7 lc_7 vq_10 (by decide) rfl (Nat.le_of_ble_eq_true rfl) (fun x15 => ?_)
                                                    refine PWk.istore_n [(1, .int x15.1), (0, .ref 6)] dX7_readStatement_283 (by decide) rfl ?_
                                                    refine PWk.sub [1, 0] rfl ?_
                                                    exact hj5 (x15.1, x15.2, R)
                                                  · skip
                                                    by_cases h48 : (x3.2 7 6) = 20
                                                    · refine PWk.tIn 276 (off := 210) (v := 20) dX7_readStatement_66 (by rw [h48]; decide) (by decide) (by decide) (by decide +kernel) (by decide) ?_
                                                      refine PWk.aload_n 0 dX7_readStatement_276 rfl ?_
                                                      refine PWk.gets dX7_readStatement_277 rg_6 lc_6 fl_X7_14 rfl st_6_0 ?_
                                                      refine PWk.callViI (pc_X10_failForm x3.2 L R) dX7_readStatement_280 ml_X7_88 rfl rg_7 lc_7 vq_10 (by decide) rfl (Nat.le_of_ble_eq_true rfl) (fun x15 => ?_)
                                                      refine PWk.istore_n [(1, .int x15.1), (0, .ref 6)] dX7_readStatement_283 (by decide) rfl ?_
                                                      refine PWk.sub [1, 0] rfl ?_
                                                      exact hj5 (x15.1, x15.2, R)
                                                    · skip
                                                      by_cases h49 : (x3.2 7 6) = 21
                                                      · refine PWk.tIn 276 (off := 210) (v := 21) dX7_readStatement_66 (by rw [h49]; decide) (by decide) (by decide) (by decide +kernel) (by decide) ?_
                                                        refine PWk.aload_n 0 dX7_readStatement_276 rfl ?_
                                                        refine PWk.gets dX7_readStatement_277 rg_6 lc_6 fl_X7_14 rfl st_6_0 ?_
                                                        refine PWk.callViI (pc_X10_failForm x3.2 L R) dX7_readStatement_280 ml_X7_88 rfl rg_7 lc_7 vq_10 (by decide) rfl (Nat.le_of_ble_eq_true rfl) (fun x15 => ?_)
                                                        refine PWk.istore_n [(1, .int x15.1), (0, .ref 6)] dX7_readStatement_283 (by decide) rfl ?_
                                                        refine PWk.sub [1, 0] rfl ?_
                                                        exact hj5 (x15.1, x15.2, R)
                                                      · skip
                                                        by_cases h50 : (x3.2 7 6) = 22
                                                        · refine PWk.tIn 276 (off := 210) (v := 22) dX7_readStatement_66 (by rw [h50]; decide) (by decide) (by decide) (by decide +kernel) (by decide) ?_
                                                          refine PWk.aload_n 0 dX7_readStatement_276 rfl ?_
                                                          refine PWk.gets dX7_readStatement_277 rg_6 lc_6 fl_X7_14 rfl st_6_0 ?_
                                                          refine PWk.callViI (pc_X10_failForm x3.2 L R) dX7_readStatement_280 ml_X7_88 rfl rg_7 lc_7 vq_10 (by decide) rfl (Nat.le_of_ble_eq_true rfl) (fun x15 => ?_)
                                                          refine PWk.istore_n [(1, .int x15.1), (0, .ref 6)] dX7_readStatement_283 (by decide) rfl ?_
                                                          refine PWk.sub [1, 0] rfl ?_
                                                          exact hj5 (x15.1, x15.2, R)
                                                        · skip
                                                          by_cases h51 : (x3.2 7 6) = 23
                                                          · refine PWk.tIn 276 (off := 210) (v := 23) dX7_readStatement_66 (by rw [h51]; decide) (by decide) (by decide) (by decide +kernel) (by decide) ?_
                                                            refine PWk.aload_n 0 dX7_readStatement_276 rfl ?_
                                                            refine PWk.gets dX7_readStatement_277 rg_6 lc_6 fl_X7_14 rfl st_6_0 ?_
                                                            refine PWk.callViI (pc_X10_failForm x3.2 L R) dX7_readStatement_280 ml_X7_88 rfl rg_7 lc_7 vq_10 (by decide) rfl (Nat.le_of_ble_eq_true rfl) (fun x15 => ?_)
                                                            refine PWk.istore_n [(1, .int x15.1), (0, .ref 6)] dX7_readStatement_283 (by decide) rfl ?_
                                                            refine PWk.sub [1, 0] rfl ?_
                                                            exact hj5 (x15.1, x15.2, R)
                                                          · skip
                                                            have q_0 : ((x3.2 7 6)).toInt ≠ 0 := fun e => h16 (Int32.toInt_inj.mp (e.trans (by decide)))
                                                            have q_1 : ((x3.2 7 6)).toInt ≠ 1 := fun e => h36 (Int32.toInt_inj.mp (e.trans (by decide)))
                                                            have q_2 : ((x3.2 7 6)).toInt ≠ 2 := fun e => h37 (Int32.toInt_inj.mp (e.trans (by decide)))
                                                            have q_3 : ((x3.2 7 6)).toInt ≠ 3 := fun e => h17 (Int32.toInt_inj.mp (e.trans (by decide)))
                                                            have q_4 : ((x3.2 7 6)).toInt ≠ 4 := fun e => h18 (Int32.toInt_inj.mp (e.trans (by decide)))
                                                            have q_5 : ((x3.2 7 6)).toInt ≠ 5 := fun e => h38 (Int32.toInt_inj.mp (e.trans (by decide)))
                                                            have q_6 : ((x3.2 7 6)).toInt ≠ 6 := fun e => h39 (Int32.toInt_inj.mp (e.trans (by decide)))
                                                            have q_7 : ((x3.2 7 6)).toInt ≠ 7 := fun e => h40 (Int32.toInt_inj.mp (e.trans (by decide)))
                                                            have q_8 : ((x3.2 7 6)).toInt ≠ 8 := fun e => h19 (Int32.toInt_inj.mp (e.trans (by decide)))
                                                            have q_9 : ((x3.2 7 6)).toInt ≠ 9 := fun e => h20 (Int32.toInt_inj.mp (e.trans (by decide)))
                                                            have q_10 : ((x3.2 7 6)).toInt ≠ 10 := fun e => h21 (Int32.toInt_inj.mp (e.trans (by decide)))
                                                            have q_11 : ((x3.2 7 6)).toInt ≠ 11 := fun e => h22 (Int32.toInt_inj.mp (e.trans (by decide)))
                                                            have q_12 : ((x3.2 7 6)).toInt ≠ 12 := fun e => h23 (Int32.toInt_inj.mp (e.trans (by decide)))
                                                            have q_13 : ((x3.2 7 6)).toInt ≠ 13 := fun e => h41 (Int32.toInt_inj.mp (e.trans (by decide)))
                                                            have q_14 : ((x3.2 7 6)).toInt ≠ 14 := fun e => h42 (Int32.toInt_inj.mp (e.trans (by decide)))
                                                            have q_15 : ((x3.2 7 6)).toInt ≠ 15 := fun e => h43 (Int32.toInt_inj.mp (e.trans (by decide)))
                                                            have q_16 : ((x3.2 7 6)).toInt ≠ 16 := fun e => h44 (Int32.toInt_inj.mp (e.trans (by decide)))
                                                            have q_17 : ((x3.2 7 6)).toInt ≠ 17 := fun e => h45 (Int32.toInt_inj.mp (e.trans (by decide)))
                                                            have q_18 : ((x3.2 7 6)).toInt ≠ 18 := fun e => h46 (Int32.toInt_inj.mp (e.trans (by decide)))
                                                            have q_19 : ((x3.2 7 6)).toInt ≠ 19 := fun e => h47 (Int32.toInt_inj.mp (e.trans (by decide)))
                                                            have q_20 : ((x3.2 7 6)).toInt ≠ 20 := fun e => h48 (Int32.toInt_inj.mp (e.trans (by decide)))
                                                            have q_21 : ((x3.2 7 6)).toInt ≠ 21 := fun e => h49 (Int32.toInt_inj.mp (e.trans (by decide)))
                                                            have q_22 : ((x3.2 7 6)).toInt ≠ 22 := fun e => h50 (Int32.toInt_inj.mp (e.trans (by decide)))
                                                            have q_23 : ((x3.2 7 6)).toInt ≠ 23 := fun e => h51 (Int32.toInt_inj.mp (e.trans (by decide)))
                                                            have q_24 : ((x3.2 7 6)).toInt ≠ 24 := fun e => h24 (Int32.toInt_inj.mp (e.trans (by decide)))
                                                            refine PWk.tOut 276 dX7_readStatement_66 (by omega) (by decide) ?_
                                                            refine PWk.aload_n 0 dX7_readStatement_276 rfl ?_
                                                            refine PWk.gets dX7_readStatement_277 rg_6 lc_6 fl_X7_14 rfl st_6_0 ?_
                                                            refine PWk.callViI (pc_X10_failForm x3.2 L R) dX7_readStatement_280 ml_X7_88 rfl rg_7 lc_7 vq_10 (by decide) rfl (Nat.le_of_ble_eq_true rfl) (fun x15 => ?_)
                                                            refine PWk.istore_n [(1, .int x15.1), (0, .ref 6)] dX7_readStatement_283 (by decide) rfl ?_
                                                            refine PWk.sub [1, 0] rfl ?_
                                                            exact hj5 (x15.1, x15.2, R)
        · refine PWk.iload_n 1 dX7_readStatement_284 rfl ?_
          refine PWk.if_eq 300 dX7_readStatement_285 (by decide) (fun h31 => ?_) (fun h31 => ?_)
          · refine PWk.iconst (v := 0) dX7_readStatement_300 ic_0 ?_
            exact PWk.zret dX7_readStatement_301 rfl (fun h => h)
          · refine PWk.aload_n 0 dX7_readStatement_288 rfl ?_
            refine PWk.gets dX7_readStatement_289 rg_6 lc_6 fl_X7_14 rfl st_6_0 ?_
            refine PWk.bipush (v := 59) dX7_readStatement_292 bp_59 ?_
            refine PWk.callViI (pc_X10_needSign y25.2.1 L y25.2.2 59) dX7_readStatement_294 ml_X7_91 rfl rg_7 lc_7 vq_10 (by decide) rfl (Nat.le_of_ble_eq_true rfl) (fun x26 => ?_)
            refine PWk.if_ne 302 dX7_readStatement_297 (by decide) (fun h30 => ?_) (fun h30 => ?_)
            · refine PWk.iconst (v := 0) dX7_readStatement_300 ic_0 ?_
              exact PWk.zret dX7_readStatement_301 rfl (fun h => h)
            · refine PWk.aload_n 0 dX7_readStatement_302 rfl ?_
              refine PWk.getr dX7_readStatement_303 rg_6 lc_6 fl_X7_29 rfl okLd_ne (fun hk27 => ?_)
              refine PWk.dup dX7_readStatement_306 rfl ?_
              refine PWk.geti dX7_readStatement_307 (rgLd_0 (okLd_is hk27)) (lcLd (okLd_is hk27)) fl_X7_50 rfl ?_
              refine PWk.iconst (v := 1) dX7_readStatement_310 ic_1 ?_
              refine PWk.iadd dX7_readStatement_311 ?_
              refine PWk.puti dX7_readStatement_312 (rgLd_0 (okLd_is hk27)) (lcLd (okLd_is hk27)) fl_X7_50 fp_2_0 rfl ?_
              refine PWk.bI (fun I28 => ?_)
              refine PWk.aload_n 0 dX7_readStatement_315 rfl ?_
              refine PWk.gets dX7_readStatement_316 rg_6 lc_6 fl_X7_14 rfl st_6_0 ?_
              refine PWk.callViI (pc_X10_advance fu I28 L y25.2.2) dX7_readStatement_319 ml_X7_94 rfl rg_7 lc_7 vq_10 (by decide) rfl (Nat.le_of_ble_eq_true rfl) (fun x29 => ?_)
              exact PWk.zret dX7_readStatement_322 rfl (fun h => h)
      · refine PWk.aload_n 0 dX7_readStatement_49 rfl ?_
        refine PWk.gets dX7_readStatement_50 rg_6 lc_6 fl_X7_14 rfl st_6_0 ?_
        refine PWk.bipush (v := 6) dX7_readStatement_53 bp_6 ?_
        refine PWk.callViI (pc_X10_fail x3.2 L R 6) dX7_readStatement_55 ml_X7_53 rfl rg_7 lc_7 vq_10 (by decide) rfl (Nat.le_of_ble_eq_true rfl) (fun x32 => ?_)
        exact PWk.zret dX7_readStatement_58 rfl (fun h => h)
/-! LakeMarket$Reader.readAll(ILLakeMarket$Lowland;)Z -/
def f_X7_readAll_L22 (fu : Nat) : Nat → HI → HR → Int32 → Option ((Int32 × HI × HR) ⊕ (HI × HR))
  | 0, _, _, _ => none
  | n + 1, I, R, u3 =>
    if 80 < u3 then
      some (.inr (I, R))
    else
      if (I 7 3) = 0 then
        some (.inr (I, R))
      else
        (f_X7_readStatement fu I R).bind fun x5 =>
        if x5.1 = 0 then
          gz 0 (some (.inl (0, x5.2.1, x5.2.2)))
        else
          f_X7_readAll_L22 fu n x5.2.1 x5.2.2 (u3 + 1)
def f_X7_readAll (fu : Nat) (I : HI) (R : HR) (p1 : Int32) (a2 : Nat) : Option (Int32 × HI × HR) :=
  bnd (sR R 6 2 a2) fun R1 =>
  gr (okLd (R1 6 2)) <|
  (f_X2_clear fu I (R1 6 2)).bind fun x3 =>
  (f_X10_begin fu x3 p1).bind fun x4 =>
  (f_X7_readAll_L22 fu fu x4 R1 0).bind (Sum.elim (fun r => some r) fun x9 =>
  gz 1 (some (1, x9.1, x9.2)))
set_option maxRecDepth 20000 in
theorem lp_X7_readAll_22 (fu : Nat) (L : HL) : ∀ (n : Nat) (u3 : Int32) (I : HI) (R : HR) (N : ((Int32 × HI × HR) ⊕ (HI × HR)) → Prop) (F : HF), (∀ v : HI × HR, N (.inr v) → PW 1 93 89 RX7 cX7_readAll 4 (some .boolean) 53 [] [] v.1 L v.2 F) → (∀ r : Int32 × HI × HR, N (.inl r) → F = (fun x : Int32 × HI × HR => ((some (.int x.1), x.2.1, L, x.2.2) : HF)) r) → PWk 1 93 89 RX7 cX7_readAll 4 (some .boolean) 22 [(0, .ref 6), (3, .int u3)] [] I L R (f_X7_readAll_L22 fu n I R u3) N F := by
  intro n
  induction n with
  | zero => intro u3 I R N F hx hr; exact PWk.none'
  | succ n ih =>
    intro u3 I R N F hx hr
    unfold f_X7_readAll_L22
    refine PWk.iload_n 1 dX7_readAll_22 rfl ?_
    refine PWk.bipush (v := 80) dX7_readAll_23 bp_80 ?_
    refine PWk.icmp_gt 53 dX7_readAll_25 (by decide) (fun h8 => ?_) (fun h8 => ?_)
    · refine PWk.sub [] rfl ?_
      exact PWk.done (fun h => hx _ h)
    · refine PWk.aload_n 0 dX7_readAll_28 rfl ?_
      refine PWk.gets dX7_readAll_29 rg_6 lc_6 fl_X7_14 rfl st_6_0 ?_
      refine PWk.geti dX7_readAll_32 rg_7 lc_7 fl_X7_42 rfl ?_
      refine PWk.if_eq 53 dX7_readAll_35 (by decide) (fun h7 => ?_) (fun h7 => ?_)
      · refine PWk.sub [] rfl ?_
        exact PWk.done (fun h => hx _ h)
      · refine PWk.aload_n 0 dX7_readAll_38 rfl ?_
        refine PWk.callViIR (pc_X7_readStatement fu I L R) dX7_readAll_39 ml_X7_46 rfl rg_6 lc_6 vq_7 (by decide) rfl (Nat.le_of_ble_eq_true rfl) (fun x5 => ?_)
        refine PWk.if_ne 47 dX7_readAll_42 (by decide) (fun h6 => ?_) (fun h6 => ?_)
        · refine PWk.iconst (v := 0) dX7_readAll_45 ic_0 ?_
          exact PWk.zret dX7_readAll_46 rfl (hr _)
        · refine PWk.iinc (v := (u3 + 1)) 1 [(3, .int (u3 + 1)), (0, .ref 6)] dX7_readAll_47 rfl (by rw [ic_1]) (by decide) rfl ?_
          refine PWk.goto 22 dX7_readAll_50 (by decide) ?_
          refine PWk.sub [1, 0] rfl ?_
          exact ih (u3 + 1) x5.2.1 x5.2.2 N F hx hr
set_option maxRecDepth 20000 in
theorem pc_X7_readAll (fu : Nat) (I : HI) (L : HL) (R : HR) (p1 : Int32) (a2 : Nat) (hy_a2 : isLd a2) : PCo 1 93 89 yX7_readAll cX7_readAll 4 (some .boolean) [.ref 6, .int p1, .ref a2] I L R (f_X7_readAll fu I R p1 a2) (fun x : Int32 × HI × HR => ((some (.int x.1), x.2.1, L, x.2.2) : HF)) := by
  refine PCo.of (own := RX7) (by decide +kernel) (Nat.le_of_ble_eq_true rfl) rfl rfl (fun F => ?_)
  unfold f_X7_readAll
  refine PWk.aload_n 0 dX7_readAll_0 rfl ?_
  refine PWk.aload_n 2 dX7_readAll_1 rfl ?_
  refine PWk.putr dX7_readAll_2 rg_6 lc_6 fl_X7_29 fp_7_2 rfl (neLd hy_a2) ?_
  refine PWk.bR (fun R1 => ?_)
  refine PWk.aload_n 0 dX7_readAll_5 rfl ?_
  refine PWk.getr dX7_readAll_6 rg_6 lc_6 fl_X7_29 rfl okLd_ne (fun hk2 => ?_)
  refine PWk.callVvI (pc_X2_clear fu I L R1 (R1 6 2) (okLd_is hk2)) dX7_readAll_9 ml_X7_33 rfl (rgLd_0 (okLd_is hk2)) (lcLd (okLd_is hk2)) vq_2 (by decide) rfl (Nat.le_of_ble_eq_true rfl) (fun x3 => ?_)
  refine PWk.aload_n 0 dX7_readAll_12 rfl ?_
  refine PWk.gets dX7_readAll_13 rg_6 lc_6 fl_X7_14 rfl st_6_0 ?_
  refine PWk.iload_n 1 dX7_readAll_16 rfl ?_
  refine PWk.callVvI (pc_X10_begin fu x3 L R1 p1) dX7_readAll_17 ml_X7_38 rfl rg_7 lc_7 vq_10 (by decide) rfl (Nat.le_of_ble_eq_true rfl) (fun x4 => ?_)
  refine PWk.iconst (v := 0) dX7_readAll_20 ic_0 ?_
  refine PWk.istore_n [(3, .int 0), (0, .ref 6), (1, .int p1), (2, .ref a2)] dX7_readAll_21 (by decide) rfl ?_
  refine PWk.sub [1, 0] rfl ?_
  refine PWk.loopS (fun N' hx' hr' => lp_X7_readAll_22 fu L fu 0 x4 R1 N' F hx' hr') (fun r a e h => by cases e; exact h) (fun x9 => ?_)
  refine PWk.iconst (v := 1) dX7_readAll_53 ic_1 ?_
  exact PWk.zret dX7_readAll_54 rfl (fun h => h)
