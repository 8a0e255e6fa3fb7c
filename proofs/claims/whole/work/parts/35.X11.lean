/-! LakeMarket.putFour(I)V -/
def f_X11_putFour_L3 : Nat → HI → Int32 → Int32 → Option (HI)
  | 0, _, _, _ => none
  | n + 1, I, u1, u2 =>
    if u2 < 0 then
      some I
    else
      if 1600 ≤ (I 1 1) then
        some I
      else
        inb 1600 (I 1 1) <|
        bnd (sI I 2 ((I 1 1) : Int32).toNatClampNeg (((u1 : Int32).toUInt32 >>> ((u2 : Int32).toUInt32 &&& Int32.toUInt32 31)).toInt32 &&& 255)) fun I1 =>
        bnd (sI I1 1 1 ((I1 1 1) + 1)) fun I2 =>
        f_X11_putFour_L3 n I2 u1 (u2 + (-8))
def f_X11_putFour (fu : Nat) (I : HI) (p1 : Int32) : Option (HI) :=
  (f_X11_putFour_L3 fu I p1 24).bind fun x5 =>
  some x5
set_option maxRecDepth 20000 in
theorem lp_X11_putFour_3 (fu : Nat) (u1 : Int32) (L : HL) (R : HR) : ∀ (n : Nat) (u2 : Int32) (I : HI) (N : (HI) → Prop) (F : HF), (∀ v : HI, N v → PW 1 93 0 RX11 cX11_putFour 3 none 49 [] [] v L R F) → PWk 1 93 0 RX11 cX11_putFour 3 none 3 [(0, .ref 1), (1, .int u1), (2, .int u2)] [] I L R (f_X11_putFour_L3 n I u1 u2) N F := by
  intro n
  induction n with
  | zero => intro u2 I N F hx; exact PWk.none'
  | succ n ih =>
    intro u2 I N F hx
    unfold f_X11_putFour_L3
    refine PWk.iload_n 2 dX11_putFour_3 rfl ?_
    refine PWk.if_lt 49 dX11_putFour_4 (by decide) (fun h4 => ?_) (fun h4 => ?_)
    · refine PWk.sub [] rfl ?_
      exact PWk.done (fun h => hx _ h)
    · refine PWk.aload_n 0 dX11_putFour_7 rfl ?_
      refine PWk.geti dX11_putFour_8 rg_1 lc_1 fl_X11_97 rfl ?_
      refine PWk.sipush (v := 1600) dX11_putFour_11 sp_1600 ?_
      refine PWk.icmp_ge 49 dX11_putFour_14 (by decide) (fun h3 => ?_) (fun h3 => ?_)
      · refine PWk.sub [] rfl ?_
        exact PWk.done (fun h => hx _ h)
      · refine PWk.aload_n 0 dX11_putFour_17 rfl ?_
        refine PWk.gets dX11_putFour_18 rg_1 lc_1 fl_X11_9 rfl st_1_0 ?_
        refine PWk.aload_n 0 dX11_putFour_21 rfl ?_
        refine PWk.geti dX11_putFour_22 rg_1 lc_1 fl_X11_97 rfl ?_
        refine PWk.iload_n 1 dX11_putFour_25 rfl ?_
        refine PWk.iload_n 2 dX11_putFour_26 rfl ?_
        refine PWk.iushr dX11_putFour_27 ?_
        refine PWk.sipush (v := 255) dX11_putFour_28 sp_255 ?_
        refine PWk.iand dX11_putFour_31 ?_
        refine PWk.iast dX11_putFour_32 rg_2 ly_2 ?_
        refine PWk.bI (fun I1 => ?_)
        refine PWk.aload_n 0 dX11_putFour_33 rfl ?_
        refine PWk.dup dX11_putFour_34 rfl ?_
        refine PWk.geti dX11_putFour_35 rg_1 lc_1 fl_X11_97 rfl ?_
        refine PWk.iconst (v := 1) dX11_putFour_38 ic_1 ?_
        refine PWk.iadd dX11_putFour_39 ?_
        refine PWk.puti dX11_putFour_40 rg_1 lc_1 fl_X11_97 fp_11_1 rfl ?_
        refine PWk.bI (fun I2 => ?_)
        refine PWk.iinc (v := (u2 + (-8))) 2 [(2, .int (u2 + (-8))), (0, .ref 1), (1, .int u1)] dX11_putFour_43 rfl (by rw [ic_m8]) (by decide) rfl ?_
        refine PWk.goto 3 dX11_putFour_46 (by decide) ?_
        refine PWk.sub [1, 2, 0] rfl ?_
        exact ih (u2 + (-8)) I2 N F hx
set_option maxRecDepth 20000 in
theorem pc_X11_putFour (fu : Nat) (I : HI) (L : HL) (R : HR) (p1 : Int32) : PCo 1 93 0 yX11_putFour cX11_putFour 3 none [.ref 1, .int p1] I L R (f_X11_putFour fu I p1) (fun x : HI => ((none, x, L, R) : HF)) := by
  refine PCo.of (own := RX11) (by decide +kernel) (Nat.le_of_ble_eq_true rfl) rfl rfl (fun F => ?_)
  unfold f_X11_putFour
  refine PWk.bipush (v := 24) dX11_putFour_0 bp_24 ?_
  refine PWk.istore_n [(2, .int 24), (0, .ref 1), (1, .int p1)] dX11_putFour_2 (by decide) rfl ?_
  refine PWk.sub [1, 2, 0] rfl ?_
  refine PWk.loopV (fun N' hx' => lp_X11_putFour_3 fu p1 L R fu 24 I N' F hx') (fun x5 => ?_)
  exact PWk.vret dX11_putFour_49 rfl (fun h => h)
/-! LakeMarket.takeTape()I -/
def f_X11_takeTape (I : HI) : Option (Int32 × HI) :=
  bnd (sI I 1 1 0) fun I1 =>
  some ((I 1 1), I1)
set_option maxRecDepth 20000 in
theorem pc_X11_takeTape (I : HI) (L : HL) (R : HR) : PCo 1 93 0 yX11_takeTape cX11_takeTape 2 (some .int) [.ref 1] I L R (f_X11_takeTape I) (fun x : Int32 × HI => ((some (.int x.1), x.2, L, R) : HF)) := by
  refine PCo.of (own := RX11) (by decide +kernel) (Nat.le_of_ble_eq_true rfl) rfl rfl (fun F => ?_)
  unfold f_X11_takeTape
  refine PWk.aload_n 0 dX11_takeTape_0 rfl ?_
  refine PWk.geti dX11_takeTape_1 rg_1 lc_1 fl_X11_97 rfl ?_
  refine PWk.istore_n [(1, .int (I 1 1)), (0, .ref 1)] dX11_takeTape_4 (by decide) rfl ?_
  refine PWk.aload_n 1 dX11_takeTape_5 rfl ?_
  refine PWk.iconst (v := 0) dX11_takeTape_6 ic_0 ?_
  refine PWk.puti dX11_takeTape_7 rg_1 lc_1 fl_X11_97 fp_11_1 rfl ?_
  refine PWk.bI (fun I1 => ?_)
  refine PWk.iload_n 0 dX11_takeTape_10 rfl ?_
  exact PWk.iret dX11_takeTape_11 rfl (fun h => h)
/-! LakeMarket.refuse(I)I -/
def f_X11_refuse (I : HI) (p1 : Int32) : Option (Int32 × HI) :=
  ldI (I 5) 6 p1 fun v1 =>
  inb 6 p1 <|
  bnd (sI I 5 (p1 : Int32).toNatClampNeg (v1 + 1)) fun I2 =>
  some ((-1), I2)
set_option maxRecDepth 20000 in
theorem pc_X11_refuse (I : HI) (L : HL) (R : HR) (p1 : Int32) : PCo 1 93 0 yX11_refuse cX11_refuse 2 (some .int) [.ref 1, .int p1] I L R (f_X11_refuse I p1) (fun x : Int32 × HI => ((some (.int x.1), x.2, L, R) : HF)) := by
  refine PCo.of (own := RX11) (by decide +kernel) (Nat.le_of_ble_eq_true rfl) rfl rfl (fun F => ?_)
  unfold f_X11_refuse
  refine PWk.aload_n 0 dX11_refuse_0 rfl ?_
  refine PWk.gets dX11_refuse_1 rg_1 lc_1 fl_X11_90 rfl st_1_18 ?_
  refine PWk.iload_n 1 dX11_refuse_4 rfl ?_
  refine PWk.dup2 dX11_refuse_5 rfl rfl ?_
  refine PWk.iald dX11_refuse_6 rg_5 ly_5 (fun v1 => ?_)
  refine PWk.iconst (v := 1) dX11_refuse_7 ic_1 ?_
  refine PWk.iadd dX11_refuse_8 ?_
  refine PWk.iast dX11_refuse_9 rg_5 ly_5 ?_
  refine PWk.bI (fun I2 => ?_)
  refine PWk.iconst (v := (-1)) dX11_refuse_10 ic_m1 ?_
  exact PWk.iret dX11_refuse_11 rfl (fun h => h)
/-! LakeMarket.forgetActs()V -/
def f_X11_forgetActs (I : HI) : Option (HI) :=
  (f_X1_forget I).bind fun x1 =>
  bnd (sI x1 32 1 0) fun I2 =>
  some I2
set_option maxRecDepth 20000 in
theorem pc_X11_forgetActs (I : HI) (L : HL) (R : HR) : PCo 1 93 1 yX11_forgetActs cX11_forgetActs 1 none [.ref 1] I L R (f_X11_forgetActs I) (fun x : HI => ((none, x, L, R) : HF)) := by
  refine PCo.of (own := RX11) (by decide +kernel) (Nat.le_of_ble_eq_true rfl) rfl rfl (fun F => ?_)
  unfold f_X11_forgetActs
  refine PWk.aload_n 0 dX11_forgetActs_0 rfl ?_
  refine PWk.gets dX11_forgetActs_1 rg_1 lc_1 fl_X11_49 rfl st_1_9 ?_
  refine PWk.callVvI (pc_X1_forget I L R) dX11_forgetActs_4 ml_X11_136 rfl rg_9 lc_9 vq_1 (by decide) rfl (Nat.le_of_ble_eq_true rfl) (fun x1 => ?_)
  refine PWk.aload_n 0 dX11_forgetActs_7 rfl ?_
  refine PWk.gets dX11_forgetActs_8 rg_1 lc_1 fl_X11_56 rfl st_1_10 ?_
  refine PWk.iconst (v := 0) dX11_forgetActs_11 ic_0 ?_
  refine PWk.puti dX11_forgetActs_12 rg_32 lc_32 fl_X11_139 fp_5_1 rfl ?_
  refine PWk.bI (fun I2 => ?_)
  exact PWk.vret dX11_forgetActs_15 rfl (fun h => h)
/-! LakeMarket.fault(I)I -/
def f_X11_fault (I : HI) (p1 : Int32) : Option (Int32) :=
  if p1 = 0 then
    some (I 1 5)
  else
    if p1 = 1 then
      some (I 1 6)
    else
      some (-1)
set_option maxRecDepth 20000 in
theorem pc_X11_fault (I : HI) (L : HL) (R : HR) (p1 : Int32) : PCo 1 93 0 yX11_fault cX11_fault 2 (some .int) [.ref 1, .int p1] I L R (f_X11_fault I p1) (fun x : Int32 => ((some (.int x), I, L, R) : HF)) := by
  refine PCo.of (own := RX11) (by decide +kernel) (Nat.le_of_ble_eq_true rfl) rfl rfl (fun F => ?_)
  unfold f_X11_fault
  refine PWk.iload_n 1 dX11_fault_0 rfl ?_
  refine PWk.if_ne 9 dX11_fault_1 (by decide) (fun h2 => ?_) (fun h2 => ?_)
  · refine PWk.aload_n 0 dX11_fault_4 rfl ?_
    refine PWk.geti dX11_fault_5 rg_1 lc_1 fl_X11_125 rfl ?_
    exact PWk.iret dX11_fault_8 rfl (fun h => h)
  · refine PWk.iload_n 1 dX11_fault_9 rfl ?_
    refine PWk.iconst (v := 1) dX11_fault_10 ic_1 ?_
    refine PWk.icmp_ne 21 dX11_fault_11 (by decide) (fun h1 => ?_) (fun h1 => ?_)
    · refine PWk.aload_n 0 dX11_fault_14 rfl ?_
      refine PWk.geti dX11_fault_15 rg_1 lc_1 fl_X11_32 rfl ?_
      refine PWk.goto 22 dX11_fault_18 (by decide) ?_
      exact PWk.iret dX11_fault_22 rfl (fun h => h)
    · refine PWk.iconst (v := (-1)) dX11_fault_21 ic_m1 ?_
      exact PWk.iret dX11_fault_22 rfl (fun h => h)
/-! LakeMarket.has(I)I -/
def f_X11_has (fu : Nat) (I : HI) (R : HR) (p1 : Int32) : Option (Int32 × HI) :=
  if p1 = 0 then
    gr (okLd (R 1 2)) <|
    some ((I (R 1 2) 1), I)
  else
  if p1 = 1 then
    gr (okLd (R 1 2)) <|
    some ((I (R 1 2) 2), I)
  else
  if p1 = 2 then
    gr (okLd (R 1 2)) <|
    some ((I (R 1 2) 3), I)
  else
  if p1 = 3 then
    some ((I 49 1), I)
  else
  if p1 = 4 then
    (f_X9_standing fu I R 49).bind fun x4 =>
    some (x4, I)
  else
  if p1 = 5 then
    (f_X9_allBarrels fu I R 49).bind fun x5 =>
    some (x5, I)
  else
  if p1 = 6 then
    (f_X9_worthOfAll fu I R 49).bind fun x6 =>
    some (x6.1, x6.2)
  else
  if p1 = 7 then
    (f_X9_allDebts fu I R 49).bind fun x7 =>
    some (x7, I)
  else
  if p1 = 8 then
    (f_X5_count I).bind fun x8 =>
    some (x8, I)
  else
  if p1 = 9 then
    some ((I 9 3), I)
  else
  if p1 = 10 then
    some ((I 1 17), I)
  else
    some ((-1), I)
set_option maxRecDepth 20000 in
theorem pc_X11_has (fu : Nat) (I : HI) (L : HL) (R : HR) (p1 : Int32) : PCo 1 93 7 yX11_has cX11_has 2 (some .int) [.ref 1, .int p1] I L R (f_X11_has fu I R p1) (fun x : Int32 × HI => ((some (.int x.1), x.2, L, R) : HF)) := by
  refine PCo.of (own := RX11) (by decide +kernel) (Nat.le_of_ble_eq_true rfl) rfl rfl (fun F => ?_)
  unfold f_X11_has
  refine PWk.iload_n 1 dX11_has_0 rfl ?_
  refine PWk.ite (fun h9 => ?_) (fun h9 => ?_)
  · refine PWk.tIn 60 (off := 59) (v := 0) dX11_has_1 (by rw [h9]; decide) (by decide) (by decide) (by decide +kernel) (by decide) ?_
    refine PWk.aload_n 0 dX11_has_60 rfl ?_
    refine PWk.getr dX11_has_61 rg_1 lc_1 fl_X11_16 rfl okLd_ne (fun hk1 => ?_)
    refine PWk.geti dX11_has_64 (rgLd_0 (okLd_is hk1)) (lcLd (okLd_is hk1)) fl_X11_142 rfl ?_
    exact PWk.iret dX11_has_67 rfl (fun h => h)
  · skip
    refine PWk.ite (fun h10 => ?_) (fun h10 => ?_)
    · refine PWk.tIn 68 (off := 67) (v := 1) dX11_has_1 (by rw [h10]; decide) (by decide) (by decide) (by decide +kernel) (by decide) ?_
      refine PWk.aload_n 0 dX11_has_68 rfl ?_
      refine PWk.getr dX11_has_69 rg_1 lc_1 fl_X11_16 rfl okLd_ne (fun hk2 => ?_)
      refine PWk.geti dX11_has_72 (rgLd_0 (okLd_is hk2)) (lcLd (okLd_is hk2)) fl_X11_145 rfl ?_
      exact PWk.iret dX11_has_75 rfl (fun h => h)
    · skip
      refine PWk.ite (fun h11 => ?_) (fun h11 => ?_)
      · refine PWk.tIn 76 (off := 75) (v := 2) dX11_has_1 (by rw [h11]; decide) (by decide) (by decide) (by decide +kernel) (by decide) ?_
        refine PWk.aload_n 0 dX11_has_76 rfl ?_
        refine PWk.getr dX11_has_77 rg_1 lc_1 fl_X11_16 rfl okLd_ne (fun hk3 => ?_)
        refine PWk.geti dX11_has_80 (rgLd_0 (okLd_is hk3)) (lcLd (okLd_is hk3)) fl_X11_148 rfl ?_
        exact PWk.iret dX11_has_83 rfl (fun h => h)
      · skip
        refine PWk.ite (fun h12 => ?_) (fun h12 => ?_)
        · refine PWk.tIn 84 (off := 83) (v := 3) dX11_has_1 (by rw [h12]; decide) (by decide) (by decide) (by decide +kernel) (by decide) ?_
          refine PWk.aload_n 0 dX11_has_84 rfl ?_
          refine PWk.gets dX11_has_85 rg_1 lc_1 fl_X11_39 rfl st_1_7 ?_
          refine PWk.geti dX11_has_88 rg_49 lc_49 fl_X11_151 rfl ?_
          exact PWk.iret dX11_has_91 rfl (fun h => h)
        · skip
          refine PWk.ite (fun h13 => ?_) (fun h13 => ?_)
          · refine PWk.tIn 92 (off := 91) (v := 4) dX11_has_1 (by rw [h13]; decide) (by decide) (by decide) (by decide +kernel) (by decide) ?_
            refine PWk.aload_n 0 dX11_has_92 rfl ?_
            refine PWk.gets dX11_has_93 rg_1 lc_1 fl_X11_39 rfl st_1_7 ?_
            refine PWk.callVi (pc_X9_standing fu I L R 49 isSc_49) dX11_has_96 ml_X11_154 rfl rg_49 lc_49 vq_9 (by decide) rfl (Nat.le_of_ble_eq_true rfl) (fun x4 => ?_)
            exact PWk.iret dX11_has_99 rfl (fun h => h)
          · skip
            refine PWk.ite (fun h14 => ?_) (fun h14 => ?_)
            · refine PWk.tIn 100 (off := 99) (v := 5) dX11_has_1 (by rw [h14]; decide) (by decide) (by decide) (by decide +kernel) (by decide) ?_
              refine PWk.aload_n 0 dX11_has_100 rfl ?_
              refine PWk.gets dX11_has_101 rg_1 lc_1 fl_X11_39 rfl st_1_7 ?_
              refine PWk.callVi (pc_X9_allBarrels fu I L R 49 isSc_49) dX11_has_104 ml_X11_157 rfl rg_49 lc_49 vq_9 (by decide) rfl (Nat.le_of_ble_eq_true rfl) (fun x5 => ?_)
              exact PWk.iret dX11_has_107 rfl (fun h => h)
            · skip
              refine PWk.ite (fun h15 => ?_) (fun h15 => ?_)
              · refine PWk.tIn 108 (off := 107) (v := 6) dX11_has_1 (by rw [h15]; decide) (by decide) (by decide) (by decide +kernel) (by decide) ?_
                refine PWk.aload_n 0 dX11_has_108 rfl ?_
                refine PWk.gets dX11_has_109 rg_1 lc_1 fl_X11_39 rfl st_1_7 ?_
                refine PWk.callViI (pc_X9_worthOfAll fu I L R 49 isSc_49) dX11_has_112 ml_X11_160 rfl rg_49 lc_49 vq_9 (by decide) rfl (Nat.le_of_ble_eq_true rfl) (fun x6 => ?_)
                exact PWk.iret dX11_has_115 rfl (fun h => h)
              · skip
                refine PWk.ite (fun h16 => ?_) (fun h16 => ?_)
                · refine PWk.tIn 116 (off := 115) (v := 7) dX11_has_1 (by rw [h16]; decide) (by decide) (by decide) (by decide +kernel) (by decide) ?_
                  refine PWk.aload_n 0 dX11_has_116 rfl ?_
                  refine PWk.gets dX11_has_117 rg_1 lc_1 fl_X11_39 rfl st_1_7 ?_
                  refine PWk.callVi (pc_X9_allDebts fu I L R 49 isSc_49) dX11_has_120 ml_X11_163 rfl rg_49 lc_49 vq_9 (by decide) rfl (Nat.le_of_ble_eq_true rfl) (fun x7 => ?_)
                  exact PWk.iret dX11_has_123 rfl (fun h => h)
                · skip
                  refine PWk.ite (fun h17 => ?_) (fun h17 => ?_)
                  · refine PWk.tIn 124 (off := 123) (v := 8) dX11_has_1 (by rw [h17]; decide) (by decide) (by decide) (by decide +kernel) (by decide) ?_
                    refine PWk.aload_n 0 dX11_has_124 rfl ?_
                    refine PWk.gets dX11_has_125 rg_1 lc_1 fl_X11_56 rfl st_1_10 ?_
                    refine PWk.callVi (pc_X5_count I L R) dX11_has_128 ml_X11_166 rfl rg_32 lc_32 vq_5 (by decide) rfl (Nat.le_of_ble_eq_true rfl) (fun x8 => ?_)
                    exact PWk.iret dX11_has_131 rfl (fun h => h)
                  · skip
                    refine PWk.ite (fun h18 => ?_) (fun h18 => ?_)
                    · refine PWk.tIn 132 (off := 131) (v := 9) dX11_has_1 (by rw [h18]; decide) (by decide) (by decide) (by decide +kernel) (by decide) ?_
                      refine PWk.aload_n 0 dX11_has_132 rfl ?_
                      refine PWk.gets dX11_has_133 rg_1 lc_1 fl_X11_49 rfl st_1_9 ?_
                      refine PWk.geti dX11_has_136 rg_9 lc_9 fl_X11_169 rfl ?_
                      exact PWk.iret dX11_has_139 rfl (fun h => h)
                    · skip
                      refine PWk.ite (fun h19 => ?_) (fun h19 => ?_)
                      · refine PWk.tIn 140 (off := 139) (v := 10) dX11_has_1 (by rw [h19]; decide) (by decide) (by decide) (by decide +kernel) (by decide) ?_
                        refine PWk.aload_n 0 dX11_has_140 rfl ?_
                        refine PWk.geti dX11_has_141 rg_1 lc_1 fl_X11_87 rfl ?_
                        exact PWk.iret dX11_has_144 rfl (fun h => h)
                      · skip
                        have q_0 : (p1).toInt ≠ 0 := fun e => h9 (Int32.toInt_inj.mp (e.trans (by decide)))
                        have q_1 : (p1).toInt ≠ 1 := fun e => h10 (Int32.toInt_inj.mp (e.trans (by decide)))
                        have q_2 : (p1).toInt ≠ 2 := fun e => h11 (Int32.toInt_inj.mp (e.trans (by decide)))
                        have q_3 : (p1).toInt ≠ 3 := fun e => h12 (Int32.toInt_inj.mp (e.trans (by decide)))
                        have q_4 : (p1).toInt ≠ 4 := fun e => h13 (Int32.toInt_inj.mp (e.trans (by decide)))
                        have q_5 : (p1).toInt ≠ 5 := fun e => h14 (Int32.toInt_inj.mp (e.trans (by decide)))
                        have q_6 : (p1).toInt ≠ 6 := fun e => h15 (Int32.toInt_inj.mp (e.trans (by decide)))
                        have q_7 : (p1).toInt ≠ 7 := fun e => h16 (Int32.toInt_inj.mp (e.trans (by decide)))
                        have q_8 : (p1).toInt ≠ 8 := fun e => h17 (Int32.toInt_inj.mp (e.trans (by decide)))
                        have q_9 : (p1).toInt ≠ 9 := fun e => h18 (Int32.toInt_inj.mp (e.trans (by decide)))
                        have q_10 : (p1).toInt ≠ 10 := fun e => h19 (Int32.toInt_inj.mp (e.trans (by decide)))
                        refine PWk.tOut 145 dX11_has_1 (by omega) (by decide) ?_
                        refine PWk.iconst (v := (-1)) dX11_has_145 ic_m1 ?_
                        exact PWk.iret dX11_has_146 rfl (fun h => h)
/-! LakeMarket.letter(III)I -/
def f_X11_letter (I : HI) (R : HR) (p1 : Int32) (p2 : Int32) (p3 : Int32) : Option (Int32) :=
  if p3 < 0 then
    some (-1)
  else
    if p3 ≤ 5 then
      jnt (β := Unit) (fun y8 =>
        jnt (β := Unit) (fun y16 =>
          if p1 = 2 then
            (f_X9_isLake I R 49 p2).bind fun x17 =>
            if x17 = 0 then
              some (-1)
            else
              gr (okLd (R 1 2)) <|
              ldI (I ((R 1 2) + 3)) 8 p2 fun v19 =>
              (f_X2_letterOf (R 1 2) v19 p3).bind fun x20 =>
              some x20
          else
            some (-1)) fun j9 =>
        if p1 = 1 then
          (f_X9_isOwner I R 49 p2).bind fun x10 =>
          if x10 = 0 then
            j9 ()
          else
            gr (okLd (R 1 2)) <|
            ldI (I ((R 1 2) + 2)) 6 p2 fun v12 =>
            (f_X2_letterOf (R 1 2) v12 p3).bind fun x13 =>
            some x13
        else
          j9 ()) fun j1 =>
      if p1 = 0 then
        (f_X9_isHollow I R 49 p2).bind fun x2 =>
        if x2 = 0 then
          j1 ()
        else
          gr (okLd (R 1 2)) <|
          ldI (I ((R 1 2) + 1)) 8 p2 fun v4 =>
          (f_X2_letterOf (R 1 2) v4 p3).bind fun x5 =>
          some x5
      else
        j1 ()
    else
      some (-1)
set_option maxRecDepth 20000 in
theorem pc_X11_letter (I : HI) (L : HL) (R : HR) (p1 : Int32) (p2 : Int32) (p3 : Int32) : PCo 1 93 1 yX11_letter cX11_letter 4 (some .int) [.ref 1, .int p1, .int p2, .int p3] I L R (f_X11_letter I R p1 p2 p3) (fun x : Int32 => ((some (.int x), I, L, R) : HF)) := by
  refine PCo.of (own := RX11) (by decide +kernel) (Nat.le_of_ble_eq_true rfl) rfl rfl (fun F => ?_)
  unfold f_X11_letter
  refine PWk.iload_n 3 dX11_letter_0 rfl ?_
  refine PWk.if_lt 9 dX11_letter_1 (by decide) (fun h24 => ?_) (fun h24 => ?_)
  · refine PWk.iconst (v := (-1)) dX11_letter_9 ic_m1 ?_
    exact PWk.iret dX11_letter_10 rfl (fun h => h)
  · refine PWk.iload_n 3 dX11_letter_4 rfl ?_
    refine PWk.iconst (v := 5) dX11_letter_5 ic_5 ?_
    refine PWk.icmp_le 11 dX11_letter_6 (by decide) (fun h23 => ?_) (fun h23 => ?_)
    · refine PWk.iload_n 1 dX11_letter_11 rfl ?_
      refine PWk.jn (pc' := 44) (lv' := fun y8 => [(0, .ref 1), (1, .int p1), (2, .int p2), (3, .int p3)]) (st' := fun y8 => []) (I' := fun y8 => I) (L' := fun y8 => L) (R' := fun y8 => R) (fun j1 hj1 => ?_) (fun y8 => ?_)
      · refine PWk.if_ne 44 dX11_letter_12 (by decide) (fun h7 => ?_) (fun h7 => ?_)
        · refine PWk.aload_n 0 dX11_letter_15 rfl ?_
          refine PWk.gets dX11_letter_16 rg_1 lc_1 fl_X11_39 rfl st_1_7 ?_
          refine PWk.iload_n 2 dX11_letter_19 rfl ?_
          refine PWk.callVi (pc_X9_isHollow I L R 49 isSc_49 p2) dX11_letter_20 ml_X11_172 rfl rg_49 lc_49 vq_9 (by decide) rfl (Nat.le_of_ble_eq_true rfl) (fun x2 => ?_)
          refine PWk.if_eq 44 dX11_letter_23 (by decide) (fun h6 => ?_) (fun h6 => ?_)
          · exact hj1 ()
          · refine PWk.aload_n 0 dX11_letter_26 rfl ?_
            refine PWk.getr dX11_letter_27 rg_1 lc_1 fl_X11_16 rfl okLd_ne (fun hk3 => ?_)
            refine PWk.aload_n 0 dX11_letter_30 rfl ?_
            refine PWk.getrk dX11_letter_31 rg_1 lc_1 fl_X11_16 rfl (neLd (okLd_is hk3)) ?_
            refine PWk.gets dX11_letter_34 (rgLd_0 (okLd_is hk3)) (lcLd (okLd_is hk3)) fl_X11_176 rfl (stLd_6 (okLd_is hk3)) ?_
            refine PWk.iload_n 2 dX11_letter_37 rfl ?_
            refine PWk.iald dX11_letter_38 (rgLd_1 (okLd_is hk3)) (lyLd_1 (okLd_is hk3)) (fun v4 => ?_)
            refine PWk.iload_n 3 dX11_letter_39 rfl ?_
            refine PWk.callVi (pc_X2_letterOf I L R (R 1 2) (okLd_is hk3) v4 p3) dX11_letter_40 ml_X11_179 rfl (rgLd_0 (okLd_is hk3)) (lcLd (okLd_is hk3)) vq_2 (by decide) rfl (Nat.le_of_ble_eq_true rfl) (fun x5 => ?_)
            exact PWk.iret dX11_letter_43 rfl (fun h => h)
        · exact hj1 ()
      · refine PWk.iload_n 1 dX11_letter_44 rfl ?_
        refine PWk.iconst (v := 1) dX11_letter_45 ic_1 ?_
        refine PWk.jn (pc' := 78) (lv' := fun y16 => [(0, .ref 1), (1, .int p1), (2, .int p2), (3, .int p3)]) (st' := fun y16 => []) (I' := fun y16 => I) (L' := fun y16 => L) (R' := fun y16 => R) (fun j9 hj9 => ?_) (fun y16 => ?_)
        · refine PWk.icmp_ne 78 dX11_letter_46 (by decide) (fun h15 => ?_) (fun h15 => ?_)
          · refine PWk.aload_n 0 dX11_letter_49 rfl ?_
            refine PWk.gets dX11_letter_50 rg_1 lc_1 fl_X11_39 rfl st_1_7 ?_
            refine PWk.iload_n 2 dX11_letter_53 rfl ?_
            refine PWk.callVi (pc_X9_isOwner I L R 49 isSc_49 p2) dX11_letter_54 ml_X11_183 rfl rg_49 lc_49 vq_9 (by decide) rfl (Nat.le_of_ble_eq_true rfl) (fun x10 => ?_)
            refine PWk.if_eq 78 dX11_letter_57 (by decide) (fun h14 => ?_) (fun h14 => ?_)
            · exact hj9 ()
            · refine PWk.aload_n 0 dX11_letter_60 rfl ?_
              refine PWk.getr dX11_letter_61 rg_1 lc_1 fl_X11_16 rfl okLd_ne (fun hk11 => ?_)
              refine PWk.aload_n 0 dX11_letter_64 rfl ?_
              refine PWk.getrk dX11_letter_65 rg_1 lc_1 fl_X11_16 rfl (neLd (okLd_is hk11)) ?_
              refine PWk.gets dX11_letter_68 (rgLd_0 (okLd_is hk11)) (lcLd (okLd_is hk11)) fl_X11_186 rfl (stLd_7 (okLd_is hk11)) ?_
              refine PWk.iload_n 2 dX11_letter_71 rfl ?_
              refine PWk.iald dX11_letter_72 (rgLd_2 (okLd_is hk11)) (lyLd_2 (okLd_is hk11)) (fun v12 => ?_)
              refine PWk.iload_n 3 dX11_letter_73 rfl ?_
              refine PWk.callVi (pc_X2_letterOf I L R (R 1 2) (okLd_is hk11) v12 p3) dX11_letter_74 ml_X11_179 rfl (rgLd_0 (okLd_is hk11)) (lcLd (okLd_is hk11)) vq_2 (by decide) rfl (Nat.le_of_ble_eq_true rfl) (fun x13 => ?_)
              exact PWk.iret dX11_letter_77 rfl (fun h => h)
          · exact hj9 ()
        · refine PWk.iload_n 1 dX11_letter_78 rfl ?_
          refine PWk.iconst (v := 2) dX11_letter_79 ic_2 ?_
          refine PWk.icmp_ne 112 dX11_letter_80 (by decide) (fun h22 => ?_) (fun h22 => ?_)
          · refine PWk.aload_n 0 dX11_letter_83 rfl ?_
            refine PWk.gets dX11_letter_84 rg_1 lc_1 fl_X11_39 rfl st_1_7 ?_
            refine PWk.iload_n 2 dX11_letter_87 rfl ?_
            refine PWk.callVi (pc_X9_isLake I L R 49 isSc_49 p2) dX11_letter_88 ml_X11_189 rfl rg_49 lc_49 vq_9 (by decide) rfl (Nat.le_of_ble_eq_true rfl) (fun x17 => ?_)
            refine PWk.if_eq 112 dX11_letter_91 (by decide) (fun h21 => ?_) (fun h21 => ?_)
            · refine PWk.iconst (v := (-1)) dX11_letter_112 ic_m1 ?_
              exact PWk.iret dX11_letter_113 rfl (fun h => h)
            · refine PWk.aload_n 0 dX11_letter_94 rfl ?_
              refine PWk.getr dX11_letter_95 rg_1 lc_1 fl_X11_16 rfl okLd_ne (fun hk18 => ?_)
              refine PWk.aload_n 0 dX11_letter_98 rfl ?_
              refine PWk.getrk dX11_letter_99 rg_1 lc_1 fl_X11_16 rfl (neLd (okLd_is hk18)) ?_
              refine PWk.gets dX11_letter_102 (rgLd_0 (okLd_is hk18)) (lcLd (okLd_is hk18)) fl_X11_192 rfl (stLd_8 (okLd_is hk18)) ?_
              refine PWk.iload_n 2 dX11_letter_105 rfl ?_
              refine PWk.iald dX11_letter_106 (rgLd_3 (okLd_is hk18)) (lyLd_3 (okLd_is hk18)) (fun v19 => ?_)
              refine PWk.iload_n 3 dX11_letter_107 rfl ?_
              refine PWk.callVi (pc_X2_letterOf I L R (R 1 2) (okLd_is hk18) v19 p3) dX11_letter_108 ml_X11_179 rfl (rgLd_0 (okLd_is hk18)) (lcLd (okLd_is hk18)) vq_2 (by decide) rfl (Nat.le_of_ble_eq_true rfl) (fun x20 => ?_)
              exact PWk.iret dX11_letter_111 rfl (fun h => h)
          · refine PWk.iconst (v := (-1)) dX11_letter_112 ic_m1 ?_
            exact PWk.iret dX11_letter_113 rfl (fun h => h)
    · refine PWk.iconst (v := (-1)) dX11_letter_9 ic_m1 ?_
      exact PWk.iret dX11_letter_10 rfl (fun h => h)
/-! LakeMarket.hollow(II)I -/
def f_X11_hollow (fu : Nat) (I : HI) (R : HR) (p1 : Int32) (p2 : Int32) : Option (Int32) :=
  (f_X9_isHollow I R 49 p1).bind fun x1 =>
  if x1 = 0 then
    some (-1)
  else
    if p2 = 0 then
      gr (okLd (R 1 2)) <|
      ldI (I ((R 1 2) + 4)) 8 p1 fun v3 =>
      some v3
    else
    if p2 = 1 then
      gr (okLd (R 1 2)) <|
      ldI (I ((R 1 2) + 5)) 8 p1 fun v5 =>
      some v5
    else
    if p2 = 2 then
      (f_X9_roomIn fu I R 49 p1).bind fun x6 =>
      some x6
    else
    if p2 = 3 then
      (f_X9_lakesIn fu I R 49 p1).bind fun x7 =>
      some x7
    else
      some (-1)
set_option maxRecDepth 20000 in
theorem pc_X11_hollow (fu : Nat) (I : HI) (L : HL) (R : HR) (p1 : Int32) (p2 : Int32) : PCo 1 93 1 yX11_hollow cX11_hollow 3 (some .int) [.ref 1, .int p1, .int p2] I L R (f_X11_hollow fu I R p1 p2) (fun x : Int32 => ((some (.int x), I, L, R) : HF)) := by
  refine PCo.of (own := RX11) (by decide +kernel) (Nat.le_of_ble_eq_true rfl) rfl rfl (fun F => ?_)
  unfold f_X11_hollow
  refine PWk.aload_n 0 dX11_hollow_0 rfl ?_
  refine PWk.gets dX11_hollow_1 rg_1 lc_1 fl_X11_39 rfl st_1_7 ?_
  refine PWk.iload_n 1 dX11_hollow_4 rfl ?_
  refine PWk.callVi (pc_X9_isHollow I L R 49 isSc_49 p1) dX11_hollow_5 ml_X11_172 rfl rg_49 lc_49 vq_9 (by decide) rfl (Nat.le_of_ble_eq_true rfl) (fun x1 => ?_)
  refine PWk.if_ne 13 dX11_hollow_8 (by decide) (fun h12 => ?_) (fun h12 => ?_)
  · refine PWk.iconst (v := (-1)) dX11_hollow_11 ic_m1 ?_
    exact PWk.iret dX11_hollow_12 rfl (fun h => h)
  · refine PWk.iload_n 2 dX11_hollow_13 rfl ?_
    refine PWk.ite (fun h8 => ?_) (fun h8 => ?_)
    · refine PWk.tIn 44 (off := 30) (v := 0) dX11_hollow_14 (by rw [h8]; decide) (by decide) (by decide) (by decide +kernel) (by decide) ?_
      refine PWk.aload_n 0 dX11_hollow_44 rfl ?_
      refine PWk.getr dX11_hollow_45 rg_1 lc_1 fl_X11_16 rfl okLd_ne (fun hk2 => ?_)
      refine PWk.gets dX11_hollow_48 (rgLd_0 (okLd_is hk2)) (lcLd (okLd_is hk2)) fl_X11_195 rfl (stLd_9 (okLd_is hk2)) ?_
      refine PWk.iload_n 1 dX11_hollow_51 rfl ?_
      refine PWk.iald dX11_hollow_52 (rgLd_4 (okLd_is hk2)) (lyLd_4 (okLd_is hk2)) (fun v3 => ?_)
      exact PWk.iret dX11_hollow_53 rfl (fun h => h)
    · skip
      refine PWk.ite (fun h9 => ?_) (fun h9 => ?_)
      · refine PWk.tIn 54 (off := 40) (v := 1) dX11_hollow_14 (by rw [h9]; decide) (by decide) (by decide) (by decide +kernel) (by decide) ?_
        refine PWk.aload_n 0 dX11_hollow_54 rfl ?_
        refine PWk.getr dX11_hollow_55 rg_1 lc_1 fl_X11_16 rfl okLd_ne (fun hk4 => ?_)
        refine PWk.gets dX11_hollow_58 (rgLd_0 (okLd_is hk4)) (lcLd (okLd_is hk4)) fl_X11_198 rfl (stLd_10 (okLd_is hk4)) ?_
        refine PWk.iload_n 1 dX11_hollow_61 rfl ?_
        refine PWk.iald dX11_hollow_62 (rgLd_5 (okLd_is hk4)) (lyLd_5 (okLd_is hk4)) (fun v5 => ?_)
        exact PWk.iret dX11_hollow_63 rfl (fun h => h)
      · skip
        refine PWk.ite (fun h10 => ?_) (fun h10 => ?_)
        · refine PWk.tIn 64 (off := 50) (v := 2) dX11_hollow_14 (by rw [h10]; decide) (by decide) (by decide) (by decide +kernel) (by decide) ?_
          refine PWk.aload_n 0 dX11_hollow_64 rfl ?_
          refine PWk.gets dX11_hollow_65 rg_1 lc_1 fl_X11_39 rfl st_1_7 ?_
          refine PWk.iload_n 1 dX11_hollow_68 rfl ?_
          refine PWk.callVi (pc_X9_roomIn fu I L R 49 isSc_49 p1) dX11_hollow_69 ml_X11_201 rfl rg_49 lc_49 vq_9 (by decide) rfl (Nat.le_of_ble_eq_true rfl) (fun x6 => ?_)
          exact PWk.iret dX11_hollow_72 rfl (fun h => h)
        · skip
          refine PWk.ite (fun h11 => ?_) (fun h11 => ?_)
          · refine PWk.tIn 73 (off := 59) (v := 3) dX11_hollow_14 (by rw [h11]; decide) (by decide) (by decide) (by decide +kernel) (by decide) ?_
            refine PWk.aload_n 0 dX11_hollow_73 rfl ?_
            refine PWk.gets dX11_hollow_74 rg_1 lc_1 fl_X11_39 rfl st_1_7 ?_
            refine PWk.iload_n 1 dX11_hollow_77 rfl ?_
            refine PWk.callVi (pc_X9_lakesIn fu I L R 49 isSc_49 p1) dX11_hollow_78 ml_X11_204 rfl rg_49 lc_49 vq_9 (by decide) rfl (Nat.le_of_ble_eq_true rfl) (fun x7 => ?_)
            exact PWk.iret dX11_hollow_81 rfl (fun h => h)
          · skip
            have q_0 : (p2).toInt ≠ 0 := fun e => h8 (Int32.toInt_inj.mp (e.trans (by decide)))
            have q_1 : (p2).toInt ≠ 1 := fun e => h9 (Int32.toInt_inj.mp (e.trans (by decide)))
            have q_2 : (p2).toInt ≠ 2 := fun e => h10 (Int32.toInt_inj.mp (e.trans (by decide)))
            have q_3 : (p2).toInt ≠ 3 := fun e => h11 (Int32.toInt_inj.mp (e.trans (by decide)))
            refine PWk.tOut 82 dX11_hollow_14 (by omega) (by decide) ?_
            refine PWk.iconst (v := (-1)) dX11_hollow_82 ic_m1 ?_
            exact PWk.iret dX11_hollow_83 rfl (fun h => h)
/-! LakeMarket.lake(II)I -/
def f_X11_lake (fu : Nat) (I : HI) (R : HR) (p1 : Int32) (p2 : Int32) : Option (Int32 × HI) :=
  (f_X9_isLake I R 49 p1).bind fun x1 =>
  if x1 = 0 then
    some ((-1), I)
  else
    if p2 = 0 then
      ldI (I 50) 8 p1 fun v2 =>
      some (v2, I)
    else
    if p2 = 1 then
      ldI (I 51) 8 p1 fun v3 =>
      some (v3, I)
    else
    if p2 = 2 then
      ldI (I 52) 8 p1 fun v4 =>
      some (v4, I)
    else
    if p2 = 3 then
      (f_X9_worthOf fu I R 49 p1).bind fun x5 =>
      some (x5.1, x5.2)
    else
    if p2 = 4 then
      (f_X9_leakOf fu I R 49 p1 0).bind fun x6 =>
      some (x6.1, x6.2)
    else
      some ((-1), I)
set_option maxRecDepth 20000 in
theorem pc_X11_lake (fu : Nat) (I : HI) (L : HL) (R : HR) (p1 : Int32) (p2 : Int32) : PCo 1 93 5 yX11_lake cX11_lake 3 (some .int) [.ref 1, .int p1, .int p2] I L R (f_X11_lake fu I R p1 p2) (fun x : Int32 × HI => ((some (.int x.1), x.2, L, R) : HF)) := by
  refine PCo.of (own := RX11) (by decide +kernel) (Nat.le_of_ble_eq_true rfl) rfl rfl (fun F => ?_)
  unfold f_X11_lake
  refine PWk.aload_n 0 dX11_lake_0 rfl ?_
  refine PWk.gets dX11_lake_1 rg_1 lc_1 fl_X11_39 rfl st_1_7 ?_
  refine PWk.iload_n 1 dX11_lake_4 rfl ?_
  refine PWk.callVi (pc_X9_isLake I L R 49 isSc_49 p1) dX11_lake_5 ml_X11_189 rfl rg_49 lc_49 vq_9 (by decide) rfl (Nat.le_of_ble_eq_true rfl) (fun x1 => ?_)
  refine PWk.if_ne 13 dX11_lake_8 (by decide) (fun h12 => ?_) (fun h12 => ?_)
  · refine PWk.iconst (v := (-1)) dX11_lake_11 ic_m1 ?_
    exact PWk.iret dX11_lake_12 rfl (fun h => h)
  · refine PWk.iload_n 2 dX11_lake_13 rfl ?_
    refine PWk.ite (fun h7 => ?_) (fun h7 => ?_)
    · refine PWk.tIn 48 (off := 34) (v := 0) dX11_lake_14 (by rw [h7]; decide) (by decide) (by decide) (by decide +kernel) (by decide) ?_
      refine PWk.aload_n 0 dX11_lake_48 rfl ?_
      refine PWk.gets dX11_lake_49 rg_1 lc_1 fl_X11_39 rfl st_1_7 ?_
      refine PWk.gets dX11_lake_52 rg_49 lc_49 fl_X11_207 rfl st_49_2 ?_
      refine PWk.iload_n 1 dX11_lake_55 rfl ?_
      refine PWk.iald dX11_lake_56 rg_50 ly_50 (fun v2 => ?_)
      exact PWk.iret dX11_lake_57 rfl (fun h => h)
    · skip
      refine PWk.ite (fun h8 => ?_) (fun h8 => ?_)
      · refine PWk.tIn 58 (off := 44) (v := 1) dX11_lake_14 (by rw [h8]; decide) (by decide) (by decide) (by decide +kernel) (by decide) ?_
        refine PWk.aload_n 0 dX11_lake_58 rfl ?_
        refine PWk.gets dX11_lake_59 rg_1 lc_1 fl_X11_39 rfl st_1_7 ?_
        refine PWk.gets dX11_lake_62 rg_49 lc_49 fl_X11_210 rfl st_49_3 ?_
        refine PWk.iload_n 1 dX11_lake_65 rfl ?_
        refine PWk.iald dX11_lake_66 rg_51 ly_51 (fun v3 => ?_)
        exact PWk.iret dX11_lake_67 rfl (fun h => h)
      · skip
        refine PWk.ite (fun h9 => ?_) (fun h9 => ?_)
        · refine PWk.tIn 68 (off := 54) (v := 2) dX11_lake_14 (by rw [h9]; decide) (by decide) (by decide) (by decide +kernel) (by decide) ?_
          refine PWk.aload_n 0 dX11_lake_68 rfl ?_
          refine PWk.gets dX11_lake_69 rg_1 lc_1 fl_X11_39 rfl st_1_7 ?_
          refine PWk.gets dX11_lake_72 rg_49 lc_49 fl_X11_213 rfl st_49_4 ?_
          refine PWk.iload_n 1 dX11_lake_75 rfl ?_
          refine PWk.iald dX11_lake_76 rg_52 ly_52 (fun v4 => ?_)
          exact PWk.iret dX11_lake_77 rfl (fun h => h)
        · skip
          refine PWk.ite (fun h10 => ?_) (fun h10 => ?_)
          · refine PWk.tIn 78 (off := 64) (v := 3) dX11_lake_14 (by rw [h10]; decide) (by decide) (by decide) (by decide +kernel) (by decide) ?_
            refine PWk.aload_n 0 dX11_lake_78 rfl ?_
            refine PWk.gets dX11_lake_79 rg_1 lc_1 fl_X11_39 rfl st_1_7 ?_
            refine PWk.iload_n 1 dX11_lake_82 rfl ?_
            refine PWk.callViI (pc_X9_worthOf fu I L R 49 isSc_49 p1) dX11_lake_83 ml_X11_216 rfl rg_49 lc_49 vq_9 (by decide) rfl (Nat.le_of_ble_eq_true rfl) (fun x5 => ?_)
            exact PWk.iret dX11_lake_86 rfl (fun h => h)
          · skip
            refine PWk.ite (fun h11 => ?_) (fun h11 => ?_)
            · refine PWk.tIn 87 (off := 73) (v := 4) dX11_lake_14 (by rw [h11]; decide) (by decide) (by decide) (by decide +kernel) (by decide) ?_
              refine PWk.aload_n 0 dX11_lake_87 rfl ?_
              refine PWk.gets dX11_lake_88 rg_1 lc_1 fl_X11_39 rfl st_1_7 ?_
              refine PWk.iload_n 1 dX11_lake_91 rfl ?_
              refine PWk.iconst (v := 0) dX11_lake_92 ic_0 ?_
              refine PWk.callViI (pc_X9_leakOf fu I L R 49 isSc_49 p1 0) dX11_lake_93 ml_X11_219 rfl rg_49 lc_49 vq_9 (by decide) rfl (Nat.le_of_ble_eq_true rfl) (fun x6 => ?_)
              exact PWk.iret dX11_lake_96 rfl (fun h => h)
            · skip
              have q_0 : (p2).toInt ≠ 0 := fun e => h7 (Int32.toInt_inj.mp (e.trans (by decide)))
              have q_1 : (p2).toInt ≠ 1 := fun e => h8 (Int32.toInt_inj.mp (e.trans (by decide)))
              have q_2 : (p2).toInt ≠ 2 := fun e => h9 (Int32.toInt_inj.mp (e.trans (by decide)))
              have q_3 : (p2).toInt ≠ 3 := fun e => h10 (Int32.toInt_inj.mp (e.trans (by decide)))
              have q_4 : (p2).toInt ≠ 4 := fun e => h11 (Int32.toInt_inj.mp (e.trans (by decide)))
              refine PWk.tOut 97 dX11_lake_14 (by omega) (by decide) ?_
              refine PWk.iconst (v := (-1)) dX11_lake_97 ic_m1 ?_
              exact PWk.iret dX11_lake_98 rfl (fun h => h)
/-! LakeMarket.owner(II)I -/
def f_X11_owner (fu : Nat) (I : HI) (R : HR) (p1 : Int32) (p2 : Int32) : Option (Int32 × HI) :=
  (f_X9_isOwner I R 49 p1).bind fun x1 =>
  if x1 = 0 then
    some ((-1), I)
  else
    if p2 = 0 then
      (f_X9_lakesOf fu I R 49 p1).bind fun x2 =>
      some (x2, I)
    else
    if p2 = 1 then
      (f_X9_worthOfOwner fu I R 49 p1).bind fun x3 =>
      some (x3.1, x3.2)
    else
    if p2 = 2 then
      (f_X9_owedBy fu I R 49 p1).bind fun x4 =>
      some (x4, I)
    else
    if p2 = 3 then
      (f_X9_owedTo fu I R 49 p1).bind fun x5 =>
      some (x5, I)
    else
    if p2 = 4 then
      (f_X9_isBroke fu I R 49 p1).bind fun x6 =>
      if x6.1 = 0 then
        some (0, x6.2)
      else
        some (1, x6.2)
    else
      some ((-1), I)
set_option maxRecDepth 20000 in
theorem pc_X11_owner (fu : Nat) (I : HI) (L : HL) (R : HR) (p1 : Int32) (p2 : Int32) : PCo 1 93 7 yX11_owner cX11_owner 3 (some .int) [.ref 1, .int p1, .int p2] I L R (f_X11_owner fu I R p1 p2) (fun x : Int32 × HI => ((some (.int x.1), x.2, L, R) : HF)) := by
  refine PCo.of (own := RX11) (by decide +kernel) (Nat.le_of_ble_eq_true rfl) rfl rfl (fun F => ?_)
  unfold f_X11_owner
  refine PWk.aload_n 0 dX11_owner_0 rfl ?_
  refine PWk.gets dX11_owner_1 rg_1 lc_1 fl_X11_39 rfl st_1_7 ?_
  refine PWk.iload_n 1 dX11_owner_4 rfl ?_
  refine PWk.callVi (pc_X9_isOwner I L R 49 isSc_49 p1) dX11_owner_5 ml_X11_183 rfl rg_49 lc_49 vq_9 (by decide) rfl (Nat.le_of_ble_eq_true rfl) (fun x1 => ?_)
  refine PWk.if_ne 13 dX11_owner_8 (by decide) (fun h13 => ?_) (fun h13 => ?_)
  · refine PWk.iconst (v := (-1)) dX11_owner_11 ic_m1 ?_
    exact PWk.iret dX11_owner_12 rfl (fun h => h)
  · refine PWk.iload_n 2 dX11_owner_13 rfl ?_
    refine PWk.ite (fun h8 => ?_) (fun h8 => ?_)
    · refine PWk.tIn 48 (off := 34) (v := 0) dX11_owner_14 (by rw [h8]; decide) (by decide) (by decide) (by decide +kernel) (by decide) ?_
      refine PWk.aload_n 0 dX11_owner_48 rfl ?_
      refine PWk.gets dX11_owner_49 rg_1 lc_1 fl_X11_39 rfl st_1_7 ?_
      refine PWk.iload_n 1 dX11_owner_52 rfl ?_
      refine PWk.callVi (pc_X9_lakesOf fu I L R 49 isSc_49 p1) dX11_owner_53 ml_X11_222 rfl rg_49 lc_49 vq_9 (by decide) rfl (Nat.le_of_ble_eq_true rfl) (fun x2 => ?_)
      exact PWk.iret dX11_owner_56 rfl (fun h => h)
    · skip
      refine PWk.ite (fun h9 => ?_) (fun h9 => ?_)
      · refine PWk.tIn 57 (off := 43) (v := 1) dX11_owner_14 (by rw [h9]; decide) (by decide) (by decide) (by decide +kernel) (by decide) ?_
        refine PWk.aload_n 0 dX11_owner_57 rfl ?_
        refine PWk.gets dX11_owner_58 rg_1 lc_1 fl_X11_39 rfl st_1_7 ?_
        refine PWk.iload_n 1 dX11_owner_61 rfl ?_
        refine PWk.callViI (pc_X9_worthOfOwner fu I L R 49 isSc_49 p1) dX11_owner_62 ml_X11_225 rfl rg_49 lc_49 vq_9 (by decide) rfl (Nat.le_of_ble_eq_true rfl) (fun x3 => ?_)
        exact PWk.iret dX11_owner_65 rfl (fun h => h)
      · skip
        refine PWk.ite (fun h10 => ?_) (fun h10 => ?_)
        · refine PWk.tIn 66 (off := 52) (v := 2) dX11_owner_14 (by rw [h10]; decide) (by decide) (by decide) (by decide +kernel) (by decide) ?_
          refine PWk.aload_n 0 dX11_owner_66 rfl ?_
          refine PWk.gets dX11_owner_67 rg_1 lc_1 fl_X11_39 rfl st_1_7 ?_
          refine PWk.iload_n 1 dX11_owner_70 rfl ?_
          refine PWk.callVi (pc_X9_owedBy fu I L R 49 isSc_49 p1) dX11_owner_71 ml_X11_228 rfl rg_49 lc_49 vq_9 (by decide) rfl (Nat.le_of_ble_eq_true rfl) (fun x4 => ?_)
          exact PWk.iret dX11_owner_74 rfl (fun h => h)
        · skip
          refine PWk.ite (fun h11 => ?_) (fun h11 => ?_)
          · refine PWk.tIn 75 (off := 61) (v := 3) dX11_owner_14 (by rw [h11]; decide) (by decide) (by decide) (by decide +kernel) (by decide) ?_
            refine PWk.aload_n 0 dX11_owner_75 rfl ?_
            refine PWk.gets dX11_owner_76 rg_1 lc_1 fl_X11_39 rfl st_1_7 ?_
            refine PWk.iload_n 1 dX11_owner_79 rfl ?_
            refine PWk.callVi (pc_X9_owedTo fu I L R 49 isSc_49 p1) dX11_owner_80 ml_X11_231 rfl rg_49 lc_49 vq_9 (by decide) rfl (Nat.le_of_ble_eq_true rfl) (fun x5 => ?_)
            exact PWk.iret dX11_owner_83 rfl (fun h => h)
          · skip
            refine PWk.ite (fun h12 => ?_) (fun h12 => ?_)
            · refine PWk.tIn 84 (off := 70) (v := 4) dX11_owner_14 (by rw [h12]; decide) (by decide) (by decide) (by decide +kernel) (by decide) ?_
              refine PWk.aload_n 0 dX11_owner_84 rfl ?_
              refine PWk.gets dX11_owner_85 rg_1 lc_1 fl_X11_39 rfl st_1_7 ?_
              refine PWk.iload_n 1 dX11_owner_88 rfl ?_
              refine PWk.callViI (pc_X9_isBroke fu I L R 49 isSc_49 p1) dX11_owner_89 ml_X11_234 rfl rg_49 lc_49 vq_9 (by decide) rfl (Nat.le_of_ble_eq_true rfl) (fun x6 => ?_)
              refine PWk.if_eq 99 dX11_owner_92 (by decide) (fun h7 => ?_) (fun h7 => ?_)
              · refine PWk.iconst (v := 0) dX11_owner_99 ic_0 ?_
                exact PWk.iret dX11_owner_100 rfl (fun h => h)
              · refine PWk.iconst (v := 1) dX11_owner_95 ic_1 ?_
                refine PWk.goto 100 dX11_owner_96 (by decide) ?_
                exact PWk.iret dX11_owner_100 rfl (fun h => h)
            · skip
              have q_0 : (p2).toInt ≠ 0 := fun e => h8 (Int32.toInt_inj.mp (e.trans (by decide)))
              have q_1 : (p2).toInt ≠ 1 := fun e => h9 (Int32.toInt_inj.mp (e.trans (by decide)))
              have q_2 : (p2).toInt ≠ 2 := fun e => h10 (Int32.toInt_inj.mp (e.trans (by decide)))
              have q_3 : (p2).toInt ≠ 3 := fun e => h11 (Int32.toInt_inj.mp (e.trans (by decide)))
              have q_4 : (p2).toInt ≠ 4 := fun e => h12 (Int32.toInt_inj.mp (e.trans (by decide)))
              refine PWk.tOut 101 dX11_owner_14 (by omega) (by decide) ?_
              refine PWk.iconst (v := (-1)) dX11_owner_101 ic_m1 ?_
              exact PWk.iret dX11_owner_102 rfl (fun h => h)
/-! LakeMarket.owes(II)I -/
def f_X11_owes (I : HI) (R : HR) (p1 : Int32) (p2 : Int32) : Option (Int32) :=
  (f_X9_areTwoOwners I R 49 p1 p2).bind fun x1 =>
  if x1 = 0 then
    some (-1)
  else
    ldI (I 53) 36 ((p1 * 6) + p2) fun v2 =>
    some v2
set_option maxRecDepth 20000 in
theorem pc_X11_owes (I : HI) (L : HL) (R : HR) (p1 : Int32) (p2 : Int32) : PCo 1 93 2 yX11_owes cX11_owes 3 (some .int) [.ref 1, .int p1, .int p2] I L R (f_X11_owes I R p1 p2) (fun x : Int32 => ((some (.int x), I, L, R) : HF)) := by
  refine PCo.of (own := RX11) (by decide +kernel) (Nat.le_of_ble_eq_true rfl) rfl rfl (fun F => ?_)
  unfold f_X11_owes
  refine PWk.aload_n 0 dX11_owes_0 rfl ?_
  refine PWk.gets dX11_owes_1 rg_1 lc_1 fl_X11_39 rfl st_1_7 ?_
  refine PWk.iload_n 1 dX11_owes_4 rfl ?_
  refine PWk.iload_n 2 dX11_owes_5 rfl ?_
  refine PWk.callVi (pc_X9_areTwoOwners I L R 49 isSc_49 p1 p2) dX11_owes_6 ml_X11_237 rfl rg_49 lc_49 vq_9 (by decide) rfl (Nat.le_of_ble_eq_true rfl) (fun x1 => ?_)
  refine PWk.if_ne 14 dX11_owes_9 (by decide) (fun h3 => ?_) (fun h3 => ?_)
  · refine PWk.iconst (v := (-1)) dX11_owes_12 ic_m1 ?_
    exact PWk.iret dX11_owes_13 rfl (fun h => h)
  · refine PWk.aload_n 0 dX11_owes_14 rfl ?_
    refine PWk.gets dX11_owes_15 rg_1 lc_1 fl_X11_39 rfl st_1_7 ?_
    refine PWk.gets dX11_owes_18 rg_49 lc_49 fl_X11_241 rfl st_49_5 ?_
    refine PWk.iload_n 1 dX11_owes_21 rfl ?_
    refine PWk.bipush (v := 6) dX11_owes_22 bp_6 ?_
    refine PWk.imul dX11_owes_24 ?_
    refine PWk.iload_n 2 dX11_owes_25 rfl ?_
    refine PWk.iadd dX11_owes_26 ?_
    refine PWk.iald dX11_owes_27 rg_53 ly_53 (fun v2 => ?_)
    exact PWk.iret dX11_owes_28 rfl (fun h => h)
/-! LakeMarket.nightsCanBe(I)Z -/
def f_X11_nightsCanBe (I : HI) (p1 : Int32) : Option (Int32) :=
  if p1 < 0 then
    gz 0 (some 0)
  else
    if 100 < p1 then
      gz 0 (some 0)
    else
      if 9999 < ((I 49 1) + p1) then
        gz 0 (some 0)
      else
        gz 1 (some 1)
set_option maxRecDepth 20000 in
theorem pc_X11_nightsCanBe (I : HI) (L : HL) (R : HR) (p1 : Int32) : PCo 1 93 0 yX11_nightsCanBe cX11_nightsCanBe 2 (some .boolean) [.ref 1, .int p1] I L R (f_X11_nightsCanBe I p1) (fun x : Int32 => ((some (.int x), I, L, R) : HF)) := by
  refine PCo.of (own := RX11) (by decide +kernel) (Nat.le_of_ble_eq_true rfl) rfl rfl (fun F => ?_)
  unfold f_X11_nightsCanBe
  refine PWk.iload_n 1 dX11_nightsCanBe_0 rfl ?_
  refine PWk.if_lt 29 dX11_nightsCanBe_1 (by decide) (fun h3 => ?_) (fun h3 => ?_)
  · refine PWk.iconst (v := 0) dX11_nightsCanBe_29 ic_0 ?_
    exact PWk.zret dX11_nightsCanBe_30 rfl (fun h => h)
  · refine PWk.iload_n 1 dX11_nightsCanBe_4 rfl ?_
    refine PWk.bipush (v := 100) dX11_nightsCanBe_5 bp_100 ?_
    refine PWk.icmp_gt 29 dX11_nightsCanBe_7 (by decide) (fun h2 => ?_) (fun h2 => ?_)
    · refine PWk.iconst (v := 0) dX11_nightsCanBe_29 ic_0 ?_
      exact PWk.zret dX11_nightsCanBe_30 rfl (fun h => h)
    · refine PWk.aload_n 0 dX11_nightsCanBe_10 rfl ?_
      refine PWk.gets dX11_nightsCanBe_11 rg_1 lc_1 fl_X11_39 rfl st_1_7 ?_
      refine PWk.geti dX11_nightsCanBe_14 rg_49 lc_49 fl_X11_151 rfl ?_
      refine PWk.iload_n 1 dX11_nightsCanBe_17 rfl ?_
      refine PWk.iadd dX11_nightsCanBe_18 ?_
      refine PWk.sipush (v := 9999) dX11_nightsCanBe_19 sp_9999 ?_
      refine PWk.icmp_gt 29 dX11_nightsCanBe_22 (by decide) (fun h1 => ?_) (fun h1 => ?_)
      · refine PWk.iconst (v := 0) dX11_nightsCanBe_29 ic_0 ?_
        exact PWk.zret dX11_nightsCanBe_30 rfl (fun h => h)
      · refine PWk.iconst (v := 1) dX11_nightsCanBe_25 ic_1 ?_
        refine PWk.goto 30 dX11_nightsCanBe_26 (by decide) ?_
        exact PWk.zret dX11_nightsCanBe_30 rfl (fun h => h)
/-! LakeMarket.later(II)I -/
def f_X11_later_L39 (fu : Nat) : Nat → HI → HR → Int32 → Int32 → Option (HI)
  | 0, _, _, _, _ => none
  | n + 1, I, R, u1, u3 =>
    if u1 ≤ u3 then
      some I
    else
      (f_X9_passNight fu I R 58 0).bind fun x8 =>
      f_X11_later_L39 fu n x8.2 R u1 (u3 + 1)
def f_X11_later (fu : Nat) (I : HI) (R : HR) (p1 : Int32) (p2 : Int32) : Option (Int32 × HI × HR) :=
  (f_X11_nightsCanBe I p1).bind fun x1 =>
  if x1 = 0 then
    some ((-1), I, R)
  else
    jnt (β := Unit) (fun y6 =>
      (f_X9_copyFrom I R 58 49).bind fun x7 =>
      (f_X11_later_L39 fu fu x7.1 x7.2 p1 0).bind fun x10 =>
      if p2 = (-1) then
        (f_X9_worthOfAll fu x10 x7.2 58).bind fun x11 =>
        some (x11.1, x11.2, x7.2)
      else
        ldI (x10 59) 8 p2 fun v12 =>
        some (v12, x10, x7.2)) fun j2 =>
    if p2 = (-1) then
      j2 ()
    else
      (f_X9_isLake I R 49 p2).bind fun x3 =>
      if x3 = 0 then
        some ((-1), I, R)
      else
        j2 ()
set_option maxRecDepth 20000 in
theorem lp_X11_later_39 (fu : Nat) (u1 : Int32) (u2 : Int32) (L : HL) (R : HR) : ∀ (n : Nat) (u3 : Int32) (I : HI) (N : (HI) → Prop) (F : HF), (∀ v : HI, N v → PW 1 93 7 RX11 cX11_later 4 (some .int) 59 [(0, .ref 1), (2, .int u2)] [] v L R F) → PWk 1 93 7 RX11 cX11_later 4 (some .int) 39 [(0, .ref 1), (1, .int u1), (2, .int u2), (3, .int u3)] [] I L R (f_X11_later_L39 fu n I R u1 u3) N F := by
  intro n
  induction n with
  | zero => intro u3 I N F hx; exact PWk.none'
  | succ n ih =>
    intro u3 I N F hx
    unfold f_X11_later_L39
    refine PWk.iload_n 3 dX11_later_39 rfl ?_
    refine PWk.iload_n 1 dX11_later_40 rfl ?_
    refine PWk.icmp_ge 59 dX11_later_41 (by decide) (fun h9 => ?_) (fun h9 => ?_)
    · refine PWk.sub [0, 2] rfl ?_
      exact PWk.done (fun h => hx _ h)
    · refine PWk.aload_n 0 dX11_later_44 rfl ?_
      refine PWk.gets dX11_later_45 rg_1 lc_1 fl_X11_43 rfl st_1_8 ?_
      refine PWk.iconst (v := 0) dX11_later_48 ic_0 ?_
      refine PWk.callViI (pc_X9_passNight fu I L R 58 isSc_58 0) dX11_later_49 ml_X11_251 rfl rg_58 lc_58 vq_9 (by decide) rfl (Nat.le_of_ble_eq_true rfl) (fun x8 => ?_)
      refine PWk.pop dX11_later_52 rfl ?_
      refine PWk.iinc (v := (u3 + 1)) 3 [(3, .int (u3 + 1)), (0, .ref 1), (1, .int u1), (2, .int u2)] dX11_later_53 rfl (by rw [ic_1]) (by decide) rfl ?_
      refine PWk.goto 39 dX11_later_56 (by decide) ?_
      refine PWk.sub [1, 2, 3, 0] rfl ?_
      exact ih (u3 + 1) x8.2 N F hx
set_option maxRecDepth 20000 in
theorem pc_X11_later (fu : Nat) (I : HI) (L : HL) (R : HR) (p1 : Int32) (p2 : Int32) : PCo 1 93 7 yX11_later cX11_later 4 (some .int) [.ref 1, .int p1, .int p2] I L R (f_X11_later fu I R p1 p2) (fun x : Int32 × HI × HR => ((some (.int x.1), x.2.1, L, x.2.2) : HF)) := by
  refine PCo.of (own := RX11) (by decide +kernel) (Nat.le_of_ble_eq_true rfl) rfl rfl (fun F => ?_)
  unfold f_X11_later
  refine PWk.aload_n 0 dX11_later_0 rfl ?_
  refine PWk.iload_n 1 dX11_later_1 rfl ?_
  refine PWk.callVi (pc_X11_nightsCanBe I L R p1) dX11_later_2 ml_X11_244 rfl rg_1 lc_1 vq_11 (by decide) rfl (Nat.le_of_ble_eq_true rfl) (fun x1 => ?_)
  refine PWk.if_eq 24 dX11_later_5 (by decide) (fun h14 => ?_) (fun h14 => ?_)
  · refine PWk.iconst (v := (-1)) dX11_later_24 ic_m1 ?_
    exact PWk.iret dX11_later_25 rfl (fun h => h)
  · refine PWk.iload_n 2 dX11_later_8 rfl ?_
    refine PWk.iconst (v := (-1)) dX11_later_9 ic_m1 ?_
    refine PWk.jn (pc' := 26) (lv' := fun y6 => [(0, .ref 1), (1, .int p1), (2, .int p2)]) (st' := fun y6 => []) (I' := fun y6 => I) (L' := fun y6 => L) (R' := fun y6 => R) (fun j2 hj2 => ?_) (fun y6 => ?_)
    · refine PWk.icmp_eq 26 dX11_later_10 (by decide) (fun h5 => ?_) (fun h5 => ?_)
      · exact hj2 ()
      · refine PWk.aload_n 0 dX11_later_13 rfl ?_
        refine PWk.gets dX11_later_14 rg_1 lc_1 fl_X11_39 rfl st_1_7 ?_
        refine PWk.iload_n 2 dX11_later_17 rfl ?_
        refine PWk.callVi (pc_X9_isLake I L R 49 isSc_49 p2) dX11_later_18 ml_X11_189 rfl rg_49 lc_49 vq_9 (by decide) rfl (Nat.le_of_ble_eq_true rfl) (fun x3 => ?_)
        refine PWk.if_ne 26 dX11_later_21 (by decide) (fun h4 => ?_) (fun h4 => ?_)
        · refine PWk.iconst (v := (-1)) dX11_later_24 ic_m1 ?_
          exact PWk.iret dX11_later_25 rfl (fun h => h)
        · exact hj2 ()
    · refine PWk.aload_n 0 dX11_later_26 rfl ?_
      refine PWk.gets dX11_later_27 rg_1 lc_1 fl_X11_43 rfl st_1_8 ?_
      refine PWk.aload_n 0 dX11_later_30 rfl ?_
      refine PWk.gets dX11_later_31 rg_1 lc_1 fl_X11_39 rfl st_1_7 ?_
      refine PWk.callVvIR (pc_X9_copyFrom I L R 58 isSc_58 49 isSc_49) dX11_later_34 ml_X11_247 rfl rg_58 lc_58 vq_9 (by decide) rfl (Nat.le_of_ble_eq_true rfl) (fun x7 => ?_)
      refine PWk.iconst (v := 0) dX11_later_37 ic_0 ?_
      refine PWk.istore_n [(3, .int 0), (0, .ref 1), (1, .int p1), (2, .int p2)] dX11_later_38 (by decide) rfl ?_
      refine PWk.sub [1, 2, 3, 0] rfl ?_
      refine PWk.loopV (fun N' hx' => lp_X11_later_39 fu p1 p2 L x7.2 fu 0 x7.1 N' F hx') (fun x10 => ?_)
      refine PWk.iload_n 1 dX11_later_59 rfl ?_
      refine PWk.iconst (v := (-1)) dX11_later_60 ic_m1 ?_
      refine PWk.icmp_ne 74 dX11_later_61 (by decide) (fun h13 => ?_) (fun h13 => ?_)
      · refine PWk.aload_n 0 dX11_later_64 rfl ?_
        refine PWk.gets dX11_later_65 rg_1 lc_1 fl_X11_43 rfl st_1_8 ?_
        refine PWk.callViI (pc_X9_worthOfAll fu x10 L x7.2 58 isSc_58) dX11_later_68 ml_X11_160 rfl rg_58 lc_58 vq_9 (by decide) rfl (Nat.le_of_ble_eq_true rfl) (fun x11 => ?_)
        refine PWk.goto 83 dX11_later_71 (by decide) ?_
        exact PWk.iret dX11_later_83 rfl (fun h => h)
      · refine PWk.aload_n 0 dX11_later_74 rfl ?_
        refine PWk.gets dX11_later_75 rg_1 lc_1 fl_X11_43 rfl st_1_8 ?_
        refine PWk.gets dX11_later_78 rg_58 lc_58 fl_X11_207 rfl st_58_2 ?_
        refine PWk.iload_n 1 dX11_later_81 rfl ?_
        refine PWk.iald dX11_later_82 rg_59 ly_59 (fun v12 => ?_)
        exact PWk.iret dX11_later_83 rfl (fun h => h)
/-! LakeMarket.broke(I)I -/
def f_X11_broke_L37 (fu : Nat) : Nat → HI → HR → Int32 → Int32 → Option ((Int32 × HI × HR) ⊕ (HI))
  | 0, _, _, _, _ => none
  | n + 1, I, R, u1, u2 =>
    if 100 < u2 then
      some (.inr I)
    else
      (f_X11_nightsCanBe I u2).bind fun x4 =>
      if x4 = 0 then
        some (.inr I)
      else
        (f_X9_isBroke fu I R 58 u1).bind fun x5 =>
        if x5.1 = 0 then
          (f_X9_passNight fu x5.2 R 58 0).bind fun x6 =>
          f_X11_broke_L37 fu n x6.2 R u1 (u2 + 1)
        else
          some (.inl (u2, x5.2, R))
def f_X11_broke (fu : Nat) (I : HI) (R : HR) (p1 : Int32) : Option (Int32 × HI × HR) :=
  (f_X9_isOwner I R 49 p1).bind fun x1 =>
  if x1 = 0 then
    some ((-1), I, R)
  else
    (f_X9_owedBy fu I R 49 p1).bind fun x2 =>
    if x2 = 0 then
      some ((-1), I, R)
    else
      (f_X9_copyFrom I R 58 49).bind fun x3 =>
      (f_X11_broke_L37 fu fu x3.1 x3.2 p1 0).bind (Sum.elim (fun r => some r) fun x10 =>
      some ((-1), x10, x3.2))
set_option maxRecDepth 20000 in
theorem lp_X11_broke_37 (fu : Nat) (u1 : Int32) (L : HL) (R : HR) : ∀ (n : Nat) (u2 : Int32) (I : HI) (N : ((Int32 × HI × HR) ⊕ (HI)) → Prop) (F : HF), (∀ v : HI, N (.inr v) → PW 1 93 7 RX11 cX11_broke 3 (some .int) 79 [] [] v L R F) → (∀ r : Int32 × HI × HR, N (.inl r) → F = (fun x : Int32 × HI × HR => ((some (.int x.1), x.2.1, L, x.2.2) : HF)) r) → PWk 1 93 7 RX11 cX11_broke 3 (some .int) 37 [(0, .ref 1), (1, .int u1), (2, .int u2)] [] I L R (f_X11_broke_L37 fu n I R u1 u2) N F := by
  intro n
  induction n with
  | zero => intro u2 I N F hx hr; exact PWk.none'
  | succ n ih =>
    intro u2 I N F hx hr
    unfold f_X11_broke_L37
    refine PWk.iload_n 2 dX11_broke_37 rfl ?_
    refine PWk.bipush (v := 100) dX11_broke_38 bp_100 ?_
    refine PWk.icmp_gt 79 dX11_broke_40 (by decide) (fun h9 => ?_) (fun h9 => ?_)
    · refine PWk.sub [] rfl ?_
      exact PWk.done (fun h => hx _ h)
    · refine PWk.aload_n 0 dX11_broke_43 rfl ?_
      refine PWk.iload_n 2 dX11_broke_44 rfl ?_
      refine PWk.callVi (pc_X11_nightsCanBe I L R u2) dX11_broke_45 ml_X11_244 rfl rg_1 lc_1 vq_11 (by decide) rfl (Nat.le_of_ble_eq_true rfl) (fun x4 => ?_)
      refine PWk.if_eq 79 dX11_broke_48 (by decide) (fun h8 => ?_) (fun h8 => ?_)
      · refine PWk.sub [] rfl ?_
        exact PWk.done (fun h => hx _ h)
      · refine PWk.aload_n 0 dX11_broke_51 rfl ?_
        refine PWk.gets dX11_broke_52 rg_1 lc_1 fl_X11_43 rfl st_1_8 ?_
        refine PWk.iload_n 1 dX11_broke_55 rfl ?_
        refine PWk.callViI (pc_X9_isBroke fu I L R 58 isSc_58 u1) dX11_broke_56 ml_X11_234 rfl rg_58 lc_58 vq_9 (by decide) rfl (Nat.le_of_ble_eq_true rfl) (fun x5 => ?_)
        refine PWk.if_eq 64 dX11_broke_59 (by decide) (fun h7 => ?_) (fun h7 => ?_)
        · refine PWk.aload_n 0 dX11_broke_64 rfl ?_
          refine PWk.gets dX11_broke_65 rg_1 lc_1 fl_X11_43 rfl st_1_8 ?_
          refine PWk.iconst (v := 0) dX11_broke_68 ic_0 ?_
          refine PWk.callViI (pc_X9_passNight fu x5.2 L R 58 isSc_58 0) dX11_broke_69 ml_X11_251 rfl rg_58 lc_58 vq_9 (by decide) rfl (Nat.le_of_ble_eq_true rfl) (fun x6 => ?_)
          refine PWk.pop dX11_broke_72 rfl ?_
          refine PWk.iinc (v := (u2 + 1)) 2 [(2, .int (u2 + 1)), (0, .ref 1), (1, .int u1)] dX11_broke_73 rfl (by rw [ic_1]) (by decide) rfl ?_
          refine PWk.goto 37 dX11_broke_76 (by decide) ?_
          refine PWk.sub [1, 2, 0] rfl ?_
          exact ih (u2 + 1) x6.2 N F hx hr
        · refine PWk.iload_n 2 dX11_broke_62 rfl ?_
          exact PWk.iret dX11_broke_63 rfl (hr _)
set_option maxRecDepth 20000 in
theorem pc_X11_broke (fu : Nat) (I : HI) (L : HL) (R : HR) (p1 : Int32) : PCo 1 93 7 yX11_broke cX11_broke 3 (some .int) [.ref 1, .int p1] I L R (f_X11_broke fu I R p1) (fun x : Int32 × HI × HR => ((some (.int x.1), x.2.1, L, x.2.2) : HF)) := by
  refine PCo.of (own := RX11) (by decide +kernel) (Nat.le_of_ble_eq_true rfl) rfl rfl (fun F => ?_)
  unfold f_X11_broke
  refine PWk.aload_n 0 dX11_broke_0 rfl ?_
  refine PWk.gets dX11_broke_1 rg_1 lc_1 fl_X11_39 rfl st_1_7 ?_
  refine PWk.iload_n 1 dX11_broke_4 rfl ?_
  refine PWk.callVi (pc_X9_isOwner I L R 49 isSc_49 p1) dX11_broke_5 ml_X11_183 rfl rg_49 lc_49 vq_9 (by decide) rfl (Nat.le_of_ble_eq_true rfl) (fun x1 => ?_)
  refine PWk.if_eq 22 dX11_broke_8 (by decide) (fun h12 => ?_) (fun h12 => ?_)
  · refine PWk.iconst (v := (-1)) dX11_broke_22 ic_m1 ?_
    exact PWk.iret dX11_broke_23 rfl (fun h => h)
  · refine PWk.aload_n 0 dX11_broke_11 rfl ?_
    refine PWk.gets dX11_broke_12 rg_1 lc_1 fl_X11_39 rfl st_1_7 ?_
    refine PWk.iload_n 1 dX11_broke_15 rfl ?_
    refine PWk.callVi (pc_X9_owedBy fu I L R 49 isSc_49 p1) dX11_broke_16 ml_X11_228 rfl rg_49 lc_49 vq_9 (by decide) rfl (Nat.le_of_ble_eq_true rfl) (fun x2 => ?_)
    refine PWk.if_ne 24 dX11_broke_19 (by decide) (fun h11 => ?_) (fun h11 => ?_)
    · refine PWk.iconst (v := (-1)) dX11_broke_22 ic_m1 ?_
      exact PWk.iret dX11_broke_23 rfl (fun h => h)
    · refine PWk.aload_n 0 dX11_broke_24 rfl ?_
      refine PWk.gets dX11_broke_25 rg_1 lc_1 fl_X11_43 rfl st_1_8 ?_
      refine PWk.aload_n 0 dX11_broke_28 rfl ?_
      refine PWk.gets dX11_broke_29 rg_1 lc_1 fl_X11_39 rfl st_1_7 ?_
      refine PWk.callVvIR (pc_X9_copyFrom I L R 58 isSc_58 49 isSc_49) dX11_broke_32 ml_X11_247 rfl rg_58 lc_58 vq_9 (by decide) rfl (Nat.le_of_ble_eq_true rfl) (fun x3 => ?_)
      refine PWk.iconst (v := 0) dX11_broke_35 ic_0 ?_
      refine PWk.istore_n [(2, .int 0), (0, .ref 1), (1, .int p1)] dX11_broke_36 (by decide) rfl ?_
      refine PWk.sub [1, 2, 0] rfl ?_
      refine PWk.loopS (fun N' hx' hr' => lp_X11_broke_37 fu p1 L x3.2 fu 0 x3.1 N' F hx' hr') (fun r a e h => by cases e; exact h) (fun x10 => ?_)
      refine PWk.iconst (v := (-1)) dX11_broke_79 ic_m1 ?_
      exact PWk.iret dX11_broke_80 rfl (fun h => h)
/-! LakeMarket.spend(II)I -/
def f_X11_spend_L41 (fu : Nat) : Nat → HI → HR → Int32 → Int32 → Int32 → Int32 → Option (Int32 × Int32 × HI)
  | 0, _, _, _, _, _, _ => none
  | n + 1, I, R, u1, u3, u4, u5 =>
    if 100 < u5 then
      some (u3, u4, I)
    else
      (f_X11_nightsCanBe I u5).bind fun x3 =>
      if x3 = 0 then
        some (u3, u4, I)
      else
        (f_X9_worthOf fu I R 58 u1).bind fun x4 =>
        jnt (β := Int32 × Int32) (fun y7 =>
          (f_X9_passNight fu x4.2 R 58 0).bind fun x8 =>
          f_X11_spend_L41 fu n x8.2 R u1 y7.1 y7.2 (u5 + 1)) fun j5 =>
        if x4.1 ≤ u3 then
          j5 (u3, u4)
        else
          j5 (x4.1, u5)
def f_X11_spend (fu : Nat) (I : HI) (R : HR) (p1 : Int32) (p2 : Int32) : Option (Int32 × HI × HR) :=
  (f_X9_stands I R 49 p1).bind fun x1 =>
  if x1 = 0 then
    some ((-1), I, R)
  else
    if p2 < 0 then
      some ((-1), I, R)
    else
      if p2 ≤ 1 then
        (f_X9_copyFrom I R 58 49).bind fun x2 =>
        (f_X11_spend_L41 fu fu x2.1 x2.2 p1 (-1) 0 0).bind fun x11 =>
        if p2 = 0 then
          some (x11.2.1, x11.2.2, x2.2)
        else
          some (x11.1, x11.2.2, x2.2)
      else
        some ((-1), I, R)
set_option maxRecDepth 20000 in
theorem lp_X11_spend_41 (fu : Nat) (u1 : Int32) (u2 : Int32) (L : HL) (R : HR) : ∀ (n : Nat) (u3 : Int32) (u4 : Int32) (u5 : Int32) (I : HI) (N : (Int32 × Int32 × HI) → Prop) (F : HF), (∀ v : Int32 × Int32 × HI, N v → PW 1 93 6 RX11 cX11_spend 7 (some .int) 95 [(2, .int u2), (3, .int v.1), (4, .int v.2.1)] [] v.2.2 L R F) → PWk 1 93 6 RX11 cX11_spend 7 (some .int) 41 [(0, .ref 1), (1, .int u1), (2, .int u2), (3, .int u3), (4, .int u4), (5, .int u5)] [] I L R (f_X11_spend_L41 fu n I R u1 u3 u4 u5) N F := by
  intro n
  induction n with
  | zero => intro u3 u4 u5 I N F hx; exact PWk.none'
  | succ n ih =>
    intro u3 u4 u5 I N F hx
    unfold f_X11_spend_L41
    refine PWk.iload 5 dX11_spend_41 rfl ?_
    refine PWk.bipush (v := 100) dX11_spend_43 bp_100 ?_
    refine PWk.icmp_gt 95 dX11_spend_45 (by decide) (fun h10 => ?_) (fun h10 => ?_)
    · refine PWk.sub [2, 3, 4] rfl ?_
      exact PWk.done (fun h => hx _ h)
    · refine PWk.aload_n 0 dX11_spend_48 rfl ?_
      refine PWk.iload 5 dX11_spend_49 rfl ?_
      refine PWk.callVi (pc_X11_nightsCanBe I L R u5) dX11_spend_51 ml_X11_244 rfl rg_1 lc_1 vq_11 (by decide) rfl (Nat.le_of_ble_eq_true rfl) (fun x3 => ?_)
      refine PWk.if_eq 95 dX11_spend_54 (by decide) (fun h9 => ?_) (fun h9 => ?_)
      · refine PWk.sub [2, 3, 4] rfl ?_
        exact PWk.done (fun h => hx _ h)
      · refine PWk.aload_n 0 dX11_spend_57 rfl ?_
        refine PWk.gets dX11_spend_58 rg_1 lc_1 fl_X11_43 rfl st_1_8 ?_
        refine PWk.iload_n 1 dX11_spend_61 rfl ?_
        refine PWk.callViI (pc_X9_worthOf fu I L R 58 isSc_58 u1) dX11_spend_62 ml_X11_216 rfl rg_58 lc_58 vq_9 (by decide) rfl (Nat.le_of_ble_eq_true rfl) (fun x4 => ?_)
        refine PWk.istore [(6, .int x4.1), (0, .ref 1), (1, .int u1), (2, .int u2), (3, .int u3), (4, .int u4), (5, .int u5)] dX11_spend_65 (by decide) rfl ?_
        refine PWk.iload 0 dX11_spend_67 rfl ?_
        refine PWk.iload_n 4 dX11_spend_69 rfl ?_
        refine PWk.jn (pc' := 80) (lv' := fun y7 => [(0, .ref 1), (1, .int u1), (2, .int u2), (3, .int y7.1), (4, .int y7.2), (5, .int u5)]) (st' := fun y7 => []) (I' := fun y7 => x4.2) (L' := fun y7 => L) (R' := fun y7 => R) (fun j5 hj5 => ?_) (fun y7 => ?_)
        · refine PWk.icmp_le 80 dX11_spend_70 (by decide) (fun h6 => ?_) (fun h6 => ?_)
          · refine PWk.sub [1, 2, 3, 4, 5, 6] rfl ?_
            exact hj5 (u3, u4)
          · refine PWk.iload 0 dX11_spend_73 rfl ?_
            refine PWk.istore_n [(3, .int x4.1), (6, .int x4.1), (0, .ref 1), (1, .int u1), (2, .int u2), (4, .int u4), (5, .int u5)] dX11_spend_75 (by decide) rfl ?_
            refine PWk.iload 6 dX11_spend_76 rfl ?_
            refine PWk.istore [(4, .int u5), (3, .int x4.1), (6, .int x4.1), (0, .ref 1), (1, .int u1), (2, .int u2), (5, .int u5)] dX11_spend_78 (by decide) rfl ?_
            refine PWk.sub [3, 4, 5, 1, 0, 6] rfl ?_
            exact hj5 (x4.1, u5)
        · refine PWk.aload_n 0 dX11_spend_80 rfl ?_
          refine PWk.gets dX11_spend_81 rg_1 lc_1 fl_X11_43 rfl st_1_8 ?_
          refine PWk.iconst (v := 0) dX11_spend_84 ic_0 ?_
          refine PWk.callViI (pc_X9_passNight fu x4.2 L R 58 isSc_58 0) dX11_spend_85 ml_X11_251 rfl rg_58 lc_58 vq_9 (by decide) rfl (Nat.le_of_ble_eq_true rfl) (fun x8 => ?_)
          refine PWk.pop dX11_spend_88 rfl ?_
          refine PWk.iinc (v := (u5 + 1)) 5 [(5, .int (u5 + 1)), (0, .ref 1), (1, .int u1), (2, .int u2), (3, .int y7.1), (4, .int y7.2)] dX11_spend_89 rfl (by rw [ic_1]) (by decide) rfl ?_
          refine PWk.goto 41 dX11_spend_92 (by decide) ?_
          refine PWk.sub [1, 2, 3, 4, 5, 0] rfl ?_
          exact ih y7.1 y7.2 (u5 + 1) x8.2 N F hx
set_option maxRecDepth 20000 in
theorem pc_X11_spend (fu : Nat) (I : HI) (L : HL) (R : HR) (p1 : Int32) (p2 : Int32) : PCo 1 93 6 yX11_spend cX11_spend 7 (some .int) [.ref 1, .int p1, .int p2] I L R (f_X11_spend fu I R p1 p2) (fun x : Int32 × HI × HR => ((some (.int x.1), x.2.1, L, x.2.2) : HF)) := by
  refine PCo.of (own := RX11) (by decide +kernel) (Nat.le_of_ble_eq_true rfl) rfl rfl (fun F => ?_)
  unfold f_X11_spend
  refine PWk.aload_n 0 dX11_spend_0 rfl ?_
  refine PWk.gets dX11_spend_1 rg_1 lc_1 fl_X11_39 rfl st_1_7 ?_
  refine PWk.iload_n 1 dX11_spend_4 rfl ?_
  refine PWk.callVi (pc_X9_stands I L R 49 isSc_49 p1) dX11_spend_5 ml_X11_254 rfl rg_49 lc_49 vq_9 (by decide) rfl (Nat.le_of_ble_eq_true rfl) (fun x1 => ?_)
  refine PWk.if_eq 20 dX11_spend_8 (by decide) (fun h15 => ?_) (fun h15 => ?_)
  · refine PWk.iconst (v := (-1)) dX11_spend_20 ic_m1 ?_
    exact PWk.iret dX11_spend_21 rfl (fun h => h)
  · refine PWk.iload_n 2 dX11_spend_11 rfl ?_
    refine PWk.if_lt 20 dX11_spend_12 (by decide) (fun h14 => ?_) (fun h14 => ?_)
    · refine PWk.iconst (v := (-1)) dX11_spend_20 ic_m1 ?_
      exact PWk.iret dX11_spend_21 rfl (fun h => h)
    · refine PWk.iload_n 2 dX11_spend_15 rfl ?_
      refine PWk.iconst (v := 1) dX11_spend_16 ic_1 ?_
      refine PWk.icmp_le 22 dX11_spend_17 (by decide) (fun h13 => ?_) (fun h13 => ?_)
      · refine PWk.aload_n 0 dX11_spend_22 rfl ?_
        refine PWk.gets dX11_spend_23 rg_1 lc_1 fl_X11_43 rfl st_1_8 ?_
        refine PWk.aload_n 0 dX11_spend_26 rfl ?_
        refine PWk.gets dX11_spend_27 rg_1 lc_1 fl_X11_39 rfl st_1_7 ?_
        refine PWk.callVvIR (pc_X9_copyFrom I L R 58 isSc_58 49 isSc_49) dX11_spend_30 ml_X11_247 rfl rg_58 lc_58 vq_9 (by decide) rfl (Nat.le_of_ble_eq_true rfl) (fun x2 => ?_)
        refine PWk.iconst (v := (-1)) dX11_spend_33 ic_m1 ?_
        refine PWk.istore_n [(3, .int (-1)), (0, .ref 1), (1, .int p1), (2, .int p2)] dX11_spend_34 (by decide) rfl ?_
        refine PWk.iconst (v := 0) dX11_spend_35 ic_0 ?_
        refine PWk.istore [(4, .int 0), (3, .int (-1)), (0, .ref 1), (1, .int p1), (2, .int p2)] dX11_spend_36 (by decide) rfl ?_
        refine PWk.iconst (v := 0) dX11_spend_38 ic_0 ?_
        refine PWk.istore [(5, .int 0), (4, .int 0), (3, .int (-1)), (0, .ref 1), (1, .int p1), (2, .int p2)] dX11_spend_39 (by decide) rfl ?_
        refine PWk.sub [3, 4, 5, 2, 1, 0] rfl ?_
        refine PWk.loopV (fun N' hx' => lp_X11_spend_41 fu p1 p2 L x2.2 fu (-1) 0 0 x2.1 N' F hx') (fun x11 => ?_)
        refine PWk.iload_n 0 dX11_spend_95 rfl ?_
        refine PWk.if_ne 104 dX11_spend_96 (by decide) (fun h12 => ?_) (fun h12 => ?_)
        · refine PWk.iload 2 dX11_spend_99 rfl ?_
          refine PWk.goto 105 dX11_spend_101 (by decide) ?_
          exact PWk.iret dX11_spend_105 rfl (fun h => h)
        · refine PWk.iload_n 1 dX11_spend_104 rfl ?_
          exact PWk.iret dX11_spend_105 rfl (fun h => h)
      · refine PWk.iconst (v := (-1)) dX11_spend_20 ic_m1 ?_
        exact PWk.iret dX11_spend_21 rfl (fun h => h)
/-! LakeMarket.price(III)I -/
def f_X11_price (fu : Nat) (I : HI) (R : HR) (p1 : Int32) (p2 : Int32) (p3 : Int32) : Option (Int32 × HI) :=
  (f_X9_isOwner I R 49 p1).bind fun x1 =>
  if x1 = 0 then
    some ((-1), I)
  else
    if p2 < 0 then
      some ((-1), I)
    else
      if 9999 < p2 then
        some ((-1), I)
      else
        if p3 < 0 then
          some ((-1), I)
        else
          if p3 ≤ 1 then
            (f_X0_payers fu I R 49 p1 p2).bind fun x2 =>
            jnt (β := Unit) (fun y6 =>
              some (x2.1, x2.2)) fun j3 =>
            if p3 = 0 then
              j3 ()
            else
              if x2.1 = (-1) then
                j3 ()
              else
                some ((x2.2 34 9), x2.2)
          else
            some ((-1), I)
set_option maxRecDepth 20000 in
theorem pc_X11_price (fu : Nat) (I : HI) (L : HL) (R : HR) (p1 : Int32) (p2 : Int32) (p3 : Int32) : PCo 1 93 7 yX11_price cX11_price 5 (some .int) [.ref 1, .int p1, .int p2, .int p3] I L R (f_X11_price fu I R p1 p2 p3) (fun x : Int32 × HI => ((some (.int x.1), x.2, L, R) : HF)) := by
  refine PCo.of (own := RX11) (by decide +kernel) (Nat.le_of_ble_eq_true rfl) rfl rfl (fun F => ?_)
  unfold f_X11_price
  refine PWk.aload_n 0 dX11_price_0 rfl ?_
  refine PWk.gets dX11_price_1 rg_1 lc_1 fl_X11_39 rfl st_1_7 ?_
  refine PWk.iload_n 1 dX11_price_4 rfl ?_
  refine PWk.callVi (pc_X9_isOwner I L R 49 isSc_49 p1) dX11_price_5 ml_X11_183 rfl rg_49 lc_49 vq_9 (by decide) rfl (Nat.le_of_ble_eq_true rfl) (fun x1 => ?_)
  refine PWk.if_eq 31 dX11_price_8 (by decide) (fun h11 => ?_) (fun h11 => ?_)
  · refine PWk.iconst (v := (-1)) dX11_price_31 ic_m1 ?_
    exact PWk.iret dX11_price_32 rfl (fun h => h)
  · refine PWk.iload_n 2 dX11_price_11 rfl ?_
    refine PWk.if_lt 31 dX11_price_12 (by decide) (fun h10 => ?_) (fun h10 => ?_)
    · refine PWk.iconst (v := (-1)) dX11_price_31 ic_m1 ?_
      exact PWk.iret dX11_price_32 rfl (fun h => h)
    · refine PWk.iload_n 2 dX11_price_15 rfl ?_
      refine PWk.sipush (v := 9999) dX11_price_16 sp_9999 ?_
      refine PWk.icmp_gt 31 dX11_price_19 (by decide) (fun h9 => ?_) (fun h9 => ?_)
      · refine PWk.iconst (v := (-1)) dX11_price_31 ic_m1 ?_
        exact PWk.iret dX11_price_32 rfl (fun h => h)
      · refine PWk.iload_n 3 dX11_price_22 rfl ?_
        refine PWk.if_lt 31 dX11_price_23 (by decide) (fun h8 => ?_) (fun h8 => ?_)
        · refine PWk.iconst (v := (-1)) dX11_price_31 ic_m1 ?_
          exact PWk.iret dX11_price_32 rfl (fun h => h)
        · refine PWk.iload_n 3 dX11_price_26 rfl ?_
          refine PWk.iconst (v := 1) dX11_price_27 ic_1 ?_
          refine PWk.icmp_le 33 dX11_price_28 (by decide) (fun h7 => ?_) (fun h7 => ?_)
          · refine PWk.aload_n 0 dX11_price_33 rfl ?_
            refine PWk.gets dX11_price_34 rg_1 lc_1 fl_X11_63 rfl st_1_11 ?_
            refine PWk.aload_n 0 dX11_price_37 rfl ?_
            refine PWk.gets dX11_price_38 rg_1 lc_1 fl_X11_39 rfl st_1_7 ?_
            refine PWk.iload_n 1 dX11_price_41 rfl ?_
            refine PWk.iload_n 2 dX11_price_42 rfl ?_
            refine PWk.callViI (pc_X0_payers fu I L R 49 isSc_49 p1 p2) dX11_price_43 ml_X11_257 rfl rg_34 lc_34 vq_0 (by decide) rfl (Nat.le_of_ble_eq_true rfl) (fun x2 => ?_)
            refine PWk.istore [(4, .int x2.1), (0, .ref 1), (1, .int p1), (2, .int p2), (3, .int p3)] dX11_price_46 (by decide) rfl ?_
            refine PWk.iload_n 4 dX11_price_48 rfl ?_
            refine PWk.jn (pc' := 58) (lv' := fun y6 => [(4, .int x2.1)]) (st' := fun y6 => []) (I' := fun y6 => x2.2) (L' := fun y6 => L) (R' := fun y6 => R) (fun j3 hj3 => ?_) (fun y6 => ?_)
            · refine PWk.if_eq 58 dX11_price_49 (by decide) (fun h5 => ?_) (fun h5 => ?_)
              · refine PWk.sub [0] rfl ?_
                exact hj3 ()
              · refine PWk.iload 0 dX11_price_52 rfl ?_
                refine PWk.iconst (v := (-1)) dX11_price_54 ic_m1 ?_
                refine PWk.icmp_ne 63 dX11_price_55 (by decide) (fun h4 => ?_) (fun h4 => ?_)
                · refine PWk.sub [0] rfl ?_
                  exact hj3 ()
                · refine PWk.aload_n 1 dX11_price_63 rfl ?_
                  refine PWk.gets dX11_price_64 rg_1 lc_1 fl_X11_63 rfl st_1_11 ?_
                  refine PWk.geti dX11_price_67 rg_34 lc_34 fl_X11_261 rfl ?_
                  exact PWk.iret dX11_price_70 rfl (fun h => h)
            · refine PWk.iload 0 dX11_price_58 rfl ?_
              refine PWk.goto 70 dX11_price_60 (by decide) ?_
              exact PWk.iret dX11_price_70 rfl (fun h => h)
          · refine PWk.iconst (v := (-1)) dX11_price_31 ic_m1 ?_
            exact PWk.iret dX11_price_32 rfl (fun h => h)
/-! LakeMarket.moves()I -/
def f_X11_moves (fu : Nat) (I : HI) (R : HR) : Option (Int32 × HI × HR) :=
  (f_X11_takeTape I).bind fun x1 =>
  (f_X4_takeRows fu x1.2 R 2 1600 x1.1 49).bind fun x2 =>
  if x2.1 = 0 then
    (f_X11_refuse x2.2 5).bind fun x3 =>
    some (x3.1, x3.2, R)
  else
    (f_X9_copyFrom x2.2 R 58 49).bind fun x4 =>
    (f_X4_fewest fu x4.1 x4.2 58).bind fun x5 =>
    some (x5.1, x5.2.1, x5.2.2)
set_option maxRecDepth 20000 in
theorem pc_X11_moves (fu : Nat) (I : HI) (L : HL) (R : HR) : PCo 1 93 26 yX11_moves cX11_moves 2 (some .int) [.ref 1] I L R (f_X11_moves fu I R) (fun x : Int32 × HI × HR => ((some (.int x.1), x.2.1, L, x.2.2) : HF)) := by
  refine PCo.of (own := RX11) (by decide +kernel) (Nat.le_of_ble_eq_true rfl) rfl rfl (fun F => ?_)
  unfold f_X11_moves
  refine PWk.aload_n 0 dX11_moves_0 rfl ?_
  refine PWk.callViI (pc_X11_takeTape I L R) dX11_moves_1 ml_X11_108 rfl rg_1 lc_1 vq_11 (by decide) rfl (Nat.le_of_ble_eq_true rfl) (fun x1 => ?_)
  refine PWk.istore_n [(1, .int x1.1), (0, .ref 1)] dX11_moves_4 (by decide) rfl ?_
  refine PWk.aload_n 1 dX11_moves_5 rfl ?_
  refine PWk.gets dX11_moves_6 rg_1 lc_1 fl_X11_70 rfl st_1_12 ?_
  refine PWk.aload_n 1 dX11_moves_9 rfl ?_
  refine PWk.gets dX11_moves_10 rg_1 lc_1 fl_X11_9 rfl st_1_0 ?_
  refine PWk.iload_n 0 dX11_moves_13 rfl ?_
  refine PWk.aload_n 1 dX11_moves_14 rfl ?_
  refine PWk.gets dX11_moves_15 rg_1 lc_1 fl_X11_39 rfl st_1_7 ?_
  refine PWk.callViI (pc_X4_takeRows fu x1.2 L R 2 1600 ly_2 rg_2 x1.1 49 isSc_49) dX11_moves_18 ml_X11_264 rfl rg_42 lc_42 vq_4 (by decide) rfl (Nat.le_of_ble_eq_true rfl) (fun x2 => ?_)
  refine PWk.if_ne 30 dX11_moves_21 (by decide) (fun h6 => ?_) (fun h6 => ?_)
  · refine PWk.aload_n 1 dX11_moves_24 rfl ?_
    refine PWk.iconst (v := 5) dX11_moves_25 ic_5 ?_
    refine PWk.callViI (pc_X11_refuse x2.2 L R 5) dX11_moves_26 ml_X11_100 rfl rg_1 lc_1 vq_11 (by decide) rfl (Nat.le_of_ble_eq_true rfl) (fun x3 => ?_)
    exact PWk.iret dX11_moves_29 rfl (fun h => h)
  · refine PWk.aload_n 1 dX11_moves_30 rfl ?_
    refine PWk.gets dX11_moves_31 rg_1 lc_1 fl_X11_43 rfl st_1_8 ?_
    refine PWk.aload_n 1 dX11_moves_34 rfl ?_
    refine PWk.gets dX11_moves_35 rg_1 lc_1 fl_X11_39 rfl st_1_7 ?_
    refine PWk.callVvIR (pc_X9_copyFrom x2.2 L R 58 isSc_58 49 isSc_49) dX11_moves_38 ml_X11_247 rfl rg_58 lc_58 vq_9 (by decide) rfl (Nat.le_of_ble_eq_true rfl) (fun x4 => ?_)
    refine PWk.aload_n 1 dX11_moves_41 rfl ?_
    refine PWk.gets dX11_moves_42 rg_1 lc_1 fl_X11_70 rfl st_1_12 ?_
    refine PWk.aload_n 1 dX11_moves_45 rfl ?_
    refine PWk.gets dX11_moves_46 rg_1 lc_1 fl_X11_43 rfl st_1_8 ?_
    refine PWk.callViIR (pc_X4_fewest fu x4.1 L x4.2 58 isSc_58) dX11_moves_49 ml_X11_268 rfl rg_42 lc_42 vq_4 (by decide) rfl (Nat.le_of_ble_eq_true rfl) (fun x5 => ?_)
    exact PWk.iret dX11_moves_52 rfl (fun h => h)
/-! LakeMarket.pack(II)I -/
def f_X11_pack (fu : Nat) (I : HI) (R : HR) (p1 : Int32) (p2 : Int32) : Option (Int32 × HI) :=
  (f_X9_isOwner I R 49 p1).bind fun x1 =>
  if x1 = 0 then
    some ((-1), I)
  else
    if p2 < 0 then
      some ((-1), I)
    else
      if p2 ≤ 1 then
        (f_X0_packing fu I R 49 p1).bind fun x2 =>
        if x2.1 = (-1) then
          some ((-1), x2.2)
        else
          if p2 = 0 then
            dvI 256 <|
            some ((x2.1 - x2.1 / 256 * 256), x2.2)
          else
            dvI 256 <|
            some ((x2.1 / 256), x2.2)
      else
        some ((-1), I)
set_option maxRecDepth 20000 in
theorem pc_X11_pack (fu : Nat) (I : HI) (L : HL) (R : HR) (p1 : Int32) (p2 : Int32) : PCo 1 93 7 yX11_pack cX11_pack 4 (some .int) [.ref 1, .int p1, .int p2] I L R (f_X11_pack fu I R p1 p2) (fun x : Int32 × HI => ((some (.int x.1), x.2, L, R) : HF)) := by
  refine PCo.of (own := RX11) (by decide +kernel) (Nat.le_of_ble_eq_true rfl) rfl rfl (fun F => ?_)
  unfold f_X11_pack
  refine PWk.aload_n 0 dX11_pack_0 rfl ?_
  refine PWk.gets dX11_pack_1 rg_1 lc_1 fl_X11_39 rfl st_1_7 ?_
  refine PWk.iload_n 1 dX11_pack_4 rfl ?_
  refine PWk.callVi (pc_X9_isOwner I L R 49 isSc_49 p1) dX11_pack_5 ml_X11_183 rfl rg_49 lc_49 vq_9 (by decide) rfl (Nat.le_of_ble_eq_true rfl) (fun x1 => ?_)
  refine PWk.if_eq 20 dX11_pack_8 (by decide) (fun h7 => ?_) (fun h7 => ?_)
  · refine PWk.iconst (v := (-1)) dX11_pack_20 ic_m1 ?_
    exact PWk.iret dX11_pack_21 rfl (fun h => h)
  · refine PWk.iload_n 2 dX11_pack_11 rfl ?_
    refine PWk.if_lt 20 dX11_pack_12 (by decide) (fun h6 => ?_) (fun h6 => ?_)
    · refine PWk.iconst (v := (-1)) dX11_pack_20 ic_m1 ?_
      exact PWk.iret dX11_pack_21 rfl (fun h => h)
    · refine PWk.iload_n 2 dX11_pack_15 rfl ?_
      refine PWk.iconst (v := 1) dX11_pack_16 ic_1 ?_
      refine PWk.icmp_le 22 dX11_pack_17 (by decide) (fun h5 => ?_) (fun h5 => ?_)
      · refine PWk.aload_n 0 dX11_pack_22 rfl ?_
        refine PWk.gets dX11_pack_23 rg_1 lc_1 fl_X11_63 rfl st_1_11 ?_
        refine PWk.aload_n 0 dX11_pack_26 rfl ?_
        refine PWk.gets dX11_pack_27 rg_1 lc_1 fl_X11_39 rfl st_1_7 ?_
        refine PWk.iload_n 1 dX11_pack_30 rfl ?_
        refine PWk.callViI (pc_X0_packing fu I L R 49 isSc_49 p1) dX11_pack_31 ml_X11_272 rfl rg_34 lc_34 vq_0 (by decide) rfl (Nat.le_of_ble_eq_true rfl) (fun x2 => ?_)
        refine PWk.istore_n [(3, .int x2.1), (0, .ref 1), (1, .int p1), (2, .int p2)] dX11_pack_34 (by decide) rfl ?_
        refine PWk.iload_n 0 dX11_pack_35 rfl ?_
        refine PWk.iconst (v := (-1)) dX11_pack_36 ic_m1 ?_
        refine PWk.icmp_ne 42 dX11_pack_37 (by decide) (fun h4 => ?_) (fun h4 => ?_)
        · refine PWk.iconst (v := (-1)) dX11_pack_40 ic_m1 ?_
          exact PWk.iret dX11_pack_41 rfl (fun h => h)
        · refine PWk.iload_n 3 dX11_pack_42 rfl ?_
          refine PWk.if_ne 54 dX11_pack_43 (by decide) (fun h3 => ?_) (fun h3 => ?_)
          · refine PWk.iload_n 0 dX11_pack_46 rfl ?_
            refine PWk.sipush (v := 256) dX11_pack_47 sp_256 ?_
            refine PWk.irem dX11_pack_50 ?_
            refine PWk.goto 59 dX11_pack_51 (by decide) ?_
            exact PWk.iret dX11_pack_59 rfl (fun h => h)
          · refine PWk.iload_n 0 dX11_pack_54 rfl ?_
            refine PWk.sipush (v := 256) dX11_pack_55 sp_256 ?_
            refine PWk.idiv dX11_pack_58 ?_
            exact PWk.iret dX11_pack_59 rfl (fun h => h)
      · refine PWk.iconst (v := (-1)) dX11_pack_20 ic_m1 ?_
        exact PWk.iret dX11_pack_21 rfl (fun h => h)
/-! LakeMarket.net(I)I -/
def f_X11_net (fu : Nat) (I : HI) (R : HR) (p1 : Int32) : Option (Int32) :=
  (f_X9_isOwner I R 49 p1).bind fun x1 =>
  if x1 = 0 then
    some (-1000000000)
  else
    (f_X9_netOf fu I R 49 p1).bind fun x2 =>
    some x2
set_option maxRecDepth 20000 in
theorem pc_X11_net (fu : Nat) (I : HI) (L : HL) (R : HR) (p1 : Int32) : PCo 1 93 2 yX11_net cX11_net 2 (some .int) [.ref 1, .int p1] I L R (f_X11_net fu I R p1) (fun x : Int32 => ((some (.int x), I, L, R) : HF)) := by
  refine PCo.of (own := RX11) (by decide +kernel) (Nat.le_of_ble_eq_true rfl) rfl rfl (fun F => ?_)
  unfold f_X11_net
  refine PWk.aload_n 0 dX11_net_0 rfl ?_
  refine PWk.gets dX11_net_1 rg_1 lc_1 fl_X11_39 rfl st_1_7 ?_
  refine PWk.iload_n 1 dX11_net_4 rfl ?_
  refine PWk.callVi (pc_X9_isOwner I L R 49 isSc_49 p1) dX11_net_5 ml_X11_183 rfl rg_49 lc_49 vq_9 (by decide) rfl (Nat.le_of_ble_eq_true rfl) (fun x1 => ?_)
  refine PWk.if_eq 22 dX11_net_8 (by decide) (fun h3 => ?_) (fun h3 => ?_)
  · refine PWk.ldcw (v := (-1000000000)) dX11_net_22 kc_X11_279 ?_
    exact PWk.iret dX11_net_25 rfl (fun h => h)
  · refine PWk.aload_n 0 dX11_net_11 rfl ?_
    refine PWk.gets dX11_net_12 rg_1 lc_1 fl_X11_39 rfl st_1_7 ?_
    refine PWk.iload_n 1 dX11_net_15 rfl ?_
    refine PWk.callVi (pc_X9_netOf fu I L R 49 isSc_49 p1) dX11_net_16 ml_X11_276 rfl rg_49 lc_49 vq_9 (by decide) rfl (Nat.le_of_ble_eq_true rfl) (fun x2 => ?_)
    refine PWk.goto 25 dX11_net_19 (by decide) ?_
    exact PWk.iret dX11_net_25 rfl (fun h => h)
/-! LakeMarket.settling()I -/
def f_X11_settling (fu : Nat) (I : HI) (R : HR) : Option (Int32 × HI) :=
  (f_X0_payments fu I R 49).bind fun x1 =>
  some (x1.1, x1.2)
set_option maxRecDepth 20000 in
theorem pc_X11_settling (fu : Nat) (I : HI) (L : HL) (R : HR) : PCo 1 93 3 yX11_settling cX11_settling 1 (some .int) [.ref 1] I L R (f_X11_settling fu I R) (fun x : Int32 × HI => ((some (.int x.1), x.2, L, R) : HF)) := by
  refine PCo.of (own := RX11) (by decide +kernel) (Nat.le_of_ble_eq_true rfl) rfl rfl (fun F => ?_)
  unfold f_X11_settling
  refine PWk.aload_n 0 dX11_settling_0 rfl ?_
  refine PWk.gets dX11_settling_1 rg_1 lc_1 fl_X11_63 rfl st_1_11 ?_
  refine PWk.aload_n 0 dX11_settling_4 rfl ?_
  refine PWk.gets dX11_settling_5 rg_1 lc_1 fl_X11_39 rfl st_1_7 ?_
  refine PWk.callViI (pc_X0_payments fu I L R 49 isSc_49) dX11_settling_8 ml_X11_280 rfl rg_34 lc_34 vq_0 (by decide) rfl (Nat.le_of_ble_eq_true rfl) (fun x1 => ?_)
  exact PWk.iret dX11_settling_11 rfl (fun h => h)
/-! LakeMarket.share(III)I -/
def f_X11_share (fu : Nat) (I : HI) (R : HR) (p1 : Int32) (p2 : Int32) (p3 : Int32) : Option (Int32 × HI) :=
  (f_X9_isOwner I R 49 p1).bind fun x1 =>
  if x1 = 0 then
    some ((-1), I)
  else
    if p2 < 2 then
      some ((-1), I)
    else
      if p2 ≤ 3 then
        if p3 = (-1) then
          (f_X0_fairest fu I R 49 p1 p2).bind fun x2 =>
          some (x2.1, x2.2)
        else
          (f_X9_stands I R 49 p3).bind fun x3 =>
          if x3 = 0 then
            some ((-1), I)
          else
            ldI (I 52) 8 p3 fun v4 =>
            if v4 = p1 then
              (f_X0_fairest fu I R 49 p1 p2).bind fun x5 =>
              (f_X0_heirOf fu x5.2 p3).bind fun x6 =>
              some (x6, x5.2)
            else
              some ((-1), I)
      else
        some ((-1), I)
set_option maxRecDepth 20000 in
theorem pc_X11_share (fu : Nat) (I : HI) (L : HL) (R : HR) (p1 : Int32) (p2 : Int32) (p3 : Int32) : PCo 1 93 15 yX11_share cX11_share 4 (some .int) [.ref 1, .int p1, .int p2, .int p3] I L R (f_X11_share fu I R p1 p2 p3) (fun x : Int32 × HI => ((some (.int x.1), x.2, L, R) : HF)) := by
  refine PCo.of (own := RX11) (by decide +kernel) (Nat.le_of_ble_eq_true rfl) rfl rfl (fun F => ?_)
  unfold f_X11_share
  refine PWk.aload_n 0 dX11_share_0 rfl ?_
  refine PWk.gets dX11_share_1 rg_1 lc_1 fl_X11_39 rfl st_1_7 ?_
  refine PWk.iload_n 1 dX11_share_4 rfl ?_
  refine PWk.callVi (pc_X9_isOwner I L R 49 isSc_49 p1) dX11_share_5 ml_X11_183 rfl rg_49 lc_49 vq_9 (by decide) rfl (Nat.le_of_ble_eq_true rfl) (fun x1 => ?_)
  refine PWk.if_eq 21 dX11_share_8 (by decide) (fun h12 => ?_) (fun h12 => ?_)
  · refine PWk.iconst (v := (-1)) dX11_share_21 ic_m1 ?_
    exact PWk.iret dX11_share_22 rfl (fun h => h)
  · refine PWk.iload_n 2 dX11_share_11 rfl ?_
    refine PWk.iconst (v := 2) dX11_share_12 ic_2 ?_
    refine PWk.icmp_lt 21 dX11_share_13 (by decide) (fun h11 => ?_) (fun h11 => ?_)
    · refine PWk.iconst (v := (-1)) dX11_share_21 ic_m1 ?_
      exact PWk.iret dX11_share_22 rfl (fun h => h)
    · refine PWk.iload_n 2 dX11_share_16 rfl ?_
      refine PWk.iconst (v := 3) dX11_share_17 ic_3 ?_
      refine PWk.icmp_le 23 dX11_share_18 (by decide) (fun h10 => ?_) (fun h10 => ?_)
      · refine PWk.iload_n 3 dX11_share_23 rfl ?_
        refine PWk.iconst (v := (-1)) dX11_share_24 ic_m1 ?_
        refine PWk.icmp_ne 42 dX11_share_25 (by decide) (fun h9 => ?_) (fun h9 => ?_)
        · refine PWk.aload_n 0 dX11_share_28 rfl ?_
          refine PWk.gets dX11_share_29 rg_1 lc_1 fl_X11_63 rfl st_1_11 ?_
          refine PWk.aload_n 0 dX11_share_32 rfl ?_
          refine PWk.gets dX11_share_33 rg_1 lc_1 fl_X11_39 rfl st_1_7 ?_
          refine PWk.iload_n 1 dX11_share_36 rfl ?_
          refine PWk.iload_n 2 dX11_share_37 rfl ?_
          refine PWk.callViI (pc_X0_fairest fu I L R 49 isSc_49 p1 p2) dX11_share_38 ml_X11_282 rfl rg_34 lc_34 vq_0 (by decide) rfl (Nat.le_of_ble_eq_true rfl) (fun x2 => ?_)
          exact PWk.iret dX11_share_41 rfl (fun h => h)
        · refine PWk.aload_n 0 dX11_share_42 rfl ?_
          refine PWk.gets dX11_share_43 rg_1 lc_1 fl_X11_39 rfl st_1_7 ?_
          refine PWk.iload_n 3 dX11_share_46 rfl ?_
          refine PWk.callVi (pc_X9_stands I L R 49 isSc_49 p3) dX11_share_47 ml_X11_254 rfl rg_49 lc_49 vq_9 (by decide) rfl (Nat.le_of_ble_eq_true rfl) (fun x3 => ?_)
          refine PWk.if_eq 66 dX11_share_50 (by decide) (fun h8 => ?_) (fun h8 => ?_)
          · refine PWk.iconst (v := (-1)) dX11_share_66 ic_m1 ?_
            exact PWk.iret dX11_share_67 rfl (fun h => h)
          · refine PWk.aload_n 0 dX11_share_53 rfl ?_
            refine PWk.gets dX11_share_54 rg_1 lc_1 fl_X11_39 rfl st_1_7 ?_
            refine PWk.gets dX11_share_57 rg_49 lc_49 fl_X11_213 rfl st_49_4 ?_
            refine PWk.iload_n 3 dX11_share_60 rfl ?_
            refine PWk.iald dX11_share_61 rg_52 ly_52 (fun v4 => ?_)
            refine PWk.iload_n 1 dX11_share_62 rfl ?_
            refine PWk.icmp_eq 68 dX11_share_63 (by decide) (fun h7 => ?_) (fun h7 => ?_)
            · refine PWk.aload_n 0 dX11_share_68 rfl ?_
              refine PWk.gets dX11_share_69 rg_1 lc_1 fl_X11_63 rfl st_1_11 ?_
              refine PWk.aload_n 0 dX11_share_72 rfl ?_
              refine PWk.gets dX11_share_73 rg_1 lc_1 fl_X11_39 rfl st_1_7 ?_
              refine PWk.iload_n 1 dX11_share_76 rfl ?_
              refine PWk.iload_n 2 dX11_share_77 rfl ?_
              refine PWk.callViI (pc_X0_fairest fu I L R 49 isSc_49 p1 p2) dX11_share_78 ml_X11_282 rfl rg_34 lc_34 vq_0 (by decide) rfl (Nat.le_of_ble_eq_true rfl) (fun x5 => ?_)
              refine PWk.pop dX11_share_81 rfl ?_
              refine PWk.aload_n 0 dX11_share_82 rfl ?_
              refine PWk.gets dX11_share_83 rg_1 lc_1 fl_X11_63 rfl st_1_11 ?_
              refine PWk.iload_n 3 dX11_share_86 rfl ?_
              refine PWk.callVi (pc_X0_heirOf fu x5.2 L R p3) dX11_share_87 ml_X11_285 rfl rg_34 lc_34 vq_0 (by decide) rfl (Nat.le_of_ble_eq_true rfl) (fun x6 => ?_)
              exact PWk.iret dX11_share_90 rfl (fun h => h)
            · refine PWk.iconst (v := (-1)) dX11_share_66 ic_m1 ?_
              exact PWk.iret dX11_share_67 rfl (fun h => h)
      · refine PWk.iconst (v := (-1)) dX11_share_21 ic_m1 ?_
        exact PWk.iret dX11_share_22 rfl (fun h => h)
/-! LakeMarket.tellsStood(I)Z -/
def f_X11_tellsStood_L21 : Nat → HI → HR → Int32 → Int32 → Option ((Int32) ⊕ (Unit))
  | 0, _, _, _, _ => none
  | n + 1, I, R, u1, u2 =>
    if u1 ≤ u2 then
      some (.inr ())
    else
      ldI (I 2) 1600 u2 fun v1 =>
      (f_X9_isLake I R 49 v1).bind fun x2 =>
      if x2 = 0 then
        gz 0 (some (.inl 0))
      else
        ldI (I 2) 1600 (u2 + 1) fun v3 =>
        ldI (I 2) 1600 (u2 + 2) fun v4 =>
        if ((v3 * 256) + v4) ≤ 999 then
          f_X11_tellsStood_L21 n I R u1 (u2 + 3)
        else
          gz 0 (some (.inl 0))
def f_X11_tellsStood (fu : Nat) (I : HI) (R : HR) (p1 : Int32) : Option (Int32) :=
  if p1 < 3 then
    gz 0 (some 0)
  else
    if 24 < p1 then
      gz 0 (some 0)
    else
      dvI 3 <|
      if (p1 - p1 / 3 * 3) = 0 then
        (f_X11_tellsStood_L21 fu I R p1 0).bind (Sum.elim (fun r => some r) fun x8 =>
        gz 1 (some 1))
      else
        gz 0 (some 0)
set_option maxRecDepth 20000 in
theorem lp_X11_tellsStood_21 (fu : Nat) (u1 : Int32) (I : HI) (L : HL) (R : HR) : ∀ (n : Nat) (u2 : Int32) (N : ((Int32) ⊕ (Unit)) → Prop) (F : HF), (∀ v : Unit, N (.inr v) → PW 1 93 1 RX11 cX11_tellsStood 3 (some .boolean) 77 [] [] I L R F) → (∀ r : Int32, N (.inl r) → F = (fun x : Int32 => ((some (.int x), I, L, R) : HF)) r) → PWk 1 93 1 RX11 cX11_tellsStood 3 (some .boolean) 21 [(0, .ref 1), (1, .int u1), (2, .int u2)] [] I L R (f_X11_tellsStood_L21 n I R u1 u2) N F := by
  intro n
  induction n with
  | zero => intro u2 N F hx hr; exact PWk.none'
  | succ n ih =>
    intro u2 N F hx hr
    unfold f_X11_tellsStood_L21
    refine PWk.iload_n 2 dX11_tellsStood_21 rfl ?_
    refine PWk.iload_n 1 dX11_tellsStood_22 rfl ?_
    refine PWk.icmp_ge 77 dX11_tellsStood_23 (by decide) (fun h7 => ?_) (fun h7 => ?_)
    · refine PWk.sub [] rfl ?_
      exact PWk.done (fun h => hx _ h)
    · refine PWk.aload_n 0 dX11_tellsStood_26 rfl ?_
      refine PWk.gets dX11_tellsStood_27 rg_1 lc_1 fl_X11_39 rfl st_1_7 ?_
      refine PWk.aload_n 0 dX11_tellsStood_30 rfl ?_
      refine PWk.gets dX11_tellsStood_31 rg_1 lc_1 fl_X11_9 rfl st_1_0 ?_
      refine PWk.iload_n 2 dX11_tellsStood_34 rfl ?_
      refine PWk.iald dX11_tellsStood_35 rg_2 ly_2 (fun v1 => ?_)
      refine PWk.callVi (pc_X9_isLake I L R 49 isSc_49 v1) dX11_tellsStood_36 ml_X11_189 rfl rg_49 lc_49 vq_9 (by decide) rfl (Nat.le_of_ble_eq_true rfl) (fun x2 => ?_)
      refine PWk.if_eq 69 dX11_tellsStood_39 (by decide) (fun h6 => ?_) (fun h6 => ?_)
      · refine PWk.iconst (v := 0) dX11_tellsStood_69 ic_0 ?_
        exact PWk.zret dX11_tellsStood_70 rfl (hr _)
      · refine PWk.aload_n 0 dX11_tellsStood_42 rfl ?_
        refine PWk.gets dX11_tellsStood_43 rg_1 lc_1 fl_X11_9 rfl st_1_0 ?_
        refine PWk.iload_n 2 dX11_tellsStood_46 rfl ?_
        refine PWk.iconst (v := 1) dX11_tellsStood_47 ic_1 ?_
        refine PWk.iadd dX11_tellsStood_48 ?_
        refine PWk.iald dX11_tellsStood_49 rg_2 ly_2 (fun v3 => ?_)
        refine PWk.sipush (v := 256) dX11_tellsStood_50 sp_256 ?_
        refine PWk.imul dX11_tellsStood_53 ?_
        refine PWk.aload_n 0 dX11_tellsStood_54 rfl ?_
        refine PWk.gets dX11_tellsStood_55 rg_1 lc_1 fl_X11_9 rfl st_1_0 ?_
        refine PWk.iload_n 2 dX11_tellsStood_58 rfl ?_
        refine PWk.iconst (v := 2) dX11_tellsStood_59 ic_2 ?_
        refine PWk.iadd dX11_tellsStood_60 ?_
        refine PWk.iald dX11_tellsStood_61 rg_2 ly_2 (fun v4 => ?_)
        refine PWk.iadd dX11_tellsStood_62 ?_
        refine PWk.sipush (v := 999) dX11_tellsStood_63 sp_999 ?_
        refine PWk.icmp_le 71 dX11_tellsStood_66 (by decide) (fun h5 => ?_) (fun h5 => ?_)
        · refine PWk.iinc (v := (u2 + 3)) 2 [(2, .int (u2 + 3)), (0, .ref 1), (1, .int u1)] dX11_tellsStood_71 rfl (by rw [ic_3]) (by decide) rfl ?_
          refine PWk.goto 21 dX11_tellsStood_74 (by decide) ?_
          refine PWk.sub [1, 2, 0] rfl ?_
          exact ih (u2 + 3) N F hx hr
        · refine PWk.iconst (v := 0) dX11_tellsStood_69 ic_0 ?_
          exact PWk.zret dX11_tellsStood_70 rfl (hr _)
set_option maxRecDepth 20000 in
theorem pc_X11_tellsStood (fu : Nat) (I : HI) (L : HL) (R : HR) (p1 : Int32) : PCo 1 93 1 yX11_tellsStood cX11_tellsStood 3 (some .boolean) [.ref 1, .int p1] I L R (f_X11_tellsStood fu I R p1) (fun x : Int32 => ((some (.int x), I, L, R) : HF)) := by
  refine PCo.of (own := RX11) (by decide +kernel) (Nat.le_of_ble_eq_true rfl) rfl rfl (fun F => ?_)
  unfold f_X11_tellsStood
  refine PWk.iload_n 1 dX11_tellsStood_0 rfl ?_
  refine PWk.iconst (v := 3) dX11_tellsStood_1 ic_3 ?_
  refine PWk.icmp_lt 17 dX11_tellsStood_2 (by decide) (fun h11 => ?_) (fun h11 => ?_)
  · refine PWk.iconst (v := 0) dX11_tellsStood_17 ic_0 ?_
    exact PWk.zret dX11_tellsStood_18 rfl (fun h => h)
  · refine PWk.iload_n 1 dX11_tellsStood_5 rfl ?_
    refine PWk.bipush (v := 24) dX11_tellsStood_6 bp_24 ?_
    refine PWk.icmp_gt 17 dX11_tellsStood_8 (by decide) (fun h10 => ?_) (fun h10 => ?_)
    · refine PWk.iconst (v := 0) dX11_tellsStood_17 ic_0 ?_
      exact PWk.zret dX11_tellsStood_18 rfl (fun h => h)
    · refine PWk.iload_n 1 dX11_tellsStood_11 rfl ?_
      refine PWk.iconst (v := 3) dX11_tellsStood_12 ic_3 ?_
      refine PWk.irem dX11_tellsStood_13 ?_
      refine PWk.if_eq 19 dX11_tellsStood_14 (by decide) (fun h9 => ?_) (fun h9 => ?_)
      · refine PWk.iconst (v := 0) dX11_tellsStood_19 ic_0 ?_
        refine PWk.istore_n [(2, .int 0), (0, .ref 1), (1, .int p1)] dX11_tellsStood_20 (by decide) rfl ?_
        refine PWk.sub [1, 2, 0] rfl ?_
        refine PWk.loopS (fun N' hx' hr' => lp_X11_tellsStood_21 fu p1 I L R fu 0 N' F hx' hr') (fun r a e h => by cases e; exact h) (fun x8 => ?_)
        refine PWk.iconst (v := 1) dX11_tellsStood_77 ic_1 ?_
        exact PWk.zret dX11_tellsStood_78 rfl (fun h => h)
      · refine PWk.iconst (v := 0) dX11_tellsStood_17 ic_0 ?_
        exact PWk.zret dX11_tellsStood_18 rfl (fun h => h)
/-! LakeMarket.stoodIfTaken(II)Z -/
def f_X11_stoodIfTaken_L2 : Nat → HI → Int32 → Int32 → Int32 → Option ((Int32) ⊕ (Unit))
  | 0, _, _, _, _ => none
  | n + 1, I, u1, u2, u3 =>
    if (I 1 16) ≤ u3 then
      some (.inr ())
    else
      ldI (I 3) 8 u3 fun v1 =>
      ldI (I 59) 8 v1 fun v2 =>
      ldI (I 3) 8 u3 fun v3 =>
      jnt (β := Int32) (fun y7 =>
        ldI (I 4) 8 u3 fun v8 =>
        if y7 = v8 then
          f_X11_stoodIfTaken_L2 n I u1 u2 (u3 + 1)
        else
          gz 0 (some (.inl 0))) fun j4 =>
      if v3 = u1 then
        (f_J9_max_7cf53 0 (v2 - u2)).bind fun x5 =>
        j4 x5
      else
        j4 v2
def f_X11_stoodIfTaken (fu : Nat) (I : HI) (p1 : Int32) (p2 : Int32) : Option (Int32) :=
  (f_X11_stoodIfTaken_L2 fu I p1 p2 0).bind (Sum.elim (fun r => some r) fun x11 =>
  gz 1 (some 1))
set_option maxRecDepth 20000 in
theorem lp_X11_stoodIfTaken_2 (fu : Nat) (u1 : Int32) (u2 : Int32) (I : HI) (L : HL) (R : HR) : ∀ (n : Nat) (u3 : Int32) (N : ((Int32) ⊕ (Unit)) → Prop) (F : HF), (∀ v : Unit, N (.inr v) → PW 1 93 1 RX11 cX11_stoodIfTaken 5 (some .boolean) 65 [] [] I L R F) → (∀ r : Int32, N (.inl r) → F = (fun x : Int32 => ((some (.int x), I, L, R) : HF)) r) → PWk 1 93 1 RX11 cX11_stoodIfTaken 5 (some .boolean) 2 [(0, .ref 1), (1, .int u1), (2, .int u2), (3, .int u3)] [] I L R (f_X11_stoodIfTaken_L2 n I u1 u2 u3) N F := by
  intro n
  induction n with
  | zero => intro u3 N F hx hr; exact PWk.none'
  | succ n ih =>
    intro u3 N F hx hr
    unfold f_X11_stoodIfTaken_L2
    refine PWk.iload_n 3 dX11_stoodIfTaken_2 rfl ?_
    refine PWk.aload_n 0 dX11_stoodIfTaken_3 rfl ?_
    refine PWk.geti dX11_stoodIfTaken_4 rg_1 lc_1 fl_X11_130 rfl ?_
    refine PWk.icmp_ge 65 dX11_stoodIfTaken_7 (by decide) (fun h10 => ?_) (fun h10 => ?_)
    · refine PWk.sub [] rfl ?_
      exact PWk.done (fun h => hx _ h)
    · refine PWk.aload_n 0 dX11_stoodIfTaken_10 rfl ?_
      refine PWk.gets dX11_stoodIfTaken_11 rg_1 lc_1 fl_X11_43 rfl st_1_8 ?_
      refine PWk.gets dX11_stoodIfTaken_14 rg_58 lc_58 fl_X11_207 rfl st_58_2 ?_
      refine PWk.aload_n 0 dX11_stoodIfTaken_17 rfl ?_
      refine PWk.gets dX11_stoodIfTaken_18 rg_1 lc_1 fl_X11_81 rfl st_1_14 ?_
      refine PWk.iload_n 3 dX11_stoodIfTaken_21 rfl ?_
      refine PWk.iald dX11_stoodIfTaken_22 rg_3 ly_3 (fun v1 => ?_)
      refine PWk.iald dX11_stoodIfTaken_23 rg_59 ly_59 (fun v2 => ?_)
      refine PWk.istore [(4, .int v2), (0, .ref 1), (1, .int u1), (2, .int u2), (3, .int u3)] dX11_stoodIfTaken_24 (by decide) rfl ?_
      refine PWk.aload_n 1 dX11_stoodIfTaken_26 rfl ?_
      refine PWk.gets dX11_stoodIfTaken_27 rg_1 lc_1 fl_X11_81 rfl st_1_14 ?_
      refine PWk.iload_n 4 dX11_stoodIfTaken_30 rfl ?_
      refine PWk.iald dX11_stoodIfTaken_31 rg_3 ly_3 (fun v3 => ?_)
      refine PWk.iload_n 2 dX11_stoodIfTaken_32 rfl ?_
      refine PWk.jn (pc' := 46) (lv' := fun y7 => [(0, .ref 1), (1, .int u1), (2, .int u2), (3, .int u3), (4, .int y7)]) (st' := fun y7 => []) (I' := fun y7 => I) (L' := fun y7 => L) (R' := fun y7 => R) (fun j4 hj4 => ?_) (fun y7 => ?_)
      · refine PWk.icmp_ne 46 dX11_stoodIfTaken_33 (by decide) (fun h6 => ?_) (fun h6 => ?_)
        · refine PWk.iconst (v := 0) dX11_stoodIfTaken_36 ic_0 ?_
          refine PWk.iload 0 dX11_stoodIfTaken_37 rfl ?_
          refine PWk.iload_n 3 dX11_stoodIfTaken_39 rfl ?_
          refine PWk.isub dX11_stoodIfTaken_40 ?_
          refine PWk.callSi (pc_J9_max_7cf53 I L R 0 (v2 - u2)) dX11_stoodIfTaken_41 ml_X11_294 rfl (by decide) rfl (Nat.le_of_ble_eq_true rfl) (fun x5 => ?_)
          refine PWk.istore [(4, .int x5), (0, .ref 1), (1, .int u1), (2, .int u2), (3, .int u3)] dX11_stoodIfTaken_44 (by decide) rfl ?_
          refine PWk.sub [1, 2, 3, 4, 0] rfl ?_
          exact hj4 x5
        · refine PWk.sub [1, 2, 3, 4, 0] rfl ?_
          exact hj4 v2
      · refine PWk.iload 4 dX11_stoodIfTaken_46 rfl ?_
        refine PWk.aload_n 0 dX11_stoodIfTaken_48 rfl ?_
        refine PWk.gets dX11_stoodIfTaken_49 rg_1 lc_1 fl_X11_84 rfl st_1_15 ?_
        refine PWk.iload_n 3 dX11_stoodIfTaken_52 rfl ?_
        refine PWk.iald dX11_stoodIfTaken_53 rg_4 ly_4 (fun v8 => ?_)
        refine PWk.icmp_eq 59 dX11_stoodIfTaken_54 (by decide) (fun h9 => ?_) (fun h9 => ?_)
        · refine PWk.iinc (v := (u3 + 1)) 3 [(3, .int (u3 + 1)), (0, .ref 1), (1, .int u1), (2, .int u2), (4, .int y7)] dX11_stoodIfTaken_59 rfl (by rw [ic_1]) (by decide) rfl ?_
          refine PWk.goto 2 dX11_stoodIfTaken_62 (by decide) ?_
          refine PWk.sub [1, 2, 3, 0] rfl ?_
          exact ih (u3 + 1) N F hx hr
        · refine PWk.iconst (v := 0) dX11_stoodIfTaken_57 ic_0 ?_
          exact PWk.zret dX11_stoodIfTaken_58 rfl (hr _)
set_option maxRecDepth 20000 in
theorem pc_X11_stoodIfTaken (fu : Nat) (I : HI) (L : HL) (R : HR) (p1 : Int32) (p2 : Int32) : PCo 1 93 1 yX11_stoodIfTaken cX11_stoodIfTaken 5 (some .boolean) [.ref 1, .int p1, .int p2] I L R (f_X11_stoodIfTaken fu I p1 p2) (fun x : Int32 => ((some (.int x), I, L, R) : HF)) := by
  refine PCo.of (own := RX11) (by decide +kernel) (Nat.le_of_ble_eq_true rfl) rfl rfl (fun F => ?_)
  unfold f_X11_stoodIfTaken
  refine PWk.iconst (v := 0) dX11_stoodIfTaken_0 ic_0 ?_
  refine PWk.istore_n [(3, .int 0), (0, .ref 1), (1, .int p1), (2, .int p2)] dX11_stoodIfTaken_1 (by decide) rfl ?_
  refine PWk.sub [1, 2, 3, 0] rfl ?_
  refine PWk.loopS (fun N' hx' hr' => lp_X11_stoodIfTaken_2 fu p1 p2 I L R fu 0 N' F hx' hr') (fun r a e h => by cases e; exact h) (fun x11 => ?_)
  refine PWk.iconst (v := 1) dX11_stoodIfTaken_65 ic_1 ?_
  exact PWk.zret dX11_stoodIfTaken_66 rfl (fun h => h)
/-! LakeMarket.remember()V -/
def f_X11_remember (I : HI) : Option (HI) :=
  (f_X1_push I 49 (I 32 1)).bind fun x1 =>
  some x1
set_option maxRecDepth 20000 in
theorem pc_X11_remember (I : HI) (L : HL) (R : HR) : PCo 1 93 3 yX11_remember cX11_remember 1 none [.ref 1] I L R (f_X11_remember I) (fun x : HI => ((none, x, L, R) : HF)) := by
  refine PCo.of (own := RX11) (by decide +kernel) (Nat.le_of_ble_eq_true rfl) rfl rfl (fun F => ?_)
  unfold f_X11_remember
  refine PWk.aload_n 0 dX11_remember_0 rfl ?_
  refine PWk.gets dX11_remember_1 rg_1 lc_1 fl_X11_49 rfl st_1_9 ?_
  refine PWk.aload_n 0 dX11_remember_4 rfl ?_
  refine PWk.gets dX11_remember_5 rg_1 lc_1 fl_X11_39 rfl st_1_7 ?_
  refine PWk.aload_n 0 dX11_remember_8 rfl ?_
  refine PWk.gets dX11_remember_9 rg_1 lc_1 fl_X11_56 rfl st_1_10 ?_
  refine PWk.geti dX11_remember_12 rg_32 lc_32 fl_X11_139 rfl ?_
  refine PWk.callVvI (pc_X1_push I L R 49 isSc_49 (I 32 1)) dX11_remember_15 ml_X11_299 rfl rg_9 lc_9 vq_1 (by decide) rfl (Nat.le_of_ble_eq_true rfl) (fun x1 => ?_)
  exact PWk.vret dX11_remember_18 rfl (fun h => h)
/-! LakeMarket.nights(I)I -/
def f_X11_nights_L27 (fu : Nat) : Nat → HI → HR → Int32 → Int32 → Int32 → Option (Int32 × HI)
  | 0, _, _, _, _, _ => none
  | n + 1, I, R, u1, u2, u3 =>
    if u1 ≤ u3 then
      some (u2, I)
    else
      (f_X9_passNight fu I R 49 0).bind fun x4 =>
      bnd ((u2 + x4.1)) fun v5 =>
      f_X11_nights_L27 fu n x4.2 R u1 v5 (u3 + 1)
def f_X11_nights (fu : Nat) (I : HI) (R : HR) (p1 : Int32) : Option (Int32 × HI) :=
  jnt (β := Unit) (fun y10 =>
    (f_X11_refuse I 2).bind fun x11 =>
    some (x11.1, x11.2)) fun j1 =>
  if p1 < 1 then
    j1 ()
  else
    (f_X11_nightsCanBe I p1).bind fun x2 =>
    if x2 = 0 then
      j1 ()
    else
      (f_X11_remember I).bind fun x3 =>
      (f_X11_nights_L27 fu fu x3 R p1 0 0).bind fun x7 =>
      some (x7.1, x7.2)
set_option maxRecDepth 20000 in
theorem lp_X11_nights_27 (fu : Nat) (u1 : Int32) (L : HL) (R : HR) : ∀ (n : Nat) (u2 : Int32) (u3 : Int32) (I : HI) (N : (Int32 × HI) → Prop) (F : HF), (∀ v : Int32 × HI, N v → PW 1 93 6 RX11 cX11_nights 4 (some .int) 49 [(2, .int v.1)] [] v.2 L R F) → PWk 1 93 6 RX11 cX11_nights 4 (some .int) 27 [(0, .ref 1), (1, .int u1), (2, .int u2), (3, .int u3)] [] I L R (f_X11_nights_L27 fu n I R u1 u2 u3) N F := by
  intro n
  induction n with
  | zero => intro u2 u3 I N F hx; exact PWk.none'
  | succ n ih =>
    intro u2 u3 I N F hx
    unfold f_X11_nights_L27
    refine PWk.iload_n 3 dX11_nights_27 rfl ?_
    refine PWk.iload_n 1 dX11_nights_28 rfl ?_
    refine PWk.icmp_ge 49 dX11_nights_29 (by decide) (fun h6 => ?_) (fun h6 => ?_)
    · refine PWk.sub [2] rfl ?_
      exact PWk.done (fun h => hx _ h)
    · refine PWk.iload_n 2 dX11_nights_32 rfl ?_
      refine PWk.aload_n 0 dX11_nights_33 rfl ?_
      refine PWk.gets dX11_nights_34 rg_1 lc_1 fl_X11_39 rfl st_1_7 ?_
      refine PWk.iconst (v := 0) dX11_nights_37 ic_0 ?_
      refine PWk.callViI (pc_X9_passNight fu I L R 49 isSc_49 0) dX11_nights_38 ml_X11_251 rfl rg_49 lc_49 vq_9 (by decide) rfl (Nat.le_of_ble_eq_true rfl) (fun x4 => ?_)
      refine PWk.iadd dX11_nights_41 ?_
      refine PWk.bi (fun v5 => ?_)
      refine PWk.istore_n [(2, .int v5), (0, .ref 1), (1, .int u1), (3, .int u3)] dX11_nights_42 (by decide) rfl ?_
      refine PWk.iinc (v := (u3 + 1)) 3 [(3, .int (u3 + 1)), (2, .int v5), (0, .ref 1), (1, .int u1)] dX11_nights_43 rfl (by rw [ic_1]) (by decide) rfl ?_
      refine PWk.goto 27 dX11_nights_46 (by decide) ?_
      refine PWk.sub [2, 3, 1, 0] rfl ?_
      exact ih v5 (u3 + 1) x4.2 N F hx
set_option maxRecDepth 20000 in
theorem pc_X11_nights (fu : Nat) (I : HI) (L : HL) (R : HR) (p1 : Int32) : PCo 1 93 6 yX11_nights cX11_nights 4 (some .int) [.ref 1, .int p1] I L R (f_X11_nights fu I R p1) (fun x : Int32 × HI => ((some (.int x.1), x.2, L, R) : HF)) := by
  refine PCo.of (own := RX11) (by decide +kernel) (Nat.le_of_ble_eq_true rfl) rfl rfl (fun F => ?_)
  unfold f_X11_nights
  refine PWk.iload_n 1 dX11_nights_0 rfl ?_
  refine PWk.iconst (v := 1) dX11_nights_1 ic_1 ?_
  refine PWk.jn (pc' := 13) (lv' := fun y10 => [(0, .ref 1)]) (st' := fun y10 => []) (I' := fun y10 => I) (L' := fun y10 => L) (R' := fun y10 => R) (fun j1 hj1 => ?_) (fun y10 => ?_)
  · refine PWk.icmp_lt 13 dX11_nights_2 (by decide) (fun h9 => ?_) (fun h9 => ?_)
    · refine PWk.sub [0] rfl ?_
      exact hj1 ()
    · refine PWk.aload_n 0 dX11_nights_5 rfl ?_
      refine PWk.iload_n 1 dX11_nights_6 rfl ?_
      refine PWk.callVi (pc_X11_nightsCanBe I L R p1) dX11_nights_7 ml_X11_244 rfl rg_1 lc_1 vq_11 (by decide) rfl (Nat.le_of_ble_eq_true rfl) (fun x2 => ?_)
      refine PWk.if_ne 19 dX11_nights_10 (by decide) (fun h8 => ?_) (fun h8 => ?_)
      · refine PWk.sub [0] rfl ?_
        exact hj1 ()
      · refine PWk.aload_n 0 dX11_nights_19 rfl ?_
        refine PWk.callVvI (pc_X11_remember I L R) dX11_nights_20 ml_X11_303 rfl rg_1 lc_1 vq_11 (by decide) rfl (Nat.le_of_ble_eq_true rfl) (fun x3 => ?_)
        refine PWk.iconst (v := 0) dX11_nights_23 ic_0 ?_
        refine PWk.istore_n [(2, .int 0), (0, .ref 1), (1, .int p1)] dX11_nights_24 (by decide) rfl ?_
        refine PWk.iconst (v := 0) dX11_nights_25 ic_0 ?_
        refine PWk.istore_n [(3, .int 0), (2, .int 0), (0, .ref 1), (1, .int p1)] dX11_nights_26 (by decide) rfl ?_
        refine PWk.sub [2, 3, 1, 0] rfl ?_
        refine PWk.loopV (fun N' hx' => lp_X11_nights_27 fu p1 L R fu 0 0 x3 N' F hx') (fun x7 => ?_)
        refine PWk.iload_n 0 dX11_nights_49 rfl ?_
        exact PWk.iret dX11_nights_50 rfl (fun h => h)
  · refine PWk.aload_n 0 dX11_nights_13 rfl ?_
    refine PWk.iconst (v := 2) dX11_nights_14 ic_2 ?_
    refine PWk.callViI (pc_X11_refuse I L R 2) dX11_nights_15 ml_X11_100 rfl rg_1 lc_1 vq_11 (by decide) rfl (Nat.le_of_ble_eq_true rfl) (fun x11 => ?_)
    exact PWk.iret dX11_nights_18 rfl (fun h => h)
/-! LakeMarket.draw(I)I -/
def f_X11_draw (I : HI) (p1 : Int32) : Option (Int32 × HI) :=
  bnd (sI I 1 17 (((1103515245 * (I 1 17)) + 12345) &&& 2147483647)) fun I1 =>
  if p1 ≤ 0 then
    some (0, I1)
  else
    dvI 64 <|
    dvI p1 <|
    some ((((I1 1 17) / 64) - ((I1 1 17) / 64) / p1 * p1), I1)
set_option maxRecDepth 20000 in
theorem pc_X11_draw (I : HI) (L : HL) (R : HR) (p1 : Int32) : PCo 1 93 0 yX11_draw cX11_draw 2 (some .int) [.ref 1, .int p1] I L R (f_X11_draw I p1) (fun x : Int32 × HI => ((some (.int x.1), x.2, L, R) : HF)) := by
  refine PCo.of (own := RX11) (by decide +kernel) (Nat.le_of_ble_eq_true rfl) rfl rfl (fun F => ?_)
  unfold f_X11_draw
  refine PWk.aload_n 0 dX11_draw_0 rfl ?_
  refine PWk.ldcw (v := 1103515245) dX11_draw_1 kc_X11_312 ?_
  refine PWk.aload_n 0 dX11_draw_4 rfl ?_
  refine PWk.geti dX11_draw_5 rg_1 lc_1 fl_X11_87 rfl ?_
  refine PWk.imul dX11_draw_8 ?_
  refine PWk.sipush (v := 12345) dX11_draw_9 sp_12345 ?_
  refine PWk.iadd dX11_draw_12 ?_
  refine PWk.ldcw (v := 2147483647) dX11_draw_13 kc_X11_313 ?_
  refine PWk.iand dX11_draw_16 ?_
  refine PWk.puti dX11_draw_17 rg_1 lc_1 fl_X11_87 fp_11_17 rfl ?_
  refine PWk.bI (fun I1 => ?_)
  refine PWk.iload_n 1 dX11_draw_20 rfl ?_
  refine PWk.if_le 36 dX11_draw_21 (by decide) (fun h2 => ?_) (fun h2 => ?_)
  · refine PWk.iconst (v := 0) dX11_draw_36 ic_0 ?_
    exact PWk.iret dX11_draw_37 rfl (fun h => h)
  · refine PWk.aload_n 0 dX11_draw_24 rfl ?_
    refine PWk.geti dX11_draw_25 rg_1 lc_1 fl_X11_87 rfl ?_
    refine PWk.bipush (v := 64) dX11_draw_28 bp_64 ?_
    refine PWk.idiv dX11_draw_30 ?_
    refine PWk.iload_n 1 dX11_draw_31 rfl ?_
    refine PWk.irem dX11_draw_32 ?_
    refine PWk.goto 37 dX11_draw_33 (by decide) ?_
    exact PWk.iret dX11_draw_37 rfl (fun h => h)
/-! LakeMarket.move(II)Z -/
def f_X11_move (fu : Nat) (I : HI) (R : HR) (p1 : Int32) (p2 : Int32) : Option (Int32 × HI) :=
  (f_X9_canMove fu I R 49 p1 p2).bind fun x1 =>
  if x1.1 = 0 then
    (f_X11_refuse x1.2 3).bind fun x2 =>
    gz 0 (some (0, x2.2))
  else
    (f_X11_remember x1.2).bind fun x3 =>
    inb 8 p1 <|
    bnd (sI x3 51 (p1 : Int32).toNatClampNeg p2) fun I4 =>
    gz 1 (some (1, I4))
set_option maxRecDepth 20000 in
theorem pc_X11_move (fu : Nat) (I : HI) (L : HL) (R : HR) (p1 : Int32) (p2 : Int32) : PCo 1 93 6 yX11_move cX11_move 3 (some .boolean) [.ref 1, .int p1, .int p2] I L R (f_X11_move fu I R p1 p2) (fun x : Int32 × HI => ((some (.int x.1), x.2, L, R) : HF)) := by
  refine PCo.of (own := RX11) (by decide +kernel) (Nat.le_of_ble_eq_true rfl) rfl rfl (fun F => ?_)
  unfold f_X11_move
  refine PWk.aload_n 0 dX11_move_0 rfl ?_
  refine PWk.gets dX11_move_1 rg_1 lc_1 fl_X11_39 rfl st_1_7 ?_
  refine PWk.iload_n 1 dX11_move_4 rfl ?_
  refine PWk.iload_n 2 dX11_move_5 rfl ?_
  refine PWk.callViI (pc_X9_canMove fu I L R 49 isSc_49 p1 p2) dX11_move_6 ml_X11_314 rfl rg_49 lc_49 vq_9 (by decide) rfl (Nat.le_of_ble_eq_true rfl) (fun x1 => ?_)
  refine PWk.if_ne 20 dX11_move_9 (by decide) (fun h5 => ?_) (fun h5 => ?_)
  · refine PWk.aload_n 0 dX11_move_12 rfl ?_
    refine PWk.iconst (v := 3) dX11_move_13 ic_3 ?_
    refine PWk.callViI (pc_X11_refuse x1.2 L R 3) dX11_move_14 ml_X11_100 rfl rg_1 lc_1 vq_11 (by decide) rfl (Nat.le_of_ble_eq_true rfl) (fun x2 => ?_)
    refine PWk.pop dX11_move_17 rfl ?_
    refine PWk.iconst (v := 0) dX11_move_18 ic_0 ?_
    exact PWk.zret dX11_move_19 rfl (fun h => h)
  · refine PWk.aload_n 0 dX11_move_20 rfl ?_
    refine PWk.callVvI (pc_X11_remember x1.2 L R) dX11_move_21 ml_X11_303 rfl rg_1 lc_1 vq_11 (by decide) rfl (Nat.le_of_ble_eq_true rfl) (fun x3 => ?_)
    refine PWk.aload_n 0 dX11_move_24 rfl ?_
    refine PWk.gets dX11_move_25 rg_1 lc_1 fl_X11_39 rfl st_1_7 ?_
    refine PWk.gets dX11_move_28 rg_49 lc_49 fl_X11_210 rfl st_49_3 ?_
    refine PWk.iload_n 1 dX11_move_31 rfl ?_
    refine PWk.iload_n 2 dX11_move_32 rfl ?_
    refine PWk.iast dX11_move_33 rg_51 ly_51 ?_
    refine PWk.bI (fun I4 => ?_)
    refine PWk.iconst (v := 1) dX11_move_34 ic_1 ?_
    exact PWk.zret dX11_move_35 rfl (fun h => h)
/-! LakeMarket.pour(II)I -/
def f_X11_pour (I : HI) (R : HR) (p1 : Int32) (p2 : Int32) : Option (Int32 × HI) :=
  (f_X9_canPour I R 49 p1 p2).bind fun x1 =>
  if x1 = 0 then
    (f_X11_refuse I 3).bind fun x2 =>
    some (x2.1, x2.2)
  else
    (f_X11_remember I).bind fun x3 =>
    ldI (x3 50) 8 p1 fun v4 =>
    ldI (x3 50) 8 p2 fun v5 =>
    inb 8 p1 <|
    bnd (sI x3 50 (p1 : Int32).toNatClampNeg (v4 + v5)) fun I6 =>
    (f_X9_setBarrels I6 49 p2 0).bind fun x7 =>
    ldI (x7 50) 8 p1 fun v8 =>
    some (v8, x7)
set_option maxRecDepth 20000 in
theorem pc_X11_pour (I : HI) (L : HL) (R : HR) (p1 : Int32) (p2 : Int32) : PCo 1 93 4 yX11_pour cX11_pour 3 (some .int) [.ref 1, .int p1, .int p2] I L R (f_X11_pour I R p1 p2) (fun x : Int32 × HI => ((some (.int x.1), x.2, L, R) : HF)) := by
  refine PCo.of (own := RX11) (by decide +kernel) (Nat.le_of_ble_eq_true rfl) rfl rfl (fun F => ?_)
  unfold f_X11_pour
  refine PWk.aload_n 0 dX11_pour_0 rfl ?_
  refine PWk.gets dX11_pour_1 rg_1 lc_1 fl_X11_39 rfl st_1_7 ?_
  refine PWk.iload_n 1 dX11_pour_4 rfl ?_
  refine PWk.iload_n 2 dX11_pour_5 rfl ?_
  refine PWk.callVi (pc_X9_canPour I L R 49 isSc_49 p1 p2) dX11_pour_6 ml_X11_317 rfl rg_49 lc_49 vq_9 (by decide) rfl (Nat.le_of_ble_eq_true rfl) (fun x1 => ?_)
  refine PWk.if_ne 18 dX11_pour_9 (by decide) (fun h9 => ?_) (fun h9 => ?_)
  · refine PWk.aload_n 0 dX11_pour_12 rfl ?_
    refine PWk.iconst (v := 3) dX11_pour_13 ic_3 ?_
    refine PWk.callViI (pc_X11_refuse I L R 3) dX11_pour_14 ml_X11_100 rfl rg_1 lc_1 vq_11 (by decide) rfl (Nat.le_of_ble_eq_true rfl) (fun x2 => ?_)
    exact PWk.iret dX11_pour_17 rfl (fun h => h)
  · refine PWk.aload_n 0 dX11_pour_18 rfl ?_
    refine PWk.callVvI (pc_X11_remember I L R) dX11_pour_19 ml_X11_303 rfl rg_1 lc_1 vq_11 (by decide) rfl (Nat.le_of_ble_eq_true rfl) (fun x3 => ?_)
    refine PWk.aload_n 0 dX11_pour_22 rfl ?_
    refine PWk.gets dX11_pour_23 rg_1 lc_1 fl_X11_39 rfl st_1_7 ?_
    refine PWk.gets dX11_pour_26 rg_49 lc_49 fl_X11_207 rfl st_49_2 ?_
    refine PWk.iload_n 1 dX11_pour_29 rfl ?_
    refine PWk.dup2 dX11_pour_30 rfl rfl ?_
    refine PWk.iald dX11_pour_31 rg_50 ly_50 (fun v4 => ?_)
    refine PWk.aload_n 0 dX11_pour_32 rfl ?_
    refine PWk.gets dX11_pour_33 rg_1 lc_1 fl_X11_39 rfl st_1_7 ?_
    refine PWk.gets dX11_pour_36 rg_49 lc_49 fl_X11_207 rfl st_49_2 ?_
    refine PWk.iload_n 2 dX11_pour_39 rfl ?_
    refine PWk.iald dX11_pour_40 rg_50 ly_50 (fun v5 => ?_)
    refine PWk.iadd dX11_pour_41 ?_
    refine PWk.iast dX11_pour_42 rg_50 ly_50 ?_
    refine PWk.bI (fun I6 => ?_)
    refine PWk.aload_n 0 dX11_pour_43 rfl ?_
    refine PWk.gets dX11_pour_44 rg_1 lc_1 fl_X11_39 rfl st_1_7 ?_
    refine PWk.iload_n 2 dX11_pour_47 rfl ?_
    refine PWk.iconst (v := 0) dX11_pour_48 ic_0 ?_
    refine PWk.callVvI (pc_X9_setBarrels I6 L R 49 isSc_49 p2 0) dX11_pour_49 ml_X11_320 rfl rg_49 lc_49 vq_9 (by decide) rfl (Nat.le_of_ble_eq_true rfl) (fun x7 => ?_)
    refine PWk.aload_n 0 dX11_pour_52 rfl ?_
    refine PWk.gets dX11_pour_53 rg_1 lc_1 fl_X11_39 rfl st_1_7 ?_
    refine PWk.gets dX11_pour_56 rg_49 lc_49 fl_X11_207 rfl st_49_2 ?_
    refine PWk.iload_n 1 dX11_pour_59 rfl ?_
    refine PWk.iald dX11_pour_60 rg_50 ly_50 (fun v8 => ?_)
    exact PWk.iret dX11_pour_61 rfl (fun h => h)
/-! LakeMarket.part(II)I -/
def f_X11_part (fu : Nat) (I : HI) (R : HR) (p1 : Int32) (p2 : Int32) : Option (Int32 × HI) :=
  (f_X9_firstGone fu I R 49).bind fun x1 =>
  (f_X9_stands I R 49 p1).bind fun x2 =>
  jnt (β := Unit) (fun y17 =>
    (f_X11_refuse I 3).bind fun x18 =>
    some (x18.1, x18.2)) fun j3 =>
  if x2 = 0 then
    j3 ()
  else
    if x1 = (-1) then
      j3 ()
    else
      if p2 < 1 then
        j3 ()
      else
        ldI (I 50) 8 p1 fun v4 =>
        if p2 < v4 then
          (f_X11_remember I).bind fun x5 =>
          ldI (x5 50) 8 p1 fun v6 =>
          inb 8 p1 <|
          bnd (sI x5 50 (p1 : Int32).toNatClampNeg (v6 - p2)) fun I7 =>
          inb 8 x1 <|
          bnd (sI I7 50 (x1 : Int32).toNatClampNeg p2) fun I8 =>
          ldI (I8 51) 8 p1 fun v9 =>
          inb 8 x1 <|
          bnd (sI I8 51 (x1 : Int32).toNatClampNeg v9) fun I10 =>
          ldI (I10 52) 8 p1 fun v11 =>
          inb 8 x1 <|
          bnd (sI I10 52 (x1 : Int32).toNatClampNeg v11) fun I12 =>
          some (x1, I12)
        else
          j3 ()
set_option maxRecDepth 20000 in
theorem pc_X11_part (fu : Nat) (I : HI) (L : HL) (R : HR) (p1 : Int32) (p2 : Int32) : PCo 1 93 4 yX11_part cX11_part 4 (some .int) [.ref 1, .int p1, .int p2] I L R (f_X11_part fu I R p1 p2) (fun x : Int32 × HI => ((some (.int x.1), x.2, L, R) : HF)) := by
  refine PCo.of (own := RX11) (by decide +kernel) (Nat.le_of_ble_eq_true rfl) rfl rfl (fun F => ?_)
  unfold f_X11_part
  refine PWk.aload_n 0 dX11_part_0 rfl ?_
  refine PWk.gets dX11_part_1 rg_1 lc_1 fl_X11_39 rfl st_1_7 ?_
  refine PWk.callVi (pc_X9_firstGone fu I L R 49 isSc_49) dX11_part_4 ml_X11_324 rfl rg_49 lc_49 vq_9 (by decide) rfl (Nat.le_of_ble_eq_true rfl) (fun x1 => ?_)
  refine PWk.istore_n [(3, .int x1), (0, .ref 1), (1, .int p1), (2, .int p2)] dX11_part_7 (by decide) rfl ?_
  refine PWk.aload_n 1 dX11_part_8 rfl ?_
  refine PWk.gets dX11_part_9 rg_1 lc_1 fl_X11_39 rfl st_1_7 ?_
  refine PWk.iload_n 2 dX11_part_12 rfl ?_
  refine PWk.callVi (pc_X9_stands I L R 49 isSc_49 p1) dX11_part_13 ml_X11_254 rfl rg_49 lc_49 vq_9 (by decide) rfl (Nat.le_of_ble_eq_true rfl) (fun x2 => ?_)
  refine PWk.jn (pc' := 42) (lv' := fun y17 => [(0, .ref 1)]) (st' := fun y17 => []) (I' := fun y17 => I) (L' := fun y17 => L) (R' := fun y17 => R) (fun j3 hj3 => ?_) (fun y17 => ?_)
  · refine PWk.if_eq 42 dX11_part_16 (by decide) (fun h16 => ?_) (fun h16 => ?_)
    · refine PWk.sub [1] rfl ?_
      exact hj3 ()
    · refine PWk.iload_n 0 dX11_part_19 rfl ?_
      refine PWk.iconst (v := (-1)) dX11_part_20 ic_m1 ?_
      refine PWk.icmp_eq 42 dX11_part_21 (by decide) (fun h15 => ?_) (fun h15 => ?_)
      · refine PWk.sub [1] rfl ?_
        exact hj3 ()
      · refine PWk.iload_n 3 dX11_part_24 rfl ?_
        refine PWk.iconst (v := 1) dX11_part_25 ic_1 ?_
        refine PWk.icmp_lt 42 dX11_part_26 (by decide) (fun h14 => ?_) (fun h14 => ?_)
        · refine PWk.sub [1] rfl ?_
          exact hj3 ()
        · refine PWk.iload_n 3 dX11_part_29 rfl ?_
          refine PWk.aload_n 1 dX11_part_30 rfl ?_
          refine PWk.gets dX11_part_31 rg_1 lc_1 fl_X11_39 rfl st_1_7 ?_
          refine PWk.gets dX11_part_34 rg_49 lc_49 fl_X11_207 rfl st_49_2 ?_
          refine PWk.iload_n 2 dX11_part_37 rfl ?_
          refine PWk.iald dX11_part_38 rg_50 ly_50 (fun v4 => ?_)
          refine PWk.icmp_lt 48 dX11_part_39 (by decide) (fun h13 => ?_) (fun h13 => ?_)
          · refine PWk.aload_n 1 dX11_part_48 rfl ?_
            refine PWk.callVvI (pc_X11_remember I L R) dX11_part_49 ml_X11_303 rfl rg_1 lc_1 vq_11 (by decide) rfl (Nat.le_of_ble_eq_true rfl) (fun x5 => ?_)
            refine PWk.aload_n 1 dX11_part_52 rfl ?_
            refine PWk.gets dX11_part_53 rg_1 lc_1 fl_X11_39 rfl st_1_7 ?_
            refine PWk.gets dX11_part_56 rg_49 lc_49 fl_X11_207 rfl st_49_2 ?_
            refine PWk.iload_n 2 dX11_part_59 rfl ?_
            refine PWk.dup2 dX11_part_60 rfl rfl ?_
            refine PWk.iald dX11_part_61 rg_50 ly_50 (fun v6 => ?_)
            refine PWk.iload_n 3 dX11_part_62 rfl ?_
            refine PWk.isub dX11_part_63 ?_
            refine PWk.iast dX11_part_64 rg_50 ly_50 ?_
            refine PWk.bI (fun I7 => ?_)
            refine PWk.aload_n 1 dX11_part_65 rfl ?_
            refine PWk.gets dX11_part_66 rg_1 lc_1 fl_X11_39 rfl st_1_7 ?_
            refine PWk.gets dX11_part_69 rg_49 lc_49 fl_X11_207 rfl st_49_2 ?_
            refine PWk.iload_n 0 dX11_part_72 rfl ?_
            refine PWk.iload_n 3 dX11_part_73 rfl ?_
            refine PWk.iast dX11_part_74 rg_50 ly_50 ?_
            refine PWk.bI (fun I8 => ?_)
            refine PWk.aload_n 1 dX11_part_75 rfl ?_
            refine PWk.gets dX11_part_76 rg_1 lc_1 fl_X11_39 rfl st_1_7 ?_
            refine PWk.gets dX11_part_79 rg_49 lc_49 fl_X11_210 rfl st_49_3 ?_
            refine PWk.iload_n 0 dX11_part_82 rfl ?_
            refine PWk.aload_n 1 dX11_part_83 rfl ?_
            refine PWk.gets dX11_part_84 rg_1 lc_1 fl_X11_39 rfl st_1_7 ?_
            refine PWk.gets dX11_part_87 rg_49 lc_49 fl_X11_210 rfl st_49_3 ?_
            refine PWk.iload_n 2 dX11_part_90 rfl ?_
            refine PWk.iald dX11_part_91 rg_51 ly_51 (fun v9 => ?_)
            refine PWk.iast dX11_part_92 rg_51 ly_51 ?_
            refine PWk.bI (fun I10 => ?_)
            refine PWk.aload_n 1 dX11_part_93 rfl ?_
            refine PWk.gets dX11_part_94 rg_1 lc_1 fl_X11_39 rfl st_1_7 ?_
            refine PWk.gets dX11_part_97 rg_49 lc_49 fl_X11_213 rfl st_49_4 ?_
            refine PWk.iload_n 0 dX11_part_100 rfl ?_
            refine PWk.aload_n 1 dX11_part_101 rfl ?_
            refine PWk.gets dX11_part_102 rg_1 lc_1 fl_X11_39 rfl st_1_7 ?_
            refine PWk.gets dX11_part_105 rg_49 lc_49 fl_X11_213 rfl st_49_4 ?_
            refine PWk.iload_n 2 dX11_part_108 rfl ?_
            refine PWk.iald dX11_part_109 rg_52 ly_52 (fun v11 => ?_)
            refine PWk.iast dX11_part_110 rg_52 ly_52 ?_
            refine PWk.bI (fun I12 => ?_)
            refine PWk.iload_n 0 dX11_part_111 rfl ?_
            exact PWk.iret dX11_part_112 rfl (fun h => h)
          · refine PWk.sub [1] rfl ?_
            exact hj3 ()
  · refine PWk.aload_n 0 dX11_part_42 rfl ?_
    refine PWk.iconst (v := 3) dX11_part_43 ic_3 ?_
    refine PWk.callViI (pc_X11_refuse I L R 3) dX11_part_44 ml_X11_100 rfl rg_1 lc_1 vq_11 (by decide) rfl (Nat.le_of_ble_eq_true rfl) (fun x18 => ?_)
    exact PWk.iret dX11_part_47 rfl (fun h => h)
/-! LakeMarket.pay(III)I -/
def f_X11_pay (fu : Nat) (I : HI) (R : HR) (p1 : Int32) (p2 : Int32) (p3 : Int32) : Option (Int32 × HI) :=
  (f_X9_areTwoOwners I R 49 p1 p2).bind fun x1 =>
  jnt (β := Unit) (fun y20 =>
    (f_X11_refuse I 3).bind fun x21 =>
    some (x21.1, x21.2)) fun j2 =>
  if x1 = 0 then
    j2 ()
  else
    if p3 ≤ 0 then
      j2 ()
    else
      (f_X9_lakesOf fu I R 49 p1).bind fun x3 =>
      if (p3 &&& (x3 ^^^ (-1))) = 0 then
        (f_X9_worthOfBits fu I R 49 p3).bind fun x4 =>
        ldI (x4.2 53) 36 ((p1 * 6) + p2) fun v5 =>
        ldI (x4.2 53) 36 ((p2 * 6) + p1) fun v6 =>
        (f_J9_max_7cf53 0 (x4.1 - v5)).bind fun x7 =>
        bnd ((v6 + x7)) fun v8 =>
        if v8 ≤ 9999 then
          (f_X11_remember x4.2).bind fun x9 =>
          (f_J9_max_7cf53 0 (v5 - x4.1)).bind fun x10 =>
          inb 36 ((p1 * 6) + p2) <|
          bnd (sI x9 53 (((p1 * 6) + p2) : Int32).toNatClampNeg x10) fun I11 =>
          inb 36 ((p2 * 6) + p1) <|
          bnd (sI I11 53 (((p2 * 6) + p1) : Int32).toNatClampNeg v8) fun I12 =>
          (f_X9_give fu I12 R 49 p3 p2).bind fun x13 =>
          (f_X5_add x13 (x13 49 1) p1 p2 x4.1).bind fun x14 =>
          some (x4.1, x14)
        else
          (f_X11_refuse x4.2 3).bind fun x15 =>
          some (x15.1, x15.2)
      else
        j2 ()
set_option maxRecDepth 20000 in
theorem pc_X11_pay (fu : Nat) (I : HI) (L : HL) (R : HR) (p1 : Int32) (p2 : Int32) (p3 : Int32) : PCo 1 93 6 yX11_pay cX11_pay 7 (some .int) [.ref 1, .int p1, .int p2, .int p3] I L R (f_X11_pay fu I R p1 p2 p3) (fun x : Int32 × HI => ((some (.int x.1), x.2, L, R) : HF)) := by
  refine PCo.of (own := RX11) (by decide +kernel) (Nat.le_of_ble_eq_true rfl) rfl rfl (fun F => ?_)
  unfold f_X11_pay
  refine PWk.aload_n 0 dX11_pay_0 rfl ?_
  refine PWk.gets dX11_pay_1 rg_1 lc_1 fl_X11_39 rfl st_1_7 ?_
  refine PWk.iload_n 1 dX11_pay_4 rfl ?_
  refine PWk.iload_n 2 dX11_pay_5 rfl ?_
  refine PWk.callVi (pc_X9_areTwoOwners I L R 49 isSc_49 p1 p2) dX11_pay_6 ml_X11_237 rfl rg_49 lc_49 vq_9 (by decide) rfl (Nat.le_of_ble_eq_true rfl) (fun x1 => ?_)
  refine PWk.jn (pc' := 31) (lv' := fun y20 => [(0, .ref 1)]) (st' := fun y20 => []) (I' := fun y20 => I) (L' := fun y20 => L) (R' := fun y20 => R) (fun j2 hj2 => ?_) (fun y20 => ?_)
  · refine PWk.if_eq 31 dX11_pay_9 (by decide) (fun h19 => ?_) (fun h19 => ?_)
    · refine PWk.sub [0] rfl ?_
      exact hj2 ()
    · refine PWk.iload_n 3 dX11_pay_12 rfl ?_
      refine PWk.if_le 31 dX11_pay_13 (by decide) (fun h18 => ?_) (fun h18 => ?_)
      · refine PWk.sub [0] rfl ?_
        exact hj2 ()
      · refine PWk.iload_n 3 dX11_pay_16 rfl ?_
        refine PWk.aload_n 0 dX11_pay_17 rfl ?_
        refine PWk.gets dX11_pay_18 rg_1 lc_1 fl_X11_39 rfl st_1_7 ?_
        refine PWk.iload_n 1 dX11_pay_21 rfl ?_
        refine PWk.callVi (pc_X9_lakesOf fu I L R 49 isSc_49 p1) dX11_pay_22 ml_X11_222 rfl rg_49 lc_49 vq_9 (by decide) rfl (Nat.le_of_ble_eq_true rfl) (fun x3 => ?_)
        refine PWk.iconst (v := (-1)) dX11_pay_25 ic_m1 ?_
        refine PWk.ixor dX11_pay_26 ?_
        refine PWk.iand dX11_pay_27 ?_
        refine PWk.if_eq 37 dX11_pay_28 (by decide) (fun h17 => ?_) (fun h17 => ?_)
        · refine PWk.aload_n 0 dX11_pay_37 rfl ?_
          refine PWk.gets dX11_pay_38 rg_1 lc_1 fl_X11_39 rfl st_1_7 ?_
          refine PWk.iload_n 3 dX11_pay_41 rfl ?_
          refine PWk.callViI (pc_X9_worthOfBits fu I L R 49 isSc_49 p3) dX11_pay_42 ml_X11_327 rfl rg_49 lc_49 vq_9 (by decide) rfl (Nat.le_of_ble_eq_true rfl) (fun x4 => ?_)
          refine PWk.istore [(4, .int x4.1), (0, .ref 1), (1, .int p1), (2, .int p2), (3, .int p3)] dX11_pay_45 (by decide) rfl ?_
          refine PWk.aload_n 1 dX11_pay_47 rfl ?_
          refine PWk.gets dX11_pay_48 rg_1 lc_1 fl_X11_39 rfl st_1_7 ?_
          refine PWk.gets dX11_pay_51 rg_49 lc_49 fl_X11_241 rfl st_49_5 ?_
          refine PWk.iload_n 2 dX11_pay_54 rfl ?_
          refine PWk.bipush (v := 6) dX11_pay_55 bp_6 ?_
          refine PWk.imul dX11_pay_57 ?_
          refine PWk.iload_n 3 dX11_pay_58 rfl ?_
          refine PWk.iadd dX11_pay_59 ?_
          refine PWk.iald dX11_pay_60 rg_53 ly_53 (fun v5 => ?_)
          refine PWk.istore [(5, .int v5), (4, .int x4.1), (0, .ref 1), (1, .int p1), (2, .int p2), (3, .int p3)] dX11_pay_61 (by decide) rfl ?_
          refine PWk.aload_n 2 dX11_pay_63 rfl ?_
          refine PWk.gets dX11_pay_64 rg_1 lc_1 fl_X11_39 rfl st_1_7 ?_
          refine PWk.gets dX11_pay_67 rg_49 lc_49 fl_X11_241 rfl st_49_5 ?_
          refine PWk.iload_n 4 dX11_pay_70 rfl ?_
          refine PWk.bipush (v := 6) dX11_pay_71 bp_6 ?_
          refine PWk.imul dX11_pay_73 ?_
          refine PWk.iload_n 3 dX11_pay_74 rfl ?_
          refine PWk.iadd dX11_pay_75 ?_
          refine PWk.iald dX11_pay_76 rg_53 ly_53 (fun v6 => ?_)
          refine PWk.iconst (v := 0) dX11_pay_77 ic_0 ?_
          refine PWk.iload 1 dX11_pay_78 rfl ?_
          refine PWk.iload 0 dX11_pay_80 rfl ?_
          refine PWk.isub dX11_pay_82 ?_
          refine PWk.callSi (pc_J9_max_7cf53 x4.2 L R 0 (x4.1 - v5)) dX11_pay_83 ml_X11_294 rfl (by decide) rfl (Nat.le_of_ble_eq_true rfl) (fun x7 => ?_)
          refine PWk.iadd dX11_pay_86 ?_
          refine PWk.bi (fun v8 => ?_)
          refine PWk.istore [(6, .int v8), (5, .int v5), (4, .int x4.1), (0, .ref 1), (1, .int p1), (2, .int p2), (3, .int p3)] dX11_pay_87 (by decide) rfl ?_
          refine PWk.iload 0 dX11_pay_89 rfl ?_
          refine PWk.sipush (v := 9999) dX11_pay_91 sp_9999 ?_
          refine PWk.icmp_le 103 dX11_pay_94 (by decide) (fun h16 => ?_) (fun h16 => ?_)
          · refine PWk.aload_n 3 dX11_pay_103 rfl ?_
            refine PWk.callVvI (pc_X11_remember x4.2 L R) dX11_pay_104 ml_X11_303 rfl rg_1 lc_1 vq_11 (by decide) rfl (Nat.le_of_ble_eq_true rfl) (fun x9 => ?_)
            refine PWk.aload_n 3 dX11_pay_107 rfl ?_
            refine PWk.gets dX11_pay_108 rg_1 lc_1 fl_X11_39 rfl st_1_7 ?_
            refine PWk.gets dX11_pay_111 rg_49 lc_49 fl_X11_241 rfl st_49_5 ?_
            refine PWk.iload_n 4 dX11_pay_114 rfl ?_
            refine PWk.bipush (v := 6) dX11_pay_115 bp_6 ?_
            refine PWk.imul dX11_pay_117 ?_
            refine PWk.iload_n 5 dX11_pay_118 rfl ?_
            refine PWk.iadd dX11_pay_119 ?_
            refine PWk.iconst (v := 0) dX11_pay_120 ic_0 ?_
            refine PWk.iload 1 dX11_pay_121 rfl ?_
            refine PWk.iload 2 dX11_pay_123 rfl ?_
            refine PWk.isub dX11_pay_125 ?_
            refine PWk.callSi (pc_J9_max_7cf53 x9 L R 0 (v5 - x4.1)) dX11_pay_126 ml_X11_294 rfl (by decide) rfl (Nat.le_of_ble_eq_true rfl) (fun x10 => ?_)
            refine PWk.iast dX11_pay_129 rg_53 ly_53 ?_
            refine PWk.bI (fun I11 => ?_)
            refine PWk.aload_n 3 dX11_pay_130 rfl ?_
            refine PWk.gets dX11_pay_131 rg_1 lc_1 fl_X11_39 rfl st_1_7 ?_
            refine PWk.gets dX11_pay_134 rg_49 lc_49 fl_X11_241 rfl st_49_5 ?_
            refine PWk.iload_n 5 dX11_pay_137 rfl ?_
            refine PWk.bipush (v := 6) dX11_pay_138 bp_6 ?_
            refine PWk.imul dX11_pay_140 ?_
            refine PWk.iload_n 4 dX11_pay_141 rfl ?_
            refine PWk.iadd dX11_pay_142 ?_
            refine PWk.iload 0 dX11_pay_143 rfl ?_
            refine PWk.iast dX11_pay_145 rg_53 ly_53 ?_
            refine PWk.bI (fun I12 => ?_)
            refine PWk.aload_n 3 dX11_pay_146 rfl ?_
            refine PWk.gets dX11_pay_147 rg_1 lc_1 fl_X11_39 rfl st_1_7 ?_
            refine PWk.iload_n 6 dX11_pay_150 rfl ?_
            refine PWk.iload_n 5 dX11_pay_151 rfl ?_
            refine PWk.callVvI (pc_X9_give fu I12 L R 49 isSc_49 p3 p2) dX11_pay_152 ml_X11_330 rfl rg_49 lc_49 vq_9 (by decide) rfl (Nat.le_of_ble_eq_true rfl) (fun x13 => ?_)
            refine PWk.aload_n 3 dX11_pay_155 rfl ?_
            refine PWk.gets dX11_pay_156 rg_1 lc_1 fl_X11_56 rfl st_1_10 ?_
            refine PWk.aload_n 3 dX11_pay_159 rfl ?_
            refine PWk.gets dX11_pay_160 rg_1 lc_1 fl_X11_39 rfl st_1_7 ?_
            refine PWk.geti dX11_pay_163 rg_49 lc_49 fl_X11_151 rfl ?_
            refine PWk.iload_n 4 dX11_pay_166 rfl ?_
            refine PWk.iload_n 5 dX11_pay_167 rfl ?_
            refine PWk.iload 2 dX11_pay_168 rfl ?_
            refine PWk.callVvI (pc_X5_add x13 L R (x13 49 1) p1 p2 x4.1) dX11_pay_170 ml_X11_333 rfl rg_32 lc_32 vq_5 (by decide) rfl (Nat.le_of_ble_eq_true rfl) (fun x14 => ?_)
            refine PWk.iload 2 dX11_pay_173 rfl ?_
            exact PWk.iret dX11_pay_175 rfl (fun h => h)
          · refine PWk.aload_n 3 dX11_pay_97 rfl ?_
            refine PWk.iconst (v := 3) dX11_pay_98 ic_3 ?_
            refine PWk.callViI (pc_X11_refuse x4.2 L R 3) dX11_pay_99 ml_X11_100 rfl rg_1 lc_1 vq_11 (by decide) rfl (Nat.le_of_ble_eq_true rfl) (fun x15 => ?_)
            exact PWk.iret dX11_pay_102 rfl (fun h => h)
        · refine PWk.sub [0] rfl ?_
          exact hj2 ()
  · refine PWk.aload_n 0 dX11_pay_31 rfl ?_
    refine PWk.iconst (v := 3) dX11_pay_32 ic_3 ?_
    refine PWk.callViI (pc_X11_refuse I L R 3) dX11_pay_33 ml_X11_100 rfl rg_1 lc_1 vq_11 (by decide) rfl (Nat.le_of_ble_eq_true rfl) (fun x21 => ?_)
    exact PWk.iret dX11_pay_36 rfl (fun h => h)
/-! LakeMarket.isRing(I)Z -/
def f_X11_isRing_L17 : Nat → HI → HR → Int32 → Int32 → Int32 → Option ((Int32) ⊕ (Unit))
  | 0, _, _, _, _, _ => none
  | n + 1, I, R, u1, u2, u3 =>
    if u1 ≤ u3 then
      some (.inr ())
    else
      ldI (I 2) 1600 u3 fun v1 =>
      (f_X9_isOwner I R 49 v1).bind fun x2 =>
      if x2 = 0 then
        gz 0 (some (.inl 0))
      else
        ldI (I 2) 1600 u3 fun v3 =>
        if (u2 &&& ((1 : Int32) <<< (v3 &&& 31))) = 0 then
          ldI (I 2) 1600 u3 fun v4 =>
          bnd ((u2 ||| ((1 : Int32) <<< (v4 &&& 31)))) fun v5 =>
          f_X11_isRing_L17 n I R u1 v5 (u3 + 1)
        else
          gz 0 (some (.inl 0))
def f_X11_isRing (fu : Nat) (I : HI) (R : HR) (p1 : Int32) : Option (Int32) :=
  if p1 < 2 then
    gz 0 (some 0)
  else
    if p1 ≤ 6 then
      (f_X11_isRing_L17 fu I R p1 0 0).bind (Sum.elim (fun r => some r) fun x9 =>
      gz 1 (some 1))
    else
      gz 0 (some 0)
set_option maxRecDepth 20000 in
theorem lp_X11_isRing_17 (fu : Nat) (u1 : Int32) (I : HI) (L : HL) (R : HR) : ∀ (n : Nat) (u2 : Int32) (u3 : Int32) (N : ((Int32) ⊕ (Unit)) → Prop) (F : HF), (∀ v : Unit, N (.inr v) → PW 1 93 1 RX11 cX11_isRing 4 (some .boolean) 70 [] [] I L R F) → (∀ r : Int32, N (.inl r) → F = (fun x : Int32 => ((some (.int x), I, L, R) : HF)) r) → PWk 1 93 1 RX11 cX11_isRing 4 (some .boolean) 17 [(0, .ref 1), (1, .int u1), (2, .int u2), (3, .int u3)] [] I L R (f_X11_isRing_L17 n I R u1 u2 u3) N F := by
  intro n
  induction n with
  | zero => intro u2 u3 N F hx hr; exact PWk.none'
  | succ n ih =>
    intro u2 u3 N F hx hr
    unfold f_X11_isRing_L17
    refine PWk.iload_n 3 dX11_isRing_17 rfl ?_
    refine PWk.iload_n 1 dX11_isRing_18 rfl ?_
    refine PWk.icmp_ge 70 dX11_isRing_19 (by decide) (fun h8 => ?_) (fun h8 => ?_)
    · refine PWk.sub [] rfl ?_
      exact PWk.done (fun h => hx _ h)
    · refine PWk.aload_n 0 dX11_isRing_22 rfl ?_
      refine PWk.gets dX11_isRing_23 rg_1 lc_1 fl_X11_39 rfl st_1_7 ?_
      refine PWk.aload_n 0 dX11_isRing_26 rfl ?_
      refine PWk.gets dX11_isRing_27 rg_1 lc_1 fl_X11_9 rfl st_1_0 ?_
      refine PWk.iload_n 3 dX11_isRing_30 rfl ?_
      refine PWk.iald dX11_isRing_31 rg_2 ly_2 (fun v1 => ?_)
      refine PWk.callVi (pc_X9_isOwner I L R 49 isSc_49 v1) dX11_isRing_32 ml_X11_183 rfl rg_49 lc_49 vq_9 (by decide) rfl (Nat.le_of_ble_eq_true rfl) (fun x2 => ?_)
      refine PWk.if_eq 51 dX11_isRing_35 (by decide) (fun h7 => ?_) (fun h7 => ?_)
      · refine PWk.iconst (v := 0) dX11_isRing_51 ic_0 ?_
        exact PWk.zret dX11_isRing_52 rfl (hr _)
      · refine PWk.iload_n 2 dX11_isRing_38 rfl ?_
        refine PWk.iconst (v := 1) dX11_isRing_39 ic_1 ?_
        refine PWk.aload_n 0 dX11_isRing_40 rfl ?_
        refine PWk.gets dX11_isRing_41 rg_1 lc_1 fl_X11_9 rfl st_1_0 ?_
        refine PWk.iload_n 3 dX11_isRing_44 rfl ?_
        refine PWk.iald dX11_isRing_45 rg_2 ly_2 (fun v3 => ?_)
        refine PWk.ishl dX11_isRing_46 ?_
        refine PWk.iand dX11_isRing_47 ?_
        refine PWk.if_eq 53 dX11_isRing_48 (by decide) (fun h6 => ?_) (fun h6 => ?_)
        · refine PWk.iload_n 2 dX11_isRing_53 rfl ?_
          refine PWk.iconst (v := 1) dX11_isRing_54 ic_1 ?_
          refine PWk.aload_n 0 dX11_isRing_55 rfl ?_
          refine PWk.gets dX11_isRing_56 rg_1 lc_1 fl_X11_9 rfl st_1_0 ?_
          refine PWk.iload_n 3 dX11_isRing_59 rfl ?_
          refine PWk.iald dX11_isRing_60 rg_2 ly_2 (fun v4 => ?_)
          refine PWk.ishl dX11_isRing_61 ?_
          refine PWk.ior dX11_isRing_62 ?_
          refine PWk.bi (fun v5 => ?_)
          refine PWk.istore_n [(2, .int v5), (0, .ref 1), (1, .int u1), (3, .int u3)] dX11_isRing_63 (by decide) rfl ?_
          refine PWk.iinc (v := (u3 + 1)) 3 [(3, .int (u3 + 1)), (2, .int v5), (0, .ref 1), (1, .int u1)] dX11_isRing_64 rfl (by rw [ic_1]) (by decide) rfl ?_
          refine PWk.goto 17 dX11_isRing_67 (by decide) ?_
          refine PWk.sub [2, 3, 1, 0] rfl ?_
          exact ih v5 (u3 + 1) N F hx hr
        · refine PWk.iconst (v := 0) dX11_isRing_51 ic_0 ?_
          exact PWk.zret dX11_isRing_52 rfl (hr _)
set_option maxRecDepth 20000 in
theorem pc_X11_isRing (fu : Nat) (I : HI) (L : HL) (R : HR) (p1 : Int32) : PCo 1 93 1 yX11_isRing cX11_isRing 4 (some .boolean) [.ref 1, .int p1] I L R (f_X11_isRing fu I R p1) (fun x : Int32 => ((some (.int x), I, L, R) : HF)) := by
  refine PCo.of (own := RX11) (by decide +kernel) (Nat.le_of_ble_eq_true rfl) rfl rfl (fun F => ?_)
  unfold f_X11_isRing
  refine PWk.iload_n 1 dX11_isRing_0 rfl ?_
  refine PWk.iconst (v := 2) dX11_isRing_1 ic_2 ?_
  refine PWk.icmp_lt 11 dX11_isRing_2 (by decide) (fun h11 => ?_) (fun h11 => ?_)
  · refine PWk.iconst (v := 0) dX11_isRing_11 ic_0 ?_
    exact PWk.zret dX11_isRing_12 rfl (fun h => h)
  · refine PWk.iload_n 1 dX11_isRing_5 rfl ?_
    refine PWk.bipush (v := 6) dX11_isRing_6 bp_6 ?_
    refine PWk.icmp_le 13 dX11_isRing_8 (by decide) (fun h10 => ?_) (fun h10 => ?_)
    · refine PWk.iconst (v := 0) dX11_isRing_13 ic_0 ?_
      refine PWk.istore_n [(2, .int 0), (0, .ref 1), (1, .int p1)] dX11_isRing_14 (by decide) rfl ?_
      refine PWk.iconst (v := 0) dX11_isRing_15 ic_0 ?_
      refine PWk.istore_n [(3, .int 0), (2, .int 0), (0, .ref 1), (1, .int p1)] dX11_isRing_16 (by decide) rfl ?_
      refine PWk.sub [2, 3, 1, 0] rfl ?_
      refine PWk.loopS (fun N' hx' hr' => lp_X11_isRing_17 fu p1 I L R fu 0 0 N' F hx' hr') (fun r a e h => by cases e; exact h) (fun x9 => ?_)
      refine PWk.iconst (v := 1) dX11_isRing_70 ic_1 ?_
      exact PWk.zret dX11_isRing_71 rfl (fun h => h)
    · refine PWk.iconst (v := 0) dX11_isRing_11 ic_0 ?_
      exact PWk.zret dX11_isRing_12 rfl (fun h => h)
/-! LakeMarket.debtInRing(II)I -/
def f_X11_debtInRing (I : HI) (p1 : Int32) (p2 : Int32) : Option (Int32) :=
  jnt (β := Int32) (fun y3 =>
    ldI (I 2) 1600 p1 fun v4 =>
    ldI (I 2) 1600 y3 fun v5 =>
    some ((v4 * 6) + v5)) fun j1 =>
  if p2 ≤ (p1 + 1) then
    j1 0
  else
    j1 (p1 + 1)
set_option maxRecDepth 20000 in
theorem pc_X11_debtInRing (I : HI) (L : HL) (R : HR) (p1 : Int32) (p2 : Int32) : PCo 1 93 0 yX11_debtInRing cX11_debtInRing 4 (some .int) [.ref 1, .int p1, .int p2] I L R (f_X11_debtInRing I p1 p2) (fun x : Int32 => ((some (.int x), I, L, R) : HF)) := by
  refine PCo.of (own := RX11) (by decide +kernel) (Nat.le_of_ble_eq_true rfl) rfl rfl (fun F => ?_)
  unfold f_X11_debtInRing
  refine PWk.iload_n 1 dX11_debtInRing_0 rfl ?_
  refine PWk.iconst (v := 1) dX11_debtInRing_1 ic_1 ?_
  refine PWk.iadd dX11_debtInRing_2 ?_
  refine PWk.iload_n 2 dX11_debtInRing_3 rfl ?_
  refine PWk.jn (pc' := 14) (lv' := fun y3 => [(0, .ref 1), (1, .int p1)]) (st' := fun y3 => [.int y3]) (I' := fun y3 => I) (L' := fun y3 => L) (R' := fun y3 => R) (fun j1 hj1 => ?_) (fun y3 => ?_)
  · refine PWk.icmp_ge 13 dX11_debtInRing_4 (by decide) (fun h2 => ?_) (fun h2 => ?_)
    · refine PWk.iconst (v := 0) dX11_debtInRing_13 ic_0 ?_
      refine PWk.sub [0, 1] rfl ?_
      exact hj1 0
    · refine PWk.iload_n 1 dX11_debtInRing_7 rfl ?_
      refine PWk.iconst (v := 1) dX11_debtInRing_8 ic_1 ?_
      refine PWk.iadd dX11_debtInRing_9 ?_
      refine PWk.goto 14 dX11_debtInRing_10 (by decide) ?_
      refine PWk.sub [0, 1] rfl ?_
      exact hj1 (p1 + 1)
  · refine PWk.istore_n [(3, .int y3), (0, .ref 1), (1, .int p1)] dX11_debtInRing_14 (by decide) rfl ?_
    refine PWk.aload_n 1 dX11_debtInRing_15 rfl ?_
    refine PWk.gets dX11_debtInRing_16 rg_1 lc_1 fl_X11_9 rfl st_1_0 ?_
    refine PWk.iload_n 2 dX11_debtInRing_19 rfl ?_
    refine PWk.iald dX11_debtInRing_20 rg_2 ly_2 (fun v4 => ?_)
    refine PWk.bipush (v := 6) dX11_debtInRing_21 bp_6 ?_
    refine PWk.imul dX11_debtInRing_23 ?_
    refine PWk.aload_n 1 dX11_debtInRing_24 rfl ?_
    refine PWk.gets dX11_debtInRing_25 rg_1 lc_1 fl_X11_9 rfl st_1_0 ?_
    refine PWk.iload_n 0 dX11_debtInRing_28 rfl ?_
    refine PWk.iald dX11_debtInRing_29 rg_2 ly_2 (fun v5 => ?_)
    refine PWk.iadd dX11_debtInRing_30 ?_
    exact PWk.iret dX11_debtInRing_31 rfl (fun h => h)
/-! LakeMarket.undo()Z -/
def f_X11_undo (I : HI) : Option (Int32 × HI) :=
  if (I 9 3) = 0 then
    (f_X11_refuse I 4).bind fun x1 =>
    gz 0 (some (0, x1.2))
  else
    (f_X1_pop I 49).bind fun x2 =>
    bnd (sI x2.2 32 1 x2.1) fun I3 =>
    gz 1 (some (1, I3))
set_option maxRecDepth 20000 in
theorem pc_X11_undo (I : HI) (L : HL) (R : HR) : PCo 1 93 3 yX11_undo cX11_undo 1 (some .boolean) [.ref 1] I L R (f_X11_undo I) (fun x : Int32 × HI => ((some (.int x.1), x.2, L, R) : HF)) := by
  refine PCo.of (own := RX11) (by decide +kernel) (Nat.le_of_ble_eq_true rfl) rfl rfl (fun F => ?_)
  unfold f_X11_undo
  refine PWk.aload_n 0 dX11_undo_0 rfl ?_
  refine PWk.gets dX11_undo_1 rg_1 lc_1 fl_X11_49 rfl st_1_9 ?_
  refine PWk.geti dX11_undo_4 rg_9 lc_9 fl_X11_169 rfl ?_
  refine PWk.if_ne 18 dX11_undo_7 (by decide) (fun h4 => ?_) (fun h4 => ?_)
  · refine PWk.aload_n 0 dX11_undo_10 rfl ?_
    refine PWk.iconst (v := 4) dX11_undo_11 ic_4 ?_
    refine PWk.callViI (pc_X11_refuse I L R 4) dX11_undo_12 ml_X11_100 rfl rg_1 lc_1 vq_11 (by decide) rfl (Nat.le_of_ble_eq_true rfl) (fun x1 => ?_)
    refine PWk.pop dX11_undo_15 rfl ?_
    refine PWk.iconst (v := 0) dX11_undo_16 ic_0 ?_
    exact PWk.zret dX11_undo_17 rfl (fun h => h)
  · refine PWk.aload_n 0 dX11_undo_18 rfl ?_
    refine PWk.gets dX11_undo_19 rg_1 lc_1 fl_X11_56 rfl st_1_10 ?_
    refine PWk.aload_n 0 dX11_undo_22 rfl ?_
    refine PWk.gets dX11_undo_23 rg_1 lc_1 fl_X11_49 rfl st_1_9 ?_
    refine PWk.aload_n 0 dX11_undo_26 rfl ?_
    refine PWk.gets dX11_undo_27 rg_1 lc_1 fl_X11_39 rfl st_1_7 ?_
    refine PWk.callViI (pc_X1_pop I L R 49 isSc_49) dX11_undo_30 ml_X11_346 rfl rg_9 lc_9 vq_1 (by decide) rfl (Nat.le_of_ble_eq_true rfl) (fun x2 => ?_)
    refine PWk.puti dX11_undo_33 rg_32 lc_32 fl_X11_139 fp_5_1 rfl ?_
    refine PWk.bI (fun I3 => ?_)
    refine PWk.iconst (v := 1) dX11_undo_36 ic_1 ?_
    exact PWk.zret dX11_undo_37 rfl (fun h => h)
/-! LakeMarket.seed(I)Z -/
def f_X11_seed (I : HI) (p1 : Int32) : Option (Int32 × HI) :=
  if 0 ≤ p1 then
    bnd (sI I 1 17 p1) fun I1 =>
    gz 1 (some (1, I1))
  else
    (f_X11_refuse I 5).bind fun x2 =>
    gz 0 (some (0, x2.2))
set_option maxRecDepth 20000 in
theorem pc_X11_seed (I : HI) (L : HL) (R : HR) (p1 : Int32) : PCo 1 93 1 yX11_seed cX11_seed 2 (some .boolean) [.ref 1, .int p1] I L R (f_X11_seed I p1) (fun x : Int32 × HI => ((some (.int x.1), x.2, L, R) : HF)) := by
  refine PCo.of (own := RX11) (by decide +kernel) (Nat.le_of_ble_eq_true rfl) rfl rfl (fun F => ?_)
  unfold f_X11_seed
  refine PWk.iload_n 1 dX11_seed_0 rfl ?_
  refine PWk.if_ge 12 dX11_seed_1 (by decide) (fun h3 => ?_) (fun h3 => ?_)
  · refine PWk.aload_n 0 dX11_seed_12 rfl ?_
    refine PWk.iload_n 1 dX11_seed_13 rfl ?_
    refine PWk.puti dX11_seed_14 rg_1 lc_1 fl_X11_87 fp_11_17 rfl ?_
    refine PWk.bI (fun I1 => ?_)
    refine PWk.iconst (v := 1) dX11_seed_17 ic_1 ?_
    exact PWk.zret dX11_seed_18 rfl (fun h => h)
  · refine PWk.aload_n 0 dX11_seed_4 rfl ?_
    refine PWk.iconst (v := 5) dX11_seed_5 ic_5 ?_
    refine PWk.callViI (pc_X11_refuse I L R 5) dX11_seed_6 ml_X11_100 rfl rg_1 lc_1 vq_11 (by decide) rfl (Nat.le_of_ble_eq_true rfl) (fun x2 => ?_)
    refine PWk.pop dX11_seed_9 rfl ?_
    refine PWk.iconst (v := 0) dX11_seed_10 ic_0 ?_
    exact PWk.zret dX11_seed_11 rfl (fun h => h)
/-! LakeMarket.kept(II)I -/
def f_X11_kept (I : HI) (p1 : Int32) (p2 : Int32) : Option (Int32) :=
  if p1 < 0 then
    some (-1)
  else
    (f_X5_count I).bind fun x1 =>
    if x1 ≤ p1 then
      some (-1)
    else
      if p2 < 0 then
        some (-1)
      else
        if p2 ≤ 3 then
          (f_X5_tell I p1 p2).bind fun x2 =>
          some x2
        else
          some (-1)
set_option maxRecDepth 20000 in
theorem pc_X11_kept (I : HI) (L : HL) (R : HR) (p1 : Int32) (p2 : Int32) : PCo 1 93 3 yX11_kept cX11_kept 3 (some .int) [.ref 1, .int p1, .int p2] I L R (f_X11_kept I p1 p2) (fun x : Int32 => ((some (.int x), I, L, R) : HF)) := by
  refine PCo.of (own := RX11) (by decide +kernel) (Nat.le_of_ble_eq_true rfl) rfl rfl (fun F => ?_)
  unfold f_X11_kept
  refine PWk.iload_n 1 dX11_kept_0 rfl ?_
  refine PWk.if_lt 24 dX11_kept_1 (by decide) (fun h6 => ?_) (fun h6 => ?_)
  · refine PWk.iconst (v := (-1)) dX11_kept_24 ic_m1 ?_
    exact PWk.iret dX11_kept_25 rfl (fun h => h)
  · refine PWk.iload_n 1 dX11_kept_4 rfl ?_
    refine PWk.aload_n 0 dX11_kept_5 rfl ?_
    refine PWk.gets dX11_kept_6 rg_1 lc_1 fl_X11_56 rfl st_1_10 ?_
    refine PWk.callVi (pc_X5_count I L R) dX11_kept_9 ml_X11_166 rfl rg_32 lc_32 vq_5 (by decide) rfl (Nat.le_of_ble_eq_true rfl) (fun x1 => ?_)
    refine PWk.icmp_ge 24 dX11_kept_12 (by decide) (fun h5 => ?_) (fun h5 => ?_)
    · refine PWk.iconst (v := (-1)) dX11_kept_24 ic_m1 ?_
      exact PWk.iret dX11_kept_25 rfl (fun h => h)
    · refine PWk.iload_n 2 dX11_kept_15 rfl ?_
      refine PWk.if_lt 24 dX11_kept_16 (by decide) (fun h4 => ?_) (fun h4 => ?_)
      · refine PWk.iconst (v := (-1)) dX11_kept_24 ic_m1 ?_
        exact PWk.iret dX11_kept_25 rfl (fun h => h)
      · refine PWk.iload_n 2 dX11_kept_19 rfl ?_
        refine PWk.iconst (v := 3) dX11_kept_20 ic_3 ?_
        refine PWk.icmp_le 26 dX11_kept_21 (by decide) (fun h3 => ?_) (fun h3 => ?_)
        · refine PWk.aload_n 0 dX11_kept_26 rfl ?_
          refine PWk.gets dX11_kept_27 rg_1 lc_1 fl_X11_56 rfl st_1_10 ?_
          refine PWk.iload_n 1 dX11_kept_30 rfl ?_
          refine PWk.iload_n 2 dX11_kept_31 rfl ?_
          refine PWk.callVi (pc_X5_tell I L R p1 p2) dX11_kept_32 ml_X11_349 rfl rg_32 lc_32 vq_5 (by decide) rfl (Nat.le_of_ble_eq_true rfl) (fun x2 => ?_)
          exact PWk.iret dX11_kept_35 rfl (fun h => h)
        · refine PWk.iconst (v := (-1)) dX11_kept_24 ic_m1 ?_
          exact PWk.iret dX11_kept_25 rfl (fun h => h)
/-! LakeMarket.image()I -/
def f_X11_image (fu : Nat) (I : HI) (R : HR) : Option (Int32 × HI) :=
  (f_X6_draw fu I R 49).bind fun x1 =>
  some ((x1 47 1), x1)
set_option maxRecDepth 20000 in
theorem pc_X11_image (fu : Nat) (I : HI) (L : HL) (R : HR) : PCo 1 93 3 yX11_image cX11_image 1 (some .int) [.ref 1] I L R (f_X11_image fu I R) (fun x : Int32 × HI => ((some (.int x.1), x.2, L, R) : HF)) := by
  refine PCo.of (own := RX11) (by decide +kernel) (Nat.le_of_ble_eq_true rfl) rfl rfl (fun F => ?_)
  unfold f_X11_image
  refine PWk.aload_n 0 dX11_image_0 rfl ?_
  refine PWk.gets dX11_image_1 rg_1 lc_1 fl_X11_77 rfl st_1_13 ?_
  refine PWk.aload_n 0 dX11_image_4 rfl ?_
  refine PWk.gets dX11_image_5 rg_1 lc_1 fl_X11_39 rfl st_1_7 ?_
  refine PWk.callVvI (pc_X6_draw fu I L R 49 isSc_49) dX11_image_8 ml_X11_352 rfl rg_47 lc_47 vq_6 (by decide) rfl (Nat.le_of_ble_eq_true rfl) (fun x1 => ?_)
  refine PWk.aload_n 0 dX11_image_11 rfl ?_
  refine PWk.gets dX11_image_12 rg_1 lc_1 fl_X11_77 rfl st_1_13 ?_
  refine PWk.geti dX11_image_15 rg_47 lc_47 fl_X11_354 rfl ?_
  exact PWk.iret dX11_image_18 rfl (fun h => h)
/-! LakeMarket.octet(I)I -/
def f_X11_octet (I : HI) (p1 : Int32) : Option (Int32) :=
  jnt (β := Unit) (fun y5 =>
    some (-1)) fun j1 =>
  if p1 < 0 then
    j1 ()
  else
    if p1 < (I 47 1) then
      ldI (I 48) 107 p1 fun v2 =>
      some v2
    else
      j1 ()
set_option maxRecDepth 20000 in
theorem pc_X11_octet (I : HI) (L : HL) (R : HR) (p1 : Int32) : PCo 1 93 0 yX11_octet cX11_octet 2 (some .int) [.ref 1, .int p1] I L R (f_X11_octet I p1) (fun x : Int32 => ((some (.int x), I, L, R) : HF)) := by
  refine PCo.of (own := RX11) (by decide +kernel) (Nat.le_of_ble_eq_true rfl) rfl rfl (fun F => ?_)
  unfold f_X11_octet
  refine PWk.iload_n 1 dX11_octet_0 rfl ?_
  refine PWk.jn (pc' := 15) (lv' := fun y5 => []) (st' := fun y5 => []) (I' := fun y5 => I) (L' := fun y5 => L) (R' := fun y5 => R) (fun j1 hj1 => ?_) (fun y5 => ?_)
  · refine PWk.if_lt 15 dX11_octet_1 (by decide) (fun h4 => ?_) (fun h4 => ?_)
    · refine PWk.sub [] rfl ?_
      exact hj1 ()
    · refine PWk.iload_n 1 dX11_octet_4 rfl ?_
      refine PWk.aload_n 0 dX11_octet_5 rfl ?_
      refine PWk.gets dX11_octet_6 rg_1 lc_1 fl_X11_77 rfl st_1_13 ?_
      refine PWk.geti dX11_octet_9 rg_47 lc_47 fl_X11_354 rfl ?_
      refine PWk.icmp_lt 19 dX11_octet_12 (by decide) (fun h3 => ?_) (fun h3 => ?_)
      · refine PWk.aload_n 0 dX11_octet_19 rfl ?_
        refine PWk.gets dX11_octet_20 rg_1 lc_1 fl_X11_77 rfl st_1_13 ?_
        refine PWk.gets dX11_octet_23 rg_47 lc_47 fl_X11_357 rfl st_47_0 ?_
        refine PWk.iload_n 1 dX11_octet_26 rfl ?_
        refine PWk.iald dX11_octet_27 rg_48 ly_48 (fun v2 => ?_)
        exact PWk.iret dX11_octet_28 rfl (fun h => h)
      · refine PWk.sub [] rfl ?_
        exact hj1 ()
  · refine PWk.iconst (v := (-1)) dX11_octet_15 ic_m1 ?_
    refine PWk.goto 28 dX11_octet_16 (by decide) ?_
    exact PWk.iret dX11_octet_28 rfl (fun h => h)
/-! LakeMarket.on()Z -/
def f_X11_on (fu : Nat) (I : HI) (R : HR) : Option (Int32 × HI × HR) :=
  (f_X11_takeTape I).bind fun x1 =>
  (f_X9_copyFrom x1.2 R 58 49).bind fun x2 =>
  (f_X6_restores fu x2.1 x2.2 2 1600 x1.1 58).bind fun x3 =>
  if x3.1 = 0 then
    (f_X11_refuse x3.2 5).bind fun x4 =>
    gz 0 (some (0, x4.2, x2.2))
  else
    (f_X9_copyFrom x3.2 x2.2 49 58).bind fun x5 =>
    (f_X11_forgetActs x5.1).bind fun x6 =>
    gz 1 (some (1, x6, x5.2))
set_option maxRecDepth 20000 in
theorem pc_X11_on (fu : Nat) (I : HI) (L : HL) (R : HR) : PCo 1 93 4 yX11_on cX11_on 2 (some .boolean) [.ref 1] I L R (f_X11_on fu I R) (fun x : Int32 × HI × HR => ((some (.int x.1), x.2.1, L, x.2.2) : HF)) := by
  refine PCo.of (own := RX11) (by decide +kernel) (Nat.le_of_ble_eq_true rfl) rfl rfl (fun F => ?_)
  unfold f_X11_on
  refine PWk.aload_n 0 dX11_on_0 rfl ?_
  refine PWk.callViI (pc_X11_takeTape I L R) dX11_on_1 ml_X11_108 rfl rg_1 lc_1 vq_11 (by decide) rfl (Nat.le_of_ble_eq_true rfl) (fun x1 => ?_)
  refine PWk.istore_n [(1, .int x1.1), (0, .ref 1)] dX11_on_4 (by decide) rfl ?_
  refine PWk.aload_n 1 dX11_on_5 rfl ?_
  refine PWk.gets dX11_on_6 rg_1 lc_1 fl_X11_43 rfl st_1_8 ?_
  refine PWk.aload_n 1 dX11_on_9 rfl ?_
  refine PWk.gets dX11_on_10 rg_1 lc_1 fl_X11_39 rfl st_1_7 ?_
  refine PWk.callVvIR (pc_X9_copyFrom x1.2 L R 58 isSc_58 49 isSc_49) dX11_on_13 ml_X11_247 rfl rg_58 lc_58 vq_9 (by decide) rfl (Nat.le_of_ble_eq_true rfl) (fun x2 => ?_)
  refine PWk.aload_n 1 dX11_on_16 rfl ?_
  refine PWk.gets dX11_on_17 rg_1 lc_1 fl_X11_77 rfl st_1_13 ?_
  refine PWk.aload_n 1 dX11_on_20 rfl ?_
  refine PWk.gets dX11_on_21 rg_1 lc_1 fl_X11_9 rfl st_1_0 ?_
  refine PWk.iload_n 0 dX11_on_24 rfl ?_
  refine PWk.aload_n 1 dX11_on_25 rfl ?_
  refine PWk.gets dX11_on_26 rg_1 lc_1 fl_X11_43 rfl st_1_8 ?_
  refine PWk.callViI (pc_X6_restores fu x2.1 L x2.2 2 1600 ly_2 rg_2 x1.1 58 isSc_58) dX11_on_29 ml_X11_360 rfl rg_47 lc_47 vq_6 (by decide) rfl (Nat.le_of_ble_eq_true rfl) (fun x3 => ?_)
  refine PWk.if_ne 43 dX11_on_32 (by decide) (fun h7 => ?_) (fun h7 => ?_)
  · refine PWk.aload_n 1 dX11_on_35 rfl ?_
    refine PWk.iconst (v := 5) dX11_on_36 ic_5 ?_
    refine PWk.callViI (pc_X11_refuse x3.2 L x2.2 5) dX11_on_37 ml_X11_100 rfl rg_1 lc_1 vq_11 (by decide) rfl (Nat.le_of_ble_eq_true rfl) (fun x4 => ?_)
    refine PWk.pop dX11_on_40 rfl ?_
    refine PWk.iconst (v := 0) dX11_on_41 ic_0 ?_
    exact PWk.zret dX11_on_42 rfl (fun h => h)
  · refine PWk.aload_n 1 dX11_on_43 rfl ?_
    refine PWk.gets dX11_on_44 rg_1 lc_1 fl_X11_39 rfl st_1_7 ?_
    refine PWk.aload_n 1 dX11_on_47 rfl ?_
    refine PWk.gets dX11_on_48 rg_1 lc_1 fl_X11_43 rfl st_1_8 ?_
    refine PWk.callVvIR (pc_X9_copyFrom x3.2 L x2.2 49 isSc_49 58 isSc_58) dX11_on_51 ml_X11_247 rfl rg_49 lc_49 vq_9 (by decide) rfl (Nat.le_of_ble_eq_true rfl) (fun x5 => ?_)
    refine PWk.aload_n 1 dX11_on_54 rfl ?_
    refine PWk.callVvI (pc_X11_forgetActs x5.1 L x5.2) dX11_on_55 ml_X11_127 rfl rg_1 lc_1 vq_11 (by decide) rfl (Nat.le_of_ble_eq_true rfl) (fun x6 => ?_)
    refine PWk.iconst (v := 1) dX11_on_58 ic_1 ?_
    exact PWk.zret dX11_on_59 rfl (fun h => h)
/-! LakeMarket.status(I)I -/
def f_X11_status (I : HI) (p1 : Int32) : Option (Int32) :=
  jnt (β := Unit) (fun y5 =>
    some (-1)) fun j1 =>
  if p1 < 0 then
    j1 ()
  else
    if p1 ≤ 5 then
      ldI (I 5) 6 p1 fun v2 =>
      some v2
    else
      j1 ()
set_option maxRecDepth 20000 in
theorem pc_X11_status (I : HI) (L : HL) (R : HR) (p1 : Int32) : PCo 1 93 0 yX11_status cX11_status 2 (some .int) [.ref 1, .int p1] I L R (f_X11_status I p1) (fun x : Int32 => ((some (.int x), I, L, R) : HF)) := by
  refine PCo.of (own := RX11) (by decide +kernel) (Nat.le_of_ble_eq_true rfl) rfl rfl (fun F => ?_)
  unfold f_X11_status
  refine PWk.iload_n 1 dX11_status_0 rfl ?_
  refine PWk.jn (pc' := 9) (lv' := fun y5 => []) (st' := fun y5 => []) (I' := fun y5 => I) (L' := fun y5 => L) (R' := fun y5 => R) (fun j1 hj1 => ?_) (fun y5 => ?_)
  · refine PWk.if_lt 9 dX11_status_1 (by decide) (fun h4 => ?_) (fun h4 => ?_)
    · refine PWk.sub [] rfl ?_
      exact hj1 ()
    · refine PWk.iload_n 1 dX11_status_4 rfl ?_
      refine PWk.iconst (v := 5) dX11_status_5 ic_5 ?_
      refine PWk.icmp_le 13 dX11_status_6 (by decide) (fun h3 => ?_) (fun h3 => ?_)
      · refine PWk.aload_n 0 dX11_status_13 rfl ?_
        refine PWk.gets dX11_status_14 rg_1 lc_1 fl_X11_90 rfl st_1_18 ?_
        refine PWk.iload_n 1 dX11_status_17 rfl ?_
        refine PWk.iald dX11_status_18 rg_5 ly_5 (fun v2 => ?_)
        exact PWk.iret dX11_status_19 rfl (fun h => h)
      · refine PWk.sub [] rfl ?_
        exact hj1 ()
  · refine PWk.iconst (v := (-1)) dX11_status_9 ic_m1 ?_
    refine PWk.goto 19 dX11_status_10 (by decide) ?_
    exact PWk.iret dX11_status_19 rfl (fun h => h)
/-! LakeMarket.feed(IIIII)I -/
def f_X11_feed (fu : Nat) (I : HI) (p1 : Int32) (p2 : Int32) (p3 : Int32) (p4 : Int32) (p5 : Int32) : Option (Int32 × HI) :=
  if ((I 1 1) + 20) ≤ 1600 then
    (f_X11_putFour fu I p1).bind fun x1 =>
    (f_X11_putFour fu x1 p2).bind fun x2 =>
    (f_X11_putFour fu x2 p3).bind fun x3 =>
    (f_X11_putFour fu x3 p4).bind fun x4 =>
    (f_X11_putFour fu x4 p5).bind fun x5 =>
    some ((x5 1 1), x5)
  else
    (f_X11_refuse I 0).bind fun x6 =>
    some (x6.1, x6.2)
set_option maxRecDepth 20000 in
theorem pc_X11_feed (fu : Nat) (I : HI) (L : HL) (R : HR) (p1 : Int32) (p2 : Int32) (p3 : Int32) (p4 : Int32) (p5 : Int32) : PCo 1 93 1 yX11_feed cX11_feed 6 (some .int) [.ref 1, .int p1, .int p2, .int p3, .int p4, .int p5] I L R (f_X11_feed fu I p1 p2 p3 p4 p5) (fun x : Int32 × HI => ((some (.int x.1), x.2, L, R) : HF)) := by
  refine PCo.of (own := RX11) (by decide +kernel) (Nat.le_of_ble_eq_true rfl) rfl rfl (fun F => ?_)
  unfold f_X11_feed
  refine PWk.aload_n 0 dX11_feed_0 rfl ?_
  refine PWk.geti dX11_feed_1 rg_1 lc_1 fl_X11_97 rfl ?_
  refine PWk.bipush (v := 20) dX11_feed_4 bp_20 ?_
  refine PWk.iadd dX11_feed_6 ?_
  refine PWk.sipush (v := 1600) dX11_feed_7 sp_1600 ?_
  refine PWk.icmp_le 19 dX11_feed_10 (by decide) (fun h7 => ?_) (fun h7 => ?_)
  · refine PWk.aload_n 0 dX11_feed_19 rfl ?_
    refine PWk.iload_n 1 dX11_feed_20 rfl ?_
    refine PWk.callVvI (pc_X11_putFour fu I L R p1) dX11_feed_21 ml_X11_104 rfl rg_1 lc_1 vq_11 (by decide) rfl (Nat.le_of_ble_eq_true rfl) (fun x1 => ?_)
    refine PWk.aload_n 0 dX11_feed_24 rfl ?_
    refine PWk.iload_n 2 dX11_feed_25 rfl ?_
    refine PWk.callVvI (pc_X11_putFour fu x1 L R p2) dX11_feed_26 ml_X11_104 rfl rg_1 lc_1 vq_11 (by decide) rfl (Nat.le_of_ble_eq_true rfl) (fun x2 => ?_)
    refine PWk.aload_n 0 dX11_feed_29 rfl ?_
    refine PWk.iload_n 3 dX11_feed_30 rfl ?_
    refine PWk.callVvI (pc_X11_putFour fu x2 L R p3) dX11_feed_31 ml_X11_104 rfl rg_1 lc_1 vq_11 (by decide) rfl (Nat.le_of_ble_eq_true rfl) (fun x3 => ?_)
    refine PWk.aload_n 0 dX11_feed_34 rfl ?_
    refine PWk.iload 4 dX11_feed_35 rfl ?_
    refine PWk.callVvI (pc_X11_putFour fu x3 L R p4) dX11_feed_37 ml_X11_104 rfl rg_1 lc_1 vq_11 (by decide) rfl (Nat.le_of_ble_eq_true rfl) (fun x4 => ?_)
    refine PWk.aload_n 0 dX11_feed_40 rfl ?_
    refine PWk.iload 5 dX11_feed_41 rfl ?_
    refine PWk.callVvI (pc_X11_putFour fu x4 L R p5) dX11_feed_43 ml_X11_104 rfl rg_1 lc_1 vq_11 (by decide) rfl (Nat.le_of_ble_eq_true rfl) (fun x5 => ?_)
    refine PWk.aload_n 0 dX11_feed_46 rfl ?_
    refine PWk.geti dX11_feed_47 rg_1 lc_1 fl_X11_97 rfl ?_
    exact PWk.iret dX11_feed_50 rfl (fun h => h)
  · refine PWk.aload_n 0 dX11_feed_13 rfl ?_
    refine PWk.iconst (v := 0) dX11_feed_14 ic_0 ?_
    refine PWk.callViI (pc_X11_refuse I L R 0) dX11_feed_15 ml_X11_100 rfl rg_1 lc_1 vq_11 (by decide) rfl (Nat.le_of_ble_eq_true rfl) (fun x6 => ?_)
    exact PWk.iret dX11_feed_18 rfl (fun h => h)
/-! LakeMarket.end(I)Z -/
def f_X11_end (I : HI) (p1 : Int32) : Option (Int32 × HI) :=
  jnt (β := Unit) (fun y5 =>
    (f_X11_refuse I 0).bind fun x6 =>
    gz 0 (some (0, x6.2))) fun j1 =>
  if p1 < 0 then
    j1 ()
  else
    if p1 ≤ (I 1 1) then
      bnd (sI I 1 1 p1) fun I2 =>
      gz 1 (some (1, I2))
    else
      j1 ()
set_option maxRecDepth 20000 in
theorem pc_X11_end (I : HI) (L : HL) (R : HR) (p1 : Int32) : PCo 1 93 1 yX11_end cX11_end 2 (some .boolean) [.ref 1, .int p1] I L R (f_X11_end I p1) (fun x : Int32 × HI => ((some (.int x.1), x.2, L, R) : HF)) := by
  refine PCo.of (own := RX11) (by decide +kernel) (Nat.le_of_ble_eq_true rfl) rfl rfl (fun F => ?_)
  unfold f_X11_end
  refine PWk.iload_n 1 dX11_end_0 rfl ?_
  refine PWk.jn (pc' := 12) (lv' := fun y5 => [(0, .ref 1)]) (st' := fun y5 => []) (I' := fun y5 => I) (L' := fun y5 => L) (R' := fun y5 => R) (fun j1 hj1 => ?_) (fun y5 => ?_)
  · refine PWk.if_lt 12 dX11_end_1 (by decide) (fun h4 => ?_) (fun h4 => ?_)
    · refine PWk.sub [0] rfl ?_
      exact hj1 ()
    · refine PWk.iload_n 1 dX11_end_4 rfl ?_
      refine PWk.aload_n 0 dX11_end_5 rfl ?_
      refine PWk.geti dX11_end_6 rg_1 lc_1 fl_X11_97 rfl ?_
      refine PWk.icmp_le 20 dX11_end_9 (by decide) (fun h3 => ?_) (fun h3 => ?_)
      · refine PWk.aload_n 0 dX11_end_20 rfl ?_
        refine PWk.iload_n 1 dX11_end_21 rfl ?_
        refine PWk.puti dX11_end_22 rg_1 lc_1 fl_X11_97 fp_11_1 rfl ?_
        refine PWk.bI (fun I2 => ?_)
        refine PWk.iconst (v := 1) dX11_end_25 ic_1 ?_
        exact PWk.zret dX11_end_26 rfl (fun h => h)
      · refine PWk.sub [0] rfl ?_
        exact hj1 ()
  · refine PWk.aload_n 0 dX11_end_12 rfl ?_
    refine PWk.iconst (v := 0) dX11_end_13 ic_0 ?_
    refine PWk.callViI (pc_X11_refuse I L R 0) dX11_end_14 ml_X11_100 rfl rg_1 lc_1 vq_11 (by decide) rfl (Nat.le_of_ble_eq_true rfl) (fun x6 => ?_)
    refine PWk.pop dX11_end_17 rfl ?_
    refine PWk.iconst (v := 0) dX11_end_18 ic_0 ?_
    exact PWk.zret dX11_end_19 rfl (fun h => h)
/-! LakeMarket.lowland()I -/
def f_X11_lowland (fu : Nat) (I : HI) (R : HR) : Option (Int32 × HI × HR) :=
  (f_X11_takeTape I).bind fun x1 =>
  gr (okLd (R 1 3)) <|
  (f_X7_readAll fu x1.2 R x1.1 (R 1 3)).bind fun x3 =>
  if x3.1 = 0 then
    bnd (sI x3.2.1 1 5 (x3.2.1 7 7)) fun I4 =>
    bnd (sI I4 1 6 (I4 7 8)) fun I5 =>
    (f_X11_refuse I5 1).bind fun x6 =>
    some (x6.1, x6.2, x3.2.2)
  else
    gr (okLd (x3.2.2 1 2)) <|
    gr (okLd (x3.2.2 1 3)) <|
    bnd (sR x3.2.2 1 2 (x3.2.2 1 3)) fun R9 =>
    bnd (sR R9 1 3 (x3.2.2 1 2)) fun R10 =>
    bnd (sI x3.2.1 1 5 0) fun I11 =>
    bnd (sI I11 1 6 (-1)) fun I12 =>
    gr (okLd (R10 1 2)) <|
    (f_X9_begin fu I12 R10 49 (R10 1 2)).bind fun x14 =>
    (f_X11_forgetActs x14.1).bind fun x15 =>
    bnd (sI x15 1 16 0) fun I16 =>
    gr (okLd (x14.2 1 2)) <|
    some ((I16 (x14.2 1 2) 0), I16, x14.2)
set_option maxRecDepth 20000 in
theorem pc_X11_lowland (fu : Nat) (I : HI) (L : HL) (R : HR) : PCo 1 93 90 yX11_lowland cX11_lowland 3 (some .int) [.ref 1] I L R (f_X11_lowland fu I R) (fun x : Int32 × HI × HR => ((some (.int x.1), x.2.1, L, x.2.2) : HF)) := by
  refine PCo.of (own := RX11) (by decide +kernel) (Nat.le_of_ble_eq_true rfl) rfl rfl (fun F => ?_)
  unfold f_X11_lowland
  refine PWk.aload_n 0 dX11_lowland_0 rfl ?_
  refine PWk.callViI (pc_X11_takeTape I L R) dX11_lowland_1 ml_X11_108 rfl rg_1 lc_1 vq_11 (by decide) rfl (Nat.le_of_ble_eq_true rfl) (fun x1 => ?_)
  refine PWk.istore_n [(1, .int x1.1), (0, .ref 1)] dX11_lowland_4 (by decide) rfl ?_
  refine PWk.aload_n 1 dX11_lowland_5 rfl ?_
  refine PWk.gets dX11_lowland_6 rg_1 lc_1 fl_X11_28 rfl st_1_4 ?_
  refine PWk.iload_n 0 dX11_lowland_9 rfl ?_
  refine PWk.aload_n 1 dX11_lowland_10 rfl ?_
  refine PWk.getr dX11_lowland_11 rg_1 lc_1 fl_X11_20 rfl okLd_ne (fun hk2 => ?_)
  refine PWk.callViIR (pc_X7_readAll fu x1.2 L R x1.1 (R 1 3) (okLd_is hk2)) dX11_lowland_14 ml_X11_112 rfl rg_6 lc_6 vq_7 (by decide) rfl (Nat.le_of_ble_eq_true rfl) (fun x3 => ?_)
  refine PWk.if_ne 54 dX11_lowland_17 (by decide) (fun h18 => ?_) (fun h18 => ?_)
  · refine PWk.aload_n 1 dX11_lowland_20 rfl ?_
    refine PWk.aload_n 1 dX11_lowland_21 rfl ?_
    refine PWk.gets dX11_lowland_22 rg_1 lc_1 fl_X11_28 rfl st_1_4 ?_
    refine PWk.gets dX11_lowland_25 rg_6 lc_6 fl_X11_116 rfl st_6_0 ?_
    refine PWk.geti dX11_lowland_28 rg_7 lc_7 fl_X11_120 rfl ?_
    refine PWk.puti dX11_lowland_31 rg_1 lc_1 fl_X11_125 fp_11_5 rfl ?_
    refine PWk.bI (fun I4 => ?_)
    refine PWk.aload_n 1 dX11_lowland_34 rfl ?_
    refine PWk.aload_n 1 dX11_lowland_35 rfl ?_
    refine PWk.gets dX11_lowland_36 rg_1 lc_1 fl_X11_28 rfl st_1_4 ?_
    refine PWk.gets dX11_lowland_39 rg_6 lc_6 fl_X11_116 rfl st_6_0 ?_
    refine PWk.geti dX11_lowland_42 rg_7 lc_7 fl_X11_126 rfl ?_
    refine PWk.puti dX11_lowland_45 rg_1 lc_1 fl_X11_32 fp_11_6 rfl ?_
    refine PWk.bI (fun I5 => ?_)
    refine PWk.aload_n 1 dX11_lowland_48 rfl ?_
    refine PWk.iconst (v := 1) dX11_lowland_49 ic_1 ?_
    refine PWk.callViI (pc_X11_refuse I5 L x3.2.2 1) dX11_lowland_50 ml_X11_100 rfl rg_1 lc_1 vq_11 (by decide) rfl (Nat.le_of_ble_eq_true rfl) (fun x6 => ?_)
    exact PWk.iret dX11_lowland_53 rfl (fun h => h)
  · refine PWk.aload_n 1 dX11_lowland_54 rfl ?_
    refine PWk.getr dX11_lowland_55 rg_1 lc_1 fl_X11_16 rfl okLd_ne (fun hk7 => ?_)
    refine PWk.astore_n [(2, .ref (x3.2.2 1 2)), (1, .int x1.1), (0, .ref 1)] dX11_lowland_58 (by decide) rfl ?_
    refine PWk.aload_n 2 dX11_lowland_59 rfl ?_
    refine PWk.aload_n 2 dX11_lowland_60 rfl ?_
    refine PWk.getr dX11_lowland_61 rg_1 lc_1 fl_X11_20 rfl okLd_ne (fun hk8 => ?_)
    refine PWk.putr dX11_lowland_64 rg_1 lc_1 fl_X11_16 fp_11_2 rfl (neLd (okLd_is hk8)) ?_
    refine PWk.bR (fun R9 => ?_)
    refine PWk.aload_n 2 dX11_lowland_67 rfl ?_
    refine PWk.aload_n 0 dX11_lowland_68 rfl ?_
    refine PWk.putr dX11_lowland_69 rg_1 lc_1 fl_X11_20 fp_11_3 rfl (neLd (okLd_is hk7)) ?_
    refine PWk.bR (fun R10 => ?_)
    refine PWk.aload_n 2 dX11_lowland_72 rfl ?_
    refine PWk.iconst (v := 0) dX11_lowland_73 ic_0 ?_
    refine PWk.puti dX11_lowland_74 rg_1 lc_1 fl_X11_125 fp_11_5 rfl ?_
    refine PWk.bI (fun I11 => ?_)
    refine PWk.aload_n 2 dX11_lowland_77 rfl ?_
    refine PWk.iconst (v := (-1)) dX11_lowland_78 ic_m1 ?_
    refine PWk.puti dX11_lowland_79 rg_1 lc_1 fl_X11_32 fp_11_6 rfl ?_
    refine PWk.bI (fun I12 => ?_)
    refine PWk.aload_n 2 dX11_lowland_82 rfl ?_
    refine PWk.gets dX11_lowland_83 rg_1 lc_1 fl_X11_39 rfl st_1_7 ?_
    refine PWk.aload_n 2 dX11_lowland_86 rfl ?_
    refine PWk.getr dX11_lowland_87 rg_1 lc_1 fl_X11_16 rfl okLd_ne (fun hk13 => ?_)
    refine PWk.callVvIR (pc_X9_begin fu I12 L R10 49 isSc_49 (R10 1 2) (okLd_is hk13)) dX11_lowland_90 ml_X11_93 rfl rg_49 lc_49 vq_9 (by decide) rfl (Nat.le_of_ble_eq_true rfl) (fun x14 => ?_)
    refine PWk.aload_n 2 dX11_lowland_93 rfl ?_
    refine PWk.callVvI (pc_X11_forgetActs x14.1 L x14.2) dX11_lowland_94 ml_X11_127 rfl rg_1 lc_1 vq_11 (by decide) rfl (Nat.le_of_ble_eq_true rfl) (fun x15 => ?_)
    refine PWk.aload_n 2 dX11_lowland_97 rfl ?_
    refine PWk.iconst (v := 0) dX11_lowland_98 ic_0 ?_
    refine PWk.puti dX11_lowland_99 rg_1 lc_1 fl_X11_130 fp_11_16 rfl ?_
    refine PWk.bI (fun I16 => ?_)
    refine PWk.aload_n 2 dX11_lowland_102 rfl ?_
    refine PWk.getr dX11_lowland_103 rg_1 lc_1 fl_X11_16 rfl okLd_ne (fun hk17 => ?_)
    refine PWk.geti dX11_lowland_106 (rgLd_0 (okLd_is hk17)) (lcLd (okLd_is hk17)) fl_X11_133 rfl ?_
    exact PWk.iret dX11_lowland_109 rfl (fun h => h)
/-! LakeMarket.stood()I -/
def f_X11_stood_L28 : Nat → HI → Int32 → Option (HI)
  | 0, _, _ => none
  | n + 1, I, u2 =>
    if (I 1 16) ≤ u2 then
      some I
    else
      ldI (I 2) 1600 (u2 * 3) fun v5 =>
      inb 8 u2 <|
      bnd (sI I 3 (u2 : Int32).toNatClampNeg v5) fun I6 =>
      ldI (I6 2) 1600 ((u2 * 3) + 1) fun v7 =>
      ldI (I6 2) 1600 ((u2 * 3) + 2) fun v8 =>
      inb 8 u2 <|
      bnd (sI I6 4 (u2 : Int32).toNatClampNeg ((v7 * 256) + v8)) fun I9 =>
      f_X11_stood_L28 n I9 (u2 + 1)
def f_X11_stood (fu : Nat) (I : HI) (R : HR) : Option (Int32 × HI) :=
  (f_X11_takeTape I).bind fun x1 =>
  (f_X11_tellsStood fu x1.2 R x1.1).bind fun x2 =>
  if x2 = 0 then
    (f_X11_refuse x1.2 5).bind fun x3 =>
    some (x3.1, x3.2)
  else
    dvI 3 <|
    bnd (sI x1.2 1 16 (x1.1 / 3)) fun I4 =>
    (f_X11_stood_L28 fu I4 0).bind fun x11 =>
    some ((x11 1 16), x11)
set_option maxRecDepth 20000 in
theorem lp_X11_stood_28 (fu : Nat) (L : HL) (R : HR) : ∀ (n : Nat) (u2 : Int32) (I : HI) (N : (HI) → Prop) (F : HF), (∀ v : HI, N v → PW 1 93 2 RX11 cX11_stood 3 (some .int) 87 [(0, .ref 1)] [] v L R F) → PWk 1 93 2 RX11 cX11_stood 3 (some .int) 28 [(0, .ref 1), (2, .int u2)] [] I L R (f_X11_stood_L28 n I u2) N F := by
  intro n
  induction n with
  | zero => intro u2 I N F hx; exact PWk.none'
  | succ n ih =>
    intro u2 I N F hx
    unfold f_X11_stood_L28
    refine PWk.iload_n 1 dX11_stood_28 rfl ?_
    refine PWk.aload_n 0 dX11_stood_29 rfl ?_
    refine PWk.geti dX11_stood_30 rg_1 lc_1 fl_X11_130 rfl ?_
    refine PWk.icmp_ge 87 dX11_stood_33 (by decide) (fun h10 => ?_) (fun h10 => ?_)
    · refine PWk.sub [0] rfl ?_
      exact PWk.done (fun h => hx _ h)
    · refine PWk.aload_n 0 dX11_stood_36 rfl ?_
      refine PWk.gets dX11_stood_37 rg_1 lc_1 fl_X11_81 rfl st_1_14 ?_
      refine PWk.iload_n 1 dX11_stood_40 rfl ?_
      refine PWk.aload_n 0 dX11_stood_41 rfl ?_
      refine PWk.gets dX11_stood_42 rg_1 lc_1 fl_X11_9 rfl st_1_0 ?_
      refine PWk.iload_n 1 dX11_stood_45 rfl ?_
      refine PWk.iconst (v := 3) dX11_stood_46 ic_3 ?_
      refine PWk.imul dX11_stood_47 ?_
      refine PWk.iald dX11_stood_48 rg_2 ly_2 (fun v5 => ?_)
      refine PWk.iast dX11_stood_49 rg_3 ly_3 ?_
      refine PWk.bI (fun I6 => ?_)
      refine PWk.aload_n 0 dX11_stood_50 rfl ?_
      refine PWk.gets dX11_stood_51 rg_1 lc_1 fl_X11_84 rfl st_1_15 ?_
      refine PWk.iload_n 1 dX11_stood_54 rfl ?_
      refine PWk.aload_n 0 dX11_stood_55 rfl ?_
      refine PWk.gets dX11_stood_56 rg_1 lc_1 fl_X11_9 rfl st_1_0 ?_
      refine PWk.iload_n 1 dX11_stood_59 rfl ?_
      refine PWk.iconst (v := 3) dX11_stood_60 ic_3 ?_
      refine PWk.imul dX11_stood_61 ?_
      refine PWk.iconst (v := 1) dX11_stood_62 ic_1 ?_
      refine PWk.iadd dX11_stood_63 ?_
      refine PWk.iald dX11_stood_64 rg_2 ly_2 (fun v7 => ?_)
      refine PWk.sipush (v := 256) dX11_stood_65 sp_256 ?_
      refine PWk.imul dX11_stood_68 ?_
      refine PWk.aload_n 0 dX11_stood_69 rfl ?_
      refine PWk.gets dX11_stood_70 rg_1 lc_1 fl_X11_9 rfl st_1_0 ?_
      refine PWk.iload_n 1 dX11_stood_73 rfl ?_
      refine PWk.iconst (v := 3) dX11_stood_74 ic_3 ?_
      refine PWk.imul dX11_stood_75 ?_
      refine PWk.iconst (v := 2) dX11_stood_76 ic_2 ?_
      refine PWk.iadd dX11_stood_77 ?_
      refine PWk.iald dX11_stood_78 rg_2 ly_2 (fun v8 => ?_)
      refine PWk.iadd dX11_stood_79 ?_
      refine PWk.iast dX11_stood_80 rg_4 ly_4 ?_
      refine PWk.bI (fun I9 => ?_)
      refine PWk.iinc (v := (u2 + 1)) 1 [(2, .int (u2 + 1)), (0, .ref 1)] dX11_stood_81 rfl (by rw [ic_1]) (by decide) rfl ?_
      refine PWk.goto 28 dX11_stood_84 (by decide) ?_
      refine PWk.sub [1, 0] rfl ?_
      exact ih (u2 + 1) I9 N F hx
set_option maxRecDepth 20000 in
theorem pc_X11_stood (fu : Nat) (I : HI) (L : HL) (R : HR) : PCo 1 93 2 yX11_stood cX11_stood 3 (some .int) [.ref 1] I L R (f_X11_stood fu I R) (fun x : Int32 × HI => ((some (.int x.1), x.2, L, R) : HF)) := by
  refine PCo.of (own := RX11) (by decide +kernel) (Nat.le_of_ble_eq_true rfl) rfl rfl (fun F => ?_)
  unfold f_X11_stood
  refine PWk.aload_n 0 dX11_stood_0 rfl ?_
  refine PWk.callViI (pc_X11_takeTape I L R) dX11_stood_1 ml_X11_108 rfl rg_1 lc_1 vq_11 (by decide) rfl (Nat.le_of_ble_eq_true rfl) (fun x1 => ?_)
  refine PWk.istore_n [(1, .int x1.1), (0, .ref 1)] dX11_stood_4 (by decide) rfl ?_
  refine PWk.aload_n 1 dX11_stood_5 rfl ?_
  refine PWk.iload_n 0 dX11_stood_6 rfl ?_
  refine PWk.callVi (pc_X11_tellsStood fu x1.2 L R x1.1) dX11_stood_7 ml_X11_288 rfl rg_1 lc_1 vq_11 (by decide) rfl (Nat.le_of_ble_eq_true rfl) (fun x2 => ?_)
  refine PWk.if_ne 19 dX11_stood_10 (by decide) (fun h12 => ?_) (fun h12 => ?_)
  · refine PWk.aload_n 1 dX11_stood_13 rfl ?_
    refine PWk.iconst (v := 5) dX11_stood_14 ic_5 ?_
    refine PWk.callViI (pc_X11_refuse x1.2 L R 5) dX11_stood_15 ml_X11_100 rfl rg_1 lc_1 vq_11 (by decide) rfl (Nat.le_of_ble_eq_true rfl) (fun x3 => ?_)
    exact PWk.iret dX11_stood_18 rfl (fun h => h)
  · refine PWk.aload_n 1 dX11_stood_19 rfl ?_
    refine PWk.iload_n 0 dX11_stood_20 rfl ?_
    refine PWk.iconst (v := 3) dX11_stood_21 ic_3 ?_
    refine PWk.idiv dX11_stood_22 ?_
    refine PWk.puti dX11_stood_23 rg_1 lc_1 fl_X11_130 fp_11_16 rfl ?_
    refine PWk.bI (fun I4 => ?_)
    refine PWk.iconst (v := 0) dX11_stood_26 ic_0 ?_
    refine PWk.istore_n [(2, .int 0), (1, .int x1.1), (0, .ref 1)] dX11_stood_27 (by decide) rfl ?_
    refine PWk.sub [2, 0] rfl ?_
    refine PWk.loopV (fun N' hx' => lp_X11_stood_28 fu L R fu 0 I4 N' F hx') (fun x11 => ?_)
    refine PWk.aload_n 0 dX11_stood_87 rfl ?_
    refine PWk.geti dX11_stood_88 rg_1 lc_1 fl_X11_130 rfl ?_
    exact PWk.iret dX11_stood_91 rfl (fun h => h)
/-! LakeMarket.robbed(I)I -/
def f_X11_robbed_L60 (fu : Nat) : Nat → HI → HR → Int32 → Int32 → Int32 → Option (Int32)
  | 0, _, _, _, _, _ => none
  | n + 1, I, R, u1, u2, u3 =>
    gr (okLd (R 1 2)) <|
    if (I (R 1 2) 3) ≤ u3 then
      some u2
    else
      (f_X9_stands I R 58 u3).bind fun x8 =>
      jnt (β := Int32) (fun y14 =>
        f_X11_robbed_L60 fu n I R u1 y14 (u3 + 1)) fun j9 =>
      if x8 = 0 then
        j9 u2
      else
        (f_X11_stoodIfTaken fu I u3 u1).bind fun x10 =>
        if x10 = 0 then
          j9 u2
        else
          bnd ((u2 ||| ((1 : Int32) <<< (u3 &&& 31)))) fun v11 =>
          j9 v11
def f_X11_robbed (fu : Nat) (I : HI) (R : HR) (p1 : Int32) : Option (Int32 × HI × HR) :=
  if (I 1 16) = 0 then
    some ((-1), I, R)
  else
    if p1 < 1 then
      some ((-1), I, R)
    else
      if p1 ≤ 999 then
        (f_X9_copyFrom I R 58 49).bind fun x1 =>
        (f_X9_passNight fu x1.1 x1.2 58 0).bind fun x2 =>
        (f_X11_stoodIfTaken fu x2.2 (-1) 0).bind fun x3 =>
        jnt (β := Int32) (fun y6 =>
          (f_X11_robbed_L60 fu fu x2.2 x1.2 p1 y6 0).bind fun x16 =>
          some (x16, x2.2, x1.2)) fun j4 =>
        if x3 = 0 then
          j4 0
        else
          j4 256
      else
        some ((-1), I, R)
set_option maxRecDepth 20000 in
theorem lp_X11_robbed_60 (fu : Nat) (u1 : Int32) (I : HI) (L : HL) (R : HR) : ∀ (n : Nat) (u2 : Int32) (u3 : Int32) (N : (Int32) → Prop) (F : HF), (∀ v : Int32, N v → PW 1 93 6 RX11 cX11_robbed 4 (some .int) 103 [(2, .int v)] [] I L R F) → PWk 1 93 6 RX11 cX11_robbed 4 (some .int) 60 [(0, .ref 1), (1, .int u1), (2, .int u2), (3, .int u3)] [] I L R (f_X11_robbed_L60 fu n I R u1 u2 u3) N F := by
  intro n
  induction n with
  | zero => intro u2 u3 N F hx; exact PWk.none'
  | succ n ih =>
    intro u2 u3 N F hx
    unfold f_X11_robbed_L60
    refine PWk.iload_n 3 dX11_robbed_60 rfl ?_
    refine PWk.aload_n 0 dX11_robbed_61 rfl ?_
    refine PWk.getr dX11_robbed_62 rg_1 lc_1 fl_X11_16 rfl okLd_ne (fun hk7 => ?_)
    refine PWk.geti dX11_robbed_65 (rgLd_0 (okLd_is hk7)) (lcLd (okLd_is hk7)) fl_X11_148 rfl ?_
    refine PWk.icmp_ge 103 dX11_robbed_68 (by decide) (fun h15 => ?_) (fun h15 => ?_)
    · refine PWk.sub [2] rfl ?_
      exact PWk.done (fun h => hx _ h)
    · refine PWk.aload_n 0 dX11_robbed_71 rfl ?_
      refine PWk.gets dX11_robbed_72 rg_1 lc_1 fl_X11_43 rfl st_1_8 ?_
      refine PWk.iload_n 3 dX11_robbed_75 rfl ?_
      refine PWk.callVi (pc_X9_stands I L R 58 isSc_58 u3) dX11_robbed_76 ml_X11_254 rfl rg_58 lc_58 vq_9 (by decide) rfl (Nat.le_of_ble_eq_true rfl) (fun x8 => ?_)
      refine PWk.jn (pc' := 97) (lv' := fun y14 => [(0, .ref 1), (1, .int u1), (2, .int y14), (3, .int u3)]) (st' := fun y14 => []) (I' := fun y14 => I) (L' := fun y14 => L) (R' := fun y14 => R) (fun j9 hj9 => ?_) (fun y14 => ?_)
      · refine PWk.if_eq 97 dX11_robbed_79 (by decide) (fun h13 => ?_) (fun h13 => ?_)
        · exact hj9 u2
        · refine PWk.aload_n 0 dX11_robbed_82 rfl ?_
          refine PWk.iload_n 3 dX11_robbed_83 rfl ?_
          refine PWk.iload_n 1 dX11_robbed_84 rfl ?_
          refine PWk.callVi (pc_X11_stoodIfTaken fu I L R u3 u1) dX11_robbed_85 ml_X11_291 rfl rg_1 lc_1 vq_11 (by decide) rfl (Nat.le_of_ble_eq_true rfl) (fun x10 => ?_)
          refine PWk.if_eq 97 dX11_robbed_88 (by decide) (fun h12 => ?_) (fun h12 => ?_)
          · exact hj9 u2
          · refine PWk.iload_n 2 dX11_robbed_91 rfl ?_
            refine PWk.iconst (v := 1) dX11_robbed_92 ic_1 ?_
            refine PWk.iload_n 3 dX11_robbed_93 rfl ?_
            refine PWk.ishl dX11_robbed_94 ?_
            refine PWk.ior dX11_robbed_95 ?_
            refine PWk.bi (fun v11 => ?_)
            refine PWk.istore_n [(2, .int v11), (0, .ref 1), (1, .int u1), (3, .int u3)] dX11_robbed_96 (by decide) rfl ?_
            refine PWk.sub [1, 2, 0, 3] rfl ?_
            exact hj9 v11
      · refine PWk.iinc (v := (u3 + 1)) 3 [(3, .int (u3 + 1)), (0, .ref 1), (1, .int u1), (2, .int y14)] dX11_robbed_97 rfl (by rw [ic_1]) (by decide) rfl ?_
        refine PWk.goto 60 dX11_robbed_100 (by decide) ?_
        refine PWk.sub [1, 2, 3, 0] rfl ?_
        exact ih y14 (u3 + 1) N F hx
set_option maxRecDepth 20000 in
theorem pc_X11_robbed (fu : Nat) (I : HI) (L : HL) (R : HR) (p1 : Int32) : PCo 1 93 6 yX11_robbed cX11_robbed 4 (some .int) [.ref 1, .int p1] I L R (f_X11_robbed fu I R p1) (fun x : Int32 × HI × HR => ((some (.int x.1), x.2.1, L, x.2.2) : HF)) := by
  refine PCo.of (own := RX11) (by decide +kernel) (Nat.le_of_ble_eq_true rfl) rfl rfl (fun F => ?_)
  unfold f_X11_robbed
  refine PWk.aload_n 0 dX11_robbed_0 rfl ?_
  refine PWk.geti dX11_robbed_1 rg_1 lc_1 fl_X11_130 rfl ?_
  refine PWk.if_eq 19 dX11_robbed_4 (by decide) (fun h19 => ?_) (fun h19 => ?_)
  · refine PWk.iconst (v := (-1)) dX11_robbed_19 ic_m1 ?_
    exact PWk.iret dX11_robbed_20 rfl (fun h => h)
  · refine PWk.iload_n 1 dX11_robbed_7 rfl ?_
    refine PWk.iconst (v := 1) dX11_robbed_8 ic_1 ?_
    refine PWk.icmp_lt 19 dX11_robbed_9 (by decide) (fun h18 => ?_) (fun h18 => ?_)
    · refine PWk.iconst (v := (-1)) dX11_robbed_19 ic_m1 ?_
      exact PWk.iret dX11_robbed_20 rfl (fun h => h)
    · refine PWk.iload_n 1 dX11_robbed_12 rfl ?_
      refine PWk.sipush (v := 999) dX11_robbed_13 sp_999 ?_
      refine PWk.icmp_le 21 dX11_robbed_16 (by decide) (fun h17 => ?_) (fun h17 => ?_)
      · refine PWk.aload_n 0 dX11_robbed_21 rfl ?_
        refine PWk.gets dX11_robbed_22 rg_1 lc_1 fl_X11_43 rfl st_1_8 ?_
        refine PWk.aload_n 0 dX11_robbed_25 rfl ?_
        refine PWk.gets dX11_robbed_26 rg_1 lc_1 fl_X11_39 rfl st_1_7 ?_
        refine PWk.callVvIR (pc_X9_copyFrom I L R 58 isSc_58 49 isSc_49) dX11_robbed_29 ml_X11_247 rfl rg_58 lc_58 vq_9 (by decide) rfl (Nat.le_of_ble_eq_true rfl) (fun x1 => ?_)
        refine PWk.aload_n 0 dX11_robbed_32 rfl ?_
        refine PWk.gets dX11_robbed_33 rg_1 lc_1 fl_X11_43 rfl st_1_8 ?_
        refine PWk.iconst (v := 0) dX11_robbed_36 ic_0 ?_
        refine PWk.callViI (pc_X9_passNight fu x1.1 L x1.2 58 isSc_58 0) dX11_robbed_37 ml_X11_251 rfl rg_58 lc_58 vq_9 (by decide) rfl (Nat.le_of_ble_eq_true rfl) (fun x2 => ?_)
        refine PWk.pop dX11_robbed_40 rfl ?_
        refine PWk.aload_n 0 dX11_robbed_41 rfl ?_
        refine PWk.iconst (v := (-1)) dX11_robbed_42 ic_m1 ?_
        refine PWk.iconst (v := 0) dX11_robbed_43 ic_0 ?_
        refine PWk.callVi (pc_X11_stoodIfTaken fu x2.2 L x1.2 (-1) 0) dX11_robbed_44 ml_X11_291 rfl rg_1 lc_1 vq_11 (by decide) rfl (Nat.le_of_ble_eq_true rfl) (fun x3 => ?_)
        refine PWk.jn (pc' := 57) (lv' := fun y6 => [(0, .ref 1), (1, .int p1)]) (st' := fun y6 => [.int y6]) (I' := fun y6 => x2.2) (L' := fun y6 => L) (R' := fun y6 => x1.2) (fun j4 hj4 => ?_) (fun y6 => ?_)
        · refine PWk.if_eq 56 dX11_robbed_47 (by decide) (fun h5 => ?_) (fun h5 => ?_)
          · refine PWk.iconst (v := 0) dX11_robbed_56 ic_0 ?_
            exact hj4 0
          · refine PWk.sipush (v := 256) dX11_robbed_50 sp_256 ?_
            refine PWk.goto 57 dX11_robbed_53 (by decide) ?_
            exact hj4 256
        · refine PWk.istore_n [(2, .int y6), (0, .ref 1), (1, .int p1)] dX11_robbed_57 (by decide) rfl ?_
          refine PWk.iconst (v := 0) dX11_robbed_58 ic_0 ?_
          refine PWk.istore_n [(3, .int 0), (2, .int y6), (0, .ref 1), (1, .int p1)] dX11_robbed_59 (by decide) rfl ?_
          refine PWk.sub [2, 3, 1, 0] rfl ?_
          refine PWk.loopV (fun N' hx' => lp_X11_robbed_60 fu p1 x2.2 L x1.2 fu y6 0 N' F hx') (fun x16 => ?_)
          refine PWk.iload_n 0 dX11_robbed_103 rfl ?_
          exact PWk.iret dX11_robbed_104 rfl (fun h => h)
      · refine PWk.iconst (v := (-1)) dX11_robbed_19 ic_m1 ?_
        exact PWk.iret dX11_robbed_20 rfl (fun h => h)
/-! LakeMarket.chance(I)I -/
def f_X11_chance_L27 (fu : Nat) : Nat → HI → HR → Int32 → Int32 → Int32 → Option (Int32 × HI)
  | 0, _, _, _, _, _ => none
  | n + 1, I, R, u1, u2, u3 =>
    if u1 ≤ u3 then
      some (u2, I)
    else
      (f_X11_draw I 100).bind fun x4 =>
      gr (okLd (R 1 2)) <|
      jnt (β := Int32) (fun y8 =>
        bnd ((u2 + y8)) fun v9 =>
        (f_X9_passNight fu x4.2 R 49 y8).bind fun x10 =>
        f_X11_chance_L27 fu n x10.2 R u1 v9 (u3 + 1)) fun j6 =>
      if (x4.2 (R 1 2) 4) ≤ x4.1 then
        j6 0
      else
        j6 1
def f_X11_chance (fu : Nat) (I : HI) (R : HR) (p1 : Int32) : Option (Int32 × HI) :=
  jnt (β := Unit) (fun y15 =>
    (f_X11_refuse I 2).bind fun x16 =>
    some (x16.1, x16.2)) fun j1 =>
  if p1 < 1 then
    j1 ()
  else
    (f_X11_nightsCanBe I p1).bind fun x2 =>
    if x2 = 0 then
      j1 ()
    else
      (f_X11_remember I).bind fun x3 =>
      (f_X11_chance_L27 fu fu x3 R p1 0 0).bind fun x12 =>
      some (x12.1, x12.2)
set_option maxRecDepth 20000 in
theorem lp_X11_chance_27 (fu : Nat) (u1 : Int32) (L : HL) (R : HR) : ∀ (n : Nat) (u2 : Int32) (u3 : Int32) (I : HI) (N : (Int32 × HI) → Prop) (F : HF), (∀ v : Int32 × HI, N v → PW 1 93 6 RX11 cX11_chance 5 (some .int) 76 [(2, .int v.1)] [] v.2 L R F) → PWk 1 93 6 RX11 cX11_chance 5 (some .int) 27 [(0, .ref 1), (1, .int u1), (2, .int u2), (3, .int u3)] [] I L R (f_X11_chance_L27 fu n I R u1 u2 u3) N F := by
  intro n
  induction n with
  | zero => intro u2 u3 I N F hx; exact PWk.none'
  | succ n ih =>
    intro u2 u3 I N F hx
    unfold f_X11_chance_L27
    refine PWk.iload_n 3 dX11_chance_27 rfl ?_
    refine PWk.iload_n 1 dX11_chance_28 rfl ?_
    refine PWk.icmp_ge 76 dX11_chance_29 (by decide) (fun h11 => ?_) (fun h11 => ?_)
    · refine PWk.sub [2] rfl ?_
      exact PWk.done (fun h => hx _ h)
    · refine PWk.aload_n 0 dX11_chance_32 rfl ?_
      refine PWk.bipush (v := 100) dX11_chance_33 bp_100 ?_
      refine PWk.callViI (pc_X11_draw I L R 100) dX11_chance_35 ml_X11_306 rfl rg_1 lc_1 vq_11 (by decide) rfl (Nat.le_of_ble_eq_true rfl) (fun x4 => ?_)
      refine PWk.aload_n 0 dX11_chance_38 rfl ?_
      refine PWk.getr dX11_chance_39 rg_1 lc_1 fl_X11_16 rfl okLd_ne (fun hk5 => ?_)
      refine PWk.geti dX11_chance_42 (rgLd_0 (okLd_is hk5)) (lcLd (okLd_is hk5)) fl_X11_309 rfl ?_
      refine PWk.jn (pc' := 53) (lv' := fun y8 => [(0, .ref 1), (1, .int u1), (2, .int u2), (3, .int u3)]) (st' := fun y8 => [.int y8]) (I' := fun y8 => x4.2) (L' := fun y8 => L) (R' := fun y8 => R) (fun j6 hj6 => ?_) (fun y8 => ?_)
      · refine PWk.icmp_ge 52 dX11_chance_45 (by decide) (fun h7 => ?_) (fun h7 => ?_)
        · refine PWk.iconst (v := 0) dX11_chance_52 ic_0 ?_
          exact hj6 0
        · refine PWk.iconst (v := 1) dX11_chance_48 ic_1 ?_
          refine PWk.goto 53 dX11_chance_49 (by decide) ?_
          exact hj6 1
      · refine PWk.istore [(4, .int y8), (0, .ref 1), (1, .int u1), (2, .int u2), (3, .int u3)] dX11_chance_53 (by decide) rfl ?_
        refine PWk.iload_n 3 dX11_chance_55 rfl ?_
        refine PWk.iload 0 dX11_chance_56 rfl ?_
        refine PWk.iadd dX11_chance_58 ?_
        refine PWk.bi (fun v9 => ?_)
        refine PWk.istore_n [(2, .int v9), (4, .int y8), (0, .ref 1), (1, .int u1), (3, .int u3)] dX11_chance_59 (by decide) rfl ?_
        refine PWk.aload_n 2 dX11_chance_60 rfl ?_
        refine PWk.gets dX11_chance_61 rg_1 lc_1 fl_X11_39 rfl st_1_7 ?_
        refine PWk.iload 1 dX11_chance_64 rfl ?_
        refine PWk.callViI (pc_X9_passNight fu x4.2 L R 49 isSc_49 y8) dX11_chance_66 ml_X11_251 rfl rg_49 lc_49 vq_9 (by decide) rfl (Nat.le_of_ble_eq_true rfl) (fun x10 => ?_)
        refine PWk.pop dX11_chance_69 rfl ?_
        refine PWk.iinc (v := (u3 + 1)) 4 [(3, .int (u3 + 1)), (2, .int v9), (4, .int y8), (0, .ref 1), (1, .int u1)] dX11_chance_70 rfl (by rw [ic_1]) (by decide) rfl ?_
        refine PWk.goto 27 dX11_chance_73 (by decide) ?_
        refine PWk.sub [3, 4, 1, 0] rfl ?_
        exact ih v9 (u3 + 1) x10.2 N F hx
set_option maxRecDepth 20000 in
theorem pc_X11_chance (fu : Nat) (I : HI) (L : HL) (R : HR) (p1 : Int32) : PCo 1 93 6 yX11_chance cX11_chance 5 (some .int) [.ref 1, .int p1] I L R (f_X11_chance fu I R p1) (fun x : Int32 × HI => ((some (.int x.1), x.2, L, R) : HF)) := by
  refine PCo.of (own := RX11) (by decide +kernel) (Nat.le_of_ble_eq_true rfl) rfl rfl (fun F => ?_)
  unfold f_X11_chance
  refine PWk.iload_n 1 dX11_chance_0 rfl ?_
  refine PWk.iconst (v := 1) dX11_chance_1 ic_1 ?_
  refine PWk.jn (pc' := 13) (lv' := fun y15 => [(0, .ref 1)]) (st' := fun y15 => []) (I' := fun y15 => I) (L' := fun y15 => L) (R' := fun y15 => R) (fun j1 hj1 => ?_) (fun y15 => ?_)
  · refine PWk.icmp_lt 13 dX11_chance_2 (by decide) (fun h14 => ?_) (fun h14 => ?_)
    · refine PWk.sub [0] rfl ?_
      exact hj1 ()
    · refine PWk.aload_n 0 dX11_chance_5 rfl ?_
      refine PWk.iload_n 1 dX11_chance_6 rfl ?_
      refine PWk.callVi (pc_X11_nightsCanBe I L R p1) dX11_chance_7 ml_X11_244 rfl rg_1 lc_1 vq_11 (by decide) rfl (Nat.le_of_ble_eq_true rfl) (fun x2 => ?_)
      refine PWk.if_ne 19 dX11_chance_10 (by decide) (fun h13 => ?_) (fun h13 => ?_)
      · refine PWk.sub [0] rfl ?_
        exact hj1 ()
      · refine PWk.aload_n 0 dX11_chance_19 rfl ?_
        refine PWk.callVvI (pc_X11_remember I L R) dX11_chance_20 ml_X11_303 rfl rg_1 lc_1 vq_11 (by decide) rfl (Nat.le_of_ble_eq_true rfl) (fun x3 => ?_)
        refine PWk.iconst (v := 0) dX11_chance_23 ic_0 ?_
        refine PWk.istore_n [(2, .int 0), (0, .ref 1), (1, .int p1)] dX11_chance_24 (by decide) rfl ?_
        refine PWk.iconst (v := 0) dX11_chance_25 ic_0 ?_
        refine PWk.istore_n [(3, .int 0), (2, .int 0), (0, .ref 1), (1, .int p1)] dX11_chance_26 (by decide) rfl ?_
        refine PWk.sub [2, 3, 1, 0] rfl ?_
        refine PWk.loopV (fun N' hx' => lp_X11_chance_27 fu p1 L R fu 0 0 x3 N' F hx') (fun x12 => ?_)
        refine PWk.iload_n 0 dX11_chance_76 rfl ?_
        exact PWk.iret dX11_chance_77 rfl (fun h => h)
  · refine PWk.aload_n 0 dX11_chance_13 rfl ?_
    refine PWk.iconst (v := 2) dX11_chance_14 ic_2 ?_
    refine PWk.callViI (pc_X11_refuse I L R 2) dX11_chance_15 ml_X11_100 rfl rg_1 lc_1 vq_11 (by decide) rfl (Nat.le_of_ble_eq_true rfl) (fun x16 => ?_)
    exact PWk.iret dX11_chance_18 rfl (fun h => h)
/-! LakeMarket.strike()I -/
def f_X11_strike_L71 : Nat → HI → Int32 → Int32 → Int32 → Option (HI)
  | 0, _, _, _, _ => none
  | n + 1, I, u1, u2, u3 =>
    if u1 ≤ u3 then
      some I
    else
      (f_X11_debtInRing I u3 u1).bind fun x11 =>
      ldI (I 53) 36 x11 fun v12 =>
      inb 36 x11 <|
      bnd (sI I 53 (x11 : Int32).toNatClampNeg (v12 - u2)) fun I13 =>
      f_X11_strike_L71 n I13 u1 u2 (u3 + 1)
def f_X11_strike_L25 : Nat → HI → Int32 → Int32 → Int32 → Option (Int32)
  | 0, _, _, _, _ => none
  | n + 1, I, u1, u2, u3 =>
    if u1 ≤ u3 then
      some u2
    else
      (f_X11_debtInRing I u3 u1).bind fun x4 =>
      ldI (I 53) 36 x4 fun v5 =>
      (f_J9_min_7cf53 u2 v5).bind fun x6 =>
      f_X11_strike_L25 n I u1 x6 (u3 + 1)
def f_X11_strike (fu : Nat) (I : HI) (R : HR) : Option (Int32 × HI) :=
  (f_X11_takeTape I).bind fun x1 =>
  (f_X11_isRing fu x1.2 R x1.1).bind fun x2 =>
  if x2 = 0 then
    (f_X11_refuse x1.2 3).bind fun x3 =>
    some (x3.1, x3.2)
  else
    (f_X11_strike_L25 fu x1.2 x1.1 9999 0).bind fun x8 =>
    if x8 = 0 then
      (f_X11_refuse x1.2 3).bind fun x9 =>
      some (x9.1, x9.2)
    else
      (f_X11_remember x1.2).bind fun x10 =>
      (f_X11_strike_L71 fu x10 x1.1 x8 0).bind fun x15 =>
      some (x8, x15)
set_option maxRecDepth 20000 in
theorem lp_X11_strike_71 (fu : Nat) (u1 : Int32) (u2 : Int32) (L : HL) (R : HR) : ∀ (n : Nat) (u3 : Int32) (I : HI) (N : (HI) → Prop) (F : HF), (∀ v : HI, N v → PW 1 93 4 RX11 cX11_strike 4 (some .int) 100 [(2, .int u2)] [] v L R F) → PWk 1 93 4 RX11 cX11_strike 4 (some .int) 71 [(0, .ref 1), (1, .int u1), (2, .int u2), (3, .int u3)] [] I L R (f_X11_strike_L71 n I u1 u2 u3) N F := by
  intro n
  induction n with
  | zero => intro u3 I N F hx; exact PWk.none'
  | succ n ih =>
    intro u3 I N F hx
    unfold f_X11_strike_L71
    refine PWk.iload_n 3 dX11_strike_71 rfl ?_
    refine PWk.iload_n 1 dX11_strike_72 rfl ?_
    refine PWk.icmp_ge 100 dX11_strike_73 (by decide) (fun h14 => ?_) (fun h14 => ?_)
    · refine PWk.sub [2] rfl ?_
      exact PWk.done (fun h => hx _ h)
    · refine PWk.aload_n 0 dX11_strike_76 rfl ?_
      refine PWk.gets dX11_strike_77 rg_1 lc_1 fl_X11_39 rfl st_1_7 ?_
      refine PWk.gets dX11_strike_80 rg_49 lc_49 fl_X11_241 rfl st_49_5 ?_
      refine PWk.aload_n 0 dX11_strike_83 rfl ?_
      refine PWk.iload_n 3 dX11_strike_84 rfl ?_
      refine PWk.iload_n 1 dX11_strike_85 rfl ?_
      refine PWk.callVi (pc_X11_debtInRing I L R u3 u1) dX11_strike_86 ml_X11_340 rfl rg_1 lc_1 vq_11 (by decide) rfl (Nat.le_of_ble_eq_true rfl) (fun x11 => ?_)
      refine PWk.dup2 dX11_strike_89 rfl rfl ?_
      refine PWk.iald dX11_strike_90 rg_53 ly_53 (fun v12 => ?_)
      refine PWk.iload_n 2 dX11_strike_91 rfl ?_
      refine PWk.isub dX11_strike_92 ?_
      refine PWk.iast dX11_strike_93 rg_53 ly_53 ?_
      refine PWk.bI (fun I13 => ?_)
      refine PWk.iinc (v := (u3 + 1)) 3 [(3, .int (u3 + 1)), (0, .ref 1), (1, .int u1), (2, .int u2)] dX11_strike_94 rfl (by rw [ic_1]) (by decide) rfl ?_
      refine PWk.goto 71 dX11_strike_97 (by decide) ?_
      refine PWk.sub [1, 2, 3, 0] rfl ?_
      exact ih (u3 + 1) I13 N F hx
set_option maxRecDepth 20000 in
theorem lp_X11_strike_25 (fu : Nat) (u1 : Int32) (I : HI) (L : HL) (R : HR) : ∀ (n : Nat) (u2 : Int32) (u3 : Int32) (N : (Int32) → Prop) (F : HF), (∀ v : Int32, N v → PW 1 93 4 RX11 cX11_strike 4 (some .int) 55 [(0, .ref 1), (1, .int u1), (2, .int v)] [] I L R F) → PWk 1 93 4 RX11 cX11_strike 4 (some .int) 25 [(0, .ref 1), (1, .int u1), (2, .int u2), (3, .int u3)] [] I L R (f_X11_strike_L25 n I u1 u2 u3) N F := by
  intro n
  induction n with
  | zero => intro u2 u3 N F hx; exact PWk.none'
  | succ n ih =>
    intro u2 u3 N F hx
    unfold f_X11_strike_L25
    refine PWk.iload_n 3 dX11_strike_25 rfl ?_
    refine PWk.iload_n 1 dX11_strike_26 rfl ?_
    refine PWk.icmp_ge 55 dX11_strike_27 (by decide) (fun h7 => ?_) (fun h7 => ?_)
    · refine PWk.sub [0, 1, 2] rfl ?_
      exact PWk.done (fun h => hx _ h)
    · refine PWk.iload_n 2 dX11_strike_30 rfl ?_
      refine PWk.aload_n 0 dX11_strike_31 rfl ?_
      refine PWk.gets dX11_strike_32 rg_1 lc_1 fl_X11_39 rfl st_1_7 ?_
      refine PWk.gets dX11_strike_35 rg_49 lc_49 fl_X11_241 rfl st_49_5 ?_
      refine PWk.aload_n 0 dX11_strike_38 rfl ?_
      refine PWk.iload_n 3 dX11_strike_39 rfl ?_
      refine PWk.iload_n 1 dX11_strike_40 rfl ?_
      refine PWk.callVi (pc_X11_debtInRing I L R u3 u1) dX11_strike_41 ml_X11_340 rfl rg_1 lc_1 vq_11 (by decide) rfl (Nat.le_of_ble_eq_true rfl) (fun x4 => ?_)
      refine PWk.iald dX11_strike_44 rg_53 ly_53 (fun v5 => ?_)
      refine PWk.callSi (pc_J9_min_7cf53 I L R u2 v5) dX11_strike_45 ml_X11_343 rfl (by decide) rfl (Nat.le_of_ble_eq_true rfl) (fun x6 => ?_)
      refine PWk.istore_n [(2, .int x6), (0, .ref 1), (1, .int u1), (3, .int u3)] dX11_strike_48 (by decide) rfl ?_
      refine PWk.iinc (v := (u3 + 1)) 3 [(3, .int (u3 + 1)), (2, .int x6), (0, .ref 1), (1, .int u1)] dX11_strike_49 rfl (by rw [ic_1]) (by decide) rfl ?_
      refine PWk.goto 25 dX11_strike_52 (by decide) ?_
      refine PWk.sub [2, 3, 1, 0] rfl ?_
      exact ih x6 (u3 + 1) N F hx
set_option maxRecDepth 20000 in
theorem pc_X11_strike (fu : Nat) (I : HI) (L : HL) (R : HR) : PCo 1 93 4 yX11_strike cX11_strike 4 (some .int) [.ref 1] I L R (f_X11_strike fu I R) (fun x : Int32 × HI => ((some (.int x.1), x.2, L, R) : HF)) := by
  refine PCo.of (own := RX11) (by decide +kernel) (Nat.le_of_ble_eq_true rfl) rfl rfl (fun F => ?_)
  unfold f_X11_strike
  refine PWk.aload_n 0 dX11_strike_0 rfl ?_
  refine PWk.callViI (pc_X11_takeTape I L R) dX11_strike_1 ml_X11_108 rfl rg_1 lc_1 vq_11 (by decide) rfl (Nat.le_of_ble_eq_true rfl) (fun x1 => ?_)
  refine PWk.istore_n [(1, .int x1.1), (0, .ref 1)] dX11_strike_4 (by decide) rfl ?_
  refine PWk.aload_n 1 dX11_strike_5 rfl ?_
  refine PWk.iload_n 0 dX11_strike_6 rfl ?_
  refine PWk.callVi (pc_X11_isRing fu x1.2 L R x1.1) dX11_strike_7 ml_X11_337 rfl rg_1 lc_1 vq_11 (by decide) rfl (Nat.le_of_ble_eq_true rfl) (fun x2 => ?_)
  refine PWk.if_ne 19 dX11_strike_10 (by decide) (fun h17 => ?_) (fun h17 => ?_)
  · refine PWk.aload_n 1 dX11_strike_13 rfl ?_
    refine PWk.iconst (v := 3) dX11_strike_14 ic_3 ?_
    refine PWk.callViI (pc_X11_refuse x1.2 L R 3) dX11_strike_15 ml_X11_100 rfl rg_1 lc_1 vq_11 (by decide) rfl (Nat.le_of_ble_eq_true rfl) (fun x3 => ?_)
    exact PWk.iret dX11_strike_18 rfl (fun h => h)
  · refine PWk.sipush (v := 9999) dX11_strike_19 sp_9999 ?_
    refine PWk.istore_n [(2, .int 9999), (1, .int x1.1), (0, .ref 1)] dX11_strike_22 (by decide) rfl ?_
    refine PWk.iconst (v := 0) dX11_strike_23 ic_0 ?_
    refine PWk.istore_n [(3, .int 0), (2, .int 9999), (1, .int x1.1), (0, .ref 1)] dX11_strike_24 (by decide) rfl ?_
    refine PWk.sub [3, 2, 1, 0] rfl ?_
    refine PWk.loopV (fun N' hx' => lp_X11_strike_25 fu x1.1 x1.2 L R fu 9999 0 N' F hx') (fun x8 => ?_)
    refine PWk.iload_n 2 dX11_strike_55 rfl ?_
    refine PWk.if_ne 65 dX11_strike_56 (by decide) (fun h16 => ?_) (fun h16 => ?_)
    · refine PWk.aload_n 0 dX11_strike_59 rfl ?_
      refine PWk.iconst (v := 3) dX11_strike_60 ic_3 ?_
      refine PWk.callViI (pc_X11_refuse x1.2 L R 3) dX11_strike_61 ml_X11_100 rfl rg_1 lc_1 vq_11 (by decide) rfl (Nat.le_of_ble_eq_true rfl) (fun x9 => ?_)
      exact PWk.iret dX11_strike_64 rfl (fun h => h)
    · refine PWk.aload_n 0 dX11_strike_65 rfl ?_
      refine PWk.callVvI (pc_X11_remember x1.2 L R) dX11_strike_66 ml_X11_303 rfl rg_1 lc_1 vq_11 (by decide) rfl (Nat.le_of_ble_eq_true rfl) (fun x10 => ?_)
      refine PWk.iconst (v := 0) dX11_strike_69 ic_0 ?_
      refine PWk.istore_n [(3, .int 0), (0, .ref 1), (1, .int x1.1), (2, .int x8)] dX11_strike_70 (by decide) rfl ?_
      refine PWk.sub [1, 2, 3, 0] rfl ?_
      refine PWk.loopV (fun N' hx' => lp_X11_strike_71 fu x1.1 x8 L R fu 0 x10 N' F hx') (fun x15 => ?_)
      refine PWk.iload_n 0 dX11_strike_100 rfl ?_
      exact PWk.iret dX11_strike_101 rfl (fun h => h)
