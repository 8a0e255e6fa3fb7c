/-! LakeMarket$Payments.count()I -/
def f_X5_count (I : HI) : Option (Int32) :=
  (f_J9_min_7cf53 40 (I 32 1)).bind fun x1 =>
  some x1
set_option maxRecDepth 20000 in
theorem pc_X5_count (I : HI) (L : HL) (R : HR) : PCo 1 93 1 yX5_count cX5_count 1 (some .int) [.ref 32] I L R (f_X5_count I) (fun x : Int32 => ((some (.int x), I, L, R) : HF)) := by
  refine PCo.of (own := RX5) (by decide +kernel) (Nat.le_of_ble_eq_true rfl) rfl rfl (fun F => ?_)
  unfold f_X5_count
  refine PWk.bipush (v := 40) dX5_count_0 bp_40 ?_
  refine PWk.aload_n 0 dX5_count_2 rfl ?_
  refine PWk.geti dX5_count_3 rg_32 lc_32 fl_X5_15 rfl ?_
  refine PWk.callSi (pc_J9_min_7cf53 I L R 40 (I 32 1)) dX5_count_6 ml_X5_19 rfl (by decide) rfl (Nat.le_of_ble_eq_true rfl) (fun x1 => ?_)
  exact PWk.iret dX5_count_9 rfl (fun h => h)
/-! LakeMarket$Payments.add(IIII)V -/
def f_X5_add (I : HI) (p1 : Int32) (p2 : Int32) (p3 : Int32) (p4 : Int32) : Option (HI) :=
  dvI 60 <|
  bnd ((4 * ((I 32 1) - (I 32 1) / 60 * 60))) fun v1 =>
  inb 240 v1 <|
  bnd (sI I 33 (v1 : Int32).toNatClampNeg p1) fun I2 =>
  inb 240 (v1 + 1) <|
  bnd (sI I2 33 ((v1 + 1) : Int32).toNatClampNeg p2) fun I3 =>
  inb 240 (v1 + 2) <|
  bnd (sI I3 33 ((v1 + 2) : Int32).toNatClampNeg p3) fun I4 =>
  inb 240 (v1 + 3) <|
  bnd (sI I4 33 ((v1 + 3) : Int32).toNatClampNeg p4) fun I5 =>
  bnd (sI I5 32 1 ((I5 32 1) + 1)) fun I6 =>
  some I6
set_option maxRecDepth 20000 in
theorem pc_X5_add (I : HI) (L : HL) (R : HR) (p1 : Int32) (p2 : Int32) (p3 : Int32) (p4 : Int32) : PCo 1 93 0 yX5_add cX5_add 6 none [.ref 32, .int p1, .int p2, .int p3, .int p4] I L R (f_X5_add I p1 p2 p3 p4) (fun x : HI => ((none, x, L, R) : HF)) := by
  refine PCo.of (own := RX5) (by decide +kernel) (Nat.le_of_ble_eq_true rfl) rfl rfl (fun F => ?_)
  unfold f_X5_add
  refine PWk.iconst (v := 4) dX5_add_0 ic_4 ?_
  refine PWk.aload_n 0 dX5_add_1 rfl ?_
  refine PWk.geti dX5_add_2 rg_32 lc_32 fl_X5_15 rfl ?_
  refine PWk.bipush (v := 60) dX5_add_5 bp_60 ?_
  refine PWk.irem dX5_add_7 ?_
  refine PWk.imul dX5_add_8 ?_
  refine PWk.bi (fun v1 => ?_)
  refine PWk.istore [(5, .int v1), (0, .ref 32), (1, .int p1), (2, .int p2), (3, .int p3), (4, .int p4)] dX5_add_9 (by decide) rfl ?_
  refine PWk.aload_n 1 dX5_add_11 rfl ?_
  refine PWk.gets dX5_add_12 rg_32 lc_32 fl_X5_11 rfl st_32_0 ?_
  refine PWk.iload 0 dX5_add_15 rfl ?_
  refine PWk.iload_n 2 dX5_add_17 rfl ?_
  refine PWk.iast dX5_add_18 rg_33 ly_33 ?_
  refine PWk.bI (fun I2 => ?_)
  refine PWk.aload_n 1 dX5_add_19 rfl ?_
  refine PWk.gets dX5_add_20 rg_32 lc_32 fl_X5_11 rfl st_32_0 ?_
  refine PWk.iload 0 dX5_add_23 rfl ?_
  refine PWk.iconst (v := 1) dX5_add_25 ic_1 ?_
  refine PWk.iadd dX5_add_26 ?_
  refine PWk.iload_n 3 dX5_add_27 rfl ?_
  refine PWk.iast dX5_add_28 rg_33 ly_33 ?_
  refine PWk.bI (fun I3 => ?_)
  refine PWk.aload_n 1 dX5_add_29 rfl ?_
  refine PWk.gets dX5_add_30 rg_32 lc_32 fl_X5_11 rfl st_32_0 ?_
  refine PWk.iload 0 dX5_add_33 rfl ?_
  refine PWk.iconst (v := 2) dX5_add_35 ic_2 ?_
  refine PWk.iadd dX5_add_36 ?_
  refine PWk.iload_n 4 dX5_add_37 rfl ?_
  refine PWk.iast dX5_add_38 rg_33 ly_33 ?_
  refine PWk.bI (fun I4 => ?_)
  refine PWk.aload_n 1 dX5_add_39 rfl ?_
  refine PWk.gets dX5_add_40 rg_32 lc_32 fl_X5_11 rfl st_32_0 ?_
  refine PWk.iload 0 dX5_add_43 rfl ?_
  refine PWk.iconst (v := 3) dX5_add_45 ic_3 ?_
  refine PWk.iadd dX5_add_46 ?_
  refine PWk.iload 5 dX5_add_47 rfl ?_
  refine PWk.iast dX5_add_49 rg_33 ly_33 ?_
  refine PWk.bI (fun I5 => ?_)
  refine PWk.aload_n 1 dX5_add_50 rfl ?_
  refine PWk.dup dX5_add_51 rfl ?_
  refine PWk.geti dX5_add_52 rg_32 lc_32 fl_X5_15 rfl ?_
  refine PWk.iconst (v := 1) dX5_add_55 ic_1 ?_
  refine PWk.iadd dX5_add_56 ?_
  refine PWk.puti dX5_add_57 rg_32 lc_32 fl_X5_15 fp_5_1 rfl ?_
  refine PWk.bI (fun I6 => ?_)
  exact PWk.vret dX5_add_60 rfl (fun h => h)
/-! LakeMarket$Payments.tell(II)I -/
def f_X5_tell (I : HI) (p1 : Int32) (p2 : Int32) : Option (Int32) :=
  (f_X5_count I).bind fun x1 =>
  dvI 60 <|
  ldI (I 33) 240 ((4 * ((((I 32 1) - x1) + p1) - (((I 32 1) - x1) + p1) / 60 * 60)) + p2) fun v2 =>
  some v2
set_option maxRecDepth 20000 in
theorem pc_X5_tell (I : HI) (L : HL) (R : HR) (p1 : Int32) (p2 : Int32) : PCo 1 93 2 yX5_tell cX5_tell 3 (some .int) [.ref 32, .int p1, .int p2] I L R (f_X5_tell I p1 p2) (fun x : Int32 => ((some (.int x), I, L, R) : HF)) := by
  refine PCo.of (own := RX5) (by decide +kernel) (Nat.le_of_ble_eq_true rfl) rfl rfl (fun F => ?_)
  unfold f_X5_tell
  refine PWk.aload_n 0 dX5_tell_0 rfl ?_
  refine PWk.gets dX5_tell_1 rg_32 lc_32 fl_X5_11 rfl st_32_0 ?_
  refine PWk.iconst (v := 4) dX5_tell_4 ic_4 ?_
  refine PWk.aload_n 0 dX5_tell_5 rfl ?_
  refine PWk.geti dX5_tell_6 rg_32 lc_32 fl_X5_15 rfl ?_
  refine PWk.aload_n 0 dX5_tell_9 rfl ?_
  refine PWk.callVi (pc_X5_count I L R) dX5_tell_10 ml_X5_25 rfl rg_32 lc_32 vq_5 (by decide) rfl (Nat.le_of_ble_eq_true rfl) (fun x1 => ?_)
  refine PWk.isub dX5_tell_13 ?_
  refine PWk.iload_n 1 dX5_tell_14 rfl ?_
  refine PWk.iadd dX5_tell_15 ?_
  refine PWk.bipush (v := 60) dX5_tell_16 bp_60 ?_
  refine PWk.irem dX5_tell_18 ?_
  refine PWk.imul dX5_tell_19 ?_
  refine PWk.iload_n 2 dX5_tell_20 rfl ?_
  refine PWk.iadd dX5_tell_21 ?_
  refine PWk.iald dX5_tell_22 rg_33 ly_33 (fun v2 => ?_)
  exact PWk.iret dX5_tell_23 rfl (fun h => h)
