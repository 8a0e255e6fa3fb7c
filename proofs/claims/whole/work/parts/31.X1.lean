/-! LakeMarket$History.forget()V -/
def f_X1_forget (I : HI) : Option (HI) :=
  bnd (sI I 9 3 0) fun I1 =>
  some I1
set_option maxRecDepth 20000 in
theorem pc_X1_forget (I : HI) (L : HL) (R : HR) : PCo 1 93 0 yX1_forget cX1_forget 1 none [.ref 9] I L R (f_X1_forget I) (fun x : HI => ((none, x, L, R) : HF)) := by
  refine PCo.of (own := RX1) (by decide +kernel) (Nat.le_of_ble_eq_true rfl) rfl rfl (fun F => ?_)
  unfold f_X1_forget
  refine PWk.aload_n 0 dX1_forget_0 rfl ?_
  refine PWk.iconst (v := 0) dX1_forget_1 ic_0 ?_
  refine PWk.puti dX1_forget_2 rg_9 lc_9 fl_X1_20 fp_1_3 rfl ?_
  refine PWk.bI (fun I1 => ?_)
  exact PWk.vret dX1_forget_5 rfl (fun h => h)
/-! LakeMarket$History.push(LLakeMarket$Scene;I)V -/
def f_X1_push (I : HI) (a1 : Nat) (p2 : Int32) : Option (HI) :=
  inb 20 (I 9 2) <|
  (f_X9_writeTo I a1 (rowAt ((I 9 2) : Int32).toNatClampNeg)).bind fun x2 =>
  inb 20 (x2 9 2) <|
  bnd (sI x2 11 ((x2 9 2) : Int32).toNatClampNeg p2) fun I3 =>
  dvI 20 <|
  bnd (sI I3 9 2 (((I3 9 2) + 1) - ((I3 9 2) + 1) / 20 * 20)) fun I4 =>
  (f_J9_min_7cf53 20 ((I4 9 3) + 1)).bind fun x5 =>
  bnd (sI I4 9 3 x5) fun I6 =>
  some I6
set_option maxRecDepth 20000 in
theorem pc_X1_push (I : HI) (L : HL) (R : HR) (a1 : Nat) (hy_a1 : isSc a1) (p2 : Int32) : PCo 1 93 2 yX1_push cX1_push 3 none [.ref 9, .ref a1, .int p2] I L R (f_X1_push I a1 p2) (fun x : HI => ((none, x, L, R) : HF)) := by
  refine PCo.of (own := RX1) (by decide +kernel) (Nat.le_of_ble_eq_true rfl) rfl rfl (fun F => ?_)
  unfold f_X1_push
  refine PWk.aload_n 1 dX1_push_0 rfl ?_
  refine PWk.aload_n 0 dX1_push_1 rfl ?_
  refine PWk.gets dX1_push_2 rg_9 lc_9 fl_X1_13 rfl st_9_0 ?_
  refine PWk.aload_n 0 dX1_push_5 rfl ?_
  refine PWk.geti dX1_push_6 rg_9 lc_9 fl_X1_24 rfl ?_
  refine PWk.aaldh dX1_push_9 rg_10 ly_10 (fun hq1 => ?_)
  refine PWk.callVvI (pc_X9_writeTo I L R a1 hy_a1 (rowAt ((I 9 2) : Int32).toNatClampNeg) (lyRow hq1) (rgRow hq1)) dX1_push_10 ml_X1_27 rfl (rgSc_0 hy_a1) (lcSc hy_a1) vq_9 (by decide) rfl (Nat.le_of_ble_eq_true rfl) (fun x2 => ?_)
  refine PWk.aload_n 0 dX1_push_13 rfl ?_
  refine PWk.gets dX1_push_14 rg_9 lc_9 fl_X1_16 rfl st_9_1 ?_
  refine PWk.aload_n 0 dX1_push_17 rfl ?_
  refine PWk.geti dX1_push_18 rg_9 lc_9 fl_X1_24 rfl ?_
  refine PWk.iload_n 2 dX1_push_21 rfl ?_
  refine PWk.iast dX1_push_22 rg_11 ly_11 ?_
  refine PWk.bI (fun I3 => ?_)
  refine PWk.aload_n 0 dX1_push_23 rfl ?_
  refine PWk.aload_n 0 dX1_push_24 rfl ?_
  refine PWk.geti dX1_push_25 rg_9 lc_9 fl_X1_24 rfl ?_
  refine PWk.iconst (v := 1) dX1_push_28 ic_1 ?_
  refine PWk.iadd dX1_push_29 ?_
  refine PWk.bipush (v := 20) dX1_push_30 bp_20 ?_
  refine PWk.irem dX1_push_32 ?_
  refine PWk.puti dX1_push_33 rg_9 lc_9 fl_X1_24 fp_1_2 rfl ?_
  refine PWk.bI (fun I4 => ?_)
  refine PWk.aload_n 0 dX1_push_36 rfl ?_
  refine PWk.bipush (v := 20) dX1_push_37 bp_20 ?_
  refine PWk.aload_n 0 dX1_push_39 rfl ?_
  refine PWk.geti dX1_push_40 rg_9 lc_9 fl_X1_20 rfl ?_
  refine PWk.iconst (v := 1) dX1_push_43 ic_1 ?_
  refine PWk.iadd dX1_push_44 ?_
  refine PWk.callSi (pc_J9_min_7cf53 I4 L R 20 ((I4 9 3) + 1)) dX1_push_45 ml_X1_31 rfl (by decide) rfl (Nat.le_of_ble_eq_true rfl) (fun x5 => ?_)
  refine PWk.puti dX1_push_48 rg_9 lc_9 fl_X1_20 fp_1_3 rfl ?_
  refine PWk.bI (fun I6 => ?_)
  exact PWk.vret dX1_push_51 rfl (fun h => h)
/-! LakeMarket$History.pop(LLakeMarket$Scene;)I -/
def f_X1_pop (I : HI) (a1 : Nat) : Option (Int32 × HI) :=
  dvI 20 <|
  bnd (sI I 9 2 ((((I 9 2) + 20) - 1) - (((I 9 2) + 20) - 1) / 20 * 20)) fun I1 =>
  bnd (sI I1 9 3 ((I1 9 3) - 1)) fun I2 =>
  inb 20 (I2 9 2) <|
  (f_X9_readFrom I2 a1 (rowAt ((I2 9 2) : Int32).toNatClampNeg)).bind fun x4 =>
  ldI (x4 11) 20 (x4 9 2) fun v5 =>
  some (v5, x4)
set_option maxRecDepth 20000 in
theorem pc_X1_pop (I : HI) (L : HL) (R : HR) (a1 : Nat) (hy_a1 : isSc a1) : PCo 1 93 2 yX1_pop cX1_pop 2 (some .int) [.ref 9, .ref a1] I L R (f_X1_pop I a1) (fun x : Int32 × HI => ((some (.int x.1), x.2, L, R) : HF)) := by
  refine PCo.of (own := RX1) (by decide +kernel) (Nat.le_of_ble_eq_true rfl) rfl rfl (fun F => ?_)
  unfold f_X1_pop
  refine PWk.aload_n 0 dX1_pop_0 rfl ?_
  refine PWk.aload_n 0 dX1_pop_1 rfl ?_
  refine PWk.geti dX1_pop_2 rg_9 lc_9 fl_X1_24 rfl ?_
  refine PWk.bipush (v := 20) dX1_pop_5 bp_20 ?_
  refine PWk.iadd dX1_pop_7 ?_
  refine PWk.iconst (v := 1) dX1_pop_8 ic_1 ?_
  refine PWk.isub dX1_pop_9 ?_
  refine PWk.bipush (v := 20) dX1_pop_10 bp_20 ?_
  refine PWk.irem dX1_pop_12 ?_
  refine PWk.puti dX1_pop_13 rg_9 lc_9 fl_X1_24 fp_1_2 rfl ?_
  refine PWk.bI (fun I1 => ?_)
  refine PWk.aload_n 0 dX1_pop_16 rfl ?_
  refine PWk.dup dX1_pop_17 rfl ?_
  refine PWk.geti dX1_pop_18 rg_9 lc_9 fl_X1_20 rfl ?_
  refine PWk.iconst (v := 1) dX1_pop_21 ic_1 ?_
  refine PWk.isub dX1_pop_22 ?_
  refine PWk.puti dX1_pop_23 rg_9 lc_9 fl_X1_20 fp_1_3 rfl ?_
  refine PWk.bI (fun I2 => ?_)
  refine PWk.aload_n 1 dX1_pop_26 rfl ?_
  refine PWk.aload_n 0 dX1_pop_27 rfl ?_
  refine PWk.gets dX1_pop_28 rg_9 lc_9 fl_X1_13 rfl st_9_0 ?_
  refine PWk.aload_n 0 dX1_pop_31 rfl ?_
  refine PWk.geti dX1_pop_32 rg_9 lc_9 fl_X1_24 rfl ?_
  refine PWk.aaldh dX1_pop_35 rg_10 ly_10 (fun hq3 => ?_)
  refine PWk.callVvI (pc_X9_readFrom I2 L R a1 hy_a1 (rowAt ((I2 9 2) : Int32).toNatClampNeg) (lyRow hq3) (rgRow hq3)) dX1_pop_36 ml_X1_37 rfl (rgSc_0 hy_a1) (lcSc hy_a1) vq_9 (by decide) rfl (Nat.le_of_ble_eq_true rfl) (fun x4 => ?_)
  refine PWk.aload_n 0 dX1_pop_39 rfl ?_
  refine PWk.gets dX1_pop_40 rg_9 lc_9 fl_X1_16 rfl st_9_1 ?_
  refine PWk.aload_n 0 dX1_pop_43 rfl ?_
  refine PWk.geti dX1_pop_44 rg_9 lc_9 fl_X1_24 rfl ?_
  refine PWk.iald dX1_pop_47 rg_11 ly_11 (fun v5 => ?_)
  exact PWk.iret dX1_pop_48 rfl (fun h => h)
