/-! LakeMarket$Scene.copyFrom(LLakeMarket$Scene;)V -/
def f_X9_copyFrom (I : HI) (R : HR) (a0 : Nat) (a1 : Nat) : Option (HI × HR) :=
  gr (okLd (R a1 0)) <|
  bnd (sR R a0 0 (R a1 0)) fun R2 =>
  bnd (sI I a0 1 (I a1 1)) fun I3 =>
  bnd (sA I3 (a0 + 1) (va_cpy (I3 (a1 + 1)) (I3 (a0 + 1)) (0 : Int32).toNatClampNeg (0 : Int32).toNatClampNeg (8 : Int32).toNatClampNeg)) fun I4 =>
  bnd (sA I4 (a0 + 2) (va_cpy (I4 (a1 + 2)) (I4 (a0 + 2)) (0 : Int32).toNatClampNeg (0 : Int32).toNatClampNeg (8 : Int32).toNatClampNeg)) fun I5 =>
  bnd (sA I5 (a0 + 3) (va_cpy (I5 (a1 + 3)) (I5 (a0 + 3)) (0 : Int32).toNatClampNeg (0 : Int32).toNatClampNeg (8 : Int32).toNatClampNeg)) fun I6 =>
  bnd (sA I6 (a0 + 4) (va_cpy (I6 (a1 + 4)) (I6 (a0 + 4)) (0 : Int32).toNatClampNeg (0 : Int32).toNatClampNeg (36 : Int32).toNatClampNeg)) fun I7 =>
  some (I7, R2)
set_option maxRecDepth 20000 in
theorem pc_X9_copyFrom (I : HI) (L : HL) (R : HR) (a0 : Nat) (hy_a0 : isSc a0) (a1 : Nat) (hy_a1 : isSc a1) : PCo 1 93 1 yX9_copyFrom cX9_copyFrom 2 none [.ref a0, .ref a1] I L R (f_X9_copyFrom I R a0 a1) (fun x : HI × HR => ((none, x.1, L, x.2) : HF)) := by
  refine PCo.of (own := RX9) (by decide +kernel) (Nat.le_of_ble_eq_true rfl) rfl rfl (fun F => ?_)
  unfold f_X9_copyFrom
  refine PWk.aload_n 0 dX9_copyFrom_0 rfl ?_
  refine PWk.aload_n 1 dX9_copyFrom_1 rfl ?_
  refine PWk.getr dX9_copyFrom_2 (rgSc_0 hy_a1) (lcSc hy_a1) fl_X9_34 rfl okLd_ne (fun hk1 => ?_)
  refine PWk.putr dX9_copyFrom_5 (rgSc_0 hy_a0) (lcSc hy_a0) fl_X9_34 fp_9_0 rfl (neLd (okLd_is hk1)) ?_
  refine PWk.bR (fun R2 => ?_)
  refine PWk.aload_n 0 dX9_copyFrom_8 rfl ?_
  refine PWk.aload_n 1 dX9_copyFrom_9 rfl ?_
  refine PWk.geti dX9_copyFrom_10 (rgSc_0 hy_a1) (lcSc hy_a1) fl_X9_38 rfl ?_
  refine PWk.puti dX9_copyFrom_13 (rgSc_0 hy_a0) (lcSc hy_a0) fl_X9_38 fp_9_1 rfl ?_
  refine PWk.bI (fun I3 => ?_)
  refine PWk.aload_n 1 dX9_copyFrom_16 rfl ?_
  refine PWk.gets dX9_copyFrom_17 (rgSc_0 hy_a1) (lcSc hy_a1) fl_X9_9 rfl (stSc_2 hy_a1) ?_
  refine PWk.iconst (v := 0) dX9_copyFrom_20 ic_0 ?_
  refine PWk.aload_n 0 dX9_copyFrom_21 rfl ?_
  refine PWk.gets dX9_copyFrom_22 (rgSc_0 hy_a0) (lcSc hy_a0) fl_X9_9 rfl (stSc_2 hy_a0) ?_
  refine PWk.iconst (v := 0) dX9_copyFrom_25 ic_0 ?_
  refine PWk.bipush (v := 8) dX9_copyFrom_26 bp_8 ?_
  refine PWk.copy dX9_copyFrom_28 wc_X9_45 (rgSc_1 hy_a1) (rgSc_1 hy_a0) (lySc_1 hy_a1) (lySc_1 hy_a0) (by decide) (by decide) (by decide) (by decide) (by decide) (by omega) rfl ?_
  refine PWk.bI (fun I4 => ?_)
  refine PWk.aload_n 1 dX9_copyFrom_31 rfl ?_
  refine PWk.gets dX9_copyFrom_32 (rgSc_0 hy_a1) (lcSc hy_a1) fl_X9_15 rfl (stSc_3 hy_a1) ?_
  refine PWk.iconst (v := 0) dX9_copyFrom_35 ic_0 ?_
  refine PWk.aload_n 0 dX9_copyFrom_36 rfl ?_
  refine PWk.gets dX9_copyFrom_37 (rgSc_0 hy_a0) (lcSc hy_a0) fl_X9_15 rfl (stSc_3 hy_a0) ?_
  refine PWk.iconst (v := 0) dX9_copyFrom_40 ic_0 ?_
  refine PWk.bipush (v := 8) dX9_copyFrom_41 bp_8 ?_
  refine PWk.copy dX9_copyFrom_43 wc_X9_45 (rgSc_2 hy_a1) (rgSc_2 hy_a0) (lySc_2 hy_a1) (lySc_2 hy_a0) (by decide) (by decide) (by decide) (by decide) (by decide) (by omega) rfl ?_
  refine PWk.bI (fun I5 => ?_)
  refine PWk.aload_n 1 dX9_copyFrom_46 rfl ?_
  refine PWk.gets dX9_copyFrom_47 (rgSc_0 hy_a1) (lcSc hy_a1) fl_X9_18 rfl (stSc_4 hy_a1) ?_
  refine PWk.iconst (v := 0) dX9_copyFrom_50 ic_0 ?_
  refine PWk.aload_n 0 dX9_copyFrom_51 rfl ?_
  refine PWk.gets dX9_copyFrom_52 (rgSc_0 hy_a0) (lcSc hy_a0) fl_X9_18 rfl (stSc_4 hy_a0) ?_
  refine PWk.iconst (v := 0) dX9_copyFrom_55 ic_0 ?_
  refine PWk.bipush (v := 8) dX9_copyFrom_56 bp_8 ?_
  refine PWk.copy dX9_copyFrom_58 wc_X9_45 (rgSc_3 hy_a1) (rgSc_3 hy_a0) (lySc_3 hy_a1) (lySc_3 hy_a0) (by decide) (by decide) (by decide) (by decide) (by decide) (by omega) rfl ?_
  refine PWk.bI (fun I6 => ?_)
  refine PWk.aload_n 1 dX9_copyFrom_61 rfl ?_
  refine PWk.gets dX9_copyFrom_62 (rgSc_0 hy_a1) (lcSc hy_a1) fl_X9_21 rfl (stSc_5 hy_a1) ?_
  refine PWk.iconst (v := 0) dX9_copyFrom_65 ic_0 ?_
  refine PWk.aload_n 0 dX9_copyFrom_66 rfl ?_
  refine PWk.gets dX9_copyFrom_67 (rgSc_0 hy_a0) (lcSc hy_a0) fl_X9_21 rfl (stSc_5 hy_a0) ?_
  refine PWk.iconst (v := 0) dX9_copyFrom_70 ic_0 ?_
  refine PWk.bipush (v := 36) dX9_copyFrom_71 bp_36 ?_
  refine PWk.copy dX9_copyFrom_73 wc_X9_45 (rgSc_4 hy_a1) (rgSc_4 hy_a0) (lySc_4 hy_a1) (lySc_4 hy_a0) (by decide) (by decide) (by decide) (by decide) (by decide) (by omega) rfl ?_
  refine PWk.bI (fun I7 => ?_)
  exact PWk.vret dX9_copyFrom_76 rfl (fun h => h)
/-! LakeMarket$Scene.writeTo([I)V -/
def f_X9_writeTo (I : HI) (a0 : Nat) (a1 : Nat) : Option (HI) :=
  inb 61 0 <|
  bnd (sI I a1 (0 : Int32).toNatClampNeg (I a0 1)) fun I1 =>
  bnd (sA I1 a1 (va_cpy (I1 (a0 + 1)) (I1 a1) (0 : Int32).toNatClampNeg (1 : Int32).toNatClampNeg (8 : Int32).toNatClampNeg)) fun I2 =>
  bnd (sA I2 a1 (va_cpy (I2 (a0 + 2)) (I2 a1) (0 : Int32).toNatClampNeg (9 : Int32).toNatClampNeg (8 : Int32).toNatClampNeg)) fun I3 =>
  bnd (sA I3 a1 (va_cpy (I3 (a0 + 3)) (I3 a1) (0 : Int32).toNatClampNeg (17 : Int32).toNatClampNeg (8 : Int32).toNatClampNeg)) fun I4 =>
  bnd (sA I4 a1 (va_cpy (I4 (a0 + 4)) (I4 a1) (0 : Int32).toNatClampNeg (25 : Int32).toNatClampNeg (36 : Int32).toNatClampNeg)) fun I5 =>
  some I5
set_option maxRecDepth 20000 in
theorem pc_X9_writeTo (I : HI) (L : HL) (R : HR) (a0 : Nat) (hy_a0 : isSc a0) (a1 : Nat) (hl_a1 : lay a1 = (13, 61)) (hr_a1 : 1 ≤ a1 ∧ a1 < 93) : PCo 1 93 1 yX9_writeTo cX9_writeTo 2 none [.ref a0, .ref a1] I L R (f_X9_writeTo I a0 a1) (fun x : HI => ((none, x, L, R) : HF)) := by
  refine PCo.of (own := RX9) (by decide +kernel) (Nat.le_of_ble_eq_true rfl) rfl rfl (fun F => ?_)
  unfold f_X9_writeTo
  refine PWk.aload_n 1 dX9_writeTo_0 rfl ?_
  refine PWk.iconst (v := 0) dX9_writeTo_1 ic_0 ?_
  refine PWk.aload_n 0 dX9_writeTo_2 rfl ?_
  refine PWk.geti dX9_writeTo_3 (rgSc_0 hy_a0) (lcSc hy_a0) fl_X9_38 rfl ?_
  refine PWk.iast dX9_writeTo_6 hr_a1 hl_a1 ?_
  refine PWk.bI (fun I1 => ?_)
  refine PWk.aload_n 0 dX9_writeTo_7 rfl ?_
  refine PWk.gets dX9_writeTo_8 (rgSc_0 hy_a0) (lcSc hy_a0) fl_X9_9 rfl (stSc_2 hy_a0) ?_
  refine PWk.iconst (v := 0) dX9_writeTo_11 ic_0 ?_
  refine PWk.aload_n 1 dX9_writeTo_12 rfl ?_
  refine PWk.iconst (v := 1) dX9_writeTo_13 ic_1 ?_
  refine PWk.bipush (v := 8) dX9_writeTo_14 bp_8 ?_
  refine PWk.copy dX9_writeTo_16 wc_X9_45 (rgSc_1 hy_a0) hr_a1 (lySc_1 hy_a0) hl_a1 (by decide) (by decide) (by decide) (by decide) (by decide) (by omega) rfl ?_
  refine PWk.bI (fun I2 => ?_)
  refine PWk.aload_n 0 dX9_writeTo_19 rfl ?_
  refine PWk.gets dX9_writeTo_20 (rgSc_0 hy_a0) (lcSc hy_a0) fl_X9_15 rfl (stSc_3 hy_a0) ?_
  refine PWk.iconst (v := 0) dX9_writeTo_23 ic_0 ?_
  refine PWk.aload_n 1 dX9_writeTo_24 rfl ?_
  refine PWk.bipush (v := 9) dX9_writeTo_25 bp_9 ?_
  refine PWk.bipush (v := 8) dX9_writeTo_27 bp_8 ?_
  refine PWk.copy dX9_writeTo_29 wc_X9_45 (rgSc_2 hy_a0) hr_a1 (lySc_2 hy_a0) hl_a1 (by decide) (by decide) (by decide) (by decide) (by decide) (by omega) rfl ?_
  refine PWk.bI (fun I3 => ?_)
  refine PWk.aload_n 0 dX9_writeTo_32 rfl ?_
  refine PWk.gets dX9_writeTo_33 (rgSc_0 hy_a0) (lcSc hy_a0) fl_X9_18 rfl (stSc_4 hy_a0) ?_
  refine PWk.iconst (v := 0) dX9_writeTo_36 ic_0 ?_
  refine PWk.aload_n 1 dX9_writeTo_37 rfl ?_
  refine PWk.bipush (v := 17) dX9_writeTo_38 bp_17 ?_
  refine PWk.bipush (v := 8) dX9_writeTo_40 bp_8 ?_
  refine PWk.copy dX9_writeTo_42 wc_X9_45 (rgSc_3 hy_a0) hr_a1 (lySc_3 hy_a0) hl_a1 (by decide) (by decide) (by decide) (by decide) (by decide) (by omega) rfl ?_
  refine PWk.bI (fun I4 => ?_)
  refine PWk.aload_n 0 dX9_writeTo_45 rfl ?_
  refine PWk.gets dX9_writeTo_46 (rgSc_0 hy_a0) (lcSc hy_a0) fl_X9_21 rfl (stSc_5 hy_a0) ?_
  refine PWk.iconst (v := 0) dX9_writeTo_49 ic_0 ?_
  refine PWk.aload_n 1 dX9_writeTo_50 rfl ?_
  refine PWk.bipush (v := 25) dX9_writeTo_51 bp_25 ?_
  refine PWk.bipush (v := 36) dX9_writeTo_53 bp_36 ?_
  refine PWk.copy dX9_writeTo_55 wc_X9_45 (rgSc_4 hy_a0) hr_a1 (lySc_4 hy_a0) hl_a1 (by decide) (by decide) (by decide) (by decide) (by decide) (by omega) rfl ?_
  refine PWk.bI (fun I5 => ?_)
  exact PWk.vret dX9_writeTo_58 rfl (fun h => h)
/-! LakeMarket$Scene.readFrom([I)V -/
def f_X9_readFrom (I : HI) (a0 : Nat) (a1 : Nat) : Option (HI) :=
  ldI (I a1) 61 0 fun v1 =>
  bnd (sI I a0 1 v1) fun I2 =>
  bnd (sA I2 (a0 + 1) (va_cpy (I2 a1) (I2 (a0 + 1)) (1 : Int32).toNatClampNeg (0 : Int32).toNatClampNeg (8 : Int32).toNatClampNeg)) fun I3 =>
  bnd (sA I3 (a0 + 2) (va_cpy (I3 a1) (I3 (a0 + 2)) (9 : Int32).toNatClampNeg (0 : Int32).toNatClampNeg (8 : Int32).toNatClampNeg)) fun I4 =>
  bnd (sA I4 (a0 + 3) (va_cpy (I4 a1) (I4 (a0 + 3)) (17 : Int32).toNatClampNeg (0 : Int32).toNatClampNeg (8 : Int32).toNatClampNeg)) fun I5 =>
  bnd (sA I5 (a0 + 4) (va_cpy (I5 a1) (I5 (a0 + 4)) (25 : Int32).toNatClampNeg (0 : Int32).toNatClampNeg (36 : Int32).toNatClampNeg)) fun I6 =>
  some I6
set_option maxRecDepth 20000 in
theorem pc_X9_readFrom (I : HI) (L : HL) (R : HR) (a0 : Nat) (hy_a0 : isSc a0) (a1 : Nat) (hl_a1 : lay a1 = (13, 61)) (hr_a1 : 1 ≤ a1 ∧ a1 < 93) : PCo 1 93 1 yX9_readFrom cX9_readFrom 2 none [.ref a0, .ref a1] I L R (f_X9_readFrom I a0 a1) (fun x : HI => ((none, x, L, R) : HF)) := by
  refine PCo.of (own := RX9) (by decide +kernel) (Nat.le_of_ble_eq_true rfl) rfl rfl (fun F => ?_)
  unfold f_X9_readFrom
  refine PWk.aload_n 0 dX9_readFrom_0 rfl ?_
  refine PWk.aload_n 1 dX9_readFrom_1 rfl ?_
  refine PWk.iconst (v := 0) dX9_readFrom_2 ic_0 ?_
  refine PWk.iald dX9_readFrom_3 hr_a1 hl_a1 (fun v1 => ?_)
  refine PWk.puti dX9_readFrom_4 (rgSc_0 hy_a0) (lcSc hy_a0) fl_X9_38 fp_9_1 rfl ?_
  refine PWk.bI (fun I2 => ?_)
  refine PWk.aload_n 1 dX9_readFrom_7 rfl ?_
  refine PWk.iconst (v := 1) dX9_readFrom_8 ic_1 ?_
  refine PWk.aload_n 0 dX9_readFrom_9 rfl ?_
  refine PWk.gets dX9_readFrom_10 (rgSc_0 hy_a0) (lcSc hy_a0) fl_X9_9 rfl (stSc_2 hy_a0) ?_
  refine PWk.iconst (v := 0) dX9_readFrom_13 ic_0 ?_
  refine PWk.bipush (v := 8) dX9_readFrom_14 bp_8 ?_
  refine PWk.copy dX9_readFrom_16 wc_X9_45 hr_a1 (rgSc_1 hy_a0) hl_a1 (lySc_1 hy_a0) (by decide) (by decide) (by decide) (by decide) (by decide) (by omega) rfl ?_
  refine PWk.bI (fun I3 => ?_)
  refine PWk.aload_n 1 dX9_readFrom_19 rfl ?_
  refine PWk.bipush (v := 9) dX9_readFrom_20 bp_9 ?_
  refine PWk.aload_n 0 dX9_readFrom_22 rfl ?_
  refine PWk.gets dX9_readFrom_23 (rgSc_0 hy_a0) (lcSc hy_a0) fl_X9_15 rfl (stSc_3 hy_a0) ?_
  refine PWk.iconst (v := 0) dX9_readFrom_26 ic_0 ?_
  refine PWk.bipush (v := 8) dX9_readFrom_27 bp_8 ?_
  refine PWk.copy dX9_readFrom_29 wc_X9_45 hr_a1 (rgSc_2 hy_a0) hl_a1 (lySc_2 hy_a0) (by decide) (by decide) (by decide) (by decide) (by decide) (by omega) rfl ?_
  refine PWk.bI (fun I4 => ?_)
  refine PWk.aload_n 1 dX9_readFrom_32 rfl ?_
  refine PWk.bipush (v := 17) dX9_readFrom_33 bp_17 ?_
  refine PWk.aload_n 0 dX9_readFrom_35 rfl ?_
  refine PWk.gets dX9_readFrom_36 (rgSc_0 hy_a0) (lcSc hy_a0) fl_X9_18 rfl (stSc_4 hy_a0) ?_
  refine PWk.iconst (v := 0) dX9_readFrom_39 ic_0 ?_
  refine PWk.bipush (v := 8) dX9_readFrom_40 bp_8 ?_
  refine PWk.copy dX9_readFrom_42 wc_X9_45 hr_a1 (rgSc_3 hy_a0) hl_a1 (lySc_3 hy_a0) (by decide) (by decide) (by decide) (by decide) (by decide) (by omega) rfl ?_
  refine PWk.bI (fun I5 => ?_)
  refine PWk.aload_n 1 dX9_readFrom_45 rfl ?_
  refine PWk.bipush (v := 25) dX9_readFrom_46 bp_25 ?_
  refine PWk.aload_n 0 dX9_readFrom_48 rfl ?_
  refine PWk.gets dX9_readFrom_49 (rgSc_0 hy_a0) (lcSc hy_a0) fl_X9_21 rfl (stSc_5 hy_a0) ?_
  refine PWk.iconst (v := 0) dX9_readFrom_52 ic_0 ?_
  refine PWk.bipush (v := 36) dX9_readFrom_53 bp_36 ?_
  refine PWk.copy dX9_readFrom_55 wc_X9_45 hr_a1 (rgSc_4 hy_a0) hl_a1 (lySc_4 hy_a0) (by decide) (by decide) (by decide) (by decide) (by decide) (by omega) rfl ?_
  refine PWk.bI (fun I6 => ?_)
  exact PWk.vret dX9_readFrom_58 rfl (fun h => h)
/-! LakeMarket$Scene.isHollow(I)Z -/
def f_X9_isHollow (I : HI) (R : HR) (a0 : Nat) (p1 : Int32) : Option (Int32) :=
  if p1 < 0 then
    gz 0 (some 0)
  else
    gr (okLd (R a0 0)) <|
    if (I (R a0 0) 1) ≤ p1 then
      gz 0 (some 0)
    else
      gz 1 (some 1)
set_option maxRecDepth 20000 in
theorem pc_X9_isHollow (I : HI) (L : HL) (R : HR) (a0 : Nat) (hy_a0 : isSc a0) (p1 : Int32) : PCo 1 93 0 yX9_isHollow cX9_isHollow 2 (some .boolean) [.ref a0, .int p1] I L R (f_X9_isHollow I R a0 p1) (fun x : Int32 => ((some (.int x), I, L, R) : HF)) := by
  refine PCo.of (own := RX9) (by decide +kernel) (Nat.le_of_ble_eq_true rfl) rfl rfl (fun F => ?_)
  unfold f_X9_isHollow
  refine PWk.iload_n 1 dX9_isHollow_0 rfl ?_
  refine PWk.if_lt 19 dX9_isHollow_1 (by decide) (fun h3 => ?_) (fun h3 => ?_)
  · refine PWk.iconst (v := 0) dX9_isHollow_19 ic_0 ?_
    exact PWk.zret dX9_isHollow_20 rfl (fun h => h)
  · refine PWk.iload_n 1 dX9_isHollow_4 rfl ?_
    refine PWk.aload_n 0 dX9_isHollow_5 rfl ?_
    refine PWk.getr dX9_isHollow_6 (rgSc_0 hy_a0) (lcSc hy_a0) fl_X9_34 rfl okLd_ne (fun hk1 => ?_)
    refine PWk.geti dX9_isHollow_9 (rgLd_0 (okLd_is hk1)) (lcLd (okLd_is hk1)) fl_X9_61 rfl ?_
    refine PWk.icmp_ge 19 dX9_isHollow_12 (by decide) (fun h2 => ?_) (fun h2 => ?_)
    · refine PWk.iconst (v := 0) dX9_isHollow_19 ic_0 ?_
      exact PWk.zret dX9_isHollow_20 rfl (fun h => h)
    · refine PWk.iconst (v := 1) dX9_isHollow_15 ic_1 ?_
      refine PWk.goto 20 dX9_isHollow_16 (by decide) ?_
      exact PWk.zret dX9_isHollow_20 rfl (fun h => h)
/-! LakeMarket$Scene.isOwner(I)Z -/
def f_X9_isOwner (I : HI) (R : HR) (a0 : Nat) (p1 : Int32) : Option (Int32) :=
  if p1 < 0 then
    gz 0 (some 0)
  else
    gr (okLd (R a0 0)) <|
    if (I (R a0 0) 2) ≤ p1 then
      gz 0 (some 0)
    else
      gz 1 (some 1)
set_option maxRecDepth 20000 in
theorem pc_X9_isOwner (I : HI) (L : HL) (R : HR) (a0 : Nat) (hy_a0 : isSc a0) (p1 : Int32) : PCo 1 93 0 yX9_isOwner cX9_isOwner 2 (some .boolean) [.ref a0, .int p1] I L R (f_X9_isOwner I R a0 p1) (fun x : Int32 => ((some (.int x), I, L, R) : HF)) := by
  refine PCo.of (own := RX9) (by decide +kernel) (Nat.le_of_ble_eq_true rfl) rfl rfl (fun F => ?_)
  unfold f_X9_isOwner
  refine PWk.iload_n 1 dX9_isOwner_0 rfl ?_
  refine PWk.if_lt 19 dX9_isOwner_1 (by decide) (fun h3 => ?_) (fun h3 => ?_)
  · refine PWk.iconst (v := 0) dX9_isOwner_19 ic_0 ?_
    exact PWk.zret dX9_isOwner_20 rfl (fun h => h)
  · refine PWk.iload_n 1 dX9_isOwner_4 rfl ?_
    refine PWk.aload_n 0 dX9_isOwner_5 rfl ?_
    refine PWk.getr dX9_isOwner_6 (rgSc_0 hy_a0) (lcSc hy_a0) fl_X9_34 rfl okLd_ne (fun hk1 => ?_)
    refine PWk.geti dX9_isOwner_9 (rgLd_0 (okLd_is hk1)) (lcLd (okLd_is hk1)) fl_X9_64 rfl ?_
    refine PWk.icmp_ge 19 dX9_isOwner_12 (by decide) (fun h2 => ?_) (fun h2 => ?_)
    · refine PWk.iconst (v := 0) dX9_isOwner_19 ic_0 ?_
      exact PWk.zret dX9_isOwner_20 rfl (fun h => h)
    · refine PWk.iconst (v := 1) dX9_isOwner_15 ic_1 ?_
      refine PWk.goto 20 dX9_isOwner_16 (by decide) ?_
      exact PWk.zret dX9_isOwner_20 rfl (fun h => h)
/-! LakeMarket$Scene.isLake(I)Z -/
def f_X9_isLake (I : HI) (R : HR) (a0 : Nat) (p1 : Int32) : Option (Int32) :=
  if p1 < 0 then
    gz 0 (some 0)
  else
    gr (okLd (R a0 0)) <|
    if (I (R a0 0) 3) ≤ p1 then
      gz 0 (some 0)
    else
      gz 1 (some 1)
set_option maxRecDepth 20000 in
theorem pc_X9_isLake (I : HI) (L : HL) (R : HR) (a0 : Nat) (hy_a0 : isSc a0) (p1 : Int32) : PCo 1 93 0 yX9_isLake cX9_isLake 2 (some .boolean) [.ref a0, .int p1] I L R (f_X9_isLake I R a0 p1) (fun x : Int32 => ((some (.int x), I, L, R) : HF)) := by
  refine PCo.of (own := RX9) (by decide +kernel) (Nat.le_of_ble_eq_true rfl) rfl rfl (fun F => ?_)
  unfold f_X9_isLake
  refine PWk.iload_n 1 dX9_isLake_0 rfl ?_
  refine PWk.if_lt 19 dX9_isLake_1 (by decide) (fun h3 => ?_) (fun h3 => ?_)
  · refine PWk.iconst (v := 0) dX9_isLake_19 ic_0 ?_
    exact PWk.zret dX9_isLake_20 rfl (fun h => h)
  · refine PWk.iload_n 1 dX9_isLake_4 rfl ?_
    refine PWk.aload_n 0 dX9_isLake_5 rfl ?_
    refine PWk.getr dX9_isLake_6 (rgSc_0 hy_a0) (lcSc hy_a0) fl_X9_34 rfl okLd_ne (fun hk1 => ?_)
    refine PWk.geti dX9_isLake_9 (rgLd_0 (okLd_is hk1)) (lcLd (okLd_is hk1)) fl_X9_54 rfl ?_
    refine PWk.icmp_ge 19 dX9_isLake_12 (by decide) (fun h2 => ?_) (fun h2 => ?_)
    · refine PWk.iconst (v := 0) dX9_isLake_19 ic_0 ?_
      exact PWk.zret dX9_isLake_20 rfl (fun h => h)
    · refine PWk.iconst (v := 1) dX9_isLake_15 ic_1 ?_
      refine PWk.goto 20 dX9_isLake_16 (by decide) ?_
      exact PWk.zret dX9_isLake_20 rfl (fun h => h)
/-! LakeMarket$Scene.areTwoOwners(II)Z -/
def f_X9_areTwoOwners (I : HI) (R : HR) (a0 : Nat) (p1 : Int32) (p2 : Int32) : Option (Int32) :=
  (f_X9_isOwner I R a0 p1).bind fun x1 =>
  if x1 = 0 then
    gz 0 (some 0)
  else
    (f_X9_isOwner I R a0 p2).bind fun x2 =>
    if x2 = 0 then
      gz 0 (some 0)
    else
      if p1 = p2 then
        gz 0 (some 0)
      else
        gz 1 (some 1)
set_option maxRecDepth 20000 in
theorem pc_X9_areTwoOwners (I : HI) (L : HL) (R : HR) (a0 : Nat) (hy_a0 : isSc a0) (p1 : Int32) (p2 : Int32) : PCo 1 93 1 yX9_areTwoOwners cX9_areTwoOwners 3 (some .boolean) [.ref a0, .int p1, .int p2] I L R (f_X9_areTwoOwners I R a0 p1 p2) (fun x : Int32 => ((some (.int x), I, L, R) : HF)) := by
  refine PCo.of (own := RX9) (by decide +kernel) (Nat.le_of_ble_eq_true rfl) rfl rfl (fun F => ?_)
  unfold f_X9_areTwoOwners
  refine PWk.aload_n 0 dX9_areTwoOwners_0 rfl ?_
  refine PWk.iload_n 1 dX9_areTwoOwners_1 rfl ?_
  refine PWk.callVi (pc_X9_isOwner I L R a0 hy_a0 p1) dX9_areTwoOwners_2 ml_X9_67 rfl (rgSc_0 hy_a0) (lcSc hy_a0) vq_9 (by decide) rfl (Nat.le_of_ble_eq_true rfl) (fun x1 => ?_)
  refine PWk.if_eq 25 dX9_areTwoOwners_5 (by decide) (fun h5 => ?_) (fun h5 => ?_)
  · refine PWk.iconst (v := 0) dX9_areTwoOwners_25 ic_0 ?_
    exact PWk.zret dX9_areTwoOwners_26 rfl (fun h => h)
  · refine PWk.aload_n 0 dX9_areTwoOwners_8 rfl ?_
    refine PWk.iload_n 2 dX9_areTwoOwners_9 rfl ?_
    refine PWk.callVi (pc_X9_isOwner I L R a0 hy_a0 p2) dX9_areTwoOwners_10 ml_X9_67 rfl (rgSc_0 hy_a0) (lcSc hy_a0) vq_9 (by decide) rfl (Nat.le_of_ble_eq_true rfl) (fun x2 => ?_)
    refine PWk.if_eq 25 dX9_areTwoOwners_13 (by decide) (fun h4 => ?_) (fun h4 => ?_)
    · refine PWk.iconst (v := 0) dX9_areTwoOwners_25 ic_0 ?_
      exact PWk.zret dX9_areTwoOwners_26 rfl (fun h => h)
    · refine PWk.iload_n 1 dX9_areTwoOwners_16 rfl ?_
      refine PWk.iload_n 2 dX9_areTwoOwners_17 rfl ?_
      refine PWk.icmp_eq 25 dX9_areTwoOwners_18 (by decide) (fun h3 => ?_) (fun h3 => ?_)
      · refine PWk.iconst (v := 0) dX9_areTwoOwners_25 ic_0 ?_
        exact PWk.zret dX9_areTwoOwners_26 rfl (fun h => h)
      · refine PWk.iconst (v := 1) dX9_areTwoOwners_21 ic_1 ?_
        refine PWk.goto 26 dX9_areTwoOwners_22 (by decide) ?_
        exact PWk.zret dX9_areTwoOwners_26 rfl (fun h => h)
/-! LakeMarket$Scene.stands(I)Z -/
def f_X9_stands (I : HI) (R : HR) (a0 : Nat) (p1 : Int32) : Option (Int32) :=
  (f_X9_isLake I R a0 p1).bind fun x1 =>
  if x1 = 0 then
    gz 0 (some 0)
  else
    ldI (I (a0 + 1)) 8 p1 fun v2 =>
    if v2 ≤ 0 then
      gz 0 (some 0)
    else
      gz 1 (some 1)
set_option maxRecDepth 20000 in
theorem pc_X9_stands (I : HI) (L : HL) (R : HR) (a0 : Nat) (hy_a0 : isSc a0) (p1 : Int32) : PCo 1 93 1 yX9_stands cX9_stands 2 (some .boolean) [.ref a0, .int p1] I L R (f_X9_stands I R a0 p1) (fun x : Int32 => ((some (.int x), I, L, R) : HF)) := by
  refine PCo.of (own := RX9) (by decide +kernel) (Nat.le_of_ble_eq_true rfl) rfl rfl (fun F => ?_)
  unfold f_X9_stands
  refine PWk.aload_n 0 dX9_stands_0 rfl ?_
  refine PWk.iload_n 1 dX9_stands_1 rfl ?_
  refine PWk.callVi (pc_X9_isLake I L R a0 hy_a0 p1) dX9_stands_2 ml_X9_71 rfl (rgSc_0 hy_a0) (lcSc hy_a0) vq_9 (by decide) rfl (Nat.le_of_ble_eq_true rfl) (fun x1 => ?_)
  refine PWk.if_eq 21 dX9_stands_5 (by decide) (fun h4 => ?_) (fun h4 => ?_)
  · refine PWk.iconst (v := 0) dX9_stands_21 ic_0 ?_
    exact PWk.zret dX9_stands_22 rfl (fun h => h)
  · refine PWk.aload_n 0 dX9_stands_8 rfl ?_
    refine PWk.gets dX9_stands_9 (rgSc_0 hy_a0) (lcSc hy_a0) fl_X9_9 rfl (stSc_2 hy_a0) ?_
    refine PWk.iload_n 1 dX9_stands_12 rfl ?_
    refine PWk.iald dX9_stands_13 (rgSc_1 hy_a0) (lySc_1 hy_a0) (fun v2 => ?_)
    refine PWk.if_le 21 dX9_stands_14 (by decide) (fun h3 => ?_) (fun h3 => ?_)
    · refine PWk.iconst (v := 0) dX9_stands_21 ic_0 ?_
      exact PWk.zret dX9_stands_22 rfl (fun h => h)
    · refine PWk.iconst (v := 1) dX9_stands_17 ic_1 ?_
      refine PWk.goto 22 dX9_stands_18 (by decide) ?_
      exact PWk.zret dX9_stands_22 rfl (fun h => h)
/-! LakeMarket$Scene.setBarrels(II)V -/
def f_X9_setBarrels (I : HI) (a0 : Nat) (p1 : Int32) (p2 : Int32) : Option (HI) :=
  inb 8 p1 <|
  bnd (sI I (a0 + 1) (p1 : Int32).toNatClampNeg p2) fun I1 =>
  if 0 < p2 then
    some I1
  else
    inb 8 p1 <|
    bnd (sI I1 (a0 + 2) (p1 : Int32).toNatClampNeg (-1)) fun I2 =>
    inb 8 p1 <|
    bnd (sI I2 (a0 + 3) (p1 : Int32).toNatClampNeg (-1)) fun I3 =>
    some I3
set_option maxRecDepth 20000 in
theorem pc_X9_setBarrels (I : HI) (L : HL) (R : HR) (a0 : Nat) (hy_a0 : isSc a0) (p1 : Int32) (p2 : Int32) : PCo 1 93 0 yX9_setBarrels cX9_setBarrels 3 none [.ref a0, .int p1, .int p2] I L R (f_X9_setBarrels I a0 p1 p2) (fun x : HI => ((none, x, L, R) : HF)) := by
  refine PCo.of (own := RX9) (by decide +kernel) (Nat.le_of_ble_eq_true rfl) rfl rfl (fun F => ?_)
  unfold f_X9_setBarrels
  refine PWk.aload_n 0 dX9_setBarrels_0 rfl ?_
  refine PWk.gets dX9_setBarrels_1 (rgSc_0 hy_a0) (lcSc hy_a0) fl_X9_9 rfl (stSc_2 hy_a0) ?_
  refine PWk.iload_n 1 dX9_setBarrels_4 rfl ?_
  refine PWk.iload_n 2 dX9_setBarrels_5 rfl ?_
  refine PWk.iast dX9_setBarrels_6 (rgSc_1 hy_a0) (lySc_1 hy_a0) ?_
  refine PWk.bI (fun I1 => ?_)
  refine PWk.iload_n 2 dX9_setBarrels_7 rfl ?_
  refine PWk.if_gt 25 dX9_setBarrels_8 (by decide) (fun h4 => ?_) (fun h4 => ?_)
  · exact PWk.vret dX9_setBarrels_25 rfl (fun h => h)
  · refine PWk.aload_n 0 dX9_setBarrels_11 rfl ?_
    refine PWk.gets dX9_setBarrels_12 (rgSc_0 hy_a0) (lcSc hy_a0) fl_X9_15 rfl (stSc_3 hy_a0) ?_
    refine PWk.iload_n 1 dX9_setBarrels_15 rfl ?_
    refine PWk.iconst (v := (-1)) dX9_setBarrels_16 ic_m1 ?_
    refine PWk.iast dX9_setBarrels_17 (rgSc_2 hy_a0) (lySc_2 hy_a0) ?_
    refine PWk.bI (fun I2 => ?_)
    refine PWk.aload_n 0 dX9_setBarrels_18 rfl ?_
    refine PWk.gets dX9_setBarrels_19 (rgSc_0 hy_a0) (lcSc hy_a0) fl_X9_18 rfl (stSc_4 hy_a0) ?_
    refine PWk.iload_n 1 dX9_setBarrels_22 rfl ?_
    refine PWk.iconst (v := (-1)) dX9_setBarrels_23 ic_m1 ?_
    refine PWk.iast dX9_setBarrels_24 (rgSc_3 hy_a0) (lySc_3 hy_a0) ?_
    refine PWk.bI (fun I3 => ?_)
    exact PWk.vret dX9_setBarrels_25 rfl (fun h => h)
/-! LakeMarket$Scene.standing()I -/
def f_X9_standing_L4 : Nat → HI → HR → Nat → Int32 → Int32 → Option (Int32)
  | 0, _, _, _, _, _ => none
  | n + 1, I, R, b0, u1, u2 =>
    gr (okLd (R b0 0)) <|
    if (I (R b0 0) 3) ≤ u2 then
      some u1
    else
      ldI (I (b0 + 1)) 8 u2 fun v2 =>
      jnt (β := Int32) (fun y5 =>
        bnd ((u1 + y5)) fun v6 =>
        f_X9_standing_L4 n I R b0 v6 (u2 + 1)) fun j3 =>
      if v2 ≤ 0 then
        j3 0
      else
        j3 1
def f_X9_standing (fu : Nat) (I : HI) (R : HR) (a0 : Nat) : Option (Int32) :=
  (f_X9_standing_L4 fu I R a0 0 0).bind fun x8 =>
  some x8
set_option maxRecDepth 20000 in
theorem lp_X9_standing_4 (fu : Nat) (b0 : Nat) (hb0 : isSc b0) (I : HI) (L : HL) (R : HR) : ∀ (n : Nat) (u1 : Int32) (u2 : Int32) (N : (Int32) → Prop) (F : HF), (∀ v : Int32, N v → PW 1 93 0 RX9 cX9_standing 3 (some .int) 38 [(1, .int v)] [] I L R F) → PWk 1 93 0 RX9 cX9_standing 3 (some .int) 4 [(0, .ref b0), (1, .int u1), (2, .int u2)] [] I L R (f_X9_standing_L4 n I R b0 u1 u2) N F := by
  intro n
  induction n with
  | zero => intro u1 u2 N F hx; exact PWk.none'
  | succ n ih =>
    intro u1 u2 N F hx
    unfold f_X9_standing_L4
    refine PWk.iload_n 2 dX9_standing_4 rfl ?_
    refine PWk.aload_n 0 dX9_standing_5 rfl ?_
    refine PWk.getr dX9_standing_6 (rgSc_0 hb0) (lcSc hb0) fl_X9_34 rfl okLd_ne (fun hk1 => ?_)
    refine PWk.geti dX9_standing_9 (rgLd_0 (okLd_is hk1)) (lcLd (okLd_is hk1)) fl_X9_54 rfl ?_
    refine PWk.icmp_ge 38 dX9_standing_12 (by decide) (fun h7 => ?_) (fun h7 => ?_)
    · refine PWk.sub [1] rfl ?_
      exact PWk.done (fun h => hx _ h)
    · refine PWk.iload_n 1 dX9_standing_15 rfl ?_
      refine PWk.aload_n 0 dX9_standing_16 rfl ?_
      refine PWk.gets dX9_standing_17 (rgSc_0 hb0) (lcSc hb0) fl_X9_9 rfl (stSc_2 hb0) ?_
      refine PWk.iload_n 2 dX9_standing_20 rfl ?_
      refine PWk.iald dX9_standing_21 (rgSc_1 hb0) (lySc_1 hb0) (fun v2 => ?_)
      refine PWk.jn (pc' := 30) (lv' := fun y5 => [(0, .ref b0), (2, .int u2)]) (st' := fun y5 => [.int y5, .int u1]) (I' := fun y5 => I) (L' := fun y5 => L) (R' := fun y5 => R) (fun j3 hj3 => ?_) (fun y5 => ?_)
      · refine PWk.if_le 29 dX9_standing_22 (by decide) (fun h4 => ?_) (fun h4 => ?_)
        · refine PWk.iconst (v := 0) dX9_standing_29 ic_0 ?_
          refine PWk.sub [0, 2] rfl ?_
          exact hj3 0
        · refine PWk.iconst (v := 1) dX9_standing_25 ic_1 ?_
          refine PWk.goto 30 dX9_standing_26 (by decide) ?_
          refine PWk.sub [0, 2] rfl ?_
          exact hj3 1
      · refine PWk.iadd dX9_standing_30 ?_
        refine PWk.bi (fun v6 => ?_)
        refine PWk.istore_n [(1, .int v6), (0, .ref b0), (2, .int u2)] dX9_standing_31 (by decide) rfl ?_
        refine PWk.iinc (v := (u2 + 1)) 2 [(2, .int (u2 + 1)), (1, .int v6), (0, .ref b0)] dX9_standing_32 rfl (by rw [ic_1]) (by decide) rfl ?_
        refine PWk.goto 4 dX9_standing_35 (by decide) ?_
        refine PWk.sub [2, 1, 0] rfl ?_
        exact ih v6 (u2 + 1) N F hx
set_option maxRecDepth 20000 in
theorem pc_X9_standing (fu : Nat) (I : HI) (L : HL) (R : HR) (a0 : Nat) (hy_a0 : isSc a0) : PCo 1 93 0 yX9_standing cX9_standing 3 (some .int) [.ref a0] I L R (f_X9_standing fu I R a0) (fun x : Int32 => ((some (.int x), I, L, R) : HF)) := by
  refine PCo.of (own := RX9) (by decide +kernel) (Nat.le_of_ble_eq_true rfl) rfl rfl (fun F => ?_)
  unfold f_X9_standing
  refine PWk.iconst (v := 0) dX9_standing_0 ic_0 ?_
  refine PWk.istore_n [(1, .int 0), (0, .ref a0)] dX9_standing_1 (by decide) rfl ?_
  refine PWk.iconst (v := 0) dX9_standing_2 ic_0 ?_
  refine PWk.istore_n [(2, .int 0), (1, .int 0), (0, .ref a0)] dX9_standing_3 (by decide) rfl ?_
  refine PWk.sub [2, 1, 0] rfl ?_
  refine PWk.loopV (fun N' hx' => lp_X9_standing_4 fu a0 hy_a0 I L R fu 0 0 N' F hx') (fun x8 => ?_)
  refine PWk.iload_n 0 dX9_standing_38 rfl ?_
  exact PWk.iret dX9_standing_39 rfl (fun h => h)
/-! LakeMarket$Scene.firstGone()I -/
def f_X9_firstGone_L2 : Nat → HI → HR → Nat → Int32 → Option ((Int32) ⊕ (Unit))
  | 0, _, _, _, _ => none
  | n + 1, I, R, b0, u1 =>
    gr (okLd (R b0 0)) <|
    if (I (R b0 0) 3) ≤ u1 then
      some (.inr ())
    else
      ldI (I (b0 + 1)) 8 u1 fun v2 =>
      if v2 = 0 then
        some (.inl u1)
      else
        f_X9_firstGone_L2 n I R b0 (u1 + 1)
def f_X9_firstGone (fu : Nat) (I : HI) (R : HR) (a0 : Nat) : Option (Int32) :=
  (f_X9_firstGone_L2 fu I R a0 0).bind (Sum.elim (fun r => some r) fun x5 =>
  some (-1))
set_option maxRecDepth 20000 in
theorem lp_X9_firstGone_2 (fu : Nat) (b0 : Nat) (hb0 : isSc b0) (I : HI) (L : HL) (R : HR) : ∀ (n : Nat) (u1 : Int32) (N : ((Int32) ⊕ (Unit)) → Prop) (F : HF), (∀ v : Unit, N (.inr v) → PW 1 93 0 RX9 cX9_firstGone 2 (some .int) 30 [] [] I L R F) → (∀ r : Int32, N (.inl r) → F = (fun x : Int32 => ((some (.int x), I, L, R) : HF)) r) → PWk 1 93 0 RX9 cX9_firstGone 2 (some .int) 2 [(0, .ref b0), (1, .int u1)] [] I L R (f_X9_firstGone_L2 n I R b0 u1) N F := by
  intro n
  induction n with
  | zero => intro u1 N F hx hr; exact PWk.none'
  | succ n ih =>
    intro u1 N F hx hr
    unfold f_X9_firstGone_L2
    refine PWk.iload_n 1 dX9_firstGone_2 rfl ?_
    refine PWk.aload_n 0 dX9_firstGone_3 rfl ?_
    refine PWk.getr dX9_firstGone_4 (rgSc_0 hb0) (lcSc hb0) fl_X9_34 rfl okLd_ne (fun hk1 => ?_)
    refine PWk.geti dX9_firstGone_7 (rgLd_0 (okLd_is hk1)) (lcLd (okLd_is hk1)) fl_X9_54 rfl ?_
    refine PWk.icmp_ge 30 dX9_firstGone_10 (by decide) (fun h4 => ?_) (fun h4 => ?_)
    · refine PWk.sub [] rfl ?_
      exact PWk.done (fun h => hx _ h)
    · refine PWk.aload_n 0 dX9_firstGone_13 rfl ?_
      refine PWk.gets dX9_firstGone_14 (rgSc_0 hb0) (lcSc hb0) fl_X9_9 rfl (stSc_2 hb0) ?_
      refine PWk.iload_n 1 dX9_firstGone_17 rfl ?_
      refine PWk.iald dX9_firstGone_18 (rgSc_1 hb0) (lySc_1 hb0) (fun v2 => ?_)
      refine PWk.if_ne 24 dX9_firstGone_19 (by decide) (fun h3 => ?_) (fun h3 => ?_)
      · refine PWk.iload_n 1 dX9_firstGone_22 rfl ?_
        exact PWk.iret dX9_firstGone_23 rfl (hr _)
      · refine PWk.iinc (v := (u1 + 1)) 1 [(1, .int (u1 + 1)), (0, .ref b0)] dX9_firstGone_24 rfl (by rw [ic_1]) (by decide) rfl ?_
        refine PWk.goto 2 dX9_firstGone_27 (by decide) ?_
        refine PWk.sub [1, 0] rfl ?_
        exact ih (u1 + 1) N F hx hr
set_option maxRecDepth 20000 in
theorem pc_X9_firstGone (fu : Nat) (I : HI) (L : HL) (R : HR) (a0 : Nat) (hy_a0 : isSc a0) : PCo 1 93 0 yX9_firstGone cX9_firstGone 2 (some .int) [.ref a0] I L R (f_X9_firstGone fu I R a0) (fun x : Int32 => ((some (.int x), I, L, R) : HF)) := by
  refine PCo.of (own := RX9) (by decide +kernel) (Nat.le_of_ble_eq_true rfl) rfl rfl (fun F => ?_)
  unfold f_X9_firstGone
  refine PWk.iconst (v := 0) dX9_firstGone_0 ic_0 ?_
  refine PWk.istore_n [(1, .int 0), (0, .ref a0)] dX9_firstGone_1 (by decide) rfl ?_
  refine PWk.sub [1, 0] rfl ?_
  refine PWk.loopS (fun N' hx' hr' => lp_X9_firstGone_2 fu a0 hy_a0 I L R fu 0 N' F hx' hr') (fun r a e h => by cases e; exact h) (fun x5 => ?_)
  refine PWk.iconst (v := (-1)) dX9_firstGone_30 ic_m1 ?_
  exact PWk.iret dX9_firstGone_31 rfl (fun h => h)
/-! LakeMarket$Scene.allBarrels()I -/
def f_X9_allBarrels_L4 : Nat → HI → HR → Nat → Int32 → Int32 → Option (Int32)
  | 0, _, _, _, _, _ => none
  | n + 1, I, R, b0, u1, u2 =>
    gr (okLd (R b0 0)) <|
    if (I (R b0 0) 3) ≤ u2 then
      some u1
    else
      ldI (I (b0 + 1)) 8 u2 fun v2 =>
      bnd ((u1 + v2)) fun v3 =>
      f_X9_allBarrels_L4 n I R b0 v3 (u2 + 1)
def f_X9_allBarrels (fu : Nat) (I : HI) (R : HR) (a0 : Nat) : Option (Int32) :=
  (f_X9_allBarrels_L4 fu I R a0 0 0).bind fun x5 =>
  some x5
set_option maxRecDepth 20000 in
theorem lp_X9_allBarrels_4 (fu : Nat) (b0 : Nat) (hb0 : isSc b0) (I : HI) (L : HL) (R : HR) : ∀ (n : Nat) (u1 : Int32) (u2 : Int32) (N : (Int32) → Prop) (F : HF), (∀ v : Int32, N v → PW 1 93 0 RX9 cX9_allBarrels 3 (some .int) 30 [(1, .int v)] [] I L R F) → PWk 1 93 0 RX9 cX9_allBarrels 3 (some .int) 4 [(0, .ref b0), (1, .int u1), (2, .int u2)] [] I L R (f_X9_allBarrels_L4 n I R b0 u1 u2) N F := by
  intro n
  induction n with
  | zero => intro u1 u2 N F hx; exact PWk.none'
  | succ n ih =>
    intro u1 u2 N F hx
    unfold f_X9_allBarrels_L4
    refine PWk.iload_n 2 dX9_allBarrels_4 rfl ?_
    refine PWk.aload_n 0 dX9_allBarrels_5 rfl ?_
    refine PWk.getr dX9_allBarrels_6 (rgSc_0 hb0) (lcSc hb0) fl_X9_34 rfl okLd_ne (fun hk1 => ?_)
    refine PWk.geti dX9_allBarrels_9 (rgLd_0 (okLd_is hk1)) (lcLd (okLd_is hk1)) fl_X9_54 rfl ?_
    refine PWk.icmp_ge 30 dX9_allBarrels_12 (by decide) (fun h4 => ?_) (fun h4 => ?_)
    · refine PWk.sub [1] rfl ?_
      exact PWk.done (fun h => hx _ h)
    · refine PWk.iload_n 1 dX9_allBarrels_15 rfl ?_
      refine PWk.aload_n 0 dX9_allBarrels_16 rfl ?_
      refine PWk.gets dX9_allBarrels_17 (rgSc_0 hb0) (lcSc hb0) fl_X9_9 rfl (stSc_2 hb0) ?_
      refine PWk.iload_n 2 dX9_allBarrels_20 rfl ?_
      refine PWk.iald dX9_allBarrels_21 (rgSc_1 hb0) (lySc_1 hb0) (fun v2 => ?_)
      refine PWk.iadd dX9_allBarrels_22 ?_
      refine PWk.bi (fun v3 => ?_)
      refine PWk.istore_n [(1, .int v3), (0, .ref b0), (2, .int u2)] dX9_allBarrels_23 (by decide) rfl ?_
      refine PWk.iinc (v := (u2 + 1)) 2 [(2, .int (u2 + 1)), (1, .int v3), (0, .ref b0)] dX9_allBarrels_24 rfl (by rw [ic_1]) (by decide) rfl ?_
      refine PWk.goto 4 dX9_allBarrels_27 (by decide) ?_
      refine PWk.sub [2, 1, 0] rfl ?_
      exact ih v3 (u2 + 1) N F hx
set_option maxRecDepth 20000 in
theorem pc_X9_allBarrels (fu : Nat) (I : HI) (L : HL) (R : HR) (a0 : Nat) (hy_a0 : isSc a0) : PCo 1 93 0 yX9_allBarrels cX9_allBarrels 3 (some .int) [.ref a0] I L R (f_X9_allBarrels fu I R a0) (fun x : Int32 => ((some (.int x), I, L, R) : HF)) := by
  refine PCo.of (own := RX9) (by decide +kernel) (Nat.le_of_ble_eq_true rfl) rfl rfl (fun F => ?_)
  unfold f_X9_allBarrels
  refine PWk.iconst (v := 0) dX9_allBarrels_0 ic_0 ?_
  refine PWk.istore_n [(1, .int 0), (0, .ref a0)] dX9_allBarrels_1 (by decide) rfl ?_
  refine PWk.iconst (v := 0) dX9_allBarrels_2 ic_0 ?_
  refine PWk.istore_n [(2, .int 0), (1, .int 0), (0, .ref a0)] dX9_allBarrels_3 (by decide) rfl ?_
  refine PWk.sub [2, 1, 0] rfl ?_
  refine PWk.loopV (fun N' hx' => lp_X9_allBarrels_4 fu a0 hy_a0 I L R fu 0 0 N' F hx') (fun x5 => ?_)
  refine PWk.iload_n 0 dX9_allBarrels_30 rfl ?_
  exact PWk.iret dX9_allBarrels_31 rfl (fun h => h)
/-! LakeMarket$Scene.lakesIn(I)I -/
def f_X9_lakesIn_L4 : Nat → HI → HR → Nat → Int32 → Int32 → Int32 → Option (Int32)
  | 0, _, _, _, _, _, _ => none
  | n + 1, I, R, b0, u1, u2, u3 =>
    gr (okLd (R b0 0)) <|
    if (I (R b0 0) 3) ≤ u3 then
      some u2
    else
      ldI (I (b0 + 2)) 8 u3 fun v2 =>
      jnt (β := Int32) (fun y6 =>
        f_X9_lakesIn_L4 n I R b0 u1 y6 (u3 + 1)) fun j3 =>
      if v2 = u1 then
        bnd ((u2 ||| ((1 : Int32) <<< (u3 &&& 31)))) fun v4 =>
        j3 v4
      else
        j3 u2
def f_X9_lakesIn (fu : Nat) (I : HI) (R : HR) (a0 : Nat) (p1 : Int32) : Option (Int32) :=
  (f_X9_lakesIn_L4 fu I R a0 p1 0 0).bind fun x8 =>
  some x8
set_option maxRecDepth 20000 in
theorem lp_X9_lakesIn_4 (fu : Nat) (b0 : Nat) (hb0 : isSc b0) (u1 : Int32) (I : HI) (L : HL) (R : HR) : ∀ (n : Nat) (u2 : Int32) (u3 : Int32) (N : (Int32) → Prop) (F : HF), (∀ v : Int32, N v → PW 1 93 0 RX9 cX9_lakesIn 4 (some .int) 37 [(2, .int v)] [] I L R F) → PWk 1 93 0 RX9 cX9_lakesIn 4 (some .int) 4 [(0, .ref b0), (1, .int u1), (2, .int u2), (3, .int u3)] [] I L R (f_X9_lakesIn_L4 n I R b0 u1 u2 u3) N F := by
  intro n
  induction n with
  | zero => intro u2 u3 N F hx; exact PWk.none'
  | succ n ih =>
    intro u2 u3 N F hx
    unfold f_X9_lakesIn_L4
    refine PWk.iload_n 3 dX9_lakesIn_4 rfl ?_
    refine PWk.aload_n 0 dX9_lakesIn_5 rfl ?_
    refine PWk.getr dX9_lakesIn_6 (rgSc_0 hb0) (lcSc hb0) fl_X9_34 rfl okLd_ne (fun hk1 => ?_)
    refine PWk.geti dX9_lakesIn_9 (rgLd_0 (okLd_is hk1)) (lcLd (okLd_is hk1)) fl_X9_54 rfl ?_
    refine PWk.icmp_ge 37 dX9_lakesIn_12 (by decide) (fun h7 => ?_) (fun h7 => ?_)
    · refine PWk.sub [2] rfl ?_
      exact PWk.done (fun h => hx _ h)
    · refine PWk.aload_n 0 dX9_lakesIn_15 rfl ?_
      refine PWk.gets dX9_lakesIn_16 (rgSc_0 hb0) (lcSc hb0) fl_X9_15 rfl (stSc_3 hb0) ?_
      refine PWk.iload_n 3 dX9_lakesIn_19 rfl ?_
      refine PWk.iald dX9_lakesIn_20 (rgSc_2 hb0) (lySc_2 hb0) (fun v2 => ?_)
      refine PWk.iload_n 1 dX9_lakesIn_21 rfl ?_
      refine PWk.jn (pc' := 31) (lv' := fun y6 => [(0, .ref b0), (1, .int u1), (2, .int y6), (3, .int u3)]) (st' := fun y6 => []) (I' := fun y6 => I) (L' := fun y6 => L) (R' := fun y6 => R) (fun j3 hj3 => ?_) (fun y6 => ?_)
      · refine PWk.icmp_ne 31 dX9_lakesIn_22 (by decide) (fun h5 => ?_) (fun h5 => ?_)
        · refine PWk.iload_n 2 dX9_lakesIn_25 rfl ?_
          refine PWk.iconst (v := 1) dX9_lakesIn_26 ic_1 ?_
          refine PWk.iload_n 3 dX9_lakesIn_27 rfl ?_
          refine PWk.ishl dX9_lakesIn_28 ?_
          refine PWk.ior dX9_lakesIn_29 ?_
          refine PWk.bi (fun v4 => ?_)
          refine PWk.istore_n [(2, .int v4), (0, .ref b0), (1, .int u1), (3, .int u3)] dX9_lakesIn_30 (by decide) rfl ?_
          refine PWk.sub [1, 2, 0, 3] rfl ?_
          exact hj3 v4
        · exact hj3 u2
      · refine PWk.iinc (v := (u3 + 1)) 3 [(3, .int (u3 + 1)), (0, .ref b0), (1, .int u1), (2, .int y6)] dX9_lakesIn_31 rfl (by rw [ic_1]) (by decide) rfl ?_
        refine PWk.goto 4 dX9_lakesIn_34 (by decide) ?_
        refine PWk.sub [1, 2, 3, 0] rfl ?_
        exact ih y6 (u3 + 1) N F hx
set_option maxRecDepth 20000 in
theorem pc_X9_lakesIn (fu : Nat) (I : HI) (L : HL) (R : HR) (a0 : Nat) (hy_a0 : isSc a0) (p1 : Int32) : PCo 1 93 0 yX9_lakesIn cX9_lakesIn 4 (some .int) [.ref a0, .int p1] I L R (f_X9_lakesIn fu I R a0 p1) (fun x : Int32 => ((some (.int x), I, L, R) : HF)) := by
  refine PCo.of (own := RX9) (by decide +kernel) (Nat.le_of_ble_eq_true rfl) rfl rfl (fun F => ?_)
  unfold f_X9_lakesIn
  refine PWk.iconst (v := 0) dX9_lakesIn_0 ic_0 ?_
  refine PWk.istore_n [(2, .int 0), (0, .ref a0), (1, .int p1)] dX9_lakesIn_1 (by decide) rfl ?_
  refine PWk.iconst (v := 0) dX9_lakesIn_2 ic_0 ?_
  refine PWk.istore_n [(3, .int 0), (2, .int 0), (0, .ref a0), (1, .int p1)] dX9_lakesIn_3 (by decide) rfl ?_
  refine PWk.sub [2, 3, 1, 0] rfl ?_
  refine PWk.loopV (fun N' hx' => lp_X9_lakesIn_4 fu a0 hy_a0 p1 I L R fu 0 0 N' F hx') (fun x8 => ?_)
  refine PWk.iload_n 0 dX9_lakesIn_37 rfl ?_
  exact PWk.iret dX9_lakesIn_38 rfl (fun h => h)
/-! LakeMarket$Scene.roomIn(I)I -/
def f_X9_roomIn_L12 : Nat → HI → HR → Nat → Int32 → Int32 → Int32 → Option (Int32)
  | 0, _, _, _, _, _, _ => none
  | n + 1, I, R, b0, u1, u2, u3 =>
    gr (okLd (R b0 0)) <|
    if (I (R b0 0) 3) ≤ u3 then
      some u2
    else
      ldI (I (b0 + 2)) 8 u3 fun v4 =>
      jnt (β := Int32) (fun y9 =>
        f_X9_roomIn_L12 n I R b0 u1 y9 (u3 + 1)) fun j5 =>
      if v4 = u1 then
        ldI (I (b0 + 1)) 8 u3 fun v6 =>
        bnd ((u2 - v6)) fun v7 =>
        j5 v7
      else
        j5 u2
def f_X9_roomIn (fu : Nat) (I : HI) (R : HR) (a0 : Nat) (p1 : Int32) : Option (Int32) :=
  gr (okLd (R a0 0)) <|
  ldI (I ((R a0 0) + 4)) 8 p1 fun v2 =>
  (f_X9_roomIn_L12 fu I R a0 p1 v2 0).bind fun x11 =>
  some x11
set_option maxRecDepth 20000 in
theorem lp_X9_roomIn_12 (fu : Nat) (b0 : Nat) (hb0 : isSc b0) (u1 : Int32) (I : HI) (L : HL) (R : HR) : ∀ (n : Nat) (u2 : Int32) (u3 : Int32) (N : (Int32) → Prop) (F : HF), (∀ v : Int32, N v → PW 1 93 0 RX9 cX9_roomIn 4 (some .int) 48 [(2, .int v)] [] I L R F) → PWk 1 93 0 RX9 cX9_roomIn 4 (some .int) 12 [(0, .ref b0), (1, .int u1), (2, .int u2), (3, .int u3)] [] I L R (f_X9_roomIn_L12 n I R b0 u1 u2 u3) N F := by
  intro n
  induction n with
  | zero => intro u2 u3 N F hx; exact PWk.none'
  | succ n ih =>
    intro u2 u3 N F hx
    unfold f_X9_roomIn_L12
    refine PWk.iload_n 3 dX9_roomIn_12 rfl ?_
    refine PWk.aload_n 0 dX9_roomIn_13 rfl ?_
    refine PWk.getr dX9_roomIn_14 (rgSc_0 hb0) (lcSc hb0) fl_X9_34 rfl okLd_ne (fun hk3 => ?_)
    refine PWk.geti dX9_roomIn_17 (rgLd_0 (okLd_is hk3)) (lcLd (okLd_is hk3)) fl_X9_54 rfl ?_
    refine PWk.icmp_ge 48 dX9_roomIn_20 (by decide) (fun h10 => ?_) (fun h10 => ?_)
    · refine PWk.sub [2] rfl ?_
      exact PWk.done (fun h => hx _ h)
    · refine PWk.aload_n 0 dX9_roomIn_23 rfl ?_
      refine PWk.gets dX9_roomIn_24 (rgSc_0 hb0) (lcSc hb0) fl_X9_15 rfl (stSc_3 hb0) ?_
      refine PWk.iload_n 3 dX9_roomIn_27 rfl ?_
      refine PWk.iald dX9_roomIn_28 (rgSc_2 hb0) (lySc_2 hb0) (fun v4 => ?_)
      refine PWk.iload_n 1 dX9_roomIn_29 rfl ?_
      refine PWk.jn (pc' := 42) (lv' := fun y9 => [(0, .ref b0), (1, .int u1), (2, .int y9), (3, .int u3)]) (st' := fun y9 => []) (I' := fun y9 => I) (L' := fun y9 => L) (R' := fun y9 => R) (fun j5 hj5 => ?_) (fun y9 => ?_)
      · refine PWk.icmp_ne 42 dX9_roomIn_30 (by decide) (fun h8 => ?_) (fun h8 => ?_)
        · refine PWk.iload_n 2 dX9_roomIn_33 rfl ?_
          refine PWk.aload_n 0 dX9_roomIn_34 rfl ?_
          refine PWk.gets dX9_roomIn_35 (rgSc_0 hb0) (lcSc hb0) fl_X9_9 rfl (stSc_2 hb0) ?_
          refine PWk.iload_n 3 dX9_roomIn_38 rfl ?_
          refine PWk.iald dX9_roomIn_39 (rgSc_1 hb0) (lySc_1 hb0) (fun v6 => ?_)
          refine PWk.isub dX9_roomIn_40 ?_
          refine PWk.bi (fun v7 => ?_)
          refine PWk.istore_n [(2, .int v7), (0, .ref b0), (1, .int u1), (3, .int u3)] dX9_roomIn_41 (by decide) rfl ?_
          refine PWk.sub [1, 2, 0, 3] rfl ?_
          exact hj5 v7
        · exact hj5 u2
      · refine PWk.iinc (v := (u3 + 1)) 3 [(3, .int (u3 + 1)), (0, .ref b0), (1, .int u1), (2, .int y9)] dX9_roomIn_42 rfl (by rw [ic_1]) (by decide) rfl ?_
        refine PWk.goto 12 dX9_roomIn_45 (by decide) ?_
        refine PWk.sub [1, 2, 3, 0] rfl ?_
        exact ih y9 (u3 + 1) N F hx
set_option maxRecDepth 20000 in
theorem pc_X9_roomIn (fu : Nat) (I : HI) (L : HL) (R : HR) (a0 : Nat) (hy_a0 : isSc a0) (p1 : Int32) : PCo 1 93 0 yX9_roomIn cX9_roomIn 4 (some .int) [.ref a0, .int p1] I L R (f_X9_roomIn fu I R a0 p1) (fun x : Int32 => ((some (.int x), I, L, R) : HF)) := by
  refine PCo.of (own := RX9) (by decide +kernel) (Nat.le_of_ble_eq_true rfl) rfl rfl (fun F => ?_)
  unfold f_X9_roomIn
  refine PWk.aload_n 0 dX9_roomIn_0 rfl ?_
  refine PWk.getr dX9_roomIn_1 (rgSc_0 hy_a0) (lcSc hy_a0) fl_X9_34 rfl okLd_ne (fun hk1 => ?_)
  refine PWk.gets dX9_roomIn_4 (rgLd_0 (okLd_is hk1)) (lcLd (okLd_is hk1)) fl_X9_74 rfl (stLd_9 (okLd_is hk1)) ?_
  refine PWk.iload_n 1 dX9_roomIn_7 rfl ?_
  refine PWk.iald dX9_roomIn_8 (rgLd_4 (okLd_is hk1)) (lyLd_4 (okLd_is hk1)) (fun v2 => ?_)
  refine PWk.istore_n [(2, .int v2), (0, .ref a0), (1, .int p1)] dX9_roomIn_9 (by decide) rfl ?_
  refine PWk.iconst (v := 0) dX9_roomIn_10 ic_0 ?_
  refine PWk.istore_n [(3, .int 0), (2, .int v2), (0, .ref a0), (1, .int p1)] dX9_roomIn_11 (by decide) rfl ?_
  refine PWk.sub [2, 3, 1, 0] rfl ?_
  refine PWk.loopV (fun N' hx' => lp_X9_roomIn_12 fu a0 hy_a0 p1 I L R fu v2 0 N' F hx') (fun x11 => ?_)
  refine PWk.iload_n 0 dX9_roomIn_48 rfl ?_
  exact PWk.iret dX9_roomIn_49 rfl (fun h => h)
/-! LakeMarket$Scene.countIn(I)I -/
def f_X9_countIn_L4 : Nat → HI → HR → Nat → Int32 → Int32 → Int32 → Option (Int32)
  | 0, _, _, _, _, _, _ => none
  | n + 1, I, R, b0, u1, u2, u3 =>
    gr (okLd (R b0 0)) <|
    if (I (R b0 0) 3) ≤ u3 then
      some u2
    else
      ldI (I (b0 + 2)) 8 u3 fun v2 =>
      jnt (β := Int32) (fun y5 =>
        f_X9_countIn_L4 n I R b0 u1 y5 (u3 + 1)) fun j3 =>
      if v2 = u1 then
        j3 (u2 + 1)
      else
        j3 u2
def f_X9_countIn (fu : Nat) (I : HI) (R : HR) (a0 : Nat) (p1 : Int32) : Option (Int32) :=
  (f_X9_countIn_L4 fu I R a0 p1 0 0).bind fun x7 =>
  some x7
set_option maxRecDepth 20000 in
theorem lp_X9_countIn_4 (fu : Nat) (b0 : Nat) (hb0 : isSc b0) (u1 : Int32) (I : HI) (L : HL) (R : HR) : ∀ (n : Nat) (u2 : Int32) (u3 : Int32) (N : (Int32) → Prop) (F : HF), (∀ v : Int32, N v → PW 1 93 0 RX9 cX9_countIn 4 (some .int) 34 [(2, .int v)] [] I L R F) → PWk 1 93 0 RX9 cX9_countIn 4 (some .int) 4 [(0, .ref b0), (1, .int u1), (2, .int u2), (3, .int u3)] [] I L R (f_X9_countIn_L4 n I R b0 u1 u2 u3) N F := by
  intro n
  induction n with
  | zero => intro u2 u3 N F hx; exact PWk.none'
  | succ n ih =>
    intro u2 u3 N F hx
    unfold f_X9_countIn_L4
    refine PWk.iload_n 3 dX9_countIn_4 rfl ?_
    refine PWk.aload_n 0 dX9_countIn_5 rfl ?_
    refine PWk.getr dX9_countIn_6 (rgSc_0 hb0) (lcSc hb0) fl_X9_34 rfl okLd_ne (fun hk1 => ?_)
    refine PWk.geti dX9_countIn_9 (rgLd_0 (okLd_is hk1)) (lcLd (okLd_is hk1)) fl_X9_54 rfl ?_
    refine PWk.icmp_ge 34 dX9_countIn_12 (by decide) (fun h6 => ?_) (fun h6 => ?_)
    · refine PWk.sub [2] rfl ?_
      exact PWk.done (fun h => hx _ h)
    · refine PWk.aload_n 0 dX9_countIn_15 rfl ?_
      refine PWk.gets dX9_countIn_16 (rgSc_0 hb0) (lcSc hb0) fl_X9_15 rfl (stSc_3 hb0) ?_
      refine PWk.iload_n 3 dX9_countIn_19 rfl ?_
      refine PWk.iald dX9_countIn_20 (rgSc_2 hb0) (lySc_2 hb0) (fun v2 => ?_)
      refine PWk.iload_n 1 dX9_countIn_21 rfl ?_
      refine PWk.jn (pc' := 28) (lv' := fun y5 => [(0, .ref b0), (1, .int u1), (2, .int y5), (3, .int u3)]) (st' := fun y5 => []) (I' := fun y5 => I) (L' := fun y5 => L) (R' := fun y5 => R) (fun j3 hj3 => ?_) (fun y5 => ?_)
      · refine PWk.icmp_ne 28 dX9_countIn_22 (by decide) (fun h4 => ?_) (fun h4 => ?_)
        · refine PWk.iinc (v := (u2 + 1)) 2 [(2, .int (u2 + 1)), (0, .ref b0), (1, .int u1), (3, .int u3)] dX9_countIn_25 rfl (by rw [ic_1]) (by decide) rfl ?_
          refine PWk.sub [1, 2, 0, 3] rfl ?_
          exact hj3 (u2 + 1)
        · exact hj3 u2
      · refine PWk.iinc (v := (u3 + 1)) 3 [(3, .int (u3 + 1)), (0, .ref b0), (1, .int u1), (2, .int y5)] dX9_countIn_28 rfl (by rw [ic_1]) (by decide) rfl ?_
        refine PWk.goto 4 dX9_countIn_31 (by decide) ?_
        refine PWk.sub [1, 2, 3, 0] rfl ?_
        exact ih y5 (u3 + 1) N F hx
set_option maxRecDepth 20000 in
theorem pc_X9_countIn (fu : Nat) (I : HI) (L : HL) (R : HR) (a0 : Nat) (hy_a0 : isSc a0) (p1 : Int32) : PCo 1 93 0 yX9_countIn cX9_countIn 4 (some .int) [.ref a0, .int p1] I L R (f_X9_countIn fu I R a0 p1) (fun x : Int32 => ((some (.int x), I, L, R) : HF)) := by
  refine PCo.of (own := RX9) (by decide +kernel) (Nat.le_of_ble_eq_true rfl) rfl rfl (fun F => ?_)
  unfold f_X9_countIn
  refine PWk.iconst (v := 0) dX9_countIn_0 ic_0 ?_
  refine PWk.istore_n [(2, .int 0), (0, .ref a0), (1, .int p1)] dX9_countIn_1 (by decide) rfl ?_
  refine PWk.iconst (v := 0) dX9_countIn_2 ic_0 ?_
  refine PWk.istore_n [(3, .int 0), (2, .int 0), (0, .ref a0), (1, .int p1)] dX9_countIn_3 (by decide) rfl ?_
  refine PWk.sub [2, 3, 1, 0] rfl ?_
  refine PWk.loopV (fun N' hx' => lp_X9_countIn_4 fu a0 hy_a0 p1 I L R fu 0 0 N' F hx') (fun x7 => ?_)
  refine PWk.iload_n 0 dX9_countIn_34 rfl ?_
  exact PWk.iret dX9_countIn_35 rfl (fun h => h)
/-! LakeMarket$Scene.lakesOf(I)I -/
def f_X9_lakesOf_L4 : Nat → HI → HR → Nat → Int32 → Int32 → Int32 → Option (Int32)
  | 0, _, _, _, _, _, _ => none
  | n + 1, I, R, b0, u1, u2, u3 =>
    gr (okLd (R b0 0)) <|
    if (I (R b0 0) 3) ≤ u3 then
      some u2
    else
      ldI (I (b0 + 3)) 8 u3 fun v2 =>
      jnt (β := Int32) (fun y6 =>
        f_X9_lakesOf_L4 n I R b0 u1 y6 (u3 + 1)) fun j3 =>
      if v2 = u1 then
        bnd ((u2 ||| ((1 : Int32) <<< (u3 &&& 31)))) fun v4 =>
        j3 v4
      else
        j3 u2
def f_X9_lakesOf (fu : Nat) (I : HI) (R : HR) (a0 : Nat) (p1 : Int32) : Option (Int32) :=
  (f_X9_lakesOf_L4 fu I R a0 p1 0 0).bind fun x8 =>
  some x8
set_option maxRecDepth 20000 in
theorem lp_X9_lakesOf_4 (fu : Nat) (b0 : Nat) (hb0 : isSc b0) (u1 : Int32) (I : HI) (L : HL) (R : HR) : ∀ (n : Nat) (u2 : Int32) (u3 : Int32) (N : (Int32) → Prop) (F : HF), (∀ v : Int32, N v → PW 1 93 0 RX9 cX9_lakesOf 4 (some .int) 37 [(2, .int v)] [] I L R F) → PWk 1 93 0 RX9 cX9_lakesOf 4 (some .int) 4 [(0, .ref b0), (1, .int u1), (2, .int u2), (3, .int u3)] [] I L R (f_X9_lakesOf_L4 n I R b0 u1 u2 u3) N F := by
  intro n
  induction n with
  | zero => intro u2 u3 N F hx; exact PWk.none'
  | succ n ih =>
    intro u2 u3 N F hx
    unfold f_X9_lakesOf_L4
    refine PWk.iload_n 3 dX9_lakesOf_4 rfl ?_
    refine PWk.aload_n 0 dX9_lakesOf_5 rfl ?_
    refine PWk.getr dX9_lakesOf_6 (rgSc_0 hb0) (lcSc hb0) fl_X9_34 rfl okLd_ne (fun hk1 => ?_)
    refine PWk.geti dX9_lakesOf_9 (rgLd_0 (okLd_is hk1)) (lcLd (okLd_is hk1)) fl_X9_54 rfl ?_
    refine PWk.icmp_ge 37 dX9_lakesOf_12 (by decide) (fun h7 => ?_) (fun h7 => ?_)
    · refine PWk.sub [2] rfl ?_
      exact PWk.done (fun h => hx _ h)
    · refine PWk.aload_n 0 dX9_lakesOf_15 rfl ?_
      refine PWk.gets dX9_lakesOf_16 (rgSc_0 hb0) (lcSc hb0) fl_X9_18 rfl (stSc_4 hb0) ?_
      refine PWk.iload_n 3 dX9_lakesOf_19 rfl ?_
      refine PWk.iald dX9_lakesOf_20 (rgSc_3 hb0) (lySc_3 hb0) (fun v2 => ?_)
      refine PWk.iload_n 1 dX9_lakesOf_21 rfl ?_
      refine PWk.jn (pc' := 31) (lv' := fun y6 => [(0, .ref b0), (1, .int u1), (2, .int y6), (3, .int u3)]) (st' := fun y6 => []) (I' := fun y6 => I) (L' := fun y6 => L) (R' := fun y6 => R) (fun j3 hj3 => ?_) (fun y6 => ?_)
      · refine PWk.icmp_ne 31 dX9_lakesOf_22 (by decide) (fun h5 => ?_) (fun h5 => ?_)
        · refine PWk.iload_n 2 dX9_lakesOf_25 rfl ?_
          refine PWk.iconst (v := 1) dX9_lakesOf_26 ic_1 ?_
          refine PWk.iload_n 3 dX9_lakesOf_27 rfl ?_
          refine PWk.ishl dX9_lakesOf_28 ?_
          refine PWk.ior dX9_lakesOf_29 ?_
          refine PWk.bi (fun v4 => ?_)
          refine PWk.istore_n [(2, .int v4), (0, .ref b0), (1, .int u1), (3, .int u3)] dX9_lakesOf_30 (by decide) rfl ?_
          refine PWk.sub [1, 2, 0, 3] rfl ?_
          exact hj3 v4
        · exact hj3 u2
      · refine PWk.iinc (v := (u3 + 1)) 3 [(3, .int (u3 + 1)), (0, .ref b0), (1, .int u1), (2, .int y6)] dX9_lakesOf_31 rfl (by rw [ic_1]) (by decide) rfl ?_
        refine PWk.goto 4 dX9_lakesOf_34 (by decide) ?_
        refine PWk.sub [1, 2, 3, 0] rfl ?_
        exact ih y6 (u3 + 1) N F hx
set_option maxRecDepth 20000 in
theorem pc_X9_lakesOf (fu : Nat) (I : HI) (L : HL) (R : HR) (a0 : Nat) (hy_a0 : isSc a0) (p1 : Int32) : PCo 1 93 0 yX9_lakesOf cX9_lakesOf 4 (some .int) [.ref a0, .int p1] I L R (f_X9_lakesOf fu I R a0 p1) (fun x : Int32 => ((some (.int x), I, L, R) : HF)) := by
  refine PCo.of (own := RX9) (by decide +kernel) (Nat.le_of_ble_eq_true rfl) rfl rfl (fun F => ?_)
  unfold f_X9_lakesOf
  refine PWk.iconst (v := 0) dX9_lakesOf_0 ic_0 ?_
  refine PWk.istore_n [(2, .int 0), (0, .ref a0), (1, .int p1)] dX9_lakesOf_1 (by decide) rfl ?_
  refine PWk.iconst (v := 0) dX9_lakesOf_2 ic_0 ?_
  refine PWk.istore_n [(3, .int 0), (2, .int 0), (0, .ref a0), (1, .int p1)] dX9_lakesOf_3 (by decide) rfl ?_
  refine PWk.sub [2, 3, 1, 0] rfl ?_
  refine PWk.loopV (fun N' hx' => lp_X9_lakesOf_4 fu a0 hy_a0 p1 I L R fu 0 0 N' F hx') (fun x8 => ?_)
  refine PWk.iload_n 0 dX9_lakesOf_37 rfl ?_
  exact PWk.iret dX9_lakesOf_38 rfl (fun h => h)
/-! LakeMarket$Scene.give(II)V -/
def f_X9_give_L2 : Nat → HI → HR → Nat → Int32 → Int32 → Int32 → Option (HI)
  | 0, _, _, _, _, _, _ => none
  | n + 1, I, R, b0, u1, u2, u3 =>
    gr (okLd (R b0 0)) <|
    if (I (R b0 0) 3) ≤ u3 then
      some I
    else
      jnt (β := HI) (fun y5 =>
        f_X9_give_L2 n y5 R b0 u1 u2 (u3 + 1)) fun j2 =>
      if (u1 &&& ((1 : Int32) <<< (u3 &&& 31))) = 0 then
        j2 I
      else
        inb 8 u3 <|
        bnd (sI I (b0 + 3) (u3 : Int32).toNatClampNeg u2) fun I3 =>
        j2 I3
def f_X9_give (fu : Nat) (I : HI) (R : HR) (a0 : Nat) (p1 : Int32) (p2 : Int32) : Option (HI) :=
  (f_X9_give_L2 fu I R a0 p1 p2 0).bind fun x7 =>
  some x7
set_option maxRecDepth 20000 in
theorem lp_X9_give_2 (fu : Nat) (b0 : Nat) (hb0 : isSc b0) (u1 : Int32) (u2 : Int32) (L : HL) (R : HR) : ∀ (n : Nat) (u3 : Int32) (I : HI) (N : (HI) → Prop) (F : HF), (∀ v : HI, N v → PW 1 93 0 RX9 cX9_give 4 none 34 [] [] v L R F) → PWk 1 93 0 RX9 cX9_give 4 none 2 [(0, .ref b0), (1, .int u1), (2, .int u2), (3, .int u3)] [] I L R (f_X9_give_L2 n I R b0 u1 u2 u3) N F := by
  intro n
  induction n with
  | zero => intro u3 I N F hx; exact PWk.none'
  | succ n ih =>
    intro u3 I N F hx
    unfold f_X9_give_L2
    refine PWk.iload_n 3 dX9_give_2 rfl ?_
    refine PWk.aload_n 0 dX9_give_3 rfl ?_
    refine PWk.getr dX9_give_4 (rgSc_0 hb0) (lcSc hb0) fl_X9_34 rfl okLd_ne (fun hk1 => ?_)
    refine PWk.geti dX9_give_7 (rgLd_0 (okLd_is hk1)) (lcLd (okLd_is hk1)) fl_X9_54 rfl ?_
    refine PWk.icmp_ge 34 dX9_give_10 (by decide) (fun h6 => ?_) (fun h6 => ?_)
    · refine PWk.sub [] rfl ?_
      exact PWk.done (fun h => hx _ h)
    · refine PWk.iload_n 1 dX9_give_13 rfl ?_
      refine PWk.iconst (v := 1) dX9_give_14 ic_1 ?_
      refine PWk.iload_n 3 dX9_give_15 rfl ?_
      refine PWk.ishl dX9_give_16 ?_
      refine PWk.iand dX9_give_17 ?_
      refine PWk.jn (pc' := 28) (lv' := fun y5 => [(0, .ref b0), (1, .int u1), (2, .int u2), (3, .int u3)]) (st' := fun y5 => []) (I' := fun y5 => y5) (L' := fun y5 => L) (R' := fun y5 => R) (fun j2 hj2 => ?_) (fun y5 => ?_)
      · refine PWk.if_eq 28 dX9_give_18 (by decide) (fun h4 => ?_) (fun h4 => ?_)
        · exact hj2 I
        · refine PWk.aload_n 0 dX9_give_21 rfl ?_
          refine PWk.gets dX9_give_22 (rgSc_0 hb0) (lcSc hb0) fl_X9_18 rfl (stSc_4 hb0) ?_
          refine PWk.iload_n 3 dX9_give_25 rfl ?_
          refine PWk.iload_n 2 dX9_give_26 rfl ?_
          refine PWk.iast dX9_give_27 (rgSc_3 hb0) (lySc_3 hb0) ?_
          refine PWk.bI (fun I3 => ?_)
          exact hj2 I3
      · refine PWk.iinc (v := (u3 + 1)) 3 [(3, .int (u3 + 1)), (0, .ref b0), (1, .int u1), (2, .int u2)] dX9_give_28 rfl (by rw [ic_1]) (by decide) rfl ?_
        refine PWk.goto 2 dX9_give_31 (by decide) ?_
        refine PWk.sub [1, 2, 3, 0] rfl ?_
        exact ih (u3 + 1) y5 N F hx
set_option maxRecDepth 20000 in
theorem pc_X9_give (fu : Nat) (I : HI) (L : HL) (R : HR) (a0 : Nat) (hy_a0 : isSc a0) (p1 : Int32) (p2 : Int32) : PCo 1 93 0 yX9_give cX9_give 4 none [.ref a0, .int p1, .int p2] I L R (f_X9_give fu I R a0 p1 p2) (fun x : HI => ((none, x, L, R) : HF)) := by
  refine PCo.of (own := RX9) (by decide +kernel) (Nat.le_of_ble_eq_true rfl) rfl rfl (fun F => ?_)
  unfold f_X9_give
  refine PWk.iconst (v := 0) dX9_give_0 ic_0 ?_
  refine PWk.istore_n [(3, .int 0), (0, .ref a0), (1, .int p1), (2, .int p2)] dX9_give_1 (by decide) rfl ?_
  refine PWk.sub [1, 2, 3, 0] rfl ?_
  refine PWk.loopV (fun N' hx' => lp_X9_give_2 fu a0 hy_a0 p1 p2 L R fu 0 I N' F hx') (fun x7 => ?_)
  exact PWk.vret dX9_give_34 rfl (fun h => h)
/-! LakeMarket$Scene.worthOf(I)I -/
def f_X9_worthOf (fu : Nat) (I : HI) (R : HR) (a0 : Nat) (p1 : Int32) : Option (Int32 × HI) :=
  (f_X9_stands I R a0 p1).bind fun x1 =>
  if x1 = 0 then
    some (0, I)
  else
    gr (okLd (R a0 0)) <|
    (f_X2_hasRule I (R a0 0) 1).bind fun x3 =>
    if x3 = 0 then
      ldI (I (a0 + 1)) 8 p1 fun v4 =>
      some (v4, I)
    else
      ldI (I (a0 + 1)) 8 p1 fun v5 =>
      ldI (I (a0 + 2)) 8 p1 fun v6 =>
      (f_X9_countIn fu I R a0 v6).bind fun x7 =>
      (f_X3_setLake I (a0 + 6) v5 (I a0 1) (x7 - 1)).bind fun x8 =>
      (f_X3_run fu x8 (a0 + 6) (R a0 0) 1).bind fun x9 =>
      (f_J9_min_7cf53 9999 x9.1).bind fun x10 =>
      (f_J9_max_7cf53 0 x10).bind fun x11 =>
      some (x11, x9.2)
set_option maxRecDepth 20000 in
theorem pc_X9_worthOf (fu : Nat) (I : HI) (L : HL) (R : HR) (a0 : Nat) (hy_a0 : isSc a0) (p1 : Int32) : PCo 1 93 4 yX9_worthOf cX9_worthOf 2 (some .int) [.ref a0, .int p1] I L R (f_X9_worthOf fu I R a0 p1) (fun x : Int32 × HI => ((some (.int x.1), x.2, L, R) : HF)) := by
  refine PCo.of (own := RX9) (by decide +kernel) (Nat.le_of_ble_eq_true rfl) rfl rfl (fun F => ?_)
  unfold f_X9_worthOf
  refine PWk.aload_n 0 dX9_worthOf_0 rfl ?_
  refine PWk.iload_n 1 dX9_worthOf_1 rfl ?_
  refine PWk.callVi (pc_X9_stands I L R a0 hy_a0 p1) dX9_worthOf_2 ml_X9_77 rfl (rgSc_0 hy_a0) (lcSc hy_a0) vq_9 (by decide) rfl (Nat.le_of_ble_eq_true rfl) (fun x1 => ?_)
  refine PWk.if_ne 10 dX9_worthOf_5 (by decide) (fun h13 => ?_) (fun h13 => ?_)
  · refine PWk.iconst (v := 0) dX9_worthOf_8 ic_0 ?_
    exact PWk.iret dX9_worthOf_9 rfl (fun h => h)
  · refine PWk.aload_n 0 dX9_worthOf_10 rfl ?_
    refine PWk.getr dX9_worthOf_11 (rgSc_0 hy_a0) (lcSc hy_a0) fl_X9_34 rfl okLd_ne (fun hk2 => ?_)
    refine PWk.iconst (v := 1) dX9_worthOf_14 ic_1 ?_
    refine PWk.callVi (pc_X2_hasRule I L R (R a0 0) (okLd_is hk2) 1) dX9_worthOf_15 ml_X9_80 rfl (rgLd_0 (okLd_is hk2)) (lcLd (okLd_is hk2)) vq_2 (by decide) rfl (Nat.le_of_ble_eq_true rfl) (fun x3 => ?_)
    refine PWk.if_ne 28 dX9_worthOf_18 (by decide) (fun h12 => ?_) (fun h12 => ?_)
    · refine PWk.aload_n 0 dX9_worthOf_21 rfl ?_
      refine PWk.gets dX9_worthOf_22 (rgSc_0 hy_a0) (lcSc hy_a0) fl_X9_9 rfl (stSc_2 hy_a0) ?_
      refine PWk.iload_n 1 dX9_worthOf_25 rfl ?_
      refine PWk.iald dX9_worthOf_26 (rgSc_1 hy_a0) (lySc_1 hy_a0) (fun v4 => ?_)
      exact PWk.iret dX9_worthOf_27 rfl (fun h => h)
    · refine PWk.aload_n 0 dX9_worthOf_28 rfl ?_
      refine PWk.gets dX9_worthOf_29 (rgSc_0 hy_a0) (lcSc hy_a0) fl_X9_30 rfl (stSc_7 hy_a0) ?_
      refine PWk.aload_n 0 dX9_worthOf_32 rfl ?_
      refine PWk.gets dX9_worthOf_33 (rgSc_0 hy_a0) (lcSc hy_a0) fl_X9_9 rfl (stSc_2 hy_a0) ?_
      refine PWk.iload_n 1 dX9_worthOf_36 rfl ?_
      refine PWk.iald dX9_worthOf_37 (rgSc_1 hy_a0) (lySc_1 hy_a0) (fun v5 => ?_)
      refine PWk.aload_n 0 dX9_worthOf_38 rfl ?_
      refine PWk.geti dX9_worthOf_39 (rgSc_0 hy_a0) (lcSc hy_a0) fl_X9_38 rfl ?_
      refine PWk.aload_n 0 dX9_worthOf_42 rfl ?_
      refine PWk.aload_n 0 dX9_worthOf_43 rfl ?_
      refine PWk.gets dX9_worthOf_44 (rgSc_0 hy_a0) (lcSc hy_a0) fl_X9_15 rfl (stSc_3 hy_a0) ?_
      refine PWk.iload_n 1 dX9_worthOf_47 rfl ?_
      refine PWk.iald dX9_worthOf_48 (rgSc_2 hy_a0) (lySc_2 hy_a0) (fun v6 => ?_)
      refine PWk.callVi (pc_X9_countIn fu I L R a0 hy_a0 v6) dX9_worthOf_49 ml_X9_83 rfl (rgSc_0 hy_a0) (lcSc hy_a0) vq_9 (by decide) rfl (Nat.le_of_ble_eq_true rfl) (fun x7 => ?_)
      refine PWk.iconst (v := 1) dX9_worthOf_52 ic_1 ?_
      refine PWk.isub dX9_worthOf_53 ?_
      refine PWk.callVvI (pc_X3_setLake I L R (a0 + 6) (mcSc hy_a0) v5 (I a0 1) (x7 - 1)) dX9_worthOf_54 ml_X9_87 rfl (rgMc_0 (mcSc hy_a0)) (lcMc (mcSc hy_a0)) vq_3 (by decide) rfl (Nat.le_of_ble_eq_true rfl) (fun x8 => ?_)
      refine PWk.iconst (v := 0) dX9_worthOf_57 ic_0 ?_
      refine PWk.sipush (v := 9999) dX9_worthOf_58 sp_9999 ?_
      refine PWk.aload_n 0 dX9_worthOf_61 rfl ?_
      refine PWk.gets dX9_worthOf_62 (rgSc_0 hy_a0) (lcSc hy_a0) fl_X9_30 rfl (stSc_7 hy_a0) ?_
      refine PWk.aload_n 0 dX9_worthOf_65 rfl ?_
      refine PWk.getrk dX9_worthOf_66 (rgSc_0 hy_a0) (lcSc hy_a0) fl_X9_34 rfl (neLd (okLd_is hk2)) ?_
      refine PWk.iconst (v := 1) dX9_worthOf_69 ic_1 ?_
      refine PWk.callViI (pc_X3_run fu x8 L R (a0 + 6) (mcSc hy_a0) (R a0 0) (okLd_is hk2) 1) dX9_worthOf_70 ml_X9_91 rfl (rgMc_0 (mcSc hy_a0)) (lcMc (mcSc hy_a0)) vq_3 (by decide) rfl (Nat.le_of_ble_eq_true rfl) (fun x9 => ?_)
      refine PWk.callSi (pc_J9_min_7cf53 x9.2 L R 9999 x9.1) dX9_worthOf_73 ml_X9_95 rfl (by decide) rfl (Nat.le_of_ble_eq_true rfl) (fun x10 => ?_)
      refine PWk.callSi (pc_J9_max_7cf53 x9.2 L R 0 x10) dX9_worthOf_76 ml_X9_101 rfl (by decide) rfl (Nat.le_of_ble_eq_true rfl) (fun x11 => ?_)
      exact PWk.iret dX9_worthOf_79 rfl (fun h => h)
/-! LakeMarket$Scene.worthOfBits(I)I -/
def f_X9_worthOfBits_L4 (fu : Nat) : Nat → HI → HR → Nat → Int32 → Int32 → Int32 → Option (Int32 × HI)
  | 0, _, _, _, _, _, _ => none
  | n + 1, I, R, b0, u1, u2, u3 =>
    gr (okLd (R b0 0)) <|
    if (I (R b0 0) 3) ≤ u3 then
      some (u2, I)
    else
      jnt (β := Int32 × HI) (fun y6 =>
        f_X9_worthOfBits_L4 fu n y6.2 R b0 u1 y6.1 (u3 + 1)) fun j2 =>
      if (u1 &&& ((1 : Int32) <<< (u3 &&& 31))) = 0 then
        j2 (u2, I)
      else
        (f_X9_worthOf fu I R b0 u3).bind fun x3 =>
        bnd ((u2 + x3.1)) fun v4 =>
        j2 (v4, x3.2)
def f_X9_worthOfBits (fu : Nat) (I : HI) (R : HR) (a0 : Nat) (p1 : Int32) : Option (Int32 × HI) :=
  (f_X9_worthOfBits_L4 fu fu I R a0 p1 0 0).bind fun x8 =>
  some (x8.1, x8.2)
set_option maxRecDepth 20000 in
theorem lp_X9_worthOfBits_4 (fu : Nat) (b0 : Nat) (hb0 : isSc b0) (u1 : Int32) (L : HL) (R : HR) : ∀ (n : Nat) (u2 : Int32) (u3 : Int32) (I : HI) (N : (Int32 × HI) → Prop) (F : HF), (∀ v : Int32 × HI, N v → PW 1 93 5 RX9 cX9_worthOfBits 4 (some .int) 37 [(2, .int v.1)] [] v.2 L R F) → PWk 1 93 5 RX9 cX9_worthOfBits 4 (some .int) 4 [(0, .ref b0), (1, .int u1), (2, .int u2), (3, .int u3)] [] I L R (f_X9_worthOfBits_L4 fu n I R b0 u1 u2 u3) N F := by
  intro n
  induction n with
  | zero => intro u2 u3 I N F hx; exact PWk.none'
  | succ n ih =>
    intro u2 u3 I N F hx
    unfold f_X9_worthOfBits_L4
    refine PWk.iload_n 3 dX9_worthOfBits_4 rfl ?_
    refine PWk.aload_n 0 dX9_worthOfBits_5 rfl ?_
    refine PWk.getr dX9_worthOfBits_6 (rgSc_0 hb0) (lcSc hb0) fl_X9_34 rfl okLd_ne (fun hk1 => ?_)
    refine PWk.geti dX9_worthOfBits_9 (rgLd_0 (okLd_is hk1)) (lcLd (okLd_is hk1)) fl_X9_54 rfl ?_
    refine PWk.icmp_ge 37 dX9_worthOfBits_12 (by decide) (fun h7 => ?_) (fun h7 => ?_)
    · refine PWk.sub [2] rfl ?_
      exact PWk.done (fun h => hx _ h)
    · refine PWk.iload_n 1 dX9_worthOfBits_15 rfl ?_
      refine PWk.iconst (v := 1) dX9_worthOfBits_16 ic_1 ?_
      refine PWk.iload_n 3 dX9_worthOfBits_17 rfl ?_
      refine PWk.ishl dX9_worthOfBits_18 ?_
      refine PWk.iand dX9_worthOfBits_19 ?_
      refine PWk.jn (pc' := 31) (lv' := fun y6 => [(0, .ref b0), (1, .int u1), (2, .int y6.1), (3, .int u3)]) (st' := fun y6 => []) (I' := fun y6 => y6.2) (L' := fun y6 => L) (R' := fun y6 => R) (fun j2 hj2 => ?_) (fun y6 => ?_)
      · refine PWk.if_eq 31 dX9_worthOfBits_20 (by decide) (fun h5 => ?_) (fun h5 => ?_)
        · exact hj2 (u2, I)
        · refine PWk.iload_n 2 dX9_worthOfBits_23 rfl ?_
          refine PWk.aload_n 0 dX9_worthOfBits_24 rfl ?_
          refine PWk.iload_n 3 dX9_worthOfBits_25 rfl ?_
          refine PWk.callViI (pc_X9_worthOf fu I L R b0 hb0 u3) dX9_worthOfBits_26 ml_X9_104 rfl (rgSc_0 hb0) (lcSc hb0) vq_9 (by decide) rfl (Nat.le_of_ble_eq_true rfl) (fun x3 => ?_)
          refine PWk.iadd dX9_worthOfBits_29 ?_
          refine PWk.bi (fun v4 => ?_)
          refine PWk.istore_n [(2, .int v4), (0, .ref b0), (1, .int u1), (3, .int u3)] dX9_worthOfBits_30 (by decide) rfl ?_
          refine PWk.sub [1, 2, 0, 3] rfl ?_
          exact hj2 (v4, x3.2)
      · refine PWk.iinc (v := (u3 + 1)) 3 [(3, .int (u3 + 1)), (0, .ref b0), (1, .int u1), (2, .int y6.1)] dX9_worthOfBits_31 rfl (by rw [ic_1]) (by decide) rfl ?_
        refine PWk.goto 4 dX9_worthOfBits_34 (by decide) ?_
        refine PWk.sub [1, 2, 3, 0] rfl ?_
        exact ih y6.1 (u3 + 1) y6.2 N F hx
set_option maxRecDepth 20000 in
theorem pc_X9_worthOfBits (fu : Nat) (I : HI) (L : HL) (R : HR) (a0 : Nat) (hy_a0 : isSc a0) (p1 : Int32) : PCo 1 93 5 yX9_worthOfBits cX9_worthOfBits 4 (some .int) [.ref a0, .int p1] I L R (f_X9_worthOfBits fu I R a0 p1) (fun x : Int32 × HI => ((some (.int x.1), x.2, L, R) : HF)) := by
  refine PCo.of (own := RX9) (by decide +kernel) (Nat.le_of_ble_eq_true rfl) rfl rfl (fun F => ?_)
  unfold f_X9_worthOfBits
  refine PWk.iconst (v := 0) dX9_worthOfBits_0 ic_0 ?_
  refine PWk.istore_n [(2, .int 0), (0, .ref a0), (1, .int p1)] dX9_worthOfBits_1 (by decide) rfl ?_
  refine PWk.iconst (v := 0) dX9_worthOfBits_2 ic_0 ?_
  refine PWk.istore_n [(3, .int 0), (2, .int 0), (0, .ref a0), (1, .int p1)] dX9_worthOfBits_3 (by decide) rfl ?_
  refine PWk.sub [2, 3, 1, 0] rfl ?_
  refine PWk.loopV (fun N' hx' => lp_X9_worthOfBits_4 fu a0 hy_a0 p1 L R fu 0 0 I N' F hx') (fun x8 => ?_)
  refine PWk.iload_n 0 dX9_worthOfBits_37 rfl ?_
  exact PWk.iret dX9_worthOfBits_38 rfl (fun h => h)
/-! LakeMarket$Scene.worthOfAll()I -/
def f_X9_worthOfAll (fu : Nat) (I : HI) (R : HR) (a0 : Nat) : Option (Int32 × HI) :=
  (f_X9_worthOfBits fu I R a0 255).bind fun x1 =>
  some (x1.1, x1.2)
set_option maxRecDepth 20000 in
theorem pc_X9_worthOfAll (fu : Nat) (I : HI) (L : HL) (R : HR) (a0 : Nat) (hy_a0 : isSc a0) : PCo 1 93 6 yX9_worthOfAll cX9_worthOfAll 1 (some .int) [.ref a0] I L R (f_X9_worthOfAll fu I R a0) (fun x : Int32 × HI => ((some (.int x.1), x.2, L, R) : HF)) := by
  refine PCo.of (own := RX9) (by decide +kernel) (Nat.le_of_ble_eq_true rfl) rfl rfl (fun F => ?_)
  unfold f_X9_worthOfAll
  refine PWk.aload_n 0 dX9_worthOfAll_0 rfl ?_
  refine PWk.sipush (v := 255) dX9_worthOfAll_1 sp_255 ?_
  refine PWk.callViI (pc_X9_worthOfBits fu I L R a0 hy_a0 255) dX9_worthOfAll_4 ml_X9_107 rfl (rgSc_0 hy_a0) (lcSc hy_a0) vq_9 (by decide) rfl (Nat.le_of_ble_eq_true rfl) (fun x1 => ?_)
  exact PWk.iret dX9_worthOfAll_7 rfl (fun h => h)
/-! LakeMarket$Scene.worthOfOwner(I)I -/
def f_X9_worthOfOwner (fu : Nat) (I : HI) (R : HR) (a0 : Nat) (p1 : Int32) : Option (Int32 × HI) :=
  (f_X9_lakesOf fu I R a0 p1).bind fun x1 =>
  (f_X9_worthOfBits fu I R a0 x1).bind fun x2 =>
  some (x2.1, x2.2)
set_option maxRecDepth 20000 in
theorem pc_X9_worthOfOwner (fu : Nat) (I : HI) (L : HL) (R : HR) (a0 : Nat) (hy_a0 : isSc a0) (p1 : Int32) : PCo 1 93 6 yX9_worthOfOwner cX9_worthOfOwner 2 (some .int) [.ref a0, .int p1] I L R (f_X9_worthOfOwner fu I R a0 p1) (fun x : Int32 × HI => ((some (.int x.1), x.2, L, R) : HF)) := by
  refine PCo.of (own := RX9) (by decide +kernel) (Nat.le_of_ble_eq_true rfl) rfl rfl (fun F => ?_)
  unfold f_X9_worthOfOwner
  refine PWk.aload_n 0 dX9_worthOfOwner_0 rfl ?_
  refine PWk.aload_n 0 dX9_worthOfOwner_1 rfl ?_
  refine PWk.iload_n 1 dX9_worthOfOwner_2 rfl ?_
  refine PWk.callVi (pc_X9_lakesOf fu I L R a0 hy_a0 p1) dX9_worthOfOwner_3 ml_X9_110 rfl (rgSc_0 hy_a0) (lcSc hy_a0) vq_9 (by decide) rfl (Nat.le_of_ble_eq_true rfl) (fun x1 => ?_)
  refine PWk.callViI (pc_X9_worthOfBits fu I L R a0 hy_a0 x1) dX9_worthOfOwner_6 ml_X9_107 rfl (rgSc_0 hy_a0) (lcSc hy_a0) vq_9 (by decide) rfl (Nat.le_of_ble_eq_true rfl) (fun x2 => ?_)
  exact PWk.iret dX9_worthOfOwner_9 rfl (fun h => h)
/-! LakeMarket$Scene.leakOf(II)I -/
def f_X9_leakOf (fu : Nat) (I : HI) (R : HR) (a0 : Nat) (p1 : Int32) (p2 : Int32) : Option (Int32 × HI) :=
  (f_X9_stands I R a0 p1).bind fun x1 =>
  if x1 = 0 then
    some (0, I)
  else
    gr (okLd (R a0 0)) <|
    (f_X2_hasRule I (R a0 0) 0).bind fun x3 =>
    if x3 = 0 then
      some (0, I)
    else
      ldI (I (a0 + 1)) 8 p1 fun v4 =>
      ldI (I (a0 + 2)) 8 p1 fun v5 =>
      (f_X9_countIn fu I R a0 v5).bind fun x6 =>
      (f_X3_setLake I (a0 + 6) v4 (I a0 1) (x6 - 1)).bind fun x7 =>
      (f_X3_setDrought x7 (a0 + 6) p2).bind fun x8 =>
      ldI (x8 (a0 + 1)) 8 p1 fun v9 =>
      (f_X3_run fu x8 (a0 + 6) (R a0 0) 0).bind fun x10 =>
      (f_J9_min_7cf53 v9 x10.1).bind fun x11 =>
      (f_J9_max_7cf53 0 x11).bind fun x12 =>
      some (x12, x10.2)
set_option maxRecDepth 20000 in
theorem pc_X9_leakOf (fu : Nat) (I : HI) (L : HL) (R : HR) (a0 : Nat) (hy_a0 : isSc a0) (p1 : Int32) (p2 : Int32) : PCo 1 93 4 yX9_leakOf cX9_leakOf 3 (some .int) [.ref a0, .int p1, .int p2] I L R (f_X9_leakOf fu I R a0 p1 p2) (fun x : Int32 × HI => ((some (.int x.1), x.2, L, R) : HF)) := by
  refine PCo.of (own := RX9) (by decide +kernel) (Nat.le_of_ble_eq_true rfl) rfl rfl (fun F => ?_)
  unfold f_X9_leakOf
  refine PWk.aload_n 0 dX9_leakOf_0 rfl ?_
  refine PWk.iload_n 1 dX9_leakOf_1 rfl ?_
  refine PWk.callVi (pc_X9_stands I L R a0 hy_a0 p1) dX9_leakOf_2 ml_X9_77 rfl (rgSc_0 hy_a0) (lcSc hy_a0) vq_9 (by decide) rfl (Nat.le_of_ble_eq_true rfl) (fun x1 => ?_)
  refine PWk.if_eq 19 dX9_leakOf_5 (by decide) (fun h14 => ?_) (fun h14 => ?_)
  · refine PWk.iconst (v := 0) dX9_leakOf_19 ic_0 ?_
    exact PWk.iret dX9_leakOf_20 rfl (fun h => h)
  · refine PWk.aload_n 0 dX9_leakOf_8 rfl ?_
    refine PWk.getr dX9_leakOf_9 (rgSc_0 hy_a0) (lcSc hy_a0) fl_X9_34 rfl okLd_ne (fun hk2 => ?_)
    refine PWk.iconst (v := 0) dX9_leakOf_12 ic_0 ?_
    refine PWk.callVi (pc_X2_hasRule I L R (R a0 0) (okLd_is hk2) 0) dX9_leakOf_13 ml_X9_80 rfl (rgLd_0 (okLd_is hk2)) (lcLd (okLd_is hk2)) vq_2 (by decide) rfl (Nat.le_of_ble_eq_true rfl) (fun x3 => ?_)
    refine PWk.if_ne 21 dX9_leakOf_16 (by decide) (fun h13 => ?_) (fun h13 => ?_)
    · refine PWk.iconst (v := 0) dX9_leakOf_19 ic_0 ?_
      exact PWk.iret dX9_leakOf_20 rfl (fun h => h)
    · refine PWk.aload_n 0 dX9_leakOf_21 rfl ?_
      refine PWk.gets dX9_leakOf_22 (rgSc_0 hy_a0) (lcSc hy_a0) fl_X9_30 rfl (stSc_7 hy_a0) ?_
      refine PWk.aload_n 0 dX9_leakOf_25 rfl ?_
      refine PWk.gets dX9_leakOf_26 (rgSc_0 hy_a0) (lcSc hy_a0) fl_X9_9 rfl (stSc_2 hy_a0) ?_
      refine PWk.iload_n 1 dX9_leakOf_29 rfl ?_
      refine PWk.iald dX9_leakOf_30 (rgSc_1 hy_a0) (lySc_1 hy_a0) (fun v4 => ?_)
      refine PWk.aload_n 0 dX9_leakOf_31 rfl ?_
      refine PWk.geti dX9_leakOf_32 (rgSc_0 hy_a0) (lcSc hy_a0) fl_X9_38 rfl ?_
      refine PWk.aload_n 0 dX9_leakOf_35 rfl ?_
      refine PWk.aload_n 0 dX9_leakOf_36 rfl ?_
      refine PWk.gets dX9_leakOf_37 (rgSc_0 hy_a0) (lcSc hy_a0) fl_X9_15 rfl (stSc_3 hy_a0) ?_
      refine PWk.iload_n 1 dX9_leakOf_40 rfl ?_
      refine PWk.iald dX9_leakOf_41 (rgSc_2 hy_a0) (lySc_2 hy_a0) (fun v5 => ?_)
      refine PWk.callVi (pc_X9_countIn fu I L R a0 hy_a0 v5) dX9_leakOf_42 ml_X9_83 rfl (rgSc_0 hy_a0) (lcSc hy_a0) vq_9 (by decide) rfl (Nat.le_of_ble_eq_true rfl) (fun x6 => ?_)
      refine PWk.iconst (v := 1) dX9_leakOf_45 ic_1 ?_
      refine PWk.isub dX9_leakOf_46 ?_
      refine PWk.callVvI (pc_X3_setLake I L R (a0 + 6) (mcSc hy_a0) v4 (I a0 1) (x6 - 1)) dX9_leakOf_47 ml_X9_87 rfl (rgMc_0 (mcSc hy_a0)) (lcMc (mcSc hy_a0)) vq_3 (by decide) rfl (Nat.le_of_ble_eq_true rfl) (fun x7 => ?_)
      refine PWk.aload_n 0 dX9_leakOf_50 rfl ?_
      refine PWk.gets dX9_leakOf_51 (rgSc_0 hy_a0) (lcSc hy_a0) fl_X9_30 rfl (stSc_7 hy_a0) ?_
      refine PWk.iload_n 2 dX9_leakOf_54 rfl ?_
      refine PWk.callVvI (pc_X3_setDrought x7 L R (a0 + 6) (mcSc hy_a0) p2) dX9_leakOf_55 ml_X9_113 rfl (rgMc_0 (mcSc hy_a0)) (lcMc (mcSc hy_a0)) vq_3 (by decide) rfl (Nat.le_of_ble_eq_true rfl) (fun x8 => ?_)
      refine PWk.iconst (v := 0) dX9_leakOf_58 ic_0 ?_
      refine PWk.aload_n 0 dX9_leakOf_59 rfl ?_
      refine PWk.gets dX9_leakOf_60 (rgSc_0 hy_a0) (lcSc hy_a0) fl_X9_9 rfl (stSc_2 hy_a0) ?_
      refine PWk.iload_n 1 dX9_leakOf_63 rfl ?_
      refine PWk.iald dX9_leakOf_64 (rgSc_1 hy_a0) (lySc_1 hy_a0) (fun v9 => ?_)
      refine PWk.aload_n 0 dX9_leakOf_65 rfl ?_
      refine PWk.gets dX9_leakOf_66 (rgSc_0 hy_a0) (lcSc hy_a0) fl_X9_30 rfl (stSc_7 hy_a0) ?_
      refine PWk.aload_n 0 dX9_leakOf_69 rfl ?_
      refine PWk.getrk dX9_leakOf_70 (rgSc_0 hy_a0) (lcSc hy_a0) fl_X9_34 rfl (neLd (okLd_is hk2)) ?_
      refine PWk.iconst (v := 0) dX9_leakOf_73 ic_0 ?_
      refine PWk.callViI (pc_X3_run fu x8 L R (a0 + 6) (mcSc hy_a0) (R a0 0) (okLd_is hk2) 0) dX9_leakOf_74 ml_X9_91 rfl (rgMc_0 (mcSc hy_a0)) (lcMc (mcSc hy_a0)) vq_3 (by decide) rfl (Nat.le_of_ble_eq_true rfl) (fun x10 => ?_)
      refine PWk.callSi (pc_J9_min_7cf53 x10.2 L R v9 x10.1) dX9_leakOf_77 ml_X9_95 rfl (by decide) rfl (Nat.le_of_ble_eq_true rfl) (fun x11 => ?_)
      refine PWk.callSi (pc_J9_max_7cf53 x10.2 L R 0 x11) dX9_leakOf_80 ml_X9_101 rfl (by decide) rfl (Nat.le_of_ble_eq_true rfl) (fun x12 => ?_)
      exact PWk.iret dX9_leakOf_83 rfl (fun h => h)
/-! LakeMarket$Scene.passNight(I)I -/
def f_X9_passNight_L35 : Nat → HI → HR → Nat → Int32 → Int32 → Option (Int32 × HI)
  | 0, _, _, _, _, _ => none
  | n + 1, I, R, b0, u2, u3 =>
    gr (okLd (R b0 0)) <|
    if (I (R b0 0) 3) ≤ u3 then
      some (u2, I)
    else
      ldI (I (b0 + 5)) 8 u3 fun v7 =>
      bnd ((u2 + v7)) fun v8 =>
      ldI (I (b0 + 1)) 8 u3 fun v9 =>
      ldI (I (b0 + 5)) 8 u3 fun v10 =>
      (f_X9_setBarrels I b0 u3 (v9 - v10)).bind fun x11 =>
      f_X9_passNight_L35 n x11 R b0 v8 (u3 + 1)
def f_X9_passNight_L2 (fu : Nat) : Nat → HI → HR → Nat → Int32 → Int32 → Option (HI)
  | 0, _, _, _, _, _ => none
  | n + 1, I, R, b0, u1, u2 =>
    gr (okLd (R b0 0)) <|
    if (I (R b0 0) 3) ≤ u2 then
      some I
    else
      (f_X9_leakOf fu I R b0 u2 u1).bind fun x2 =>
      inb 8 u2 <|
      bnd (sI x2.2 (b0 + 5) (u2 : Int32).toNatClampNeg x2.1) fun I3 =>
      f_X9_passNight_L2 fu n I3 R b0 u1 (u2 + 1)
def f_X9_passNight (fu : Nat) (I : HI) (R : HR) (a0 : Nat) (p1 : Int32) : Option (Int32 × HI) :=
  (f_X9_passNight_L2 fu fu I R a0 p1 0).bind fun x5 =>
  (f_X9_passNight_L35 fu x5 R a0 0 0).bind fun x13 =>
  (f_J9_min_7cf53 9999 ((x13.2 a0 1) + 1)).bind fun x14 =>
  bnd (sI x13.2 a0 1 x14) fun I15 =>
  some (x13.1, I15)
set_option maxRecDepth 20000 in
theorem lp_X9_passNight_35 (fu : Nat) (b0 : Nat) (hb0 : isSc b0) (L : HL) (R : HR) : ∀ (n : Nat) (u2 : Int32) (u3 : Int32) (I : HI) (N : (Int32 × HI) → Prop) (F : HF), (∀ v : Int32 × HI, N v → PW 1 93 5 RX9 cX9_passNight 4 (some .int) 79 [(0, .ref b0), (2, .int v.1)] [] v.2 L R F) → PWk 1 93 5 RX9 cX9_passNight 4 (some .int) 35 [(0, .ref b0), (2, .int u2), (3, .int u3)] [] I L R (f_X9_passNight_L35 n I R b0 u2 u3) N F := by
  intro n
  induction n with
  | zero => intro u2 u3 I N F hx; exact PWk.none'
  | succ n ih =>
    intro u2 u3 I N F hx
    unfold f_X9_passNight_L35
    refine PWk.iload_n 2 dX9_passNight_35 rfl ?_
    refine PWk.aload_n 0 dX9_passNight_36 rfl ?_
    refine PWk.getr dX9_passNight_37 (rgSc_0 hb0) (lcSc hb0) fl_X9_34 rfl okLd_ne (fun hk6 => ?_)
    refine PWk.geti dX9_passNight_40 (rgLd_0 (okLd_is hk6)) (lcLd (okLd_is hk6)) fl_X9_54 rfl ?_
    refine PWk.icmp_ge 79 dX9_passNight_43 (by decide) (fun h12 => ?_) (fun h12 => ?_)
    · refine PWk.sub [0, 1] rfl ?_
      exact PWk.done (fun h => hx _ h)
    · refine PWk.iload_n 1 dX9_passNight_46 rfl ?_
      refine PWk.aload_n 0 dX9_passNight_47 rfl ?_
      refine PWk.gets dX9_passNight_48 (rgSc_0 hb0) (lcSc hb0) fl_X9_24 rfl (stSc_6 hb0) ?_
      refine PWk.iload_n 2 dX9_passNight_51 rfl ?_
      refine PWk.iald dX9_passNight_52 (rgSc_5 hb0) (lySc_5 hb0) (fun v7 => ?_)
      refine PWk.iadd dX9_passNight_53 ?_
      refine PWk.bi (fun v8 => ?_)
      refine PWk.istore_n [(2, .int v8), (0, .ref b0), (3, .int u3)] dX9_passNight_54 (by decide) rfl ?_
      refine PWk.aload_n 1 dX9_passNight_55 rfl ?_
      refine PWk.iload_n 2 dX9_passNight_56 rfl ?_
      refine PWk.aload_n 1 dX9_passNight_57 rfl ?_
      refine PWk.gets dX9_passNight_58 (rgSc_0 hb0) (lcSc hb0) fl_X9_9 rfl (stSc_2 hb0) ?_
      refine PWk.iload_n 2 dX9_passNight_61 rfl ?_
      refine PWk.iald dX9_passNight_62 (rgSc_1 hb0) (lySc_1 hb0) (fun v9 => ?_)
      refine PWk.aload_n 1 dX9_passNight_63 rfl ?_
      refine PWk.gets dX9_passNight_64 (rgSc_0 hb0) (lcSc hb0) fl_X9_24 rfl (stSc_6 hb0) ?_
      refine PWk.iload_n 2 dX9_passNight_67 rfl ?_
      refine PWk.iald dX9_passNight_68 (rgSc_5 hb0) (lySc_5 hb0) (fun v10 => ?_)
      refine PWk.isub dX9_passNight_69 ?_
      refine PWk.callVvI (pc_X9_setBarrels I L R b0 hb0 u3 (v9 - v10)) dX9_passNight_70 ml_X9_57 rfl (rgSc_0 hb0) (lcSc hb0) vq_9 (by decide) rfl (Nat.le_of_ble_eq_true rfl) (fun x11 => ?_)
      refine PWk.iinc (v := (u3 + 1)) 2 [(3, .int (u3 + 1)), (2, .int v8), (0, .ref b0)] dX9_passNight_73 rfl (by rw [ic_1]) (by decide) rfl ?_
      refine PWk.goto 35 dX9_passNight_76 (by decide) ?_
      refine PWk.sub [2, 1, 0] rfl ?_
      exact ih v8 (u3 + 1) x11 N F hx
set_option maxRecDepth 20000 in
theorem lp_X9_passNight_2 (fu : Nat) (b0 : Nat) (hb0 : isSc b0) (u1 : Int32) (L : HL) (R : HR) : ∀ (n : Nat) (u2 : Int32) (I : HI) (N : (HI) → Prop) (F : HF), (∀ v : HI, N v → PW 1 93 5 RX9 cX9_passNight 4 (some .int) 31 [(0, .ref b0)] [] v L R F) → PWk 1 93 5 RX9 cX9_passNight 4 (some .int) 2 [(0, .ref b0), (1, .int u1), (2, .int u2)] [] I L R (f_X9_passNight_L2 fu n I R b0 u1 u2) N F := by
  intro n
  induction n with
  | zero => intro u2 I N F hx; exact PWk.none'
  | succ n ih =>
    intro u2 I N F hx
    unfold f_X9_passNight_L2
    refine PWk.iload_n 2 dX9_passNight_2 rfl ?_
    refine PWk.aload_n 0 dX9_passNight_3 rfl ?_
    refine PWk.getr dX9_passNight_4 (rgSc_0 hb0) (lcSc hb0) fl_X9_34 rfl okLd_ne (fun hk1 => ?_)
    refine PWk.geti dX9_passNight_7 (rgLd_0 (okLd_is hk1)) (lcLd (okLd_is hk1)) fl_X9_54 rfl ?_
    refine PWk.icmp_ge 31 dX9_passNight_10 (by decide) (fun h4 => ?_) (fun h4 => ?_)
    · refine PWk.sub [0] rfl ?_
      exact PWk.done (fun h => hx _ h)
    · refine PWk.aload_n 0 dX9_passNight_13 rfl ?_
      refine PWk.gets dX9_passNight_14 (rgSc_0 hb0) (lcSc hb0) fl_X9_24 rfl (stSc_6 hb0) ?_
      refine PWk.iload_n 2 dX9_passNight_17 rfl ?_
      refine PWk.aload_n 0 dX9_passNight_18 rfl ?_
      refine PWk.iload_n 2 dX9_passNight_19 rfl ?_
      refine PWk.iload_n 1 dX9_passNight_20 rfl ?_
      refine PWk.callViI (pc_X9_leakOf fu I L R b0 hb0 u2 u1) dX9_passNight_21 ml_X9_117 rfl (rgSc_0 hb0) (lcSc hb0) vq_9 (by decide) rfl (Nat.le_of_ble_eq_true rfl) (fun x2 => ?_)
      refine PWk.iast dX9_passNight_24 (rgSc_5 hb0) (lySc_5 hb0) ?_
      refine PWk.bI (fun I3 => ?_)
      refine PWk.iinc (v := (u2 + 1)) 2 [(2, .int (u2 + 1)), (0, .ref b0), (1, .int u1)] dX9_passNight_25 rfl (by rw [ic_1]) (by decide) rfl ?_
      refine PWk.goto 2 dX9_passNight_28 (by decide) ?_
      refine PWk.sub [1, 2, 0] rfl ?_
      exact ih (u2 + 1) I3 N F hx
set_option maxRecDepth 20000 in
theorem pc_X9_passNight (fu : Nat) (I : HI) (L : HL) (R : HR) (a0 : Nat) (hy_a0 : isSc a0) (p1 : Int32) : PCo 1 93 5 yX9_passNight cX9_passNight 4 (some .int) [.ref a0, .int p1] I L R (f_X9_passNight fu I R a0 p1) (fun x : Int32 × HI => ((some (.int x.1), x.2, L, R) : HF)) := by
  refine PCo.of (own := RX9) (by decide +kernel) (Nat.le_of_ble_eq_true rfl) rfl rfl (fun F => ?_)
  unfold f_X9_passNight
  refine PWk.iconst (v := 0) dX9_passNight_0 ic_0 ?_
  refine PWk.istore_n [(2, .int 0), (0, .ref a0), (1, .int p1)] dX9_passNight_1 (by decide) rfl ?_
  refine PWk.sub [1, 2, 0] rfl ?_
  refine PWk.loopV (fun N' hx' => lp_X9_passNight_2 fu a0 hy_a0 p1 L R fu 0 I N' F hx') (fun x5 => ?_)
  refine PWk.iconst (v := 0) dX9_passNight_31 ic_0 ?_
  refine PWk.istore_n [(2, .int 0), (0, .ref a0)] dX9_passNight_32 (by decide) rfl ?_
  refine PWk.iconst (v := 0) dX9_passNight_33 ic_0 ?_
  refine PWk.istore_n [(3, .int 0), (2, .int 0), (0, .ref a0)] dX9_passNight_34 (by decide) rfl ?_
  refine PWk.sub [2, 1, 0] rfl ?_
  refine PWk.loopV (fun N' hx' => lp_X9_passNight_35 fu a0 hy_a0 L R fu 0 0 x5 N' F hx') (fun x13 => ?_)
  refine PWk.aload_n 0 dX9_passNight_79 rfl ?_
  refine PWk.sipush (v := 9999) dX9_passNight_80 sp_9999 ?_
  refine PWk.aload_n 0 dX9_passNight_83 rfl ?_
  refine PWk.geti dX9_passNight_84 (rgSc_0 hy_a0) (lcSc hy_a0) fl_X9_38 rfl ?_
  refine PWk.iconst (v := 1) dX9_passNight_87 ic_1 ?_
  refine PWk.iadd dX9_passNight_88 ?_
  refine PWk.callSi (pc_J9_min_7cf53 x13.2 L R 9999 ((x13.2 a0 1) + 1)) dX9_passNight_89 ml_X9_95 rfl (by decide) rfl (Nat.le_of_ble_eq_true rfl) (fun x14 => ?_)
  refine PWk.puti dX9_passNight_92 (rgSc_0 hy_a0) (lcSc hy_a0) fl_X9_38 fp_9_1 rfl ?_
  refine PWk.bI (fun I15 => ?_)
  refine PWk.iload_n 1 dX9_passNight_95 rfl ?_
  exact PWk.iret dX9_passNight_96 rfl (fun h => h)
/-! LakeMarket$Scene.mayGo(IIII)Z -/
def f_X9_mayGo (fu : Nat) (I : HI) (R : HR) (a0 : Nat) (p1 : Int32) (p2 : Int32) (p3 : Int32) (p4 : Int32) : Option (Int32 × HI) :=
  ldI (I (a0 + 1)) 8 p1 fun v1 =>
  gr (okLd (R a0 0)) <|
  if (I (R a0 0) 5) < v1 then
    gz 0 (some (0, I))
  else
    ldI (I (a0 + 1)) 8 p1 fun v3 =>
    if v3 ≤ p3 then
      (f_X2_hasRule I (R a0 0) 2).bind fun x4 =>
      if x4 = 0 then
        gz 1 (some (1, I))
      else
        ldI (I (a0 + 1)) 8 p1 fun v5 =>
        (f_X3_setLake I (a0 + 6) v5 (I a0 1) p4).bind fun x6 =>
        ldI (x6 ((R a0 0) + 5)) 8 p2 fun v7 =>
        ldI (x6 (a0 + 2)) 8 p1 fun v8 =>
        ldI (x6 ((R a0 0) + 5)) 8 v8 fun v9 =>
        (f_J9_abs_0f7a4 (v7 - v9)).bind fun x10 =>
        (f_X3_setWay x6 (a0 + 6) x10 p3).bind fun x11 =>
        (f_X3_run fu x11 (a0 + 6) (R a0 0) 2).bind fun x12 =>
        if x12.1 = 0 then
          gz 0 (some (0, x12.2))
        else
          gz 1 (some (1, x12.2))
    else
      gz 0 (some (0, I))
set_option maxRecDepth 20000 in
theorem pc_X9_mayGo (fu : Nat) (I : HI) (L : HL) (R : HR) (a0 : Nat) (hy_a0 : isSc a0) (p1 : Int32) (p2 : Int32) (p3 : Int32) (p4 : Int32) : PCo 1 93 4 yX9_mayGo cX9_mayGo 5 (some .boolean) [.ref a0, .int p1, .int p2, .int p3, .int p4] I L R (f_X9_mayGo fu I R a0 p1 p2 p3 p4) (fun x : Int32 × HI => ((some (.int x.1), x.2, L, R) : HF)) := by
  refine PCo.of (own := RX9) (by decide +kernel) (Nat.le_of_ble_eq_true rfl) rfl rfl (fun F => ?_)
  unfold f_X9_mayGo
  refine PWk.aload_n 0 dX9_mayGo_0 rfl ?_
  refine PWk.gets dX9_mayGo_1 (rgSc_0 hy_a0) (lcSc hy_a0) fl_X9_9 rfl (stSc_2 hy_a0) ?_
  refine PWk.iload_n 1 dX9_mayGo_4 rfl ?_
  refine PWk.iald dX9_mayGo_5 (rgSc_1 hy_a0) (lySc_1 hy_a0) (fun v1 => ?_)
  refine PWk.aload_n 0 dX9_mayGo_6 rfl ?_
  refine PWk.getr dX9_mayGo_7 (rgSc_0 hy_a0) (lcSc hy_a0) fl_X9_34 rfl okLd_ne (fun hk2 => ?_)
  refine PWk.geti dX9_mayGo_10 (rgLd_0 (okLd_is hk2)) (lcLd (okLd_is hk2)) fl_X9_130 rfl ?_
  refine PWk.icmp_gt 26 dX9_mayGo_13 (by decide) (fun h16 => ?_) (fun h16 => ?_)
  · refine PWk.iconst (v := 0) dX9_mayGo_26 ic_0 ?_
    exact PWk.zret dX9_mayGo_27 rfl (fun h => h)
  · refine PWk.aload_n 0 dX9_mayGo_16 rfl ?_
    refine PWk.gets dX9_mayGo_17 (rgSc_0 hy_a0) (lcSc hy_a0) fl_X9_9 rfl (stSc_2 hy_a0) ?_
    refine PWk.iload_n 1 dX9_mayGo_20 rfl ?_
    refine PWk.iald dX9_mayGo_21 (rgSc_1 hy_a0) (lySc_1 hy_a0) (fun v3 => ?_)
    refine PWk.iload_n 3 dX9_mayGo_22 rfl ?_
    refine PWk.icmp_le 28 dX9_mayGo_23 (by decide) (fun h15 => ?_) (fun h15 => ?_)
    · refine PWk.aload_n 0 dX9_mayGo_28 rfl ?_
      refine PWk.getrk dX9_mayGo_29 (rgSc_0 hy_a0) (lcSc hy_a0) fl_X9_34 rfl (neLd (okLd_is hk2)) ?_
      refine PWk.iconst (v := 2) dX9_mayGo_32 ic_2 ?_
      refine PWk.callVi (pc_X2_hasRule I L R (R a0 0) (okLd_is hk2) 2) dX9_mayGo_33 ml_X9_80 rfl (rgLd_0 (okLd_is hk2)) (lcLd (okLd_is hk2)) vq_2 (by decide) rfl (Nat.le_of_ble_eq_true rfl) (fun x4 => ?_)
      refine PWk.if_ne 41 dX9_mayGo_36 (by decide) (fun h14 => ?_) (fun h14 => ?_)
      · refine PWk.iconst (v := 1) dX9_mayGo_39 ic_1 ?_
        exact PWk.zret dX9_mayGo_40 rfl (fun h => h)
      · refine PWk.aload_n 0 dX9_mayGo_41 rfl ?_
        refine PWk.gets dX9_mayGo_42 (rgSc_0 hy_a0) (lcSc hy_a0) fl_X9_30 rfl (stSc_7 hy_a0) ?_
        refine PWk.aload_n 0 dX9_mayGo_45 rfl ?_
        refine PWk.gets dX9_mayGo_46 (rgSc_0 hy_a0) (lcSc hy_a0) fl_X9_9 rfl (stSc_2 hy_a0) ?_
        refine PWk.iload_n 1 dX9_mayGo_49 rfl ?_
        refine PWk.iald dX9_mayGo_50 (rgSc_1 hy_a0) (lySc_1 hy_a0) (fun v5 => ?_)
        refine PWk.aload_n 0 dX9_mayGo_51 rfl ?_
        refine PWk.geti dX9_mayGo_52 (rgSc_0 hy_a0) (lcSc hy_a0) fl_X9_38 rfl ?_
        refine PWk.iload 4 dX9_mayGo_55 rfl ?_
        refine PWk.callVvI (pc_X3_setLake I L R (a0 + 6) (mcSc hy_a0) v5 (I a0 1) p4) dX9_mayGo_57 ml_X9_87 rfl (rgMc_0 (mcSc hy_a0)) (lcMc (mcSc hy_a0)) vq_3 (by decide) rfl (Nat.le_of_ble_eq_true rfl) (fun x6 => ?_)
        refine PWk.aload_n 0 dX9_mayGo_60 rfl ?_
        refine PWk.gets dX9_mayGo_61 (rgSc_0 hy_a0) (lcSc hy_a0) fl_X9_30 rfl (stSc_7 hy_a0) ?_
        refine PWk.aload_n 0 dX9_mayGo_64 rfl ?_
        refine PWk.getrk dX9_mayGo_65 (rgSc_0 hy_a0) (lcSc hy_a0) fl_X9_34 rfl (neLd (okLd_is hk2)) ?_
        refine PWk.gets dX9_mayGo_68 (rgLd_0 (okLd_is hk2)) (lcLd (okLd_is hk2)) fl_X9_133 rfl (stLd_10 (okLd_is hk2)) ?_
        refine PWk.iload_n 2 dX9_mayGo_71 rfl ?_
        refine PWk.iald dX9_mayGo_72 (rgLd_5 (okLd_is hk2)) (lyLd_5 (okLd_is hk2)) (fun v7 => ?_)
        refine PWk.aload_n 0 dX9_mayGo_73 rfl ?_
        refine PWk.getrk dX9_mayGo_74 (rgSc_0 hy_a0) (lcSc hy_a0) fl_X9_34 rfl (neLd (okLd_is hk2)) ?_
        refine PWk.gets dX9_mayGo_77 (rgLd_0 (okLd_is hk2)) (lcLd (okLd_is hk2)) fl_X9_133 rfl (stLd_10 (okLd_is hk2)) ?_
        refine PWk.aload_n 0 dX9_mayGo_80 rfl ?_
        refine PWk.gets dX9_mayGo_81 (rgSc_0 hy_a0) (lcSc hy_a0) fl_X9_15 rfl (stSc_3 hy_a0) ?_
        refine PWk.iload_n 1 dX9_mayGo_84 rfl ?_
        refine PWk.iald dX9_mayGo_85 (rgSc_2 hy_a0) (lySc_2 hy_a0) (fun v8 => ?_)
        refine PWk.iald dX9_mayGo_86 (rgLd_5 (okLd_is hk2)) (lyLd_5 (okLd_is hk2)) (fun v9 => ?_)
        refine PWk.isub dX9_mayGo_87 ?_
        refine PWk.callSi (pc_J9_abs_0f7a4 x6 L R (v7 - v9)) dX9_mayGo_88 ml_X9_136 rfl (by decide) rfl (Nat.le_of_ble_eq_true rfl) (fun x10 => ?_)
        refine PWk.iload_n 3 dX9_mayGo_91 rfl ?_
        refine PWk.callVvI (pc_X3_setWay x6 L R (a0 + 6) (mcSc hy_a0) x10 p3) dX9_mayGo_92 ml_X9_139 rfl (rgMc_0 (mcSc hy_a0)) (lcMc (mcSc hy_a0)) vq_3 (by decide) rfl (Nat.le_of_ble_eq_true rfl) (fun x11 => ?_)
        refine PWk.aload_n 0 dX9_mayGo_95 rfl ?_
        refine PWk.gets dX9_mayGo_96 (rgSc_0 hy_a0) (lcSc hy_a0) fl_X9_30 rfl (stSc_7 hy_a0) ?_
        refine PWk.aload_n 0 dX9_mayGo_99 rfl ?_
        refine PWk.getrk dX9_mayGo_100 (rgSc_0 hy_a0) (lcSc hy_a0) fl_X9_34 rfl (neLd (okLd_is hk2)) ?_
        refine PWk.iconst (v := 2) dX9_mayGo_103 ic_2 ?_
        refine PWk.callViI (pc_X3_run fu x11 L R (a0 + 6) (mcSc hy_a0) (R a0 0) (okLd_is hk2) 2) dX9_mayGo_104 ml_X9_91 rfl (rgMc_0 (mcSc hy_a0)) (lcMc (mcSc hy_a0)) vq_3 (by decide) rfl (Nat.le_of_ble_eq_true rfl) (fun x12 => ?_)
        refine PWk.if_eq 114 dX9_mayGo_107 (by decide) (fun h13 => ?_) (fun h13 => ?_)
        · refine PWk.iconst (v := 0) dX9_mayGo_114 ic_0 ?_
          exact PWk.zret dX9_mayGo_115 rfl (fun h => h)
        · refine PWk.iconst (v := 1) dX9_mayGo_110 ic_1 ?_
          refine PWk.goto 115 dX9_mayGo_111 (by decide) ?_
          exact PWk.zret dX9_mayGo_115 rfl (fun h => h)
    · refine PWk.iconst (v := 0) dX9_mayGo_26 ic_0 ?_
      exact PWk.zret dX9_mayGo_27 rfl (fun h => h)
/-! LakeMarket$Scene.canPour(II)Z -/
def f_X9_canPour (I : HI) (R : HR) (a0 : Nat) (p1 : Int32) (p2 : Int32) : Option (Int32) :=
  (f_X9_stands I R a0 p1).bind fun x1 =>
  if x1 = 0 then
    gz 0 (some 0)
  else
    (f_X9_stands I R a0 p2).bind fun x2 =>
    if x2 = 0 then
      gz 0 (some 0)
    else
      if p1 = p2 then
        gz 0 (some 0)
      else
        ldI (I (a0 + 3)) 8 p1 fun v3 =>
        ldI (I (a0 + 3)) 8 p2 fun v4 =>
        if v3 = v4 then
          ldI (I (a0 + 2)) 8 p1 fun v5 =>
          ldI (I (a0 + 2)) 8 p2 fun v6 =>
          if v5 = v6 then
            ldI (I (a0 + 1)) 8 p1 fun v7 =>
            ldI (I (a0 + 1)) 8 p2 fun v8 =>
            if 999 < (v7 + v8) then
              gz 0 (some 0)
            else
              gz 1 (some 1)
          else
            gz 0 (some 0)
        else
          gz 0 (some 0)
set_option maxRecDepth 20000 in
theorem pc_X9_canPour (I : HI) (L : HL) (R : HR) (a0 : Nat) (hy_a0 : isSc a0) (p1 : Int32) (p2 : Int32) : PCo 1 93 2 yX9_canPour cX9_canPour 3 (some .boolean) [.ref a0, .int p1, .int p2] I L R (f_X9_canPour I R a0 p1 p2) (fun x : Int32 => ((some (.int x), I, L, R) : HF)) := by
  refine PCo.of (own := RX9) (by decide +kernel) (Nat.le_of_ble_eq_true rfl) rfl rfl (fun F => ?_)
  unfold f_X9_canPour
  refine PWk.aload_n 0 dX9_canPour_0 rfl ?_
  refine PWk.iload_n 1 dX9_canPour_1 rfl ?_
  refine PWk.callVi (pc_X9_stands I L R a0 hy_a0 p1) dX9_canPour_2 ml_X9_77 rfl (rgSc_0 hy_a0) (lcSc hy_a0) vq_9 (by decide) rfl (Nat.le_of_ble_eq_true rfl) (fun x1 => ?_)
  refine PWk.if_eq 74 dX9_canPour_5 (by decide) (fun h14 => ?_) (fun h14 => ?_)
  · refine PWk.iconst (v := 0) dX9_canPour_74 ic_0 ?_
    exact PWk.zret dX9_canPour_75 rfl (fun h => h)
  · refine PWk.aload_n 0 dX9_canPour_8 rfl ?_
    refine PWk.iload_n 2 dX9_canPour_9 rfl ?_
    refine PWk.callVi (pc_X9_stands I L R a0 hy_a0 p2) dX9_canPour_10 ml_X9_77 rfl (rgSc_0 hy_a0) (lcSc hy_a0) vq_9 (by decide) rfl (Nat.le_of_ble_eq_true rfl) (fun x2 => ?_)
    refine PWk.if_eq 74 dX9_canPour_13 (by decide) (fun h13 => ?_) (fun h13 => ?_)
    · refine PWk.iconst (v := 0) dX9_canPour_74 ic_0 ?_
      exact PWk.zret dX9_canPour_75 rfl (fun h => h)
    · refine PWk.iload_n 1 dX9_canPour_16 rfl ?_
      refine PWk.iload_n 2 dX9_canPour_17 rfl ?_
      refine PWk.icmp_eq 74 dX9_canPour_18 (by decide) (fun h12 => ?_) (fun h12 => ?_)
      · refine PWk.iconst (v := 0) dX9_canPour_74 ic_0 ?_
        exact PWk.zret dX9_canPour_75 rfl (fun h => h)
      · refine PWk.aload_n 0 dX9_canPour_21 rfl ?_
        refine PWk.gets dX9_canPour_22 (rgSc_0 hy_a0) (lcSc hy_a0) fl_X9_18 rfl (stSc_4 hy_a0) ?_
        refine PWk.iload_n 1 dX9_canPour_25 rfl ?_
        refine PWk.iald dX9_canPour_26 (rgSc_3 hy_a0) (lySc_3 hy_a0) (fun v3 => ?_)
        refine PWk.aload_n 0 dX9_canPour_27 rfl ?_
        refine PWk.gets dX9_canPour_28 (rgSc_0 hy_a0) (lcSc hy_a0) fl_X9_18 rfl (stSc_4 hy_a0) ?_
        refine PWk.iload_n 2 dX9_canPour_31 rfl ?_
        refine PWk.iald dX9_canPour_32 (rgSc_3 hy_a0) (lySc_3 hy_a0) (fun v4 => ?_)
        refine PWk.icmp_ne 74 dX9_canPour_33 (by decide) (fun h11 => ?_) (fun h11 => ?_)
        · refine PWk.aload_n 0 dX9_canPour_36 rfl ?_
          refine PWk.gets dX9_canPour_37 (rgSc_0 hy_a0) (lcSc hy_a0) fl_X9_15 rfl (stSc_3 hy_a0) ?_
          refine PWk.iload_n 1 dX9_canPour_40 rfl ?_
          refine PWk.iald dX9_canPour_41 (rgSc_2 hy_a0) (lySc_2 hy_a0) (fun v5 => ?_)
          refine PWk.aload_n 0 dX9_canPour_42 rfl ?_
          refine PWk.gets dX9_canPour_43 (rgSc_0 hy_a0) (lcSc hy_a0) fl_X9_15 rfl (stSc_3 hy_a0) ?_
          refine PWk.iload_n 2 dX9_canPour_46 rfl ?_
          refine PWk.iald dX9_canPour_47 (rgSc_2 hy_a0) (lySc_2 hy_a0) (fun v6 => ?_)
          refine PWk.icmp_ne 74 dX9_canPour_48 (by decide) (fun h10 => ?_) (fun h10 => ?_)
          · refine PWk.aload_n 0 dX9_canPour_51 rfl ?_
            refine PWk.gets dX9_canPour_52 (rgSc_0 hy_a0) (lcSc hy_a0) fl_X9_9 rfl (stSc_2 hy_a0) ?_
            refine PWk.iload_n 1 dX9_canPour_55 rfl ?_
            refine PWk.iald dX9_canPour_56 (rgSc_1 hy_a0) (lySc_1 hy_a0) (fun v7 => ?_)
            refine PWk.aload_n 0 dX9_canPour_57 rfl ?_
            refine PWk.gets dX9_canPour_58 (rgSc_0 hy_a0) (lcSc hy_a0) fl_X9_9 rfl (stSc_2 hy_a0) ?_
            refine PWk.iload_n 2 dX9_canPour_61 rfl ?_
            refine PWk.iald dX9_canPour_62 (rgSc_1 hy_a0) (lySc_1 hy_a0) (fun v8 => ?_)
            refine PWk.iadd dX9_canPour_63 ?_
            refine PWk.sipush (v := 999) dX9_canPour_64 sp_999 ?_
            refine PWk.icmp_gt 74 dX9_canPour_67 (by decide) (fun h9 => ?_) (fun h9 => ?_)
            · refine PWk.iconst (v := 0) dX9_canPour_74 ic_0 ?_
              exact PWk.zret dX9_canPour_75 rfl (fun h => h)
            · refine PWk.iconst (v := 1) dX9_canPour_70 ic_1 ?_
              refine PWk.goto 75 dX9_canPour_71 (by decide) ?_
              exact PWk.zret dX9_canPour_75 rfl (fun h => h)
          · refine PWk.iconst (v := 0) dX9_canPour_74 ic_0 ?_
            exact PWk.zret dX9_canPour_75 rfl (fun h => h)
        · refine PWk.iconst (v := 0) dX9_canPour_74 ic_0 ?_
          exact PWk.zret dX9_canPour_75 rfl (fun h => h)
/-! LakeMarket$Scene.owedBy(I)I -/
def f_X9_owedBy_L4 : Nat → HI → HR → Nat → Int32 → Int32 → Int32 → Option (Int32)
  | 0, _, _, _, _, _, _ => none
  | n + 1, I, R, b0, u1, u2, u3 =>
    gr (okLd (R b0 0)) <|
    if (I (R b0 0) 2) ≤ u3 then
      some u2
    else
      ldI (I (b0 + 4)) 36 ((u1 * 6) + u3) fun v2 =>
      bnd ((u2 + v2)) fun v3 =>
      f_X9_owedBy_L4 n I R b0 u1 v3 (u3 + 1)
def f_X9_owedBy (fu : Nat) (I : HI) (R : HR) (a0 : Nat) (p1 : Int32) : Option (Int32) :=
  (f_X9_owedBy_L4 fu I R a0 p1 0 0).bind fun x5 =>
  some x5
set_option maxRecDepth 20000 in
theorem lp_X9_owedBy_4 (fu : Nat) (b0 : Nat) (hb0 : isSc b0) (u1 : Int32) (I : HI) (L : HL) (R : HR) : ∀ (n : Nat) (u2 : Int32) (u3 : Int32) (N : (Int32) → Prop) (F : HF), (∀ v : Int32, N v → PW 1 93 0 RX9 cX9_owedBy 4 (some .int) 35 [(2, .int v)] [] I L R F) → PWk 1 93 0 RX9 cX9_owedBy 4 (some .int) 4 [(0, .ref b0), (1, .int u1), (2, .int u2), (3, .int u3)] [] I L R (f_X9_owedBy_L4 n I R b0 u1 u2 u3) N F := by
  intro n
  induction n with
  | zero => intro u2 u3 N F hx; exact PWk.none'
  | succ n ih =>
    intro u2 u3 N F hx
    unfold f_X9_owedBy_L4
    refine PWk.iload_n 3 dX9_owedBy_4 rfl ?_
    refine PWk.aload_n 0 dX9_owedBy_5 rfl ?_
    refine PWk.getr dX9_owedBy_6 (rgSc_0 hb0) (lcSc hb0) fl_X9_34 rfl okLd_ne (fun hk1 => ?_)
    refine PWk.geti dX9_owedBy_9 (rgLd_0 (okLd_is hk1)) (lcLd (okLd_is hk1)) fl_X9_64 rfl ?_
    refine PWk.icmp_ge 35 dX9_owedBy_12 (by decide) (fun h4 => ?_) (fun h4 => ?_)
    · refine PWk.sub [2] rfl ?_
      exact PWk.done (fun h => hx _ h)
    · refine PWk.iload_n 2 dX9_owedBy_15 rfl ?_
      refine PWk.aload_n 0 dX9_owedBy_16 rfl ?_
      refine PWk.gets dX9_owedBy_17 (rgSc_0 hb0) (lcSc hb0) fl_X9_21 rfl (stSc_5 hb0) ?_
      refine PWk.iload_n 1 dX9_owedBy_20 rfl ?_
      refine PWk.bipush (v := 6) dX9_owedBy_21 bp_6 ?_
      refine PWk.imul dX9_owedBy_23 ?_
      refine PWk.iload_n 3 dX9_owedBy_24 rfl ?_
      refine PWk.iadd dX9_owedBy_25 ?_
      refine PWk.iald dX9_owedBy_26 (rgSc_4 hb0) (lySc_4 hb0) (fun v2 => ?_)
      refine PWk.iadd dX9_owedBy_27 ?_
      refine PWk.bi (fun v3 => ?_)
      refine PWk.istore_n [(2, .int v3), (0, .ref b0), (1, .int u1), (3, .int u3)] dX9_owedBy_28 (by decide) rfl ?_
      refine PWk.iinc (v := (u3 + 1)) 3 [(3, .int (u3 + 1)), (2, .int v3), (0, .ref b0), (1, .int u1)] dX9_owedBy_29 rfl (by rw [ic_1]) (by decide) rfl ?_
      refine PWk.goto 4 dX9_owedBy_32 (by decide) ?_
      refine PWk.sub [2, 3, 1, 0] rfl ?_
      exact ih v3 (u3 + 1) N F hx
set_option maxRecDepth 20000 in
theorem pc_X9_owedBy (fu : Nat) (I : HI) (L : HL) (R : HR) (a0 : Nat) (hy_a0 : isSc a0) (p1 : Int32) : PCo 1 93 0 yX9_owedBy cX9_owedBy 4 (some .int) [.ref a0, .int p1] I L R (f_X9_owedBy fu I R a0 p1) (fun x : Int32 => ((some (.int x), I, L, R) : HF)) := by
  refine PCo.of (own := RX9) (by decide +kernel) (Nat.le_of_ble_eq_true rfl) rfl rfl (fun F => ?_)
  unfold f_X9_owedBy
  refine PWk.iconst (v := 0) dX9_owedBy_0 ic_0 ?_
  refine PWk.istore_n [(2, .int 0), (0, .ref a0), (1, .int p1)] dX9_owedBy_1 (by decide) rfl ?_
  refine PWk.iconst (v := 0) dX9_owedBy_2 ic_0 ?_
  refine PWk.istore_n [(3, .int 0), (2, .int 0), (0, .ref a0), (1, .int p1)] dX9_owedBy_3 (by decide) rfl ?_
  refine PWk.sub [2, 3, 1, 0] rfl ?_
  refine PWk.loopV (fun N' hx' => lp_X9_owedBy_4 fu a0 hy_a0 p1 I L R fu 0 0 N' F hx') (fun x5 => ?_)
  refine PWk.iload_n 0 dX9_owedBy_35 rfl ?_
  exact PWk.iret dX9_owedBy_36 rfl (fun h => h)
/-! LakeMarket$Scene.owedTo(I)I -/
def f_X9_owedTo_L4 : Nat → HI → HR → Nat → Int32 → Int32 → Int32 → Option (Int32)
  | 0, _, _, _, _, _, _ => none
  | n + 1, I, R, b0, u1, u2, u3 =>
    gr (okLd (R b0 0)) <|
    if (I (R b0 0) 2) ≤ u3 then
      some u2
    else
      ldI (I (b0 + 4)) 36 ((u3 * 6) + u1) fun v2 =>
      bnd ((u2 + v2)) fun v3 =>
      f_X9_owedTo_L4 n I R b0 u1 v3 (u3 + 1)
def f_X9_owedTo (fu : Nat) (I : HI) (R : HR) (a0 : Nat) (p1 : Int32) : Option (Int32) :=
  (f_X9_owedTo_L4 fu I R a0 p1 0 0).bind fun x5 =>
  some x5
set_option maxRecDepth 20000 in
theorem lp_X9_owedTo_4 (fu : Nat) (b0 : Nat) (hb0 : isSc b0) (u1 : Int32) (I : HI) (L : HL) (R : HR) : ∀ (n : Nat) (u2 : Int32) (u3 : Int32) (N : (Int32) → Prop) (F : HF), (∀ v : Int32, N v → PW 1 93 0 RX9 cX9_owedTo 4 (some .int) 35 [(2, .int v)] [] I L R F) → PWk 1 93 0 RX9 cX9_owedTo 4 (some .int) 4 [(0, .ref b0), (1, .int u1), (2, .int u2), (3, .int u3)] [] I L R (f_X9_owedTo_L4 n I R b0 u1 u2 u3) N F := by
  intro n
  induction n with
  | zero => intro u2 u3 N F hx; exact PWk.none'
  | succ n ih =>
    intro u2 u3 N F hx
    unfold f_X9_owedTo_L4
    refine PWk.iload_n 3 dX9_owedTo_4 rfl ?_
    refine PWk.aload_n 0 dX9_owedTo_5 rfl ?_
    refine PWk.getr dX9_owedTo_6 (rgSc_0 hb0) (lcSc hb0) fl_X9_34 rfl okLd_ne (fun hk1 => ?_)
    refine PWk.geti dX9_owedTo_9 (rgLd_0 (okLd_is hk1)) (lcLd (okLd_is hk1)) fl_X9_64 rfl ?_
    refine PWk.icmp_ge 35 dX9_owedTo_12 (by decide) (fun h4 => ?_) (fun h4 => ?_)
    · refine PWk.sub [2] rfl ?_
      exact PWk.done (fun h => hx _ h)
    · refine PWk.iload_n 2 dX9_owedTo_15 rfl ?_
      refine PWk.aload_n 0 dX9_owedTo_16 rfl ?_
      refine PWk.gets dX9_owedTo_17 (rgSc_0 hb0) (lcSc hb0) fl_X9_21 rfl (stSc_5 hb0) ?_
      refine PWk.iload_n 3 dX9_owedTo_20 rfl ?_
      refine PWk.bipush (v := 6) dX9_owedTo_21 bp_6 ?_
      refine PWk.imul dX9_owedTo_23 ?_
      refine PWk.iload_n 1 dX9_owedTo_24 rfl ?_
      refine PWk.iadd dX9_owedTo_25 ?_
      refine PWk.iald dX9_owedTo_26 (rgSc_4 hb0) (lySc_4 hb0) (fun v2 => ?_)
      refine PWk.iadd dX9_owedTo_27 ?_
      refine PWk.bi (fun v3 => ?_)
      refine PWk.istore_n [(2, .int v3), (0, .ref b0), (1, .int u1), (3, .int u3)] dX9_owedTo_28 (by decide) rfl ?_
      refine PWk.iinc (v := (u3 + 1)) 3 [(3, .int (u3 + 1)), (2, .int v3), (0, .ref b0), (1, .int u1)] dX9_owedTo_29 rfl (by rw [ic_1]) (by decide) rfl ?_
      refine PWk.goto 4 dX9_owedTo_32 (by decide) ?_
      refine PWk.sub [2, 3, 1, 0] rfl ?_
      exact ih v3 (u3 + 1) N F hx
set_option maxRecDepth 20000 in
theorem pc_X9_owedTo (fu : Nat) (I : HI) (L : HL) (R : HR) (a0 : Nat) (hy_a0 : isSc a0) (p1 : Int32) : PCo 1 93 0 yX9_owedTo cX9_owedTo 4 (some .int) [.ref a0, .int p1] I L R (f_X9_owedTo fu I R a0 p1) (fun x : Int32 => ((some (.int x), I, L, R) : HF)) := by
  refine PCo.of (own := RX9) (by decide +kernel) (Nat.le_of_ble_eq_true rfl) rfl rfl (fun F => ?_)
  unfold f_X9_owedTo
  refine PWk.iconst (v := 0) dX9_owedTo_0 ic_0 ?_
  refine PWk.istore_n [(2, .int 0), (0, .ref a0), (1, .int p1)] dX9_owedTo_1 (by decide) rfl ?_
  refine PWk.iconst (v := 0) dX9_owedTo_2 ic_0 ?_
  refine PWk.istore_n [(3, .int 0), (2, .int 0), (0, .ref a0), (1, .int p1)] dX9_owedTo_3 (by decide) rfl ?_
  refine PWk.sub [2, 3, 1, 0] rfl ?_
  refine PWk.loopV (fun N' hx' => lp_X9_owedTo_4 fu a0 hy_a0 p1 I L R fu 0 0 N' F hx') (fun x5 => ?_)
  refine PWk.iload_n 0 dX9_owedTo_35 rfl ?_
  exact PWk.iret dX9_owedTo_36 rfl (fun h => h)
/-! LakeMarket$Scene.netOf(I)I -/
def f_X9_netOf (fu : Nat) (I : HI) (R : HR) (a0 : Nat) (p1 : Int32) : Option (Int32) :=
  (f_X9_owedTo fu I R a0 p1).bind fun x1 =>
  (f_X9_owedBy fu I R a0 p1).bind fun x2 =>
  some (x1 - x2)
set_option maxRecDepth 20000 in
theorem pc_X9_netOf (fu : Nat) (I : HI) (L : HL) (R : HR) (a0 : Nat) (hy_a0 : isSc a0) (p1 : Int32) : PCo 1 93 1 yX9_netOf cX9_netOf 2 (some .int) [.ref a0, .int p1] I L R (f_X9_netOf fu I R a0 p1) (fun x : Int32 => ((some (.int x), I, L, R) : HF)) := by
  refine PCo.of (own := RX9) (by decide +kernel) (Nat.le_of_ble_eq_true rfl) rfl rfl (fun F => ?_)
  unfold f_X9_netOf
  refine PWk.aload_n 0 dX9_netOf_0 rfl ?_
  refine PWk.iload_n 1 dX9_netOf_1 rfl ?_
  refine PWk.callVi (pc_X9_owedTo fu I L R a0 hy_a0 p1) dX9_netOf_2 ml_X9_142 rfl (rgSc_0 hy_a0) (lcSc hy_a0) vq_9 (by decide) rfl (Nat.le_of_ble_eq_true rfl) (fun x1 => ?_)
  refine PWk.aload_n 0 dX9_netOf_5 rfl ?_
  refine PWk.iload_n 1 dX9_netOf_6 rfl ?_
  refine PWk.callVi (pc_X9_owedBy fu I L R a0 hy_a0 p1) dX9_netOf_7 ml_X9_145 rfl (rgSc_0 hy_a0) (lcSc hy_a0) vq_9 (by decide) rfl (Nat.le_of_ble_eq_true rfl) (fun x2 => ?_)
  refine PWk.isub dX9_netOf_10 ?_
  exact PWk.iret dX9_netOf_11 rfl (fun h => h)
/-! LakeMarket$Scene.allDebts()I -/
def f_X9_allDebts_L4 (fu : Nat) : Nat → HI → HR → Nat → Int32 → Int32 → Option (Int32)
  | 0, _, _, _, _, _ => none
  | n + 1, I, R, b0, u1, u2 =>
    gr (okLd (R b0 0)) <|
    if (I (R b0 0) 2) ≤ u2 then
      some u1
    else
      (f_X9_owedBy fu I R b0 u2).bind fun x2 =>
      bnd ((u1 + x2)) fun v3 =>
      f_X9_allDebts_L4 fu n I R b0 v3 (u2 + 1)
def f_X9_allDebts (fu : Nat) (I : HI) (R : HR) (a0 : Nat) : Option (Int32) :=
  (f_X9_allDebts_L4 fu fu I R a0 0 0).bind fun x5 =>
  some x5
set_option maxRecDepth 20000 in
theorem lp_X9_allDebts_4 (fu : Nat) (b0 : Nat) (hb0 : isSc b0) (I : HI) (L : HL) (R : HR) : ∀ (n : Nat) (u1 : Int32) (u2 : Int32) (N : (Int32) → Prop) (F : HF), (∀ v : Int32, N v → PW 1 93 1 RX9 cX9_allDebts 3 (some .int) 29 [(1, .int v)] [] I L R F) → PWk 1 93 1 RX9 cX9_allDebts 3 (some .int) 4 [(0, .ref b0), (1, .int u1), (2, .int u2)] [] I L R (f_X9_allDebts_L4 fu n I R b0 u1 u2) N F := by
  intro n
  induction n with
  | zero => intro u1 u2 N F hx; exact PWk.none'
  | succ n ih =>
    intro u1 u2 N F hx
    unfold f_X9_allDebts_L4
    refine PWk.iload_n 2 dX9_allDebts_4 rfl ?_
    refine PWk.aload_n 0 dX9_allDebts_5 rfl ?_
    refine PWk.getr dX9_allDebts_6 (rgSc_0 hb0) (lcSc hb0) fl_X9_34 rfl okLd_ne (fun hk1 => ?_)
    refine PWk.geti dX9_allDebts_9 (rgLd_0 (okLd_is hk1)) (lcLd (okLd_is hk1)) fl_X9_64 rfl ?_
    refine PWk.icmp_ge 29 dX9_allDebts_12 (by decide) (fun h4 => ?_) (fun h4 => ?_)
    · refine PWk.sub [1] rfl ?_
      exact PWk.done (fun h => hx _ h)
    · refine PWk.iload_n 1 dX9_allDebts_15 rfl ?_
      refine PWk.aload_n 0 dX9_allDebts_16 rfl ?_
      refine PWk.iload_n 2 dX9_allDebts_17 rfl ?_
      refine PWk.callVi (pc_X9_owedBy fu I L R b0 hb0 u2) dX9_allDebts_18 ml_X9_145 rfl (rgSc_0 hb0) (lcSc hb0) vq_9 (by decide) rfl (Nat.le_of_ble_eq_true rfl) (fun x2 => ?_)
      refine PWk.iadd dX9_allDebts_21 ?_
      refine PWk.bi (fun v3 => ?_)
      refine PWk.istore_n [(1, .int v3), (0, .ref b0), (2, .int u2)] dX9_allDebts_22 (by decide) rfl ?_
      refine PWk.iinc (v := (u2 + 1)) 2 [(2, .int (u2 + 1)), (1, .int v3), (0, .ref b0)] dX9_allDebts_23 rfl (by rw [ic_1]) (by decide) rfl ?_
      refine PWk.goto 4 dX9_allDebts_26 (by decide) ?_
      refine PWk.sub [2, 1, 0] rfl ?_
      exact ih v3 (u2 + 1) N F hx
set_option maxRecDepth 20000 in
theorem pc_X9_allDebts (fu : Nat) (I : HI) (L : HL) (R : HR) (a0 : Nat) (hy_a0 : isSc a0) : PCo 1 93 1 yX9_allDebts cX9_allDebts 3 (some .int) [.ref a0] I L R (f_X9_allDebts fu I R a0) (fun x : Int32 => ((some (.int x), I, L, R) : HF)) := by
  refine PCo.of (own := RX9) (by decide +kernel) (Nat.le_of_ble_eq_true rfl) rfl rfl (fun F => ?_)
  unfold f_X9_allDebts
  refine PWk.iconst (v := 0) dX9_allDebts_0 ic_0 ?_
  refine PWk.istore_n [(1, .int 0), (0, .ref a0)] dX9_allDebts_1 (by decide) rfl ?_
  refine PWk.iconst (v := 0) dX9_allDebts_2 ic_0 ?_
  refine PWk.istore_n [(2, .int 0), (1, .int 0), (0, .ref a0)] dX9_allDebts_3 (by decide) rfl ?_
  refine PWk.sub [2, 1, 0] rfl ?_
  refine PWk.loopV (fun N' hx' => lp_X9_allDebts_4 fu a0 hy_a0 I L R fu 0 0 N' F hx') (fun x5 => ?_)
  refine PWk.iload_n 0 dX9_allDebts_29 rfl ?_
  exact PWk.iret dX9_allDebts_30 rfl (fun h => h)
/-! LakeMarket$Scene.isBroke(I)Z -/
def f_X9_isBroke (fu : Nat) (I : HI) (R : HR) (a0 : Nat) (p1 : Int32) : Option (Int32 × HI) :=
  (f_X9_owedBy fu I R a0 p1).bind fun x1 =>
  (f_X9_lakesOf fu I R a0 p1).bind fun x2 =>
  (f_X9_worthOfBits fu I R a0 x2).bind fun x3 =>
  if x1 ≤ x3.1 then
    gz 0 (some (0, x3.2))
  else
    gz 1 (some (1, x3.2))
set_option maxRecDepth 20000 in
theorem pc_X9_isBroke (fu : Nat) (I : HI) (L : HL) (R : HR) (a0 : Nat) (hy_a0 : isSc a0) (p1 : Int32) : PCo 1 93 6 yX9_isBroke cX9_isBroke 2 (some .boolean) [.ref a0, .int p1] I L R (f_X9_isBroke fu I R a0 p1) (fun x : Int32 × HI => ((some (.int x.1), x.2, L, R) : HF)) := by
  refine PCo.of (own := RX9) (by decide +kernel) (Nat.le_of_ble_eq_true rfl) rfl rfl (fun F => ?_)
  unfold f_X9_isBroke
  refine PWk.aload_n 0 dX9_isBroke_0 rfl ?_
  refine PWk.iload_n 1 dX9_isBroke_1 rfl ?_
  refine PWk.callVi (pc_X9_owedBy fu I L R a0 hy_a0 p1) dX9_isBroke_2 ml_X9_145 rfl (rgSc_0 hy_a0) (lcSc hy_a0) vq_9 (by decide) rfl (Nat.le_of_ble_eq_true rfl) (fun x1 => ?_)
  refine PWk.aload_n 0 dX9_isBroke_5 rfl ?_
  refine PWk.aload_n 0 dX9_isBroke_6 rfl ?_
  refine PWk.iload_n 1 dX9_isBroke_7 rfl ?_
  refine PWk.callVi (pc_X9_lakesOf fu I L R a0 hy_a0 p1) dX9_isBroke_8 ml_X9_110 rfl (rgSc_0 hy_a0) (lcSc hy_a0) vq_9 (by decide) rfl (Nat.le_of_ble_eq_true rfl) (fun x2 => ?_)
  refine PWk.callViI (pc_X9_worthOfBits fu I L R a0 hy_a0 x2) dX9_isBroke_11 ml_X9_107 rfl (rgSc_0 hy_a0) (lcSc hy_a0) vq_9 (by decide) rfl (Nat.le_of_ble_eq_true rfl) (fun x3 => ?_)
  refine PWk.icmp_le 21 dX9_isBroke_14 (by decide) (fun h4 => ?_) (fun h4 => ?_)
  · refine PWk.iconst (v := 0) dX9_isBroke_21 ic_0 ?_
    exact PWk.zret dX9_isBroke_22 rfl (fun h => h)
  · refine PWk.iconst (v := 1) dX9_isBroke_17 ic_1 ?_
    refine PWk.goto 22 dX9_isBroke_18 (by decide) ?_
    exact PWk.zret dX9_isBroke_22 rfl (fun h => h)
/-! LakeMarket$Scene.begin(LLakeMarket$Lowland;)V -/
def f_X9_begin_L90 : Nat → HI → Nat → Int32 → Option (HI)
  | 0, _, _, _ => none
  | n + 1, I, b0, u2 =>
    if 8 ≤ u2 then
      some I
    else
      (f_X9_setBarrels I b0 u2 0).bind fun x9 =>
      f_X9_begin_L90 n x9 b0 (u2 + 1)
def f_X9_begin (fu : Nat) (I : HI) (R : HR) (a0 : Nat) (a1 : Nat) : Option (HI × HR) :=
  bnd (sR R a0 0 a1) fun R1 =>
  bnd (sI I a0 1 0) fun I2 =>
  gr (okLd (R1 a0 0)) <|
  bnd (sA I2 (a0 + 1) (va_cpy (I2 ((R1 a0 0) + 6)) (I2 (a0 + 1)) (0 : Int32).toNatClampNeg (0 : Int32).toNatClampNeg (8 : Int32).toNatClampNeg)) fun I4 =>
  bnd (sA I4 (a0 + 2) (va_cpy (I4 ((R1 a0 0) + 7)) (I4 (a0 + 2)) (0 : Int32).toNatClampNeg (0 : Int32).toNatClampNeg (8 : Int32).toNatClampNeg)) fun I5 =>
  bnd (sA I5 (a0 + 3) (va_cpy (I5 ((R1 a0 0) + 8)) (I5 (a0 + 3)) (0 : Int32).toNatClampNeg (0 : Int32).toNatClampNeg (8 : Int32).toNatClampNeg)) fun I6 =>
  bnd (sA I6 (a0 + 4) (va_cpy (I6 ((R1 a0 0) + 9)) (I6 (a0 + 4)) (0 : Int32).toNatClampNeg (0 : Int32).toNatClampNeg (36 : Int32).toNatClampNeg)) fun I7 =>
  bnd ((I7 (R1 a0 0) 3)) fun v8 =>
  (f_X9_begin_L90 fu I7 a0 v8).bind fun x11 =>
  some (x11, R1)
set_option maxRecDepth 20000 in
theorem lp_X9_begin_90 (fu : Nat) (b0 : Nat) (hb0 : isSc b0) (L : HL) (R : HR) : ∀ (n : Nat) (u2 : Int32) (I : HI) (N : (HI) → Prop) (F : HF), (∀ v : HI, N v → PW 1 93 1 RX9 cX9_begin 3 none 108 [] [] v L R F) → PWk 1 93 1 RX9 cX9_begin 3 none 90 [(0, .ref b0), (2, .int u2)] [] I L R (f_X9_begin_L90 n I b0 u2) N F := by
  intro n
  induction n with
  | zero => intro u2 I N F hx; exact PWk.none'
  | succ n ih =>
    intro u2 I N F hx
    unfold f_X9_begin_L90
    refine PWk.iload_n 1 dX9_begin_90 rfl ?_
    refine PWk.bipush (v := 8) dX9_begin_91 bp_8 ?_
    refine PWk.icmp_ge 108 dX9_begin_93 (by decide) (fun h10 => ?_) (fun h10 => ?_)
    · refine PWk.sub [] rfl ?_
      exact PWk.done (fun h => hx _ h)
    · refine PWk.aload_n 0 dX9_begin_96 rfl ?_
      refine PWk.iload_n 1 dX9_begin_97 rfl ?_
      refine PWk.iconst (v := 0) dX9_begin_98 ic_0 ?_
      refine PWk.callVvI (pc_X9_setBarrels I L R b0 hb0 u2 0) dX9_begin_99 ml_X9_57 rfl (rgSc_0 hb0) (lcSc hb0) vq_9 (by decide) rfl (Nat.le_of_ble_eq_true rfl) (fun x9 => ?_)
      refine PWk.iinc (v := (u2 + 1)) 1 [(2, .int (u2 + 1)), (0, .ref b0)] dX9_begin_102 rfl (by rw [ic_1]) (by decide) rfl ?_
      refine PWk.goto 90 dX9_begin_105 (by decide) ?_
      refine PWk.sub [1, 0] rfl ?_
      exact ih (u2 + 1) x9 N F hx
set_option maxRecDepth 20000 in
theorem pc_X9_begin (fu : Nat) (I : HI) (L : HL) (R : HR) (a0 : Nat) (hy_a0 : isSc a0) (a1 : Nat) (hy_a1 : isLd a1) : PCo 1 93 1 yX9_begin cX9_begin 3 none [.ref a0, .ref a1] I L R (f_X9_begin fu I R a0 a1) (fun x : HI × HR => ((none, x.1, L, x.2) : HF)) := by
  refine PCo.of (own := RX9) (by decide +kernel) (Nat.le_of_ble_eq_true rfl) rfl rfl (fun F => ?_)
  unfold f_X9_begin
  refine PWk.aload_n 0 dX9_begin_0 rfl ?_
  refine PWk.aload_n 1 dX9_begin_1 rfl ?_
  refine PWk.putr dX9_begin_2 (rgSc_0 hy_a0) (lcSc hy_a0) fl_X9_34 fp_9_0 rfl (neLd hy_a1) ?_
  refine PWk.bR (fun R1 => ?_)
  refine PWk.aload_n 0 dX9_begin_5 rfl ?_
  refine PWk.iconst (v := 0) dX9_begin_6 ic_0 ?_
  refine PWk.puti dX9_begin_7 (rgSc_0 hy_a0) (lcSc hy_a0) fl_X9_38 fp_9_1 rfl ?_
  refine PWk.bI (fun I2 => ?_)
  refine PWk.aload_n 0 dX9_begin_10 rfl ?_
  refine PWk.getr dX9_begin_11 (rgSc_0 hy_a0) (lcSc hy_a0) fl_X9_34 rfl okLd_ne (fun hk3 => ?_)
  refine PWk.gets dX9_begin_14 (rgLd_0 (okLd_is hk3)) (lcLd (okLd_is hk3)) fl_X9_42 rfl (stLd_11 (okLd_is hk3)) ?_
  refine PWk.iconst (v := 0) dX9_begin_17 ic_0 ?_
  refine PWk.aload_n 0 dX9_begin_18 rfl ?_
  refine PWk.gets dX9_begin_19 (rgSc_0 hy_a0) (lcSc hy_a0) fl_X9_9 rfl (stSc_2 hy_a0) ?_
  refine PWk.iconst (v := 0) dX9_begin_22 ic_0 ?_
  refine PWk.bipush (v := 8) dX9_begin_23 bp_8 ?_
  refine PWk.copy dX9_begin_25 wc_X9_45 (rgLd_6 (okLd_is hk3)) (rgSc_1 hy_a0) (lyLd_6 (okLd_is hk3)) (lySc_1 hy_a0) (by decide) (by decide) (by decide) (by decide) (by decide) (by omega) rfl ?_
  refine PWk.bI (fun I4 => ?_)
  refine PWk.aload_n 0 dX9_begin_28 rfl ?_
  refine PWk.getrk dX9_begin_29 (rgSc_0 hy_a0) (lcSc hy_a0) fl_X9_34 rfl (neLd (okLd_is hk3)) ?_
  refine PWk.gets dX9_begin_32 (rgLd_0 (okLd_is hk3)) (lcLd (okLd_is hk3)) fl_X9_51 rfl (stLd_12 (okLd_is hk3)) ?_
  refine PWk.iconst (v := 0) dX9_begin_35 ic_0 ?_
  refine PWk.aload_n 0 dX9_begin_36 rfl ?_
  refine PWk.gets dX9_begin_37 (rgSc_0 hy_a0) (lcSc hy_a0) fl_X9_15 rfl (stSc_3 hy_a0) ?_
  refine PWk.iconst (v := 0) dX9_begin_40 ic_0 ?_
  refine PWk.bipush (v := 8) dX9_begin_41 bp_8 ?_
  refine PWk.copy dX9_begin_43 wc_X9_45 (rgLd_7 (okLd_is hk3)) (rgSc_2 hy_a0) (lyLd_7 (okLd_is hk3)) (lySc_2 hy_a0) (by decide) (by decide) (by decide) (by decide) (by decide) (by omega) rfl ?_
  refine PWk.bI (fun I5 => ?_)
  refine PWk.aload_n 0 dX9_begin_46 rfl ?_
  refine PWk.getrk dX9_begin_47 (rgSc_0 hy_a0) (lcSc hy_a0) fl_X9_34 rfl (neLd (okLd_is hk3)) ?_
  refine PWk.gets dX9_begin_50 (rgLd_0 (okLd_is hk3)) (lcLd (okLd_is hk3)) fl_X9_52 rfl (stLd_13 (okLd_is hk3)) ?_
  refine PWk.iconst (v := 0) dX9_begin_53 ic_0 ?_
  refine PWk.aload_n 0 dX9_begin_54 rfl ?_
  refine PWk.gets dX9_begin_55 (rgSc_0 hy_a0) (lcSc hy_a0) fl_X9_18 rfl (stSc_4 hy_a0) ?_
  refine PWk.iconst (v := 0) dX9_begin_58 ic_0 ?_
  refine PWk.bipush (v := 8) dX9_begin_59 bp_8 ?_
  refine PWk.copy dX9_begin_61 wc_X9_45 (rgLd_8 (okLd_is hk3)) (rgSc_3 hy_a0) (lyLd_8 (okLd_is hk3)) (lySc_3 hy_a0) (by decide) (by decide) (by decide) (by decide) (by decide) (by omega) rfl ?_
  refine PWk.bI (fun I6 => ?_)
  refine PWk.aload_n 0 dX9_begin_64 rfl ?_
  refine PWk.getrk dX9_begin_65 (rgSc_0 hy_a0) (lcSc hy_a0) fl_X9_34 rfl (neLd (okLd_is hk3)) ?_
  refine PWk.gets dX9_begin_68 (rgLd_0 (okLd_is hk3)) (lcLd (okLd_is hk3)) fl_X9_53 rfl (stLd_14 (okLd_is hk3)) ?_
  refine PWk.iconst (v := 0) dX9_begin_71 ic_0 ?_
  refine PWk.aload_n 0 dX9_begin_72 rfl ?_
  refine PWk.gets dX9_begin_73 (rgSc_0 hy_a0) (lcSc hy_a0) fl_X9_21 rfl (stSc_5 hy_a0) ?_
  refine PWk.iconst (v := 0) dX9_begin_76 ic_0 ?_
  refine PWk.bipush (v := 36) dX9_begin_77 bp_36 ?_
  refine PWk.copy dX9_begin_79 wc_X9_45 (rgLd_9 (okLd_is hk3)) (rgSc_4 hy_a0) (lyLd_9 (okLd_is hk3)) (lySc_4 hy_a0) (by decide) (by decide) (by decide) (by decide) (by decide) (by omega) rfl ?_
  refine PWk.bI (fun I7 => ?_)
  refine PWk.aload_n 0 dX9_begin_82 rfl ?_
  refine PWk.getrk dX9_begin_83 (rgSc_0 hy_a0) (lcSc hy_a0) fl_X9_34 rfl (neLd (okLd_is hk3)) ?_
  refine PWk.geti dX9_begin_86 (rgLd_0 (okLd_is hk3)) (lcLd (okLd_is hk3)) fl_X9_54 rfl ?_
  refine PWk.bi (fun v8 => ?_)
  refine PWk.istore_n [(2, .int v8), (0, .ref a0), (1, .ref a1)] dX9_begin_89 (by decide) rfl ?_
  refine PWk.sub [1, 0] rfl ?_
  refine PWk.loopV (fun N' hx' => lp_X9_begin_90 fu a0 hy_a0 L R1 fu v8 I7 N' F hx') (fun x11 => ?_)
  exact PWk.vret dX9_begin_108 rfl (fun h => h)
/-! LakeMarket$Scene.canMove(II)Z -/
def f_X9_canMove (fu : Nat) (I : HI) (R : HR) (a0 : Nat) (p1 : Int32) (p2 : Int32) : Option (Int32 × HI) :=
  (f_X9_stands I R a0 p1).bind fun x1 =>
  if x1 = 0 then
    gz 0 (some (0, I))
  else
    (f_X9_isHollow I R a0 p2).bind fun x2 =>
    if x2 = 0 then
      gz 0 (some (0, I))
    else
      ldI (I (a0 + 2)) 8 p1 fun v3 =>
      if v3 = p2 then
        gz 0 (some (0, I))
      else
        (f_X9_roomIn fu I R a0 p2).bind fun x4 =>
        (f_X9_countIn fu I R a0 p2).bind fun x5 =>
        (f_X9_mayGo fu I R a0 p1 p2 x4 x5).bind fun x6 =>
        if x6.1 = 0 then
          gz 0 (some (0, x6.2))
        else
          gz 1 (some (1, x6.2))
set_option maxRecDepth 20000 in
theorem pc_X9_canMove (fu : Nat) (I : HI) (L : HL) (R : HR) (a0 : Nat) (hy_a0 : isSc a0) (p1 : Int32) (p2 : Int32) : PCo 1 93 5 yX9_canMove cX9_canMove 3 (some .boolean) [.ref a0, .int p1, .int p2] I L R (f_X9_canMove fu I R a0 p1 p2) (fun x : Int32 × HI => ((some (.int x.1), x.2, L, R) : HF)) := by
  refine PCo.of (own := RX9) (by decide +kernel) (Nat.le_of_ble_eq_true rfl) rfl rfl (fun F => ?_)
  unfold f_X9_canMove
  refine PWk.aload_n 0 dX9_canMove_0 rfl ?_
  refine PWk.iload_n 1 dX9_canMove_1 rfl ?_
  refine PWk.callVi (pc_X9_stands I L R a0 hy_a0 p1) dX9_canMove_2 ml_X9_77 rfl (rgSc_0 hy_a0) (lcSc hy_a0) vq_9 (by decide) rfl (Nat.le_of_ble_eq_true rfl) (fun x1 => ?_)
  refine PWk.if_eq 49 dX9_canMove_5 (by decide) (fun h10 => ?_) (fun h10 => ?_)
  · refine PWk.iconst (v := 0) dX9_canMove_49 ic_0 ?_
    exact PWk.zret dX9_canMove_50 rfl (fun h => h)
  · refine PWk.aload_n 0 dX9_canMove_8 rfl ?_
    refine PWk.iload_n 2 dX9_canMove_9 rfl ?_
    refine PWk.callVi (pc_X9_isHollow I L R a0 hy_a0 p2) dX9_canMove_10 ml_X9_120 rfl (rgSc_0 hy_a0) (lcSc hy_a0) vq_9 (by decide) rfl (Nat.le_of_ble_eq_true rfl) (fun x2 => ?_)
    refine PWk.if_eq 49 dX9_canMove_13 (by decide) (fun h9 => ?_) (fun h9 => ?_)
    · refine PWk.iconst (v := 0) dX9_canMove_49 ic_0 ?_
      exact PWk.zret dX9_canMove_50 rfl (fun h => h)
    · refine PWk.aload_n 0 dX9_canMove_16 rfl ?_
      refine PWk.gets dX9_canMove_17 (rgSc_0 hy_a0) (lcSc hy_a0) fl_X9_15 rfl (stSc_3 hy_a0) ?_
      refine PWk.iload_n 1 dX9_canMove_20 rfl ?_
      refine PWk.iald dX9_canMove_21 (rgSc_2 hy_a0) (lySc_2 hy_a0) (fun v3 => ?_)
      refine PWk.iload_n 2 dX9_canMove_22 rfl ?_
      refine PWk.icmp_eq 49 dX9_canMove_23 (by decide) (fun h8 => ?_) (fun h8 => ?_)
      · refine PWk.iconst (v := 0) dX9_canMove_49 ic_0 ?_
        exact PWk.zret dX9_canMove_50 rfl (fun h => h)
      · refine PWk.aload_n 0 dX9_canMove_26 rfl ?_
        refine PWk.iload_n 1 dX9_canMove_27 rfl ?_
        refine PWk.iload_n 2 dX9_canMove_28 rfl ?_
        refine PWk.aload_n 0 dX9_canMove_29 rfl ?_
        refine PWk.iload_n 2 dX9_canMove_30 rfl ?_
        refine PWk.callVi (pc_X9_roomIn fu I L R a0 hy_a0 p2) dX9_canMove_31 ml_X9_123 rfl (rgSc_0 hy_a0) (lcSc hy_a0) vq_9 (by decide) rfl (Nat.le_of_ble_eq_true rfl) (fun x4 => ?_)
        refine PWk.aload_n 0 dX9_canMove_34 rfl ?_
        refine PWk.iload_n 2 dX9_canMove_35 rfl ?_
        refine PWk.callVi (pc_X9_countIn fu I L R a0 hy_a0 p2) dX9_canMove_36 ml_X9_83 rfl (rgSc_0 hy_a0) (lcSc hy_a0) vq_9 (by decide) rfl (Nat.le_of_ble_eq_true rfl) (fun x5 => ?_)
        refine PWk.callViI (pc_X9_mayGo fu I L R a0 hy_a0 p1 p2 x4 x5) dX9_canMove_39 ml_X9_126 rfl (rgSc_0 hy_a0) (lcSc hy_a0) vq_9 (by decide) rfl (Nat.le_of_ble_eq_true rfl) (fun x6 => ?_)
        refine PWk.if_eq 49 dX9_canMove_42 (by decide) (fun h7 => ?_) (fun h7 => ?_)
        · refine PWk.iconst (v := 0) dX9_canMove_49 ic_0 ?_
          exact PWk.zret dX9_canMove_50 rfl (fun h => h)
        · refine PWk.iconst (v := 1) dX9_canMove_45 ic_1 ?_
          refine PWk.goto 50 dX9_canMove_46 (by decide) ?_
          exact PWk.zret dX9_canMove_50 rfl (fun h => h)
