/-! LakeMarket$Chooser.collect(LLakeMarket$Scene;IZ)V -/
def f_X0_collect_L8 (fu : Nat) : Nat → HI → HR → Nat → Int32 → Int32 → Int32 → Option (HI)
  | 0, _, _, _, _, _, _ => none
  | n + 1, I, R, b1, u2, u3, u4 =>
    gr (okLd (R b1 0)) <|
    if (I (R b1 0) 3) ≤ u4 then
      some I
    else
      ldI (I (b1 + 3)) 8 u4 fun v3 =>
      jnt (β := HI) (fun y14 =>
        f_X0_collect_L8 fu n y14 R b1 u2 u3 (u4 + 1)) fun j4 =>
      if v3 = u2 then
        inb 8 (I 34 2) <|
        bnd (sI I 35 ((I 34 2) : Int32).toNatClampNeg u4) fun I5 =>
        jnt (β := Int32 × HI) (fun y10 =>
          inb 8 (I5 34 2) <|
          bnd (sI y10.2 36 ((I5 34 2) : Int32).toNatClampNeg y10.1) fun I11 =>
          bnd (sI I11 34 2 ((I11 34 2) + 1)) fun I12 =>
          j4 I12) fun j6 =>
        if u3 = 0 then
          ldI (I5 (b1 + 1)) 8 u4 fun v7 =>
          j6 (v7, I5)
        else
          (f_X9_worthOf fu I5 R b1 u4).bind fun x8 =>
          j6 (x8.1, x8.2)
      else
        j4 I
def f_X0_collect (fu : Nat) (I : HI) (R : HR) (a1 : Nat) (p2 : Int32) (p3 : Int32) : Option (HI) :=
  bnd (sI I 34 2 0) fun I1 =>
  (f_X0_collect_L8 fu fu I1 R a1 p2 p3 0).bind fun x16 =>
  some x16
set_option maxRecDepth 20000 in
theorem lp_X0_collect_8 (fu : Nat) (b1 : Nat) (hb1 : isSc b1) (u2 : Int32) (u3 : Int32) (L : HL) (R : HR) : ∀ (n : Nat) (u4 : Int32) (I : HI) (N : (HI) → Prop) (F : HF), (∀ v : HI, N v → PW 1 93 5 RX0 cX0_collect 5 none 87 [] [] v L R F) → PWk 1 93 5 RX0 cX0_collect 5 none 8 [(0, .ref 34), (1, .ref b1), (2, .int u2), (3, .int u3), (4, .int u4)] [] I L R (f_X0_collect_L8 fu n I R b1 u2 u3 u4) N F := by
  intro n
  induction n with
  | zero => intro u4 I N F hx; exact PWk.none'
  | succ n ih =>
    intro u4 I N F hx
    unfold f_X0_collect_L8
    refine PWk.iload 4 dX0_collect_8 rfl ?_
    refine PWk.aload_n 1 dX0_collect_10 rfl ?_
    refine PWk.getr dX0_collect_11 (rgSc_0 hb1) (lcSc hb1) fl_X0_37 rfl okLd_ne (fun hk2 => ?_)
    refine PWk.geti dX0_collect_14 (rgLd_0 (okLd_is hk2)) (lcLd (okLd_is hk2)) fl_X0_43 rfl ?_
    refine PWk.icmp_ge 87 dX0_collect_17 (by decide) (fun h15 => ?_) (fun h15 => ?_)
    · refine PWk.sub [] rfl ?_
      exact PWk.done (fun h => hx _ h)
    · refine PWk.aload_n 1 dX0_collect_20 rfl ?_
      refine PWk.gets dX0_collect_21 (rgSc_0 hb1) (lcSc hb1) fl_X0_48 rfl (stSc_4 hb1) ?_
      refine PWk.iload 4 dX0_collect_24 rfl ?_
      refine PWk.iald dX0_collect_26 (rgSc_3 hb1) (lySc_3 hb1) (fun v3 => ?_)
      refine PWk.iload_n 2 dX0_collect_27 rfl ?_
      refine PWk.jn (pc' := 81) (lv' := fun y14 => [(0, .ref 34), (1, .ref b1), (2, .int u2), (3, .int u3), (4, .int u4)]) (st' := fun y14 => []) (I' := fun y14 => y14) (L' := fun y14 => L) (R' := fun y14 => R) (fun j4 hj4 => ?_) (fun y14 => ?_)
      · refine PWk.icmp_ne 81 dX0_collect_28 (by decide) (fun h13 => ?_) (fun h13 => ?_)
        · refine PWk.aload_n 0 dX0_collect_31 rfl ?_
          refine PWk.gets dX0_collect_32 rg_34 lc_34 fl_X0_9 rfl st_34_0 ?_
          refine PWk.aload_n 0 dX0_collect_35 rfl ?_
          refine PWk.geti dX0_collect_36 rg_34 lc_34 fl_X0_33 rfl ?_
          refine PWk.iload 4 dX0_collect_39 rfl ?_
          refine PWk.iast dX0_collect_41 rg_35 ly_35 ?_
          refine PWk.bI (fun I5 => ?_)
          refine PWk.aload_n 0 dX0_collect_42 rfl ?_
          refine PWk.gets dX0_collect_43 rg_34 lc_34 fl_X0_15 rfl st_34_1 ?_
          refine PWk.aload_n 0 dX0_collect_46 rfl ?_
          refine PWk.geti dX0_collect_47 rg_34 lc_34 fl_X0_33 rfl ?_
          refine PWk.iload_n 3 dX0_collect_50 rfl ?_
          refine PWk.jn (pc' := 70) (lv' := fun y10 => [(0, .ref 34), (1, .ref b1), (2, .int u2), (3, .int u3), (4, .int u4)]) (st' := fun y10 => [.int y10.1, .int (I5 34 2), .ref 36]) (I' := fun y10 => y10.2) (L' := fun y10 => L) (R' := fun y10 => R) (fun j6 hj6 => ?_) (fun y10 => ?_)
          · refine PWk.if_eq 63 dX0_collect_51 (by decide) (fun h9 => ?_) (fun h9 => ?_)
            · refine PWk.aload_n 1 dX0_collect_63 rfl ?_
              refine PWk.gets dX0_collect_64 (rgSc_0 hb1) (lcSc hb1) fl_X0_55 rfl (stSc_2 hb1) ?_
              refine PWk.iload 4 dX0_collect_67 rfl ?_
              refine PWk.iald dX0_collect_69 (rgSc_1 hb1) (lySc_1 hb1) (fun v7 => ?_)
              exact hj6 (v7, I5)
            · refine PWk.aload_n 1 dX0_collect_54 rfl ?_
              refine PWk.iload 4 dX0_collect_55 rfl ?_
              refine PWk.callViI (pc_X9_worthOf fu I5 L R b1 hb1 u4) dX0_collect_57 ml_X0_51 rfl (rgSc_0 hb1) (lcSc hb1) vq_9 (by decide) rfl (Nat.le_of_ble_eq_true rfl) (fun x8 => ?_)
              refine PWk.goto 70 dX0_collect_60 (by decide) ?_
              exact hj6 (x8.1, x8.2)
          · refine PWk.iast dX0_collect_70 rg_36 ly_36 ?_
            refine PWk.bI (fun I11 => ?_)
            refine PWk.aload_n 0 dX0_collect_71 rfl ?_
            refine PWk.dup dX0_collect_72 rfl ?_
            refine PWk.geti dX0_collect_73 rg_34 lc_34 fl_X0_33 rfl ?_
            refine PWk.iconst (v := 1) dX0_collect_76 ic_1 ?_
            refine PWk.iadd dX0_collect_77 ?_
            refine PWk.puti dX0_collect_78 rg_34 lc_34 fl_X0_33 fp_0_2 rfl ?_
            refine PWk.bI (fun I12 => ?_)
            exact hj4 I12
        · exact hj4 I
      · refine PWk.iinc (v := (u4 + 1)) 4 [(4, .int (u4 + 1)), (0, .ref 34), (1, .ref b1), (2, .int u2), (3, .int u3)] dX0_collect_81 rfl (by rw [ic_1]) (by decide) rfl ?_
        refine PWk.goto 8 dX0_collect_84 (by decide) ?_
        refine PWk.sub [1, 2, 3, 4, 0] rfl ?_
        exact ih (u4 + 1) y14 N F hx
set_option maxRecDepth 20000 in
theorem pc_X0_collect (fu : Nat) (I : HI) (L : HL) (R : HR) (a1 : Nat) (hy_a1 : isSc a1) (p2 : Int32) (p3 : Int32) : PCo 1 93 5 yX0_collect cX0_collect 5 none [.ref 34, .ref a1, .int p2, .int p3] I L R (f_X0_collect fu I R a1 p2 p3) (fun x : HI => ((none, x, L, R) : HF)) := by
  refine PCo.of (own := RX0) (by decide +kernel) (Nat.le_of_ble_eq_true rfl) rfl rfl (fun F => ?_)
  unfold f_X0_collect
  refine PWk.aload_n 0 dX0_collect_0 rfl ?_
  refine PWk.iconst (v := 0) dX0_collect_1 ic_0 ?_
  refine PWk.puti dX0_collect_2 rg_34 lc_34 fl_X0_33 fp_0_2 rfl ?_
  refine PWk.bI (fun I1 => ?_)
  refine PWk.iconst (v := 0) dX0_collect_5 ic_0 ?_
  refine PWk.istore [(4, .int 0), (0, .ref 34), (1, .ref a1), (2, .int p2), (3, .int p3)] dX0_collect_6 (by decide) rfl ?_
  refine PWk.sub [1, 2, 3, 4, 0] rfl ?_
  refine PWk.loopV (fun N' hx' => lp_X0_collect_8 fu a1 hy_a1 p2 p3 L R fu 0 I1 N' F hx') (fun x16 => ?_)
  exact PWk.vret dX0_collect_87 rfl (fun h => h)
/-! LakeMarket$Chooser.sumUp()V -/
def f_X0_sumUp_L23 : Nat → HI → Int32 → Int32 → Int32 → Option (HI)
  | 0, _, _, _, _ => none
  | n + 1, I, u1, u2, u3 =>
    if (2 * u2) ≤ u3 then
      some I
    else
      ldI (I 37) 256 (u3 - u2) fun v3 =>
      ldI (I 36) 8 u1 fun v4 =>
      inb 256 u3 <|
      bnd (sI I 37 (u3 : Int32).toNatClampNeg (v3 + v4)) fun I5 =>
      f_X0_sumUp_L23 n I5 u1 u2 (u3 + 1)
def f_X0_sumUp_L9 (fu : Nat) : Nat → HI → Int32 → Option (HI)
  | 0, _, _ => none
  | n + 1, I, u1 =>
    if (I 34 2) ≤ u1 then
      some I
    else
      bnd (((1 : Int32) <<< (u1 &&& 31))) fun v2 =>
      (f_X0_sumUp_L23 fu I u1 v2 v2).bind fun x7 =>
      f_X0_sumUp_L9 fu n x7 (u1 + 1)
def f_X0_sumUp (fu : Nat) (I : HI) : Option (HI) :=
  inb 256 0 <|
  bnd (sI I 37 (0 : Int32).toNatClampNeg 0) fun I1 =>
  (f_X0_sumUp_L9 fu fu I1 0).bind fun x9 =>
  some x9
set_option maxRecDepth 20000 in
theorem lp_X0_sumUp_23 (fu : Nat) (u1 : Int32) (u2 : Int32) (L : HL) (R : HR) : ∀ (n : Nat) (u3 : Int32) (I : HI) (N : (HI) → Prop) (F : HF), (∀ v : HI, N v → PW 1 93 0 RX0 cX0_sumUp 4 none 57 [(0, .ref 34), (1, .int u1)] [] v L R F) → PWk 1 93 0 RX0 cX0_sumUp 4 none 23 [(0, .ref 34), (1, .int u1), (2, .int u2), (3, .int u3)] [] I L R (f_X0_sumUp_L23 n I u1 u2 u3) N F := by
  intro n
  induction n with
  | zero => intro u3 I N F hx; exact PWk.none'
  | succ n ih =>
    intro u3 I N F hx
    unfold f_X0_sumUp_L23
    refine PWk.iload_n 3 dX0_sumUp_23 rfl ?_
    refine PWk.iconst (v := 2) dX0_sumUp_24 ic_2 ?_
    refine PWk.iload_n 2 dX0_sumUp_25 rfl ?_
    refine PWk.imul dX0_sumUp_26 ?_
    refine PWk.icmp_ge 57 dX0_sumUp_27 (by decide) (fun h6 => ?_) (fun h6 => ?_)
    · refine PWk.sub [0, 1] rfl ?_
      exact PWk.done (fun h => hx _ h)
    · refine PWk.aload_n 0 dX0_sumUp_30 rfl ?_
      refine PWk.gets dX0_sumUp_31 rg_34 lc_34 fl_X0_18 rfl st_34_3 ?_
      refine PWk.iload_n 3 dX0_sumUp_34 rfl ?_
      refine PWk.aload_n 0 dX0_sumUp_35 rfl ?_
      refine PWk.gets dX0_sumUp_36 rg_34 lc_34 fl_X0_18 rfl st_34_3 ?_
      refine PWk.iload_n 3 dX0_sumUp_39 rfl ?_
      refine PWk.iload_n 2 dX0_sumUp_40 rfl ?_
      refine PWk.isub dX0_sumUp_41 ?_
      refine PWk.iald dX0_sumUp_42 rg_37 ly_37 (fun v3 => ?_)
      refine PWk.aload_n 0 dX0_sumUp_43 rfl ?_
      refine PWk.gets dX0_sumUp_44 rg_34 lc_34 fl_X0_15 rfl st_34_1 ?_
      refine PWk.iload_n 1 dX0_sumUp_47 rfl ?_
      refine PWk.iald dX0_sumUp_48 rg_36 ly_36 (fun v4 => ?_)
      refine PWk.iadd dX0_sumUp_49 ?_
      refine PWk.iast dX0_sumUp_50 rg_37 ly_37 ?_
      refine PWk.bI (fun I5 => ?_)
      refine PWk.iinc (v := (u3 + 1)) 3 [(3, .int (u3 + 1)), (0, .ref 34), (1, .int u1), (2, .int u2)] dX0_sumUp_51 rfl (by rw [ic_1]) (by decide) rfl ?_
      refine PWk.goto 23 dX0_sumUp_54 (by decide) ?_
      refine PWk.sub [1, 2, 3, 0] rfl ?_
      exact ih (u3 + 1) I5 N F hx
set_option maxRecDepth 20000 in
theorem lp_X0_sumUp_9 (fu : Nat) (L : HL) (R : HR) : ∀ (n : Nat) (u1 : Int32) (I : HI) (N : (HI) → Prop) (F : HF), (∀ v : HI, N v → PW 1 93 0 RX0 cX0_sumUp 4 none 63 [] [] v L R F) → PWk 1 93 0 RX0 cX0_sumUp 4 none 9 [(0, .ref 34), (1, .int u1)] [] I L R (f_X0_sumUp_L9 fu n I u1) N F := by
  intro n
  induction n with
  | zero => intro u1 I N F hx; exact PWk.none'
  | succ n ih =>
    intro u1 I N F hx
    unfold f_X0_sumUp_L9
    refine PWk.iload_n 1 dX0_sumUp_9 rfl ?_
    refine PWk.aload_n 0 dX0_sumUp_10 rfl ?_
    refine PWk.geti dX0_sumUp_11 rg_34 lc_34 fl_X0_33 rfl ?_
    refine PWk.icmp_ge 63 dX0_sumUp_14 (by decide) (fun h8 => ?_) (fun h8 => ?_)
    · refine PWk.sub [] rfl ?_
      exact PWk.done (fun h => hx _ h)
    · refine PWk.iconst (v := 1) dX0_sumUp_17 ic_1 ?_
      refine PWk.iload_n 1 dX0_sumUp_18 rfl ?_
      refine PWk.ishl dX0_sumUp_19 ?_
      refine PWk.bi (fun v2 => ?_)
      refine PWk.istore_n [(2, .int v2), (0, .ref 34), (1, .int u1)] dX0_sumUp_20 (by decide) rfl ?_
      refine PWk.iload_n 0 dX0_sumUp_21 rfl ?_
      refine PWk.istore_n [(3, .int v2), (2, .int v2), (0, .ref 34), (1, .int u1)] dX0_sumUp_22 (by decide) rfl ?_
      refine PWk.sub [2, 3, 1, 0] rfl ?_
      refine PWk.loopV (fun N' hx' => lp_X0_sumUp_23 fu u1 v2 L R fu v2 I N' F hx') (fun x7 => ?_)
      refine PWk.iinc (v := (u1 + 1)) 1 [(1, .int (u1 + 1)), (0, .ref 34)] dX0_sumUp_57 rfl (by rw [ic_1]) (by decide) rfl ?_
      refine PWk.goto 9 dX0_sumUp_60 (by decide) ?_
      refine PWk.sub [1, 0] rfl ?_
      exact ih (u1 + 1) x7 N F hx
set_option maxRecDepth 20000 in
theorem pc_X0_sumUp (fu : Nat) (I : HI) (L : HL) (R : HR) : PCo 1 93 0 yX0_sumUp cX0_sumUp 4 none [.ref 34] I L R (f_X0_sumUp fu I) (fun x : HI => ((none, x, L, R) : HF)) := by
  refine PCo.of (own := RX0) (by decide +kernel) (Nat.le_of_ble_eq_true rfl) rfl rfl (fun F => ?_)
  unfold f_X0_sumUp
  refine PWk.aload_n 0 dX0_sumUp_0 rfl ?_
  refine PWk.gets dX0_sumUp_1 rg_34 lc_34 fl_X0_18 rfl st_34_3 ?_
  refine PWk.iconst (v := 0) dX0_sumUp_4 ic_0 ?_
  refine PWk.iconst (v := 0) dX0_sumUp_5 ic_0 ?_
  refine PWk.iast dX0_sumUp_6 rg_37 ly_37 ?_
  refine PWk.bI (fun I1 => ?_)
  refine PWk.iconst (v := 0) dX0_sumUp_7 ic_0 ?_
  refine PWk.istore_n [(1, .int 0), (0, .ref 34)] dX0_sumUp_8 (by decide) rfl ?_
  refine PWk.sub [1, 0] rfl ?_
  refine PWk.loopV (fun N' hx' => lp_X0_sumUp_9 fu L R fu 0 I1 N' F hx') (fun x9 => ?_)
  exact PWk.vret dX0_sumUp_63 rfl (fun h => h)
/-! LakeMarket$Chooser.lakeBits(I)I -/
def f_X0_lakeBits_L4 : Nat → HI → Int32 → Int32 → Int32 → Option (Int32)
  | 0, _, _, _, _ => none
  | n + 1, I, u1, u2, u3 =>
    if (I 34 2) ≤ u3 then
      some u2
    else
      jnt (β := Int32) (fun y5 =>
        f_X0_lakeBits_L4 n I u1 y5 (u3 + 1)) fun j1 =>
      if (u1 &&& ((1 : Int32) <<< (u3 &&& 31))) = 0 then
        j1 u2
      else
        ldI (I 35) 8 u3 fun v2 =>
        bnd ((u2 ||| ((1 : Int32) <<< (v2 &&& 31)))) fun v3 =>
        j1 v3
def f_X0_lakeBits (fu : Nat) (I : HI) (p1 : Int32) : Option (Int32) :=
  (f_X0_lakeBits_L4 fu I p1 0 0).bind fun x7 =>
  some x7
set_option maxRecDepth 20000 in
theorem lp_X0_lakeBits_4 (fu : Nat) (u1 : Int32) (I : HI) (L : HL) (R : HR) : ∀ (n : Nat) (u2 : Int32) (u3 : Int32) (N : (Int32) → Prop) (F : HF), (∀ v : Int32, N v → PW 1 93 0 RX0 cX0_lakeBits 4 (some .int) 37 [(2, .int v)] [] I L R F) → PWk 1 93 0 RX0 cX0_lakeBits 4 (some .int) 4 [(0, .ref 34), (1, .int u1), (2, .int u2), (3, .int u3)] [] I L R (f_X0_lakeBits_L4 n I u1 u2 u3) N F := by
  intro n
  induction n with
  | zero => intro u2 u3 N F hx; exact PWk.none'
  | succ n ih =>
    intro u2 u3 N F hx
    unfold f_X0_lakeBits_L4
    refine PWk.iload_n 3 dX0_lakeBits_4 rfl ?_
    refine PWk.aload_n 0 dX0_lakeBits_5 rfl ?_
    refine PWk.geti dX0_lakeBits_6 rg_34 lc_34 fl_X0_33 rfl ?_
    refine PWk.icmp_ge 37 dX0_lakeBits_9 (by decide) (fun h6 => ?_) (fun h6 => ?_)
    · refine PWk.sub [2] rfl ?_
      exact PWk.done (fun h => hx _ h)
    · refine PWk.iload_n 1 dX0_lakeBits_12 rfl ?_
      refine PWk.iconst (v := 1) dX0_lakeBits_13 ic_1 ?_
      refine PWk.iload_n 3 dX0_lakeBits_14 rfl ?_
      refine PWk.ishl dX0_lakeBits_15 ?_
      refine PWk.iand dX0_lakeBits_16 ?_
      refine PWk.jn (pc' := 31) (lv' := fun y5 => [(0, .ref 34), (1, .int u1), (2, .int y5), (3, .int u3)]) (st' := fun y5 => []) (I' := fun y5 => I) (L' := fun y5 => L) (R' := fun y5 => R) (fun j1 hj1 => ?_) (fun y5 => ?_)
      · refine PWk.if_eq 31 dX0_lakeBits_17 (by decide) (fun h4 => ?_) (fun h4 => ?_)
        · exact hj1 u2
        · refine PWk.iload_n 2 dX0_lakeBits_20 rfl ?_
          refine PWk.iconst (v := 1) dX0_lakeBits_21 ic_1 ?_
          refine PWk.aload_n 0 dX0_lakeBits_22 rfl ?_
          refine PWk.gets dX0_lakeBits_23 rg_34 lc_34 fl_X0_9 rfl st_34_0 ?_
          refine PWk.iload_n 3 dX0_lakeBits_26 rfl ?_
          refine PWk.iald dX0_lakeBits_27 rg_35 ly_35 (fun v2 => ?_)
          refine PWk.ishl dX0_lakeBits_28 ?_
          refine PWk.ior dX0_lakeBits_29 ?_
          refine PWk.bi (fun v3 => ?_)
          refine PWk.istore_n [(2, .int v3), (0, .ref 34), (1, .int u1), (3, .int u3)] dX0_lakeBits_30 (by decide) rfl ?_
          refine PWk.sub [1, 2, 0, 3] rfl ?_
          exact hj1 v3
      · refine PWk.iinc (v := (u3 + 1)) 3 [(3, .int (u3 + 1)), (0, .ref 34), (1, .int u1), (2, .int y5)] dX0_lakeBits_31 rfl (by rw [ic_1]) (by decide) rfl ?_
        refine PWk.goto 4 dX0_lakeBits_34 (by decide) ?_
        refine PWk.sub [1, 2, 3, 0] rfl ?_
        exact ih y5 (u3 + 1) N F hx
set_option maxRecDepth 20000 in
theorem pc_X0_lakeBits (fu : Nat) (I : HI) (L : HL) (R : HR) (p1 : Int32) : PCo 1 93 0 yX0_lakeBits cX0_lakeBits 4 (some .int) [.ref 34, .int p1] I L R (f_X0_lakeBits fu I p1) (fun x : Int32 => ((some (.int x), I, L, R) : HF)) := by
  refine PCo.of (own := RX0) (by decide +kernel) (Nat.le_of_ble_eq_true rfl) rfl rfl (fun F => ?_)
  unfold f_X0_lakeBits
  refine PWk.iconst (v := 0) dX0_lakeBits_0 ic_0 ?_
  refine PWk.istore_n [(2, .int 0), (0, .ref 34), (1, .int p1)] dX0_lakeBits_1 (by decide) rfl ?_
  refine PWk.iconst (v := 0) dX0_lakeBits_2 ic_0 ?_
  refine PWk.istore_n [(3, .int 0), (2, .int 0), (0, .ref 34), (1, .int p1)] dX0_lakeBits_3 (by decide) rfl ?_
  refine PWk.sub [2, 3, 1, 0] rfl ?_
  refine PWk.loopV (fun N' hx' => lp_X0_lakeBits_4 fu p1 I L R fu 0 0 N' F hx') (fun x7 => ?_)
  refine PWk.iload_n 0 dX0_lakeBits_37 rfl ?_
  exact PWk.iret dX0_lakeBits_38 rfl (fun h => h)
/-! LakeMarket$Chooser.paysBetter(II)Z -/
def f_X0_paysBetter (I : HI) (p1 : Int32) (p2 : Int32) : Option (Int32) :=
  ldI (I 37) 256 p1 fun v1 =>
  ldI (I 37) 256 p2 fun v2 =>
  if v1 = v2 then
    (f_J6_bitCount_0f7a4 p1).bind fun x3 =>
    (f_J6_bitCount_0f7a4 p2).bind fun x4 =>
    if x4 ≤ x3 then
      gz 0 (some 0)
    else
      gz 1 (some 1)
  else
    ldI (I 37) 256 p1 fun v6 =>
    ldI (I 37) 256 p2 fun v7 =>
    if v7 ≤ v6 then
      gz 0 (some 0)
    else
      gz 1 (some 1)
set_option maxRecDepth 20000 in
theorem pc_X0_paysBetter (I : HI) (L : HL) (R : HR) (p1 : Int32) (p2 : Int32) : PCo 1 93 1 yX0_paysBetter cX0_paysBetter 3 (some .boolean) [.ref 34, .int p1, .int p2] I L R (f_X0_paysBetter I p1 p2) (fun x : Int32 => ((some (.int x), I, L, R) : HF)) := by
  refine PCo.of (own := RX0) (by decide +kernel) (Nat.le_of_ble_eq_true rfl) rfl rfl (fun F => ?_)
  unfold f_X0_paysBetter
  refine PWk.aload_n 0 dX0_paysBetter_0 rfl ?_
  refine PWk.gets dX0_paysBetter_1 rg_34 lc_34 fl_X0_18 rfl st_34_3 ?_
  refine PWk.iload_n 1 dX0_paysBetter_4 rfl ?_
  refine PWk.iald dX0_paysBetter_5 rg_37 ly_37 (fun v1 => ?_)
  refine PWk.aload_n 0 dX0_paysBetter_6 rfl ?_
  refine PWk.gets dX0_paysBetter_7 rg_34 lc_34 fl_X0_18 rfl st_34_3 ?_
  refine PWk.iload_n 2 dX0_paysBetter_10 rfl ?_
  refine PWk.iald dX0_paysBetter_11 rg_37 ly_37 (fun v2 => ?_)
  refine PWk.icmp_eq 36 dX0_paysBetter_12 (by decide) (fun h9 => ?_) (fun h9 => ?_)
  · refine PWk.iload_n 1 dX0_paysBetter_36 rfl ?_
    refine PWk.callSi (pc_J6_bitCount_0f7a4 I L R p1) dX0_paysBetter_37 ml_X0_75 rfl (by decide) rfl (Nat.le_of_ble_eq_true rfl) (fun x3 => ?_)
    refine PWk.iload_n 2 dX0_paysBetter_40 rfl ?_
    refine PWk.callSi (pc_J6_bitCount_0f7a4 I L R p2) dX0_paysBetter_41 ml_X0_75 rfl (by decide) rfl (Nat.le_of_ble_eq_true rfl) (fun x4 => ?_)
    refine PWk.icmp_ge 51 dX0_paysBetter_44 (by decide) (fun h5 => ?_) (fun h5 => ?_)
    · refine PWk.iconst (v := 0) dX0_paysBetter_51 ic_0 ?_
      exact PWk.zret dX0_paysBetter_52 rfl (fun h => h)
    · refine PWk.iconst (v := 1) dX0_paysBetter_47 ic_1 ?_
      refine PWk.goto 52 dX0_paysBetter_48 (by decide) ?_
      exact PWk.zret dX0_paysBetter_52 rfl (fun h => h)
  · refine PWk.aload_n 0 dX0_paysBetter_15 rfl ?_
    refine PWk.gets dX0_paysBetter_16 rg_34 lc_34 fl_X0_18 rfl st_34_3 ?_
    refine PWk.iload_n 1 dX0_paysBetter_19 rfl ?_
    refine PWk.iald dX0_paysBetter_20 rg_37 ly_37 (fun v6 => ?_)
    refine PWk.aload_n 0 dX0_paysBetter_21 rfl ?_
    refine PWk.gets dX0_paysBetter_22 rg_34 lc_34 fl_X0_18 rfl st_34_3 ?_
    refine PWk.iload_n 2 dX0_paysBetter_25 rfl ?_
    refine PWk.iald dX0_paysBetter_26 rg_37 ly_37 (fun v7 => ?_)
    refine PWk.icmp_ge 34 dX0_paysBetter_27 (by decide) (fun h8 => ?_) (fun h8 => ?_)
    · refine PWk.iconst (v := 0) dX0_paysBetter_34 ic_0 ?_
      exact PWk.zret dX0_paysBetter_35 rfl (fun h => h)
    · refine PWk.iconst (v := 1) dX0_paysBetter_30 ic_1 ?_
      refine PWk.goto 35 dX0_paysBetter_31 (by decide) ?_
      exact PWk.zret dX0_paysBetter_35 rfl (fun h => h)
/-! LakeMarket$Chooser.roomWithout(LLakeMarket$Scene;I)I -/
def f_X0_roomWithout_L9 : Nat → HI → Nat → Int32 → Int32 → Int32 → Option (Int32)
  | 0, _, _, _, _, _ => none
  | n + 1, I, b1, u2, u3, u4 =>
    if (I 34 2) ≤ u4 then
      some u3
    else
      ldI (I 35) 8 u4 fun v2 =>
      ldI (I (b1 + 2)) 8 v2 fun v3 =>
      jnt (β := Int32) (fun y8 =>
        f_X0_roomWithout_L9 n I b1 u2 y8 (u4 + 1)) fun j4 =>
      if v3 = u2 then
        ldI (I 36) 8 u4 fun v5 =>
        bnd ((u3 + v5)) fun v6 =>
        j4 v6
      else
        j4 u3
def f_X0_roomWithout (fu : Nat) (I : HI) (R : HR) (a1 : Nat) (p2 : Int32) : Option (Int32) :=
  (f_X9_roomIn fu I R a1 p2).bind fun x1 =>
  (f_X0_roomWithout_L9 fu I a1 p2 x1 0).bind fun x10 =>
  some x10
set_option maxRecDepth 20000 in
theorem lp_X0_roomWithout_9 (fu : Nat) (b1 : Nat) (hb1 : isSc b1) (u2 : Int32) (I : HI) (L : HL) (R : HR) : ∀ (n : Nat) (u3 : Int32) (u4 : Int32) (N : (Int32) → Prop) (F : HF), (∀ v : Int32, N v → PW 1 93 1 RX0 cX0_roomWithout 5 (some .int) 50 [(3, .int v)] [] I L R F) → PWk 1 93 1 RX0 cX0_roomWithout 5 (some .int) 9 [(0, .ref 34), (1, .ref b1), (2, .int u2), (3, .int u3), (4, .int u4)] [] I L R (f_X0_roomWithout_L9 n I b1 u2 u3 u4) N F := by
  intro n
  induction n with
  | zero => intro u3 u4 N F hx; exact PWk.none'
  | succ n ih =>
    intro u3 u4 N F hx
    unfold f_X0_roomWithout_L9
    refine PWk.iload 4 dX0_roomWithout_9 rfl ?_
    refine PWk.aload_n 0 dX0_roomWithout_11 rfl ?_
    refine PWk.geti dX0_roomWithout_12 rg_34 lc_34 fl_X0_33 rfl ?_
    refine PWk.icmp_ge 50 dX0_roomWithout_15 (by decide) (fun h9 => ?_) (fun h9 => ?_)
    · refine PWk.sub [3] rfl ?_
      exact PWk.done (fun h => hx _ h)
    · refine PWk.aload_n 1 dX0_roomWithout_18 rfl ?_
      refine PWk.gets dX0_roomWithout_19 (rgSc_0 hb1) (lcSc hb1) fl_X0_101 rfl (stSc_3 hb1) ?_
      refine PWk.aload_n 0 dX0_roomWithout_22 rfl ?_
      refine PWk.gets dX0_roomWithout_23 rg_34 lc_34 fl_X0_9 rfl st_34_0 ?_
      refine PWk.iload 4 dX0_roomWithout_26 rfl ?_
      refine PWk.iald dX0_roomWithout_28 rg_35 ly_35 (fun v2 => ?_)
      refine PWk.iald dX0_roomWithout_29 (rgSc_2 hb1) (lySc_2 hb1) (fun v3 => ?_)
      refine PWk.iload_n 2 dX0_roomWithout_30 rfl ?_
      refine PWk.jn (pc' := 44) (lv' := fun y8 => [(0, .ref 34), (1, .ref b1), (2, .int u2), (3, .int y8), (4, .int u4)]) (st' := fun y8 => []) (I' := fun y8 => I) (L' := fun y8 => L) (R' := fun y8 => R) (fun j4 hj4 => ?_) (fun y8 => ?_)
      · refine PWk.icmp_ne 44 dX0_roomWithout_31 (by decide) (fun h7 => ?_) (fun h7 => ?_)
        · refine PWk.iload_n 3 dX0_roomWithout_34 rfl ?_
          refine PWk.aload_n 0 dX0_roomWithout_35 rfl ?_
          refine PWk.gets dX0_roomWithout_36 rg_34 lc_34 fl_X0_15 rfl st_34_1 ?_
          refine PWk.iload 4 dX0_roomWithout_39 rfl ?_
          refine PWk.iald dX0_roomWithout_41 rg_36 ly_36 (fun v5 => ?_)
          refine PWk.iadd dX0_roomWithout_42 ?_
          refine PWk.bi (fun v6 => ?_)
          refine PWk.istore_n [(3, .int v6), (0, .ref 34), (1, .ref b1), (2, .int u2), (4, .int u4)] dX0_roomWithout_43 (by decide) rfl ?_
          refine PWk.sub [1, 2, 3, 0, 4] rfl ?_
          exact hj4 v6
        · exact hj4 u3
      · refine PWk.iinc (v := (u4 + 1)) 4 [(4, .int (u4 + 1)), (0, .ref 34), (1, .ref b1), (2, .int u2), (3, .int y8)] dX0_roomWithout_44 rfl (by rw [ic_1]) (by decide) rfl ?_
        refine PWk.goto 9 dX0_roomWithout_47 (by decide) ?_
        refine PWk.sub [1, 2, 3, 4, 0] rfl ?_
        exact ih y8 (u4 + 1) N F hx
set_option maxRecDepth 20000 in
theorem pc_X0_roomWithout (fu : Nat) (I : HI) (L : HL) (R : HR) (a1 : Nat) (hy_a1 : isSc a1) (p2 : Int32) : PCo 1 93 1 yX0_roomWithout cX0_roomWithout 5 (some .int) [.ref 34, .ref a1, .int p2] I L R (f_X0_roomWithout fu I R a1 p2) (fun x : Int32 => ((some (.int x), I, L, R) : HF)) := by
  refine PCo.of (own := RX0) (by decide +kernel) (Nat.le_of_ble_eq_true rfl) rfl rfl (fun F => ?_)
  unfold f_X0_roomWithout
  refine PWk.aload_n 1 dX0_roomWithout_0 rfl ?_
  refine PWk.iload_n 2 dX0_roomWithout_1 rfl ?_
  refine PWk.callVi (pc_X9_roomIn fu I L R a1 hy_a1 p2) dX0_roomWithout_2 ml_X0_98 rfl (rgSc_0 hy_a1) (lcSc hy_a1) vq_9 (by decide) rfl (Nat.le_of_ble_eq_true rfl) (fun x1 => ?_)
  refine PWk.istore_n [(3, .int x1), (0, .ref 34), (1, .ref a1), (2, .int p2)] dX0_roomWithout_5 (by decide) rfl ?_
  refine PWk.iconst (v := 0) dX0_roomWithout_6 ic_0 ?_
  refine PWk.istore [(4, .int 0), (3, .int x1), (0, .ref 34), (1, .ref a1), (2, .int p2)] dX0_roomWithout_7 (by decide) rfl ?_
  refine PWk.sub [2, 3, 4, 1, 0] rfl ?_
  refine PWk.loopV (fun N' hx' => lp_X0_roomWithout_9 fu a1 hy_a1 p2 I L R fu x1 0 N' F hx') (fun x10 => ?_)
  refine PWk.iload_n 0 dX0_roomWithout_50 rfl ?_
  exact PWk.iret dX0_roomWithout_51 rfl (fun h => h)
/-! LakeMarket$Chooser.packInto(III)V -/
def f_X0_packInto_L12 : Nat → HI → Int32 → Int32 → Int32 → Int32 → Option (HI)
  | 0, _, _, _, _, _ => none
  | n + 1, I, u1, u2, u4, u5 =>
    if u5 ≤ 0 then
      some I
    else
      ldI (I 37) 256 u5 fun v1 =>
      jnt (β := HI) (fun y8 =>
        bnd (((u5 - 1) &&& u4)) fun v9 =>
        f_X0_packInto_L12 n y8 u1 u2 u4 v9) fun j2 =>
      if u2 < v1 then
        j2 I
      else
        ldI (I 38) 256 u4 fun v3 =>
        ldI (I 38) 256 (u4 ^^^ u5) fun v4 =>
        (f_J9_min_7cf53 v3 (v4 + u1)).bind fun x5 =>
        inb 256 u4 <|
        bnd (sI I 38 (u4 : Int32).toNatClampNeg x5) fun I6 =>
        j2 I6
def f_X0_packInto_L3 (fu : Nat) : Nat → HI → Int32 → Int32 → Int32 → Option (HI)
  | 0, _, _, _, _ => none
  | n + 1, I, u1, u2, u4 =>
    if u4 ≤ 0 then
      some I
    else
      (f_X0_packInto_L12 fu I u1 u2 u4 u4).bind fun x11 =>
      f_X0_packInto_L3 fu n x11 u1 u2 (u4 + (-1))
def f_X0_packInto (fu : Nat) (I : HI) (p1 : Int32) (p2 : Int32) (p3 : Int32) : Option (HI) :=
  (f_X0_packInto_L3 fu fu I p1 p2 p3).bind fun x13 =>
  some x13
set_option maxRecDepth 20000 in
theorem lp_X0_packInto_12 (fu : Nat) (u1 : Int32) (u2 : Int32) (u4 : Int32) (L : HL) (R : HR) : ∀ (n : Nat) (u5 : Int32) (I : HI) (N : (HI) → Prop) (F : HF), (∀ v : HI, N v → PW 1 93 1 RX0 cX0_packInto 6 none 69 [(0, .ref 34), (1, .int u1), (2, .int u2), (4, .int u4)] [] v L R F) → PWk 1 93 1 RX0 cX0_packInto 6 none 12 [(0, .ref 34), (1, .int u1), (2, .int u2), (4, .int u4), (5, .int u5)] [] I L R (f_X0_packInto_L12 n I u1 u2 u4 u5) N F := by
  intro n
  induction n with
  | zero => intro u5 I N F hx; exact PWk.none'
  | succ n ih =>
    intro u5 I N F hx
    unfold f_X0_packInto_L12
    refine PWk.iload 4 dX0_packInto_12 rfl ?_
    refine PWk.if_le 69 dX0_packInto_14 (by decide) (fun h10 => ?_) (fun h10 => ?_)
    · refine PWk.sub [0, 1, 2, 3] rfl ?_
      exact PWk.done (fun h => hx _ h)
    · refine PWk.aload_n 0 dX0_packInto_17 rfl ?_
      refine PWk.gets dX0_packInto_18 rg_34 lc_34 fl_X0_18 rfl st_34_3 ?_
      refine PWk.iload 4 dX0_packInto_21 rfl ?_
      refine PWk.iald dX0_packInto_23 rg_37 ly_37 (fun v1 => ?_)
      refine PWk.iload_n 2 dX0_packInto_24 rfl ?_
      refine PWk.jn (pc' := 57) (lv' := fun y8 => [(0, .ref 34), (1, .int u1), (2, .int u2), (4, .int u4), (5, .int u5)]) (st' := fun y8 => []) (I' := fun y8 => y8) (L' := fun y8 => L) (R' := fun y8 => R) (fun j2 hj2 => ?_) (fun y8 => ?_)
      · refine PWk.icmp_gt 57 dX0_packInto_25 (by decide) (fun h7 => ?_) (fun h7 => ?_)
        · exact hj2 I
        · refine PWk.aload_n 0 dX0_packInto_28 rfl ?_
          refine PWk.gets dX0_packInto_29 rg_34 lc_34 fl_X0_21 rfl st_34_4 ?_
          refine PWk.iload 3 dX0_packInto_32 rfl ?_
          refine PWk.aload_n 0 dX0_packInto_34 rfl ?_
          refine PWk.gets dX0_packInto_35 rg_34 lc_34 fl_X0_21 rfl st_34_4 ?_
          refine PWk.iload 3 dX0_packInto_38 rfl ?_
          refine PWk.iald dX0_packInto_40 rg_38 ly_38 (fun v3 => ?_)
          refine PWk.aload_n 0 dX0_packInto_41 rfl ?_
          refine PWk.gets dX0_packInto_42 rg_34 lc_34 fl_X0_21 rfl st_34_4 ?_
          refine PWk.iload 3 dX0_packInto_45 rfl ?_
          refine PWk.iload 4 dX0_packInto_47 rfl ?_
          refine PWk.ixor dX0_packInto_49 ?_
          refine PWk.iald dX0_packInto_50 rg_38 ly_38 (fun v4 => ?_)
          refine PWk.iload_n 1 dX0_packInto_51 rfl ?_
          refine PWk.iadd dX0_packInto_52 ?_
          refine PWk.callSi (pc_J9_min_7cf53 I L R v3 (v4 + u1)) dX0_packInto_53 ml_X0_104 rfl (by decide) rfl (Nat.le_of_ble_eq_true rfl) (fun x5 => ?_)
          refine PWk.iast dX0_packInto_56 rg_38 ly_38 ?_
          refine PWk.bI (fun I6 => ?_)
          exact hj2 I6
      · refine PWk.iload 4 dX0_packInto_57 rfl ?_
        refine PWk.iconst (v := 1) dX0_packInto_59 ic_1 ?_
        refine PWk.isub dX0_packInto_60 ?_
        refine PWk.iload 3 dX0_packInto_61 rfl ?_
        refine PWk.iand dX0_packInto_63 ?_
        refine PWk.bi (fun v9 => ?_)
        refine PWk.istore [(5, .int v9), (0, .ref 34), (1, .int u1), (2, .int u2), (4, .int u4)] dX0_packInto_64 (by decide) rfl ?_
        refine PWk.goto 12 dX0_packInto_66 (by decide) ?_
        refine PWk.sub [1, 2, 3, 4, 0] rfl ?_
        exact ih v9 y8 N F hx
set_option maxRecDepth 20000 in
theorem lp_X0_packInto_3 (fu : Nat) (u1 : Int32) (u2 : Int32) (L : HL) (R : HR) : ∀ (n : Nat) (u4 : Int32) (I : HI) (N : (HI) → Prop) (F : HF), (∀ v : HI, N v → PW 1 93 1 RX0 cX0_packInto 6 none 75 [] [] v L R F) → PWk 1 93 1 RX0 cX0_packInto 6 none 3 [(0, .ref 34), (1, .int u1), (2, .int u2), (4, .int u4)] [] I L R (f_X0_packInto_L3 fu n I u1 u2 u4) N F := by
  intro n
  induction n with
  | zero => intro u4 I N F hx; exact PWk.none'
  | succ n ih =>
    intro u4 I N F hx
    unfold f_X0_packInto_L3
    refine PWk.iload 3 dX0_packInto_3 rfl ?_
    refine PWk.if_le 75 dX0_packInto_5 (by decide) (fun h12 => ?_) (fun h12 => ?_)
    · refine PWk.sub [] rfl ?_
      exact PWk.done (fun h => hx _ h)
    · refine PWk.iload 3 dX0_packInto_8 rfl ?_
      refine PWk.istore [(5, .int u4), (0, .ref 34), (1, .int u1), (2, .int u2), (4, .int u4)] dX0_packInto_10 (by decide) rfl ?_
      refine PWk.sub [1, 2, 3, 4, 0] rfl ?_
      refine PWk.loopV (fun N' hx' => lp_X0_packInto_12 fu u1 u2 u4 L R fu u4 I N' F hx') (fun x11 => ?_)
      refine PWk.iinc (v := (u4 + (-1))) 3 [(4, .int (u4 + (-1))), (0, .ref 34), (1, .int u1), (2, .int u2)] dX0_packInto_69 rfl (by rw [ic_m1]) (by decide) rfl ?_
      refine PWk.goto 3 dX0_packInto_72 (by decide) ?_
      refine PWk.sub [1, 2, 3, 0] rfl ?_
      exact ih (u4 + (-1)) x11 N F hx
set_option maxRecDepth 20000 in
theorem pc_X0_packInto (fu : Nat) (I : HI) (L : HL) (R : HR) (p1 : Int32) (p2 : Int32) (p3 : Int32) : PCo 1 93 1 yX0_packInto cX0_packInto 6 none [.ref 34, .int p1, .int p2, .int p3] I L R (f_X0_packInto fu I p1 p2 p3) (fun x : HI => ((none, x, L, R) : HF)) := by
  refine PCo.of (own := RX0) (by decide +kernel) (Nat.le_of_ble_eq_true rfl) rfl rfl (fun F => ?_)
  unfold f_X0_packInto
  refine PWk.iload_n 3 dX0_packInto_0 rfl ?_
  refine PWk.istore [(4, .int p3), (0, .ref 34), (1, .int p1), (2, .int p2), (3, .int p3)] dX0_packInto_1 (by decide) rfl ?_
  refine PWk.sub [1, 2, 3, 0] rfl ?_
  refine PWk.loopV (fun N' hx' => lp_X0_packInto_3 fu p1 p2 L R fu p3 I N' F hx') (fun x13 => ?_)
  exact PWk.vret dX0_packInto_75 rfl (fun h => h)
/-! LakeMarket$Chooser.keepIfFairer(I)V -/
def f_X0_keepIfFairer (I : HI) (p1 : Int32) : Option (HI) :=
  ldI (I 39) 3 0 fun v1 =>
  ldI (I 39) 3 1 fun v2 =>
  (f_J9_min_7cf53 v1 v2).bind fun x3 =>
  ldI (I 39) 3 0 fun v4 =>
  ldI (I 39) 3 1 fun v5 =>
  (f_J9_max_7cf53 v4 v5).bind fun x6 =>
  jnt (β := Int32 × Int32) (fun y13 =>
    if (I 34 8) ≤ (y13.2 - y13.1) then
      some I
    else
      bnd (sI I 34 8 (y13.2 - y13.1)) fun I14 =>
      bnd (sA I14 41 (va_cpy (I14 40) (I14 41) (0 : Int32).toNatClampNeg (0 : Int32).toNatClampNeg (8 : Int32).toNatClampNeg)) fun I15 =>
      some I15) fun j7 =>
  if p1 = 3 then
    ldI (I 39) 3 2 fun v8 =>
    (f_J9_min_7cf53 x3 v8).bind fun x9 =>
    ldI (I 39) 3 2 fun v10 =>
    (f_J9_max_7cf53 x6 v10).bind fun x11 =>
    j7 (x9, x11)
  else
    j7 (x3, x6)
set_option maxRecDepth 20000 in
theorem pc_X0_keepIfFairer (I : HI) (L : HL) (R : HR) (p1 : Int32) : PCo 1 93 1 yX0_keepIfFairer cX0_keepIfFairer 4 none [.ref 34, .int p1] I L R (f_X0_keepIfFairer I p1) (fun x : HI => ((none, x, L, R) : HF)) := by
  refine PCo.of (own := RX0) (by decide +kernel) (Nat.le_of_ble_eq_true rfl) rfl rfl (fun F => ?_)
  unfold f_X0_keepIfFairer
  refine PWk.aload_n 0 dX0_keepIfFairer_0 rfl ?_
  refine PWk.gets dX0_keepIfFairer_1 rg_34 lc_34 fl_X0_24 rfl st_34_5 ?_
  refine PWk.iconst (v := 0) dX0_keepIfFairer_4 ic_0 ?_
  refine PWk.iald dX0_keepIfFairer_5 rg_39 ly_39 (fun v1 => ?_)
  refine PWk.aload_n 0 dX0_keepIfFairer_6 rfl ?_
  refine PWk.gets dX0_keepIfFairer_7 rg_34 lc_34 fl_X0_24 rfl st_34_5 ?_
  refine PWk.iconst (v := 1) dX0_keepIfFairer_10 ic_1 ?_
  refine PWk.iald dX0_keepIfFairer_11 rg_39 ly_39 (fun v2 => ?_)
  refine PWk.callSi (pc_J9_min_7cf53 I L R v1 v2) dX0_keepIfFairer_12 ml_X0_104 rfl (by decide) rfl (Nat.le_of_ble_eq_true rfl) (fun x3 => ?_)
  refine PWk.istore_n [(2, .int x3), (0, .ref 34), (1, .int p1)] dX0_keepIfFairer_15 (by decide) rfl ?_
  refine PWk.aload_n 1 dX0_keepIfFairer_16 rfl ?_
  refine PWk.gets dX0_keepIfFairer_17 rg_34 lc_34 fl_X0_24 rfl st_34_5 ?_
  refine PWk.iconst (v := 0) dX0_keepIfFairer_20 ic_0 ?_
  refine PWk.iald dX0_keepIfFairer_21 rg_39 ly_39 (fun v4 => ?_)
  refine PWk.aload_n 1 dX0_keepIfFairer_22 rfl ?_
  refine PWk.gets dX0_keepIfFairer_23 rg_34 lc_34 fl_X0_24 rfl st_34_5 ?_
  refine PWk.iconst (v := 1) dX0_keepIfFairer_26 ic_1 ?_
  refine PWk.iald dX0_keepIfFairer_27 rg_39 ly_39 (fun v5 => ?_)
  refine PWk.callSi (pc_J9_max_7cf53 I L R v4 v5) dX0_keepIfFairer_28 ml_X0_120 rfl (by decide) rfl (Nat.le_of_ble_eq_true rfl) (fun x6 => ?_)
  refine PWk.istore_n [(3, .int x6), (2, .int x3), (0, .ref 34), (1, .int p1)] dX0_keepIfFairer_31 (by decide) rfl ?_
  refine PWk.iload_n 3 dX0_keepIfFairer_32 rfl ?_
  refine PWk.iconst (v := 3) dX0_keepIfFairer_33 ic_3 ?_
  refine PWk.jn (pc' := 59) (lv' := fun y13 => [(0, .ref 34), (2, .int y13.1), (3, .int y13.2)]) (st' := fun y13 => []) (I' := fun y13 => I) (L' := fun y13 => L) (R' := fun y13 => R) (fun j7 hj7 => ?_) (fun y13 => ?_)
  · refine PWk.icmp_ne 59 dX0_keepIfFairer_34 (by decide) (fun h12 => ?_) (fun h12 => ?_)
    · refine PWk.iload_n 1 dX0_keepIfFairer_37 rfl ?_
      refine PWk.aload_n 2 dX0_keepIfFairer_38 rfl ?_
      refine PWk.gets dX0_keepIfFairer_39 rg_34 lc_34 fl_X0_24 rfl st_34_5 ?_
      refine PWk.iconst (v := 2) dX0_keepIfFairer_42 ic_2 ?_
      refine PWk.iald dX0_keepIfFairer_43 rg_39 ly_39 (fun v8 => ?_)
      refine PWk.callSi (pc_J9_min_7cf53 I L R x3 v8) dX0_keepIfFairer_44 ml_X0_104 rfl (by decide) rfl (Nat.le_of_ble_eq_true rfl) (fun x9 => ?_)
      refine PWk.istore_n [(2, .int x9), (3, .int x6), (0, .ref 34), (1, .int p1)] dX0_keepIfFairer_47 (by decide) rfl ?_
      refine PWk.iload_n 1 dX0_keepIfFairer_48 rfl ?_
      refine PWk.aload_n 2 dX0_keepIfFairer_49 rfl ?_
      refine PWk.gets dX0_keepIfFairer_50 rg_34 lc_34 fl_X0_24 rfl st_34_5 ?_
      refine PWk.iconst (v := 2) dX0_keepIfFairer_53 ic_2 ?_
      refine PWk.iald dX0_keepIfFairer_54 rg_39 ly_39 (fun v10 => ?_)
      refine PWk.callSi (pc_J9_max_7cf53 I L R x6 v10) dX0_keepIfFairer_55 ml_X0_120 rfl (by decide) rfl (Nat.le_of_ble_eq_true rfl) (fun x11 => ?_)
      refine PWk.istore_n [(3, .int x11), (2, .int x9), (0, .ref 34), (1, .int p1)] dX0_keepIfFairer_58 (by decide) rfl ?_
      refine PWk.sub [2, 1, 0] rfl ?_
      exact hj7 (x9, x11)
    · refine PWk.sub [2, 1, 0] rfl ?_
      exact hj7 (x3, x6)
  · refine PWk.iload_n 2 dX0_keepIfFairer_59 rfl ?_
    refine PWk.iload_n 1 dX0_keepIfFairer_60 rfl ?_
    refine PWk.isub dX0_keepIfFairer_61 ?_
    refine PWk.aload_n 0 dX0_keepIfFairer_62 rfl ?_
    refine PWk.geti dX0_keepIfFairer_63 rg_34 lc_34 fl_X0_110 rfl ?_
    refine PWk.icmp_ge 91 dX0_keepIfFairer_66 (by decide) (fun h16 => ?_) (fun h16 => ?_)
    · exact PWk.vret dX0_keepIfFairer_91 rfl (fun h => h)
    · refine PWk.aload_n 0 dX0_keepIfFairer_69 rfl ?_
      refine PWk.iload_n 2 dX0_keepIfFairer_70 rfl ?_
      refine PWk.iload_n 1 dX0_keepIfFairer_71 rfl ?_
      refine PWk.isub dX0_keepIfFairer_72 ?_
      refine PWk.puti dX0_keepIfFairer_73 rg_34 lc_34 fl_X0_110 fp_0_8 rfl ?_
      refine PWk.bI (fun I14 => ?_)
      refine PWk.aload_n 0 dX0_keepIfFairer_76 rfl ?_
      refine PWk.gets dX0_keepIfFairer_77 rg_34 lc_34 fl_X0_27 rfl st_34_6 ?_
      refine PWk.iconst (v := 0) dX0_keepIfFairer_80 ic_0 ?_
      refine PWk.aload_n 0 dX0_keepIfFairer_81 rfl ?_
      refine PWk.gets dX0_keepIfFairer_82 rg_34 lc_34 fl_X0_30 rfl st_34_7 ?_
      refine PWk.iconst (v := 0) dX0_keepIfFairer_85 ic_0 ?_
      refine PWk.bipush (v := 8) dX0_keepIfFairer_86 bp_8 ?_
      refine PWk.copy dX0_keepIfFairer_88 wc_X0_123 rg_40 rg_41 ly_40 ly_41 (by decide) (by decide) (by decide) (by decide) (by decide) (by omega) rfl ?_
      refine PWk.bI (fun I15 => ?_)
      exact PWk.vret dX0_keepIfFairer_91 rfl (fun h => h)
/-! LakeMarket$Chooser.heirOf(I)I -/
def f_X0_heirOf_L2 : Nat → HI → Int32 → Int32 → Option ((Int32) ⊕ (Unit))
  | 0, _, _, _ => none
  | n + 1, I, u1, u2 =>
    if (I 34 2) ≤ u2 then
      some (.inr ())
    else
      ldI (I 35) 8 u2 fun v1 =>
      if v1 = u1 then
        ldI (I 41) 8 u2 fun v2 =>
        some (.inl v2)
      else
        f_X0_heirOf_L2 n I u1 (u2 + 1)
def f_X0_heirOf (fu : Nat) (I : HI) (p1 : Int32) : Option (Int32) :=
  (f_X0_heirOf_L2 fu I p1 0).bind (Sum.elim (fun r => some r) fun x5 =>
  some (-1))
set_option maxRecDepth 20000 in
theorem lp_X0_heirOf_2 (fu : Nat) (u1 : Int32) (I : HI) (L : HL) (R : HR) : ∀ (n : Nat) (u2 : Int32) (N : ((Int32) ⊕ (Unit)) → Prop) (F : HF), (∀ v : Unit, N (.inr v) → PW 1 93 0 RX0 cX0_heirOf 3 (some .int) 33 [] [] I L R F) → (∀ r : Int32, N (.inl r) → F = (fun x : Int32 => ((some (.int x), I, L, R) : HF)) r) → PWk 1 93 0 RX0 cX0_heirOf 3 (some .int) 2 [(0, .ref 34), (1, .int u1), (2, .int u2)] [] I L R (f_X0_heirOf_L2 n I u1 u2) N F := by
  intro n
  induction n with
  | zero => intro u2 N F hx hr; exact PWk.none'
  | succ n ih =>
    intro u2 N F hx hr
    unfold f_X0_heirOf_L2
    refine PWk.iload_n 2 dX0_heirOf_2 rfl ?_
    refine PWk.aload_n 0 dX0_heirOf_3 rfl ?_
    refine PWk.geti dX0_heirOf_4 rg_34 lc_34 fl_X0_33 rfl ?_
    refine PWk.icmp_ge 33 dX0_heirOf_7 (by decide) (fun h4 => ?_) (fun h4 => ?_)
    · refine PWk.sub [] rfl ?_
      exact PWk.done (fun h => hx _ h)
    · refine PWk.aload_n 0 dX0_heirOf_10 rfl ?_
      refine PWk.gets dX0_heirOf_11 rg_34 lc_34 fl_X0_9 rfl st_34_0 ?_
      refine PWk.iload_n 2 dX0_heirOf_14 rfl ?_
      refine PWk.iald dX0_heirOf_15 rg_35 ly_35 (fun v1 => ?_)
      refine PWk.iload_n 1 dX0_heirOf_16 rfl ?_
      refine PWk.icmp_ne 27 dX0_heirOf_17 (by decide) (fun h3 => ?_) (fun h3 => ?_)
      · refine PWk.aload_n 0 dX0_heirOf_20 rfl ?_
        refine PWk.gets dX0_heirOf_21 rg_34 lc_34 fl_X0_30 rfl st_34_7 ?_
        refine PWk.iload_n 2 dX0_heirOf_24 rfl ?_
        refine PWk.iald dX0_heirOf_25 rg_41 ly_41 (fun v2 => ?_)
        exact PWk.iret dX0_heirOf_26 rfl (hr _)
      · refine PWk.iinc (v := (u2 + 1)) 2 [(2, .int (u2 + 1)), (0, .ref 34), (1, .int u1)] dX0_heirOf_27 rfl (by rw [ic_1]) (by decide) rfl ?_
        refine PWk.goto 2 dX0_heirOf_30 (by decide) ?_
        refine PWk.sub [1, 2, 0] rfl ?_
        exact ih (u2 + 1) N F hx hr
set_option maxRecDepth 20000 in
theorem pc_X0_heirOf (fu : Nat) (I : HI) (L : HL) (R : HR) (p1 : Int32) : PCo 1 93 0 yX0_heirOf cX0_heirOf 3 (some .int) [.ref 34, .int p1] I L R (f_X0_heirOf fu I p1) (fun x : Int32 => ((some (.int x), I, L, R) : HF)) := by
  refine PCo.of (own := RX0) (by decide +kernel) (Nat.le_of_ble_eq_true rfl) rfl rfl (fun F => ?_)
  unfold f_X0_heirOf
  refine PWk.iconst (v := 0) dX0_heirOf_0 ic_0 ?_
  refine PWk.istore_n [(2, .int 0), (0, .ref 34), (1, .int p1)] dX0_heirOf_1 (by decide) rfl ?_
  refine PWk.sub [1, 2, 0] rfl ?_
  refine PWk.loopS (fun N' hx' hr' => lp_X0_heirOf_2 fu p1 I L R fu 0 N' F hx' hr') (fun r a e h => by cases e; exact h) (fun x5 => ?_)
  refine PWk.iconst (v := (-1)) dX0_heirOf_33 ic_m1 ?_
  exact PWk.iret dX0_heirOf_34 rfl (fun h => h)
/-! LakeMarket$Chooser.mostGroups(I)I -/
def f_X0_mostGroups_L4 : Nat → HI → Int32 → Int32 → Int32 → Option (Int32)
  | 0, _, _, _, _ => none
  | n + 1, I, u1, u2, u3 =>
    if (I 34 2) ≤ u3 then
      some u2
    else
      jnt (β := Int32) (fun y5 =>
        f_X0_mostGroups_L4 n I u1 y5 (u3 + 1)) fun j1 =>
      if (u1 &&& ((1 : Int32) <<< (u3 &&& 31))) = 0 then
        j1 u2
      else
        ldI (I 38) 256 (u1 ^^^ ((1 : Int32) <<< (u3 &&& 31))) fun v2 =>
        (f_J9_max_7cf53 u2 v2).bind fun x3 =>
        j1 x3
def f_X0_mostGroups (fu : Nat) (I : HI) (p1 : Int32) : Option (Int32) :=
  (f_X0_mostGroups_L4 fu I p1 0 0).bind fun x7 =>
  some x7
set_option maxRecDepth 20000 in
theorem lp_X0_mostGroups_4 (fu : Nat) (u1 : Int32) (I : HI) (L : HL) (R : HR) : ∀ (n : Nat) (u2 : Int32) (u3 : Int32) (N : (Int32) → Prop) (F : HF), (∀ v : Int32, N v → PW 1 93 1 RX0 cX0_mostGroups 4 (some .int) 41 [(2, .int v)] [] I L R F) → PWk 1 93 1 RX0 cX0_mostGroups 4 (some .int) 4 [(0, .ref 34), (1, .int u1), (2, .int u2), (3, .int u3)] [] I L R (f_X0_mostGroups_L4 n I u1 u2 u3) N F := by
  intro n
  induction n with
  | zero => intro u2 u3 N F hx; exact PWk.none'
  | succ n ih =>
    intro u2 u3 N F hx
    unfold f_X0_mostGroups_L4
    refine PWk.iload_n 3 dX0_mostGroups_4 rfl ?_
    refine PWk.aload_n 0 dX0_mostGroups_5 rfl ?_
    refine PWk.geti dX0_mostGroups_6 rg_34 lc_34 fl_X0_33 rfl ?_
    refine PWk.icmp_ge 41 dX0_mostGroups_9 (by decide) (fun h6 => ?_) (fun h6 => ?_)
    · refine PWk.sub [2] rfl ?_
      exact PWk.done (fun h => hx _ h)
    · refine PWk.iload_n 1 dX0_mostGroups_12 rfl ?_
      refine PWk.iconst (v := 1) dX0_mostGroups_13 ic_1 ?_
      refine PWk.iload_n 3 dX0_mostGroups_14 rfl ?_
      refine PWk.ishl dX0_mostGroups_15 ?_
      refine PWk.iand dX0_mostGroups_16 ?_
      refine PWk.jn (pc' := 35) (lv' := fun y5 => [(0, .ref 34), (1, .int u1), (2, .int y5), (3, .int u3)]) (st' := fun y5 => []) (I' := fun y5 => I) (L' := fun y5 => L) (R' := fun y5 => R) (fun j1 hj1 => ?_) (fun y5 => ?_)
      · refine PWk.if_eq 35 dX0_mostGroups_17 (by decide) (fun h4 => ?_) (fun h4 => ?_)
        · exact hj1 u2
        · refine PWk.iload_n 2 dX0_mostGroups_20 rfl ?_
          refine PWk.aload_n 0 dX0_mostGroups_21 rfl ?_
          refine PWk.gets dX0_mostGroups_22 rg_34 lc_34 fl_X0_21 rfl st_34_4 ?_
          refine PWk.iload_n 1 dX0_mostGroups_25 rfl ?_
          refine PWk.iconst (v := 1) dX0_mostGroups_26 ic_1 ?_
          refine PWk.iload_n 3 dX0_mostGroups_27 rfl ?_
          refine PWk.ishl dX0_mostGroups_28 ?_
          refine PWk.ixor dX0_mostGroups_29 ?_
          refine PWk.iald dX0_mostGroups_30 rg_38 ly_38 (fun v2 => ?_)
          refine PWk.callSi (pc_J9_max_7cf53 I L R u2 v2) dX0_mostGroups_31 ml_X0_120 rfl (by decide) rfl (Nat.le_of_ble_eq_true rfl) (fun x3 => ?_)
          refine PWk.istore_n [(2, .int x3), (0, .ref 34), (1, .int u1), (3, .int u3)] dX0_mostGroups_34 (by decide) rfl ?_
          refine PWk.sub [1, 2, 0, 3] rfl ?_
          exact hj1 x3
      · refine PWk.iinc (v := (u3 + 1)) 3 [(3, .int (u3 + 1)), (0, .ref 34), (1, .int u1), (2, .int y5)] dX0_mostGroups_35 rfl (by rw [ic_1]) (by decide) rfl ?_
        refine PWk.goto 4 dX0_mostGroups_38 (by decide) ?_
        refine PWk.sub [1, 2, 3, 0] rfl ?_
        exact ih y5 (u3 + 1) N F hx
set_option maxRecDepth 20000 in
theorem pc_X0_mostGroups (fu : Nat) (I : HI) (L : HL) (R : HR) (p1 : Int32) : PCo 1 93 1 yX0_mostGroups cX0_mostGroups 4 (some .int) [.ref 34, .int p1] I L R (f_X0_mostGroups fu I p1) (fun x : Int32 => ((some (.int x), I, L, R) : HF)) := by
  refine PCo.of (own := RX0) (by decide +kernel) (Nat.le_of_ble_eq_true rfl) rfl rfl (fun F => ?_)
  unfold f_X0_mostGroups
  refine PWk.iconst (v := 0) dX0_mostGroups_0 ic_0 ?_
  refine PWk.istore_n [(2, .int 0), (0, .ref 34), (1, .int p1)] dX0_mostGroups_1 (by decide) rfl ?_
  refine PWk.iconst (v := 0) dX0_mostGroups_2 ic_0 ?_
  refine PWk.istore_n [(3, .int 0), (2, .int 0), (0, .ref 34), (1, .int p1)] dX0_mostGroups_3 (by decide) rfl ?_
  refine PWk.sub [2, 3, 1, 0] rfl ?_
  refine PWk.loopV (fun N' hx' => lp_X0_mostGroups_4 fu p1 I L R fu 0 0 N' F hx') (fun x7 => ?_)
  refine PWk.iload_n 0 dX0_mostGroups_41 rfl ?_
  exact PWk.iret dX0_mostGroups_42 rfl (fun h => h)
/-! LakeMarket$Chooser.payers(LLakeMarket$Scene;II)I -/
def f_X0_payers_L17 : Nat → HI → Int32 → Int32 → Int32 → Option (Int32)
  | 0, _, _, _, _ => none
  | n + 1, I, u3, u4, u5 =>
    if ((1 : Int32) <<< ((I 34 2) &&& 31)) ≤ u5 then
      some u4
    else
      ldI (I 37) 256 u5 fun v3 =>
      jnt (β := Int32) (fun y11 =>
        f_X0_payers_L17 n I u3 y11 (u5 + 1)) fun j4 =>
      if v3 < u3 then
        j4 u4
      else
        jnt (β := Unit) (fun y9 =>
          j4 u5) fun j5 =>
        if u4 = (-1) then
          j5 ()
        else
          (f_X0_paysBetter I u5 u4).bind fun x6 =>
          if x6 = 0 then
            j4 u4
          else
            j5 ()
def f_X0_payers (fu : Nat) (I : HI) (R : HR) (a1 : Nat) (p2 : Int32) (p3 : Int32) : Option (Int32 × HI) :=
  (f_X0_collect fu I R a1 p2 1).bind fun x1 =>
  (f_X0_sumUp fu x1).bind fun x2 =>
  (f_X0_payers_L17 fu x2 p3 (-1) 0).bind fun x13 =>
  if x13 = (-1) then
    some ((-1), x2)
  else
    ldI (x2 37) 256 x13 fun v14 =>
    bnd (sI x2 34 9 (v14 - p3)) fun I15 =>
    (f_X0_lakeBits fu I15 x13).bind fun x16 =>
    some (x16, I15)
set_option maxRecDepth 20000 in
theorem lp_X0_payers_17 (fu : Nat) (u3 : Int32) (I : HI) (L : HL) (R : HR) : ∀ (n : Nat) (u4 : Int32) (u5 : Int32) (N : (Int32) → Prop) (F : HF), (∀ v : Int32, N v → PW 1 93 6 RX0 cX0_payers 6 (some .int) 66 [(0, .ref 34), (3, .int u3), (4, .int v)] [] I L R F) → PWk 1 93 6 RX0 cX0_payers 6 (some .int) 17 [(0, .ref 34), (3, .int u3), (4, .int u4), (5, .int u5)] [] I L R (f_X0_payers_L17 n I u3 u4 u5) N F := by
  intro n
  induction n with
  | zero => intro u4 u5 N F hx; exact PWk.none'
  | succ n ih =>
    intro u4 u5 N F hx
    unfold f_X0_payers_L17
    refine PWk.iload 3 dX0_payers_17 rfl ?_
    refine PWk.iconst (v := 1) dX0_payers_19 ic_1 ?_
    refine PWk.aload_n 0 dX0_payers_20 rfl ?_
    refine PWk.geti dX0_payers_21 rg_34 lc_34 fl_X0_33 rfl ?_
    refine PWk.ishl dX0_payers_24 ?_
    refine PWk.icmp_ge 66 dX0_payers_25 (by decide) (fun h12 => ?_) (fun h12 => ?_)
    · refine PWk.sub [0, 1, 2] rfl ?_
      exact PWk.done (fun h => hx _ h)
    · refine PWk.aload_n 0 dX0_payers_28 rfl ?_
      refine PWk.gets dX0_payers_29 rg_34 lc_34 fl_X0_18 rfl st_34_3 ?_
      refine PWk.iload 3 dX0_payers_32 rfl ?_
      refine PWk.iald dX0_payers_34 rg_37 ly_37 (fun v3 => ?_)
      refine PWk.iload_n 1 dX0_payers_35 rfl ?_
      refine PWk.jn (pc' := 60) (lv' := fun y11 => [(0, .ref 34), (3, .int u3), (4, .int y11), (5, .int u5)]) (st' := fun y11 => []) (I' := fun y11 => I) (L' := fun y11 => L) (R' := fun y11 => R) (fun j4 hj4 => ?_) (fun y11 => ?_)
      · refine PWk.icmp_lt 60 dX0_payers_36 (by decide) (fun h10 => ?_) (fun h10 => ?_)
        · exact hj4 u4
        · refine PWk.iload 2 dX0_payers_39 rfl ?_
          refine PWk.iconst (v := (-1)) dX0_payers_41 ic_m1 ?_
          refine PWk.jn (pc' := 56) (lv' := fun y9 => [(0, .ref 34), (3, .int u3), (5, .int u5)]) (st' := fun y9 => []) (I' := fun y9 => I) (L' := fun y9 => L) (R' := fun y9 => R) (fun j5 hj5 => ?_) (fun y9 => ?_)
          · refine PWk.icmp_eq 56 dX0_payers_42 (by decide) (fun h8 => ?_) (fun h8 => ?_)
            · refine PWk.sub [0, 1, 3] rfl ?_
              exact hj5 ()
            · refine PWk.aload_n 0 dX0_payers_45 rfl ?_
              refine PWk.iload 3 dX0_payers_46 rfl ?_
              refine PWk.iload 2 dX0_payers_48 rfl ?_
              refine PWk.callVi (pc_X0_paysBetter I L R u5 u4) dX0_payers_50 ml_X0_65 rfl rg_34 lc_34 vq_0 (by decide) rfl (Nat.le_of_ble_eq_true rfl) (fun x6 => ?_)
              refine PWk.if_eq 60 dX0_payers_53 (by decide) (fun h7 => ?_) (fun h7 => ?_)
              · exact hj4 u4
              · refine PWk.sub [0, 1, 3] rfl ?_
                exact hj5 ()
          · refine PWk.iload 2 dX0_payers_56 rfl ?_
            refine PWk.istore [(4, .int u5), (0, .ref 34), (3, .int u3), (5, .int u5)] dX0_payers_58 (by decide) rfl ?_
            refine PWk.sub [1, 2, 0, 3] rfl ?_
            exact hj4 u5
      · refine PWk.iinc (v := (u5 + 1)) 3 [(5, .int (u5 + 1)), (0, .ref 34), (3, .int u3), (4, .int y11)] dX0_payers_60 rfl (by rw [ic_1]) (by decide) rfl ?_
        refine PWk.goto 17 dX0_payers_63 (by decide) ?_
        refine PWk.sub [1, 2, 3, 0] rfl ?_
        exact ih y11 (u5 + 1) N F hx
set_option maxRecDepth 20000 in
theorem pc_X0_payers (fu : Nat) (I : HI) (L : HL) (R : HR) (a1 : Nat) (hy_a1 : isSc a1) (p2 : Int32) (p3 : Int32) : PCo 1 93 6 yX0_payers cX0_payers 6 (some .int) [.ref 34, .ref a1, .int p2, .int p3] I L R (f_X0_payers fu I R a1 p2 p3) (fun x : Int32 × HI => ((some (.int x.1), x.2, L, R) : HF)) := by
  refine PCo.of (own := RX0) (by decide +kernel) (Nat.le_of_ble_eq_true rfl) rfl rfl (fun F => ?_)
  unfold f_X0_payers
  refine PWk.aload_n 0 dX0_payers_0 rfl ?_
  refine PWk.aload_n 1 dX0_payers_1 rfl ?_
  refine PWk.iload_n 2 dX0_payers_2 rfl ?_
  refine PWk.iconst (v := 1) dX0_payers_3 ic_1 ?_
  refine PWk.callVvI (pc_X0_collect fu I L R a1 hy_a1 p2 1) dX0_payers_4 ml_X0_58 rfl rg_34 lc_34 vq_0 (by decide) rfl (Nat.le_of_ble_eq_true rfl) (fun x1 => ?_)
  refine PWk.aload_n 0 dX0_payers_7 rfl ?_
  refine PWk.callVvI (pc_X0_sumUp fu x1 L R) dX0_payers_8 ml_X0_62 rfl rg_34 lc_34 vq_0 (by decide) rfl (Nat.le_of_ble_eq_true rfl) (fun x2 => ?_)
  refine PWk.iconst (v := (-1)) dX0_payers_11 ic_m1 ?_
  refine PWk.istore [(4, .int (-1)), (0, .ref 34), (1, .ref a1), (2, .int p2), (3, .int p3)] dX0_payers_12 (by decide) rfl ?_
  refine PWk.iconst (v := 0) dX0_payers_14 ic_0 ?_
  refine PWk.istore [(5, .int 0), (4, .int (-1)), (0, .ref 34), (1, .ref a1), (2, .int p2), (3, .int p3)] dX0_payers_15 (by decide) rfl ?_
  refine PWk.sub [2, 5, 1, 0] rfl ?_
  refine PWk.loopV (fun N' hx' => lp_X0_payers_17 fu p3 x2 L R fu (-1) 0 N' F hx') (fun x13 => ?_)
  refine PWk.iload 2 dX0_payers_66 rfl ?_
  refine PWk.iconst (v := (-1)) dX0_payers_68 ic_m1 ?_
  refine PWk.icmp_ne 74 dX0_payers_69 (by decide) (fun h17 => ?_) (fun h17 => ?_)
  · refine PWk.iconst (v := (-1)) dX0_payers_72 ic_m1 ?_
    exact PWk.iret dX0_payers_73 rfl (fun h => h)
  · refine PWk.aload_n 0 dX0_payers_74 rfl ?_
    refine PWk.aload_n 0 dX0_payers_75 rfl ?_
    refine PWk.gets dX0_payers_76 rg_34 lc_34 fl_X0_18 rfl st_34_3 ?_
    refine PWk.iload 2 dX0_payers_79 rfl ?_
    refine PWk.iald dX0_payers_81 rg_37 ly_37 (fun v14 => ?_)
    refine PWk.iload_n 1 dX0_payers_82 rfl ?_
    refine PWk.isub dX0_payers_83 ?_
    refine PWk.puti dX0_payers_84 rg_34 lc_34 fl_X0_69 fp_0_9 rfl ?_
    refine PWk.bI (fun I15 => ?_)
    refine PWk.aload_n 0 dX0_payers_87 rfl ?_
    refine PWk.iload 2 dX0_payers_88 rfl ?_
    refine PWk.callVi (pc_X0_lakeBits fu I15 L R x13) dX0_payers_90 ml_X0_72 rfl rg_34 lc_34 vq_0 (by decide) rfl (Nat.le_of_ble_eq_true rfl) (fun x16 => ?_)
    exact PWk.iret dX0_payers_93 rfl (fun h => h)
/-! LakeMarket$Chooser.packing(LLakeMarket$Scene;I)I -/
def f_X0_packing_L39 (fu : Nat) : Nat → HI → HR → Nat → Int32 → Int32 → Option (HI)
  | 0, _, _, _, _, _ => none
  | n + 1, I, R, b1, u3, u4 =>
    gr (okLd (R b1 0)) <|
    if (I (R b1 0) 1) ≤ u4 then
      some I
    else
      (f_X0_roomWithout fu I R b1 u4).bind fun x7 =>
      (f_X0_packInto fu I (256 + ((1 : Int32) <<< (u4 &&& 31))) x7 u3).bind fun x8 =>
      f_X0_packing_L39 fu n x8 R b1 u3 (u4 + 1)
def f_X0_packing (fu : Nat) (I : HI) (R : HR) (a1 : Nat) (p2 : Int32) : Option (Int32 × HI) :=
  (f_X0_collect fu I R a1 p2 0).bind fun x1 =>
  (f_X0_sumUp fu x1).bind fun x2 =>
  bnd ((((1 : Int32) <<< ((x2 34 2) &&& 31)) - 1)) fun v3 =>
  (f_J7_fill_53178 fu x2 38 256 1048576).bind fun x4 =>
  inb 256 0 <|
  bnd (sI x4 38 (0 : Int32).toNatClampNeg 0) fun I5 =>
  (f_X0_packing_L39 fu fu I5 R a1 v3 0).bind fun x10 =>
  ldI (x10 38) 256 v3 fun v11 =>
  if 1048576 ≤ v11 then
    some ((-1), x10)
  else
    ldI (x10 38) 256 v3 fun v12 =>
    some (v12, x10)
set_option maxRecDepth 20000 in
theorem lp_X0_packing_39 (fu : Nat) (b1 : Nat) (hb1 : isSc b1) (u3 : Int32) (L : HL) (R : HR) : ∀ (n : Nat) (u4 : Int32) (I : HI) (N : (HI) → Prop) (F : HF), (∀ v : HI, N v → PW 1 93 6 RX0 cX0_packing 5 (some .int) 77 [(0, .ref 34), (3, .int u3)] [] v L R F) → PWk 1 93 6 RX0 cX0_packing 5 (some .int) 39 [(0, .ref 34), (1, .ref b1), (3, .int u3), (4, .int u4)] [] I L R (f_X0_packing_L39 fu n I R b1 u3 u4) N F := by
  intro n
  induction n with
  | zero => intro u4 I N F hx; exact PWk.none'
  | succ n ih =>
    intro u4 I N F hx
    unfold f_X0_packing_L39
    refine PWk.iload 3 dX0_packing_39 rfl ?_
    refine PWk.aload_n 1 dX0_packing_41 rfl ?_
    refine PWk.getr dX0_packing_42 (rgSc_0 hb1) (lcSc hb1) fl_X0_37 rfl okLd_ne (fun hk6 => ?_)
    refine PWk.geti dX0_packing_45 (rgLd_0 (okLd_is hk6)) (lcLd (okLd_is hk6)) fl_X0_87 rfl ?_
    refine PWk.icmp_ge 77 dX0_packing_48 (by decide) (fun h9 => ?_) (fun h9 => ?_)
    · refine PWk.sub [0, 2] rfl ?_
      exact PWk.done (fun h => hx _ h)
    · refine PWk.aload_n 0 dX0_packing_51 rfl ?_
      refine PWk.sipush (v := 256) dX0_packing_52 sp_256 ?_
      refine PWk.iconst (v := 1) dX0_packing_55 ic_1 ?_
      refine PWk.iload 3 dX0_packing_56 rfl ?_
      refine PWk.ishl dX0_packing_58 ?_
      refine PWk.iadd dX0_packing_59 ?_
      refine PWk.aload_n 0 dX0_packing_60 rfl ?_
      refine PWk.aload_n 1 dX0_packing_61 rfl ?_
      refine PWk.iload 3 dX0_packing_62 rfl ?_
      refine PWk.callVi (pc_X0_roomWithout fu I L R b1 hb1 u4) dX0_packing_64 ml_X0_90 rfl rg_34 lc_34 vq_0 (by decide) rfl (Nat.le_of_ble_eq_true rfl) (fun x7 => ?_)
      refine PWk.iload_n 2 dX0_packing_67 rfl ?_
      refine PWk.callVvI (pc_X0_packInto fu I L R (256 + ((1 : Int32) <<< (u4 &&& 31))) x7 u3) dX0_packing_68 ml_X0_94 rfl rg_34 lc_34 vq_0 (by decide) rfl (Nat.le_of_ble_eq_true rfl) (fun x8 => ?_)
      refine PWk.iinc (v := (u4 + 1)) 3 [(4, .int (u4 + 1)), (0, .ref 34), (1, .ref b1), (3, .int u3)] dX0_packing_71 rfl (by rw [ic_1]) (by decide) rfl ?_
      refine PWk.goto 39 dX0_packing_74 (by decide) ?_
      refine PWk.sub [1, 2, 3, 0] rfl ?_
      exact ih (u4 + 1) x8 N F hx
set_option maxRecDepth 20000 in
theorem pc_X0_packing (fu : Nat) (I : HI) (L : HL) (R : HR) (a1 : Nat) (hy_a1 : isSc a1) (p2 : Int32) : PCo 1 93 6 yX0_packing cX0_packing 5 (some .int) [.ref 34, .ref a1, .int p2] I L R (f_X0_packing fu I R a1 p2) (fun x : Int32 × HI => ((some (.int x.1), x.2, L, R) : HF)) := by
  refine PCo.of (own := RX0) (by decide +kernel) (Nat.le_of_ble_eq_true rfl) rfl rfl (fun F => ?_)
  unfold f_X0_packing
  refine PWk.aload_n 0 dX0_packing_0 rfl ?_
  refine PWk.aload_n 1 dX0_packing_1 rfl ?_
  refine PWk.iload_n 2 dX0_packing_2 rfl ?_
  refine PWk.iconst (v := 0) dX0_packing_3 ic_0 ?_
  refine PWk.callVvI (pc_X0_collect fu I L R a1 hy_a1 p2 0) dX0_packing_4 ml_X0_58 rfl rg_34 lc_34 vq_0 (by decide) rfl (Nat.le_of_ble_eq_true rfl) (fun x1 => ?_)
  refine PWk.aload_n 0 dX0_packing_7 rfl ?_
  refine PWk.callVvI (pc_X0_sumUp fu x1 L R) dX0_packing_8 ml_X0_62 rfl rg_34 lc_34 vq_0 (by decide) rfl (Nat.le_of_ble_eq_true rfl) (fun x2 => ?_)
  refine PWk.iconst (v := 1) dX0_packing_11 ic_1 ?_
  refine PWk.aload_n 0 dX0_packing_12 rfl ?_
  refine PWk.geti dX0_packing_13 rg_34 lc_34 fl_X0_33 rfl ?_
  refine PWk.ishl dX0_packing_16 ?_
  refine PWk.iconst (v := 1) dX0_packing_17 ic_1 ?_
  refine PWk.isub dX0_packing_18 ?_
  refine PWk.bi (fun v3 => ?_)
  refine PWk.istore_n [(3, .int v3), (0, .ref 34), (1, .ref a1), (2, .int p2)] dX0_packing_19 (by decide) rfl ?_
  refine PWk.aload_n 1 dX0_packing_20 rfl ?_
  refine PWk.gets dX0_packing_21 rg_34 lc_34 fl_X0_21 rfl st_34_4 ?_
  refine PWk.ldc (v := 1048576) dX0_packing_24 kc_X0_80 ?_
  refine PWk.callSvI (pc_J7_fill_53178 fu x2 L R 38 256 ly_38 rg_38 1048576) dX0_packing_26 ml_X0_81 rfl (by decide) rfl (Nat.le_of_ble_eq_true rfl) (fun x4 => ?_)
  refine PWk.aload_n 1 dX0_packing_29 rfl ?_
  refine PWk.gets dX0_packing_30 rg_34 lc_34 fl_X0_21 rfl st_34_4 ?_
  refine PWk.iconst (v := 0) dX0_packing_33 ic_0 ?_
  refine PWk.iconst (v := 0) dX0_packing_34 ic_0 ?_
  refine PWk.iast dX0_packing_35 rg_38 ly_38 ?_
  refine PWk.bI (fun I5 => ?_)
  refine PWk.iconst (v := 0) dX0_packing_36 ic_0 ?_
  refine PWk.istore [(4, .int 0), (3, .int v3), (0, .ref 34), (1, .ref a1), (2, .int p2)] dX0_packing_37 (by decide) rfl ?_
  refine PWk.sub [2, 3, 1, 0] rfl ?_
  refine PWk.loopV (fun N' hx' => lp_X0_packing_39 fu a1 hy_a1 v3 L R fu 0 I5 N' F hx') (fun x10 => ?_)
  refine PWk.aload_n 0 dX0_packing_77 rfl ?_
  refine PWk.gets dX0_packing_78 rg_34 lc_34 fl_X0_21 rfl st_34_4 ?_
  refine PWk.iload_n 1 dX0_packing_81 rfl ?_
  refine PWk.iald dX0_packing_82 rg_38 ly_38 (fun v11 => ?_)
  refine PWk.ldc (v := 1048576) dX0_packing_83 kc_X0_80 ?_
  refine PWk.icmp_ge 97 dX0_packing_85 (by decide) (fun h13 => ?_) (fun h13 => ?_)
  · refine PWk.iconst (v := (-1)) dX0_packing_97 ic_m1 ?_
    exact PWk.iret dX0_packing_98 rfl (fun h => h)
  · refine PWk.aload_n 0 dX0_packing_88 rfl ?_
    refine PWk.gets dX0_packing_89 rg_34 lc_34 fl_X0_21 rfl st_34_4 ?_
    refine PWk.iload_n 1 dX0_packing_92 rfl ?_
    refine PWk.iald dX0_packing_93 rg_38 ly_38 (fun v12 => ?_)
    refine PWk.goto 98 dX0_packing_94 (by decide) ?_
    exact PWk.iret dX0_packing_98 rfl (fun h => h)
/-! LakeMarket$Chooser.divide(III)V -/
def f_X0_divide_L17 (rec : Nat → HI → Int32 → Int32 → Int32 → Option (HI)) : Nat → HI → Int32 → Int32 → Int32 → Int32 → Option (HI)
  | 0, _, _, _, _, _ => none
  | n + 1, I, u1, u2, u3, u4 =>
    if u3 ≤ u4 then
      some I
    else
      if u2 < u4 then
        some I
      else
        inb 8 u1 <|
        bnd (sI I 40 (u1 : Int32).toNatClampNeg u4) fun I1 =>
        ldI (I1 39) 3 u4 fun v2 =>
        ldI (I1 36) 8 u1 fun v3 =>
        inb 3 u4 <|
        bnd (sI I1 39 (u4 : Int32).toNatClampNeg (v2 + v3)) fun I4 =>
        jnt (β := Int32) (fun y7 =>
          (rec 0 I4 (u1 + 1) y7 u3).bind fun x8 =>
          ldI (x8 39) 3 u4 fun v9 =>
          ldI (x8 36) 8 u1 fun v10 =>
          inb 3 u4 <|
          bnd (sI x8 39 (u4 : Int32).toNatClampNeg (v9 - v10)) fun I11 =>
          f_X0_divide_L17 rec n I11 u1 u2 u3 (u4 + 1)) fun j5 =>
        if u4 = u2 then
          j5 (u2 + 1)
        else
          j5 u2
def f_X0_divide (rec : Nat → HI → Int32 → Int32 → Int32 → Option (HI)) (fu : Nat) (I : HI) (p1 : Int32) (p2 : Int32) (p3 : Int32) : Option (HI) :=
  if p1 < (I 34 2) then
    (f_X0_divide_L17 rec fu I p1 p2 p3 0).bind fun x14 =>
    some x14
  else
    (f_X0_keepIfFairer I p3).bind fun x15 =>
    some x15
set_option maxRecDepth 20000 in
theorem lp_X0_divide_17 (rec : Nat → HI → Int32 → Int32 → Int32 → Option (HI)) (D0 : Nat) (fu : Nat) (u1 : Int32) (u2 : Int32) (u3 : Int32) (L : HL) (R : HR) (hD0 : 1 ≤ D0) (hrec : (∀ (I : HI) (L : HL) (R : HR) (a0 : Int32) (a1 : Int32) (a2 : Int32), PCo 1 93 D0 yX0_divide cX0_divide 5 none [.ref 34, .int a0, .int a1, .int a2] I L R (rec 0 I a0 a1 a2) (fun x : HI => ((none, x, L, R) : HF)))) : ∀ (n : Nat) (u4 : Int32) (I : HI) (N : (HI) → Prop) (F : HF), (∀ v : HI, N v → PW 1 93 (D0 + 1) RX0 cX0_divide 5 none 96 [] [] v L R F) → PWk 1 93 (D0 + 1) RX0 cX0_divide 5 none 17 [(0, .ref 34), (1, .int u1), (2, .int u2), (3, .int u3), (4, .int u4)] [] I L R (f_X0_divide_L17 rec n I u1 u2 u3 u4) N F := by
  intro n
  induction n with
  | zero => intro u4 I N F hx; exact PWk.none'
  | succ n ih =>
    intro u4 I N F hx
    unfold f_X0_divide_L17
    refine PWk.iload 4 dX0_divide_17 rfl ?_
    refine PWk.iload_n 3 dX0_divide_19 rfl ?_
    refine PWk.icmp_ge 96 dX0_divide_20 (by decide) (fun h13 => ?_) (fun h13 => ?_)
    · refine PWk.sub [] rfl ?_
      exact PWk.done (fun h => hx _ h)
    · refine PWk.iload 4 dX0_divide_23 rfl ?_
      refine PWk.iload_n 2 dX0_divide_25 rfl ?_
      refine PWk.icmp_gt 96 dX0_divide_26 (by decide) (fun h12 => ?_) (fun h12 => ?_)
      · refine PWk.sub [] rfl ?_
        exact PWk.done (fun h => hx _ h)
      · refine PWk.aload_n 0 dX0_divide_29 rfl ?_
        refine PWk.gets dX0_divide_30 rg_34 lc_34 fl_X0_27 rfl st_34_6 ?_
        refine PWk.iload_n 1 dX0_divide_33 rfl ?_
        refine PWk.iload 4 dX0_divide_34 rfl ?_
        refine PWk.iast dX0_divide_36 rg_40 ly_40 ?_
        refine PWk.bI (fun I1 => ?_)
        refine PWk.aload_n 0 dX0_divide_37 rfl ?_
        refine PWk.gets dX0_divide_38 rg_34 lc_34 fl_X0_24 rfl st_34_5 ?_
        refine PWk.iload 4 dX0_divide_41 rfl ?_
        refine PWk.dup2 dX0_divide_43 rfl rfl ?_
        refine PWk.iald dX0_divide_44 rg_39 ly_39 (fun v2 => ?_)
        refine PWk.aload_n 0 dX0_divide_45 rfl ?_
        refine PWk.gets dX0_divide_46 rg_34 lc_34 fl_X0_15 rfl st_34_1 ?_
        refine PWk.iload_n 1 dX0_divide_49 rfl ?_
        refine PWk.iald dX0_divide_50 rg_36 ly_36 (fun v3 => ?_)
        refine PWk.iadd dX0_divide_51 ?_
        refine PWk.iast dX0_divide_52 rg_39 ly_39 ?_
        refine PWk.bI (fun I4 => ?_)
        refine PWk.aload_n 0 dX0_divide_53 rfl ?_
        refine PWk.iload_n 1 dX0_divide_54 rfl ?_
        refine PWk.iconst (v := 1) dX0_divide_55 ic_1 ?_
        refine PWk.iadd dX0_divide_56 ?_
        refine PWk.iload 4 dX0_divide_57 rfl ?_
        refine PWk.iload_n 2 dX0_divide_59 rfl ?_
        refine PWk.jn (pc' := 70) (lv' := fun y7 => [(0, .ref 34), (1, .int u1), (2, .int u2), (3, .int u3), (4, .int u4)]) (st' := fun y7 => [.int y7, .int (u1 + 1), .ref 34]) (I' := fun y7 => I4) (L' := fun y7 => L) (R' := fun y7 => R) (fun j5 hj5 => ?_) (fun y7 => ?_)
        · refine PWk.icmp_ne 69 dX0_divide_60 (by decide) (fun h6 => ?_) (fun h6 => ?_)
          · refine PWk.iload_n 2 dX0_divide_63 rfl ?_
            refine PWk.iconst (v := 1) dX0_divide_64 ic_1 ?_
            refine PWk.iadd dX0_divide_65 ?_
            refine PWk.goto 70 dX0_divide_66 (by decide) ?_
            exact hj5 (u2 + 1)
          · refine PWk.iload_n 2 dX0_divide_69 rfl ?_
            exact hj5 u2
        · refine PWk.iload_n 3 dX0_divide_70 rfl ?_
          refine PWk.callVvI (hrec I4 L R (u1 + 1) y7 u3) dX0_divide_71 ml_X0_113 rfl rg_34 lc_34 vq_0 (by omega) rfl (Nat.le_of_ble_eq_true rfl) (fun x8 => ?_)
          refine PWk.aload_n 0 dX0_divide_74 rfl ?_
          refine PWk.gets dX0_divide_75 rg_34 lc_34 fl_X0_24 rfl st_34_5 ?_
          refine PWk.iload 4 dX0_divide_78 rfl ?_
          refine PWk.dup2 dX0_divide_80 rfl rfl ?_
          refine PWk.iald dX0_divide_81 rg_39 ly_39 (fun v9 => ?_)
          refine PWk.aload_n 0 dX0_divide_82 rfl ?_
          refine PWk.gets dX0_divide_83 rg_34 lc_34 fl_X0_15 rfl st_34_1 ?_
          refine PWk.iload_n 1 dX0_divide_86 rfl ?_
          refine PWk.iald dX0_divide_87 rg_36 ly_36 (fun v10 => ?_)
          refine PWk.isub dX0_divide_88 ?_
          refine PWk.iast dX0_divide_89 rg_39 ly_39 ?_
          refine PWk.bI (fun I11 => ?_)
          refine PWk.iinc (v := (u4 + 1)) 4 [(4, .int (u4 + 1)), (0, .ref 34), (1, .int u1), (2, .int u2), (3, .int u3)] dX0_divide_90 rfl (by rw [ic_1]) (by decide) rfl ?_
          refine PWk.goto 17 dX0_divide_93 (by decide) ?_
          refine PWk.sub [1, 2, 3, 4, 0] rfl ?_
          exact ih (u4 + 1) I11 N F hx
set_option maxRecDepth 20000 in
theorem pc_X0_divide (rec : Nat → HI → Int32 → Int32 → Int32 → Option (HI)) (D0 : Nat) (fu : Nat) (I : HI) (L : HL) (R : HR) (p1 : Int32) (p2 : Int32) (p3 : Int32) (hD0 : 1 ≤ D0) (hrec : (∀ (I : HI) (L : HL) (R : HR) (a0 : Int32) (a1 : Int32) (a2 : Int32), PCo 1 93 D0 yX0_divide cX0_divide 5 none [.ref 34, .int a0, .int a1, .int a2] I L R (rec 0 I a0 a1 a2) (fun x : HI => ((none, x, L, R) : HF)))) : PCo 1 93 (D0 + 1) yX0_divide cX0_divide 5 none [.ref 34, .int p1, .int p2, .int p3] I L R (f_X0_divide rec fu I p1 p2 p3) (fun x : HI => ((none, x, L, R) : HF)) := by
  refine PCo.of (own := RX0) (by decide +kernel) (Nat.le_of_ble_eq_true rfl) rfl rfl (fun F => ?_)
  unfold f_X0_divide
  refine PWk.iload_n 1 dX0_divide_0 rfl ?_
  refine PWk.aload_n 0 dX0_divide_1 rfl ?_
  refine PWk.geti dX0_divide_2 rg_34 lc_34 fl_X0_33 rfl ?_
  refine PWk.icmp_lt 14 dX0_divide_5 (by decide) (fun h16 => ?_) (fun h16 => ?_)
  · refine PWk.iconst (v := 0) dX0_divide_14 ic_0 ?_
    refine PWk.istore [(4, .int 0), (0, .ref 34), (1, .int p1), (2, .int p2), (3, .int p3)] dX0_divide_15 (by decide) rfl ?_
    refine PWk.sub [1, 2, 3, 4, 0] rfl ?_
    refine PWk.loopV (fun N' hx' => lp_X0_divide_17 rec D0 fu p1 p2 p3 L R hD0 hrec fu 0 I N' F hx') (fun x14 => ?_)
    exact PWk.vret dX0_divide_96 rfl (fun h => h)
  · refine PWk.aload_n 0 dX0_divide_8 rfl ?_
    refine PWk.iload_n 3 dX0_divide_9 rfl ?_
    refine PWk.callVvI (pc_X0_keepIfFairer I L R p3) dX0_divide_10 ml_X0_116 rfl rg_34 lc_34 vq_0 (by omega) rfl (Nat.le_of_ble_eq_true rfl) (fun x15 => ?_)
    exact PWk.vret dX0_divide_13 rfl (fun h => h)
def g_X0 (fu : Nat) : Nat → Nat → HI → Int32 → Int32 → Int32 → Option (HI)
  | 0, _, _, _, _, _ => none
  | r + 1, w, I, a0, a1, a2 =>
    f_X0_divide (g_X0 fu r) fu I a0 a1 a2
theorem g_X0_ok (fu : Nat) : ∀ r : Nat, (∀ (I : HI) (L : HL) (R : HR) (a0 : Int32) (a1 : Int32) (a2 : Int32), PCo 1 93 (1 + r) yX0_divide cX0_divide 5 none [.ref 34, .int a0, .int a1, .int a2] I L R (g_X0 fu r 0 I a0 a1 a2) (fun x : HI => ((none, x, L, R) : HF))) := by
  intro r
  induction r with
  | zero => exact fun I L R a0 a1 a2 a h => (by cases h)
  | succ r ih =>
    exact fun I L R a0 a1 a2 => pc_X0_divide (g_X0 fu r) (1 + r) fu I L R a0 a1 a2 (by omega) ih
/-! LakeMarket$Chooser.payments(LLakeMarket$Scene;)I -/
def f_X0_payments_L69 (fu : Nat) : Nat → HI → Int32 → Option (HI)
  | 0, _, _ => none
  | n + 1, I, u2 =>
    if ((1 : Int32) <<< ((I 34 2) &&& 31)) ≤ u2 then
      some I
    else
      (f_X0_mostGroups fu I u2).bind fun x14 =>
      ldI (I 37) 256 u2 fun v15 =>
      jnt (β := Int32) (fun y18 =>
        inb 256 u2 <|
        bnd (sI I 38 (u2 : Int32).toNatClampNeg (x14 + y18)) fun I19 =>
        f_X0_payments_L69 fu n I19 (u2 + 1)) fun j16 =>
      if v15 = 0 then
        j16 1
      else
        j16 0
def f_X0_payments_L7 (fu : Nat) : Nat → HI → HR → Nat → Int32 → Option (HI)
  | 0, _, _, _, _ => none
  | n + 1, I, R, b1, u2 =>
    gr (okLd (R b1 0)) <|
    if (I (R b1 0) 2) ≤ u2 then
      some I
    else
      (f_X9_netOf fu I R b1 u2).bind fun x3 =>
      jnt (β := HI) (fun y9 =>
        f_X0_payments_L7 fu n y9 R b1 (u2 + 1)) fun j4 =>
      if x3 = 0 then
        j4 I
      else
        (f_X9_netOf fu I R b1 u2).bind fun x5 =>
        inb 8 (I 34 2) <|
        bnd (sI I 36 ((I 34 2) : Int32).toNatClampNeg x5) fun I6 =>
        bnd (sI I6 34 2 ((I6 34 2) + 1)) fun I7 =>
        j4 I7
def f_X0_payments (fu : Nat) (I : HI) (R : HR) (a1 : Nat) : Option (Int32 × HI) :=
  bnd (sI I 34 2 0) fun I1 =>
  (f_X0_payments_L7 fu fu I1 R a1 0).bind fun x11 =>
  (f_X0_sumUp fu x11).bind fun x12 =>
  inb 256 0 <|
  bnd (sI x12 38 (0 : Int32).toNatClampNeg 0) fun I13 =>
  (f_X0_payments_L69 fu fu I13 1).bind fun x21 =>
  ldI (x21 38) 256 (((1 : Int32) <<< ((x21 34 2) &&& 31)) - 1) fun v22 =>
  some (((x21 34 2) - v22), x21)
set_option maxRecDepth 20000 in
theorem lp_X0_payments_69 (fu : Nat) (L : HL) (R : HR) : ∀ (n : Nat) (u2 : Int32) (I : HI) (N : (HI) → Prop) (F : HF), (∀ v : HI, N v → PW 1 93 2 RX0 cX0_payments 3 (some .int) 111 [(0, .ref 34)] [] v L R F) → PWk 1 93 2 RX0 cX0_payments 3 (some .int) 69 [(0, .ref 34), (2, .int u2)] [] I L R (f_X0_payments_L69 fu n I u2) N F := by
  intro n
  induction n with
  | zero => intro u2 I N F hx; exact PWk.none'
  | succ n ih =>
    intro u2 I N F hx
    unfold f_X0_payments_L69
    refine PWk.iload_n 1 dX0_payments_69 rfl ?_
    refine PWk.iconst (v := 1) dX0_payments_70 ic_1 ?_
    refine PWk.aload_n 0 dX0_payments_71 rfl ?_
    refine PWk.geti dX0_payments_72 rg_34 lc_34 fl_X0_33 rfl ?_
    refine PWk.ishl dX0_payments_75 ?_
    refine PWk.icmp_ge 111 dX0_payments_76 (by decide) (fun h20 => ?_) (fun h20 => ?_)
    · refine PWk.sub [0] rfl ?_
      exact PWk.done (fun h => hx _ h)
    · refine PWk.aload_n 0 dX0_payments_79 rfl ?_
      refine PWk.gets dX0_payments_80 rg_34 lc_34 fl_X0_21 rfl st_34_4 ?_
      refine PWk.iload_n 1 dX0_payments_83 rfl ?_
      refine PWk.aload_n 0 dX0_payments_84 rfl ?_
      refine PWk.iload_n 1 dX0_payments_85 rfl ?_
      refine PWk.callVi (pc_X0_mostGroups fu I L R u2) dX0_payments_86 ml_X0_135 rfl rg_34 lc_34 vq_0 (by decide) rfl (Nat.le_of_ble_eq_true rfl) (fun x14 => ?_)
      refine PWk.aload_n 0 dX0_payments_89 rfl ?_
      refine PWk.gets dX0_payments_90 rg_34 lc_34 fl_X0_18 rfl st_34_3 ?_
      refine PWk.iload_n 1 dX0_payments_93 rfl ?_
      refine PWk.iald dX0_payments_94 rg_37 ly_37 (fun v15 => ?_)
      refine PWk.jn (pc' := 103) (lv' := fun y18 => [(0, .ref 34), (2, .int u2)]) (st' := fun y18 => [.int y18, .int x14, .int u2, .ref 38]) (I' := fun y18 => I) (L' := fun y18 => L) (R' := fun y18 => R) (fun j16 hj16 => ?_) (fun y18 => ?_)
      · refine PWk.if_ne 102 dX0_payments_95 (by decide) (fun h17 => ?_) (fun h17 => ?_)
        · refine PWk.iconst (v := 1) dX0_payments_98 ic_1 ?_
          refine PWk.goto 103 dX0_payments_99 (by decide) ?_
          exact hj16 1
        · refine PWk.iconst (v := 0) dX0_payments_102 ic_0 ?_
          exact hj16 0
      · refine PWk.iadd dX0_payments_103 ?_
        refine PWk.iast dX0_payments_104 rg_38 ly_38 ?_
        refine PWk.bI (fun I19 => ?_)
        refine PWk.iinc (v := (u2 + 1)) 1 [(2, .int (u2 + 1)), (0, .ref 34)] dX0_payments_105 rfl (by rw [ic_1]) (by decide) rfl ?_
        refine PWk.goto 69 dX0_payments_108 (by decide) ?_
        refine PWk.sub [1, 0] rfl ?_
        exact ih (u2 + 1) I19 N F hx
set_option maxRecDepth 20000 in
theorem lp_X0_payments_7 (fu : Nat) (b1 : Nat) (hb1 : isSc b1) (L : HL) (R : HR) : ∀ (n : Nat) (u2 : Int32) (I : HI) (N : (HI) → Prop) (F : HF), (∀ v : HI, N v → PW 1 93 2 RX0 cX0_payments 3 (some .int) 56 [(0, .ref 34)] [] v L R F) → PWk 1 93 2 RX0 cX0_payments 3 (some .int) 7 [(0, .ref 34), (1, .ref b1), (2, .int u2)] [] I L R (f_X0_payments_L7 fu n I R b1 u2) N F := by
  intro n
  induction n with
  | zero => intro u2 I N F hx; exact PWk.none'
  | succ n ih =>
    intro u2 I N F hx
    unfold f_X0_payments_L7
    refine PWk.iload_n 2 dX0_payments_7 rfl ?_
    refine PWk.aload_n 1 dX0_payments_8 rfl ?_
    refine PWk.getr dX0_payments_9 (rgSc_0 hb1) (lcSc hb1) fl_X0_37 rfl okLd_ne (fun hk2 => ?_)
    refine PWk.geti dX0_payments_12 (rgLd_0 (okLd_is hk2)) (lcLd (okLd_is hk2)) fl_X0_129 rfl ?_
    refine PWk.icmp_ge 56 dX0_payments_15 (by decide) (fun h10 => ?_) (fun h10 => ?_)
    · refine PWk.sub [0] rfl ?_
      exact PWk.done (fun h => hx _ h)
    · refine PWk.aload_n 1 dX0_payments_18 rfl ?_
      refine PWk.iload_n 2 dX0_payments_19 rfl ?_
      refine PWk.callVi (pc_X9_netOf fu I L R b1 hb1 u2) dX0_payments_20 ml_X0_132 rfl (rgSc_0 hb1) (lcSc hb1) vq_9 (by decide) rfl (Nat.le_of_ble_eq_true rfl) (fun x3 => ?_)
      refine PWk.jn (pc' := 50) (lv' := fun y9 => [(0, .ref 34), (1, .ref b1), (2, .int u2)]) (st' := fun y9 => []) (I' := fun y9 => y9) (L' := fun y9 => L) (R' := fun y9 => R) (fun j4 hj4 => ?_) (fun y9 => ?_)
      · refine PWk.if_eq 50 dX0_payments_23 (by decide) (fun h8 => ?_) (fun h8 => ?_)
        · exact hj4 I
        · refine PWk.aload_n 0 dX0_payments_26 rfl ?_
          refine PWk.gets dX0_payments_27 rg_34 lc_34 fl_X0_15 rfl st_34_1 ?_
          refine PWk.aload_n 0 dX0_payments_30 rfl ?_
          refine PWk.geti dX0_payments_31 rg_34 lc_34 fl_X0_33 rfl ?_
          refine PWk.aload_n 1 dX0_payments_34 rfl ?_
          refine PWk.iload_n 2 dX0_payments_35 rfl ?_
          refine PWk.callVi (pc_X9_netOf fu I L R b1 hb1 u2) dX0_payments_36 ml_X0_132 rfl (rgSc_0 hb1) (lcSc hb1) vq_9 (by decide) rfl (Nat.le_of_ble_eq_true rfl) (fun x5 => ?_)
          refine PWk.iast dX0_payments_39 rg_36 ly_36 ?_
          refine PWk.bI (fun I6 => ?_)
          refine PWk.aload_n 0 dX0_payments_40 rfl ?_
          refine PWk.dup dX0_payments_41 rfl ?_
          refine PWk.geti dX0_payments_42 rg_34 lc_34 fl_X0_33 rfl ?_
          refine PWk.iconst (v := 1) dX0_payments_45 ic_1 ?_
          refine PWk.iadd dX0_payments_46 ?_
          refine PWk.puti dX0_payments_47 rg_34 lc_34 fl_X0_33 fp_0_2 rfl ?_
          refine PWk.bI (fun I7 => ?_)
          exact hj4 I7
      · refine PWk.iinc (v := (u2 + 1)) 2 [(2, .int (u2 + 1)), (0, .ref 34), (1, .ref b1)] dX0_payments_50 rfl (by rw [ic_1]) (by decide) rfl ?_
        refine PWk.goto 7 dX0_payments_53 (by decide) ?_
        refine PWk.sub [1, 2, 0] rfl ?_
        exact ih (u2 + 1) y9 N F hx
set_option maxRecDepth 20000 in
theorem pc_X0_payments (fu : Nat) (I : HI) (L : HL) (R : HR) (a1 : Nat) (hy_a1 : isSc a1) : PCo 1 93 2 yX0_payments cX0_payments 3 (some .int) [.ref 34, .ref a1] I L R (f_X0_payments fu I R a1) (fun x : Int32 × HI => ((some (.int x.1), x.2, L, R) : HF)) := by
  refine PCo.of (own := RX0) (by decide +kernel) (Nat.le_of_ble_eq_true rfl) rfl rfl (fun F => ?_)
  unfold f_X0_payments
  refine PWk.aload_n 0 dX0_payments_0 rfl ?_
  refine PWk.iconst (v := 0) dX0_payments_1 ic_0 ?_
  refine PWk.puti dX0_payments_2 rg_34 lc_34 fl_X0_33 fp_0_2 rfl ?_
  refine PWk.bI (fun I1 => ?_)
  refine PWk.iconst (v := 0) dX0_payments_5 ic_0 ?_
  refine PWk.istore_n [(2, .int 0), (0, .ref 34), (1, .ref a1)] dX0_payments_6 (by decide) rfl ?_
  refine PWk.sub [1, 2, 0] rfl ?_
  refine PWk.loopV (fun N' hx' => lp_X0_payments_7 fu a1 hy_a1 L R fu 0 I1 N' F hx') (fun x11 => ?_)
  refine PWk.aload_n 0 dX0_payments_56 rfl ?_
  refine PWk.callVvI (pc_X0_sumUp fu x11 L R) dX0_payments_57 ml_X0_62 rfl rg_34 lc_34 vq_0 (by decide) rfl (Nat.le_of_ble_eq_true rfl) (fun x12 => ?_)
  refine PWk.aload_n 0 dX0_payments_60 rfl ?_
  refine PWk.gets dX0_payments_61 rg_34 lc_34 fl_X0_21 rfl st_34_4 ?_
  refine PWk.iconst (v := 0) dX0_payments_64 ic_0 ?_
  refine PWk.iconst (v := 0) dX0_payments_65 ic_0 ?_
  refine PWk.iast dX0_payments_66 rg_38 ly_38 ?_
  refine PWk.bI (fun I13 => ?_)
  refine PWk.iconst (v := 1) dX0_payments_67 ic_1 ?_
  refine PWk.istore_n [(2, .int 1), (0, .ref 34)] dX0_payments_68 (by decide) rfl ?_
  refine PWk.sub [1, 0] rfl ?_
  refine PWk.loopV (fun N' hx' => lp_X0_payments_69 fu L R fu 1 I13 N' F hx') (fun x21 => ?_)
  refine PWk.aload_n 0 dX0_payments_111 rfl ?_
  refine PWk.geti dX0_payments_112 rg_34 lc_34 fl_X0_33 rfl ?_
  refine PWk.aload_n 0 dX0_payments_115 rfl ?_
  refine PWk.gets dX0_payments_116 rg_34 lc_34 fl_X0_21 rfl st_34_4 ?_
  refine PWk.iconst (v := 1) dX0_payments_119 ic_1 ?_
  refine PWk.aload_n 0 dX0_payments_120 rfl ?_
  refine PWk.geti dX0_payments_121 rg_34 lc_34 fl_X0_33 rfl ?_
  refine PWk.ishl dX0_payments_124 ?_
  refine PWk.iconst (v := 1) dX0_payments_125 ic_1 ?_
  refine PWk.isub dX0_payments_126 ?_
  refine PWk.iald dX0_payments_127 rg_38 ly_38 (fun v22 => ?_)
  refine PWk.isub dX0_payments_128 ?_
  exact PWk.iret dX0_payments_129 rfl (fun h => h)
/-! LakeMarket$Chooser.fairest(LLakeMarket$Scene;II)I -/
def f_X0_fairest (fu : Nat) (I : HI) (R : HR) (a1 : Nat) (p2 : Int32) (p3 : Int32) : Option (Int32 × HI) :=
  (f_X0_collect fu I R a1 p2 1).bind fun x1 =>
  (f_J7_fill_53178 fu x1 39 3 0).bind fun x2 =>
  bnd (sI x2 34 8 1048576) fun I3 =>
  (g_X0 fu 12 0 I3 0 0 p3).bind fun x4 =>
  some ((x4 34 8), x4)
set_option maxRecDepth 20000 in
theorem pc_X0_fairest (fu : Nat) (I : HI) (L : HL) (R : HR) (a1 : Nat) (hy_a1 : isSc a1) (p2 : Int32) (p3 : Int32) : PCo 1 93 14 yX0_fairest cX0_fairest 4 (some .int) [.ref 34, .ref a1, .int p2, .int p3] I L R (f_X0_fairest fu I R a1 p2 p3) (fun x : Int32 × HI => ((some (.int x.1), x.2, L, R) : HF)) := by
  refine PCo.of (own := RX0) (by decide +kernel) (Nat.le_of_ble_eq_true rfl) rfl rfl (fun F => ?_)
  unfold f_X0_fairest
  refine PWk.aload_n 0 dX0_fairest_0 rfl ?_
  refine PWk.aload_n 1 dX0_fairest_1 rfl ?_
  refine PWk.iload_n 2 dX0_fairest_2 rfl ?_
  refine PWk.iconst (v := 1) dX0_fairest_3 ic_1 ?_
  refine PWk.callVvI (pc_X0_collect fu I L R a1 hy_a1 p2 1) dX0_fairest_4 ml_X0_58 rfl rg_34 lc_34 vq_0 (by decide) rfl (Nat.le_of_ble_eq_true rfl) (fun x1 => ?_)
  refine PWk.aload_n 0 dX0_fairest_7 rfl ?_
  refine PWk.gets dX0_fairest_8 rg_34 lc_34 fl_X0_24 rfl st_34_5 ?_
  refine PWk.iconst (v := 0) dX0_fairest_11 ic_0 ?_
  refine PWk.callSvI (pc_J7_fill_53178 fu x1 L R 39 3 ly_39 rg_39 0) dX0_fairest_12 ml_X0_81 rfl (by decide) rfl (Nat.le_of_ble_eq_true rfl) (fun x2 => ?_)
  refine PWk.aload_n 0 dX0_fairest_15 rfl ?_
  refine PWk.ldc (v := 1048576) dX0_fairest_16 kc_X0_80 ?_
  refine PWk.puti dX0_fairest_18 rg_34 lc_34 fl_X0_110 fp_0_8 rfl ?_
  refine PWk.bI (fun I3 => ?_)
  refine PWk.aload_n 0 dX0_fairest_21 rfl ?_
  refine PWk.iconst (v := 0) dX0_fairest_22 ic_0 ?_
  refine PWk.iconst (v := 0) dX0_fairest_23 ic_0 ?_
  refine PWk.iload_n 3 dX0_fairest_24 rfl ?_
  refine PWk.callVvI ((g_X0_ok fu 12) I3 L R 0 0 p3) dX0_fairest_25 ml_X0_113 rfl rg_34 lc_34 vq_0 (by decide) rfl (Nat.le_of_ble_eq_true rfl) (fun x4 => ?_)
  refine PWk.aload_n 0 dX0_fairest_28 rfl ?_
  refine PWk.geti dX0_fairest_29 rg_34 lc_34 fl_X0_110 rfl ?_
  exact PWk.iret dX0_fairest_32 rfl (fun h => h)
