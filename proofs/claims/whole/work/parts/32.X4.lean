/-! LakeMarket$Mover.takeRows([IILLakeMarket$Scene;)Z -/
def f_X4_takeRows_L30 : Nat → HI → HR → Nat → Nat → Int32 → Nat → Int32 → Option ((Int32 × HI) ⊕ (HI))
  | 0, _, _, _, _, _, _, _ => none
  | n + 1, I, R, b1, b1n, u2, b3, u4 =>
    if u2 ≤ u4 then
      some (.inr I)
    else
      ldI (I b1) b1n u4 fun v2 =>
      (f_X9_stands I R b3 v2).bind fun x3 =>
      if x3 = 0 then
        gz 0 (some (.inl (0, I)))
      else
        ldI (I 43) 8 v2 fun v4 =>
        if v4 = (-1) then
          ldI (I b1) b1n (u4 + 1) fun v5 =>
          (f_X9_isHollow I R b3 v5).bind fun x6 =>
          if x6 = 0 then
            gz 0 (some (.inl (0, I)))
          else
            ldI (I b1) b1n (u4 + 1) fun v7 =>
            inb 8 v2 <|
            bnd (sI I 43 (v2 : Int32).toNatClampNeg v7) fun I8 =>
            f_X4_takeRows_L30 n I8 R b1 b1n u2 b3 (u4 + 2)
        else
          gz 0 (some (.inl (0, I)))
def f_X4_takeRows (fu : Nat) (I : HI) (R : HR) (a1 : Nat) (a1n : Nat) (p2 : Int32) (a3 : Nat) : Option (Int32 × HI) :=
  if p2 < 2 then
    gz 0 (some (0, I))
  else
    if 16 < p2 then
      gz 0 (some (0, I))
    else
      dvI 2 <|
      if (p2 - p2 / 2 * 2) = 0 then
        (f_J7_fill_53178 fu I 43 8 (-1)).bind fun x1 =>
        (f_X4_takeRows_L30 fu x1 R a1 a1n p2 a3 0).bind (Sum.elim (fun r => some r) fun x13 =>
        gz 1 (some (1, x13)))
      else
        gz 0 (some (0, I))
set_option maxRecDepth 20000 in
theorem lp_X4_takeRows_30 (fu : Nat) (b1 b1n : Nat) (hl1 : lay b1 = (13, b1n)) (hr1 : 1 ≤ b1 ∧ b1 < 93) (u2 : Int32) (b3 : Nat) (hb3 : isSc b3) (L : HL) (R : HR) : ∀ (n : Nat) (u4 : Int32) (I : HI) (N : ((Int32 × HI) ⊕ (HI)) → Prop) (F : HF), (∀ v : HI, N (.inr v) → PW 1 93 2 RX4 cX4_takeRows 6 (some .boolean) 96 [] [] v L R F) → (∀ r : Int32 × HI, N (.inl r) → F = (fun x : Int32 × HI => ((some (.int x.1), x.2, L, R) : HF)) r) → PWk 1 93 2 RX4 cX4_takeRows 6 (some .boolean) 30 [(0, .ref 42), (1, .ref b1), (2, .int u2), (3, .ref b3), (4, .int u4)] [] I L R (f_X4_takeRows_L30 n I R b1 b1n u2 b3 u4) N F := by
  intro n
  induction n with
  | zero => intro u4 I N F hx hr; exact PWk.none'
  | succ n ih =>
    intro u4 I N F hx hr
    unfold f_X4_takeRows_L30
    refine PWk.iload 4 dX4_takeRows_30 rfl ?_
    refine PWk.iload_n 2 dX4_takeRows_32 rfl ?_
    refine PWk.icmp_ge 96 dX4_takeRows_33 (by decide) (fun h12 => ?_) (fun h12 => ?_)
    · refine PWk.sub [] rfl ?_
      exact PWk.done (fun h => hx _ h)
    · refine PWk.aload_n 1 dX4_takeRows_36 rfl ?_
      refine PWk.iload 4 dX4_takeRows_37 rfl ?_
      refine PWk.iald dX4_takeRows_39 hr1 hl1 (fun v2 => ?_)
      refine PWk.istore [(5, .int v2), (0, .ref 42), (1, .ref b1), (2, .int u2), (3, .ref b3), (4, .int u4)] dX4_takeRows_40 (by decide) rfl ?_
      refine PWk.aload_n 4 dX4_takeRows_42 rfl ?_
      refine PWk.iload 0 dX4_takeRows_43 rfl ?_
      refine PWk.callVi (pc_X9_stands I L R b3 hb3 v2) dX4_takeRows_45 ml_X4_30 rfl (rgSc_0 hb3) (lcSc hb3) vq_9 (by decide) rfl (Nat.le_of_ble_eq_true rfl) (fun x3 => ?_)
      refine PWk.if_eq 75 dX4_takeRows_48 (by decide) (fun h11 => ?_) (fun h11 => ?_)
      · refine PWk.iconst (v := 0) dX4_takeRows_75 ic_0 ?_
        exact PWk.zret dX4_takeRows_76 rfl (hr _)
      · refine PWk.aload_n 1 dX4_takeRows_51 rfl ?_
        refine PWk.gets dX4_takeRows_52 rg_42 lc_42 fl_X4_9 rfl st_42_0 ?_
        refine PWk.iload 0 dX4_takeRows_55 rfl ?_
        refine PWk.iald dX4_takeRows_57 rg_43 ly_43 (fun v4 => ?_)
        refine PWk.iconst (v := (-1)) dX4_takeRows_58 ic_m1 ?_
        refine PWk.icmp_ne 75 dX4_takeRows_59 (by decide) (fun h10 => ?_) (fun h10 => ?_)
        · refine PWk.aload_n 4 dX4_takeRows_62 rfl ?_
          refine PWk.aload_n 2 dX4_takeRows_63 rfl ?_
          refine PWk.iload 5 dX4_takeRows_64 rfl ?_
          refine PWk.iconst (v := 1) dX4_takeRows_66 ic_1 ?_
          refine PWk.iadd dX4_takeRows_67 ?_
          refine PWk.iald dX4_takeRows_68 hr1 hl1 (fun v5 => ?_)
          refine PWk.callVi (pc_X9_isHollow I L R b3 hb3 v5) dX4_takeRows_69 ml_X4_36 rfl (rgSc_0 hb3) (lcSc hb3) vq_9 (by decide) rfl (Nat.le_of_ble_eq_true rfl) (fun x6 => ?_)
          refine PWk.if_ne 77 dX4_takeRows_72 (by decide) (fun h9 => ?_) (fun h9 => ?_)
          · refine PWk.iconst (v := 0) dX4_takeRows_75 ic_0 ?_
            exact PWk.zret dX4_takeRows_76 rfl (hr _)
          · refine PWk.aload_n 1 dX4_takeRows_77 rfl ?_
            refine PWk.gets dX4_takeRows_78 rg_42 lc_42 fl_X4_9 rfl st_42_0 ?_
            refine PWk.iload 0 dX4_takeRows_81 rfl ?_
            refine PWk.aload_n 2 dX4_takeRows_83 rfl ?_
            refine PWk.iload 5 dX4_takeRows_84 rfl ?_
            refine PWk.iconst (v := 1) dX4_takeRows_86 ic_1 ?_
            refine PWk.iadd dX4_takeRows_87 ?_
            refine PWk.iald dX4_takeRows_88 hr1 hl1 (fun v7 => ?_)
            refine PWk.iast dX4_takeRows_89 rg_43 ly_43 ?_
            refine PWk.bI (fun I8 => ?_)
            refine PWk.iinc (v := (u4 + 2)) 5 [(4, .int (u4 + 2)), (5, .int v2), (0, .ref 42), (1, .ref b1), (2, .int u2), (3, .ref b3)] dX4_takeRows_90 rfl (by rw [ic_2]) (by decide) rfl ?_
            refine PWk.goto 30 dX4_takeRows_93 (by decide) ?_
            refine PWk.sub [2, 3, 4, 5, 0] rfl ?_
            exact ih (u4 + 2) I8 N F hx hr
        · refine PWk.iconst (v := 0) dX4_takeRows_75 ic_0 ?_
          exact PWk.zret dX4_takeRows_76 rfl (hr _)
set_option maxRecDepth 20000 in
theorem pc_X4_takeRows (fu : Nat) (I : HI) (L : HL) (R : HR) (a1 : Nat) (a1n : Nat) (hl_a1 : lay a1 = (13, a1n)) (hr_a1 : 1 ≤ a1 ∧ a1 < 93) (p2 : Int32) (a3 : Nat) (hy_a3 : isSc a3) : PCo 1 93 2 yX4_takeRows cX4_takeRows 6 (some .boolean) [.ref 42, .ref a1, .int p2, .ref a3] I L R (f_X4_takeRows fu I R a1 a1n p2 a3) (fun x : Int32 × HI => ((some (.int x.1), x.2, L, R) : HF)) := by
  refine PCo.of (own := RX4) (by decide +kernel) (Nat.le_of_ble_eq_true rfl) rfl rfl (fun F => ?_)
  unfold f_X4_takeRows
  refine PWk.iload_n 2 dX4_takeRows_0 rfl ?_
  refine PWk.iconst (v := 2) dX4_takeRows_1 ic_2 ?_
  refine PWk.icmp_lt 17 dX4_takeRows_2 (by decide) (fun h16 => ?_) (fun h16 => ?_)
  · refine PWk.iconst (v := 0) dX4_takeRows_17 ic_0 ?_
    exact PWk.zret dX4_takeRows_18 rfl (fun h => h)
  · refine PWk.iload_n 2 dX4_takeRows_5 rfl ?_
    refine PWk.bipush (v := 16) dX4_takeRows_6 bp_16 ?_
    refine PWk.icmp_gt 17 dX4_takeRows_8 (by decide) (fun h15 => ?_) (fun h15 => ?_)
    · refine PWk.iconst (v := 0) dX4_takeRows_17 ic_0 ?_
      exact PWk.zret dX4_takeRows_18 rfl (fun h => h)
    · refine PWk.iload_n 2 dX4_takeRows_11 rfl ?_
      refine PWk.iconst (v := 2) dX4_takeRows_12 ic_2 ?_
      refine PWk.irem dX4_takeRows_13 ?_
      refine PWk.if_eq 19 dX4_takeRows_14 (by decide) (fun h14 => ?_) (fun h14 => ?_)
      · refine PWk.aload_n 0 dX4_takeRows_19 rfl ?_
        refine PWk.gets dX4_takeRows_20 rg_42 lc_42 fl_X4_9 rfl st_42_0 ?_
        refine PWk.iconst (v := (-1)) dX4_takeRows_23 ic_m1 ?_
        refine PWk.callSvI (pc_J7_fill_53178 fu I L R 43 8 ly_43 rg_43 (-1)) dX4_takeRows_24 ml_X4_24 rfl (by decide) rfl (Nat.le_of_ble_eq_true rfl) (fun x1 => ?_)
        refine PWk.iconst (v := 0) dX4_takeRows_27 ic_0 ?_
        refine PWk.istore [(4, .int 0), (0, .ref 42), (1, .ref a1), (2, .int p2), (3, .ref a3)] dX4_takeRows_28 (by decide) rfl ?_
        refine PWk.sub [1, 2, 3, 4, 0] rfl ?_
        refine PWk.loopS (fun N' hx' hr' => lp_X4_takeRows_30 fu a1 a1n hl_a1 hr_a1 p2 a3 hy_a3 L R fu 0 x1 N' F hx' hr') (fun r a e h => by cases e; exact h) (fun x13 => ?_)
        refine PWk.iconst (v := 1) dX4_takeRows_96 ic_1 ?_
        exact PWk.zret dX4_takeRows_97 rfl (fun h => h)
      · refine PWk.iconst (v := 0) dX4_takeRows_17 ic_0 ?_
        exact PWk.zret dX4_takeRows_18 rfl (fun h => h)
/-! LakeMarket$Mover.isAstray(II)Z -/
def f_X4_isAstray (I : HI) (p1 : Int32) (p2 : Int32) : Option (Int32) :=
  ldI (I 43) 8 p1 fun v1 =>
  if v1 = (-1) then
    gz 0 (some 0)
  else
    ldI (I 43) 8 p1 fun v2 =>
    if v2 = p2 then
      gz 0 (some 0)
    else
      gz 1 (some 1)
set_option maxRecDepth 20000 in
theorem pc_X4_isAstray (I : HI) (L : HL) (R : HR) (p1 : Int32) (p2 : Int32) : PCo 1 93 0 yX4_isAstray cX4_isAstray 3 (some .boolean) [.ref 42, .int p1, .int p2] I L R (f_X4_isAstray I p1 p2) (fun x : Int32 => ((some (.int x), I, L, R) : HF)) := by
  refine PCo.of (own := RX4) (by decide +kernel) (Nat.le_of_ble_eq_true rfl) rfl rfl (fun F => ?_)
  unfold f_X4_isAstray
  refine PWk.aload_n 0 dX4_isAstray_0 rfl ?_
  refine PWk.gets dX4_isAstray_1 rg_42 lc_42 fl_X4_9 rfl st_42_0 ?_
  refine PWk.iload_n 1 dX4_isAstray_4 rfl ?_
  refine PWk.iald dX4_isAstray_5 rg_43 ly_43 (fun v1 => ?_)
  refine PWk.iconst (v := (-1)) dX4_isAstray_6 ic_m1 ?_
  refine PWk.icmp_eq 24 dX4_isAstray_7 (by decide) (fun h4 => ?_) (fun h4 => ?_)
  · refine PWk.iconst (v := 0) dX4_isAstray_24 ic_0 ?_
    exact PWk.zret dX4_isAstray_25 rfl (fun h => h)
  · refine PWk.aload_n 0 dX4_isAstray_10 rfl ?_
    refine PWk.gets dX4_isAstray_11 rg_42 lc_42 fl_X4_9 rfl st_42_0 ?_
    refine PWk.iload_n 1 dX4_isAstray_14 rfl ?_
    refine PWk.iald dX4_isAstray_15 rg_43 ly_43 (fun v2 => ?_)
    refine PWk.iload_n 2 dX4_isAstray_16 rfl ?_
    refine PWk.icmp_eq 24 dX4_isAstray_17 (by decide) (fun h3 => ?_) (fun h3 => ?_)
    · refine PWk.iconst (v := 0) dX4_isAstray_24 ic_0 ?_
      exact PWk.zret dX4_isAstray_25 rfl (fun h => h)
    · refine PWk.iconst (v := 1) dX4_isAstray_20 ic_1 ?_
      refine PWk.goto 25 dX4_isAstray_21 (by decide) ?_
      exact PWk.zret dX4_isAstray_25 rfl (fun h => h)
/-! LakeMarket$Mover.strayCount()I -/
def f_X4_strayCount_L4 : Nat → HI → HR → Int32 → Int32 → Option (Int32)
  | 0, _, _, _, _ => none
  | n + 1, I, R, u1, u2 =>
    gr (okSc (R 42 4)) <|
    gr (okLd (R (R 42 4) 0)) <|
    if (I (R (R 42 4) 0) 3) ≤ u2 then
      some u1
    else
      ldI (I ((R 42 4) + 2)) 8 u2 fun v3 =>
      (f_X4_isAstray I u2 v3).bind fun x4 =>
      jnt (β := Int32) (fun y7 =>
        bnd ((u1 + y7)) fun v8 =>
        f_X4_strayCount_L4 n I R v8 (u2 + 1)) fun j5 =>
      if x4 = 0 then
        j5 0
      else
        j5 1
def f_X4_strayCount (fu : Nat) (I : HI) (R : HR) : Option (Int32) :=
  (f_X4_strayCount_L4 fu I R 0 0).bind fun x10 =>
  some x10
set_option maxRecDepth 20000 in
theorem lp_X4_strayCount_4 (fu : Nat) (I : HI) (L : HL) (R : HR) : ∀ (n : Nat) (u1 : Int32) (u2 : Int32) (N : (Int32) → Prop) (F : HF), (∀ v : Int32, N v → PW 1 93 1 RX4 cX4_strayCount 3 (some .int) 49 [(1, .int v)] [] I L R F) → PWk 1 93 1 RX4 cX4_strayCount 3 (some .int) 4 [(0, .ref 42), (1, .int u1), (2, .int u2)] [] I L R (f_X4_strayCount_L4 n I R u1 u2) N F := by
  intro n
  induction n with
  | zero => intro u1 u2 N F hx; exact PWk.none'
  | succ n ih =>
    intro u1 u2 N F hx
    unfold f_X4_strayCount_L4
    refine PWk.iload_n 2 dX4_strayCount_4 rfl ?_
    refine PWk.aload_n 0 dX4_strayCount_5 rfl ?_
    refine PWk.getr dX4_strayCount_6 rg_42 lc_42 fl_X4_39 rfl okSc_ne (fun hk1 => ?_)
    refine PWk.getr dX4_strayCount_9 (rgSc_0 (okSc_is hk1)) (lcSc (okSc_is hk1)) fl_X4_47 rfl okLd_ne (fun hk2 => ?_)
    refine PWk.geti dX4_strayCount_12 (rgLd_0 (okLd_is hk2)) (lcLd (okLd_is hk2)) fl_X4_71 rfl ?_
    refine PWk.icmp_ge 49 dX4_strayCount_15 (by decide) (fun h9 => ?_) (fun h9 => ?_)
    · refine PWk.sub [1] rfl ?_
      exact PWk.done (fun h => hx _ h)
    · refine PWk.iload_n 1 dX4_strayCount_18 rfl ?_
      refine PWk.aload_n 0 dX4_strayCount_19 rfl ?_
      refine PWk.iload_n 2 dX4_strayCount_20 rfl ?_
      refine PWk.aload_n 0 dX4_strayCount_21 rfl ?_
      refine PWk.getrk dX4_strayCount_22 rg_42 lc_42 fl_X4_39 rfl (neSc (okSc_is hk1)) ?_
      refine PWk.gets dX4_strayCount_25 (rgSc_0 (okSc_is hk1)) (lcSc (okSc_is hk1)) fl_X4_74 rfl (stSc_3 (okSc_is hk1)) ?_
      refine PWk.iload_n 2 dX4_strayCount_28 rfl ?_
      refine PWk.iald dX4_strayCount_29 (rgSc_2 (okSc_is hk1)) (lySc_2 (okSc_is hk1)) (fun v3 => ?_)
      refine PWk.callVi (pc_X4_isAstray I L R u2 v3) dX4_strayCount_30 ml_X4_77 rfl rg_42 lc_42 vq_4 (by decide) rfl (Nat.le_of_ble_eq_true rfl) (fun x4 => ?_)
      refine PWk.jn (pc' := 41) (lv' := fun y7 => [(0, .ref 42), (2, .int u2)]) (st' := fun y7 => [.int y7, .int u1]) (I' := fun y7 => I) (L' := fun y7 => L) (R' := fun y7 => R) (fun j5 hj5 => ?_) (fun y7 => ?_)
      · refine PWk.if_eq 40 dX4_strayCount_33 (by decide) (fun h6 => ?_) (fun h6 => ?_)
        · refine PWk.iconst (v := 0) dX4_strayCount_40 ic_0 ?_
          refine PWk.sub [0, 2] rfl ?_
          exact hj5 0
        · refine PWk.iconst (v := 1) dX4_strayCount_36 ic_1 ?_
          refine PWk.goto 41 dX4_strayCount_37 (by decide) ?_
          refine PWk.sub [0, 2] rfl ?_
          exact hj5 1
      · refine PWk.iadd dX4_strayCount_41 ?_
        refine PWk.bi (fun v8 => ?_)
        refine PWk.istore_n [(1, .int v8), (0, .ref 42), (2, .int u2)] dX4_strayCount_42 (by decide) rfl ?_
        refine PWk.iinc (v := (u2 + 1)) 2 [(2, .int (u2 + 1)), (1, .int v8), (0, .ref 42)] dX4_strayCount_43 rfl (by rw [ic_1]) (by decide) rfl ?_
        refine PWk.goto 4 dX4_strayCount_46 (by decide) ?_
        refine PWk.sub [2, 1, 0] rfl ?_
        exact ih v8 (u2 + 1) N F hx
set_option maxRecDepth 20000 in
theorem pc_X4_strayCount (fu : Nat) (I : HI) (L : HL) (R : HR) : PCo 1 93 1 yX4_strayCount cX4_strayCount 3 (some .int) [.ref 42] I L R (f_X4_strayCount fu I R) (fun x : Int32 => ((some (.int x), I, L, R) : HF)) := by
  refine PCo.of (own := RX4) (by decide +kernel) (Nat.le_of_ble_eq_true rfl) rfl rfl (fun F => ?_)
  unfold f_X4_strayCount
  refine PWk.iconst (v := 0) dX4_strayCount_0 ic_0 ?_
  refine PWk.istore_n [(1, .int 0), (0, .ref 42)] dX4_strayCount_1 (by decide) rfl ?_
  refine PWk.iconst (v := 0) dX4_strayCount_2 ic_0 ?_
  refine PWk.istore_n [(2, .int 0), (1, .int 0), (0, .ref 42)] dX4_strayCount_3 (by decide) rfl ?_
  refine PWk.sub [2, 1, 0] rfl ?_
  refine PWk.loopV (fun N' hx' => lp_X4_strayCount_4 fu I L R fu 0 0 N' F hx') (fun x10 => ?_)
  refine PWk.iload_n 0 dX4_strayCount_49 rfl ?_
  exact PWk.iret dX4_strayCount_50 rfl (fun h => h)
/-! LakeMarket$Mover.isAwaited(I)Z -/
def f_X4_isAwaited_L2 : Nat → HI → HR → Int32 → Int32 → Option ((Int32) ⊕ (Unit))
  | 0, _, _, _, _ => none
  | n + 1, I, R, u1, u2 =>
    gr (okSc (R 42 4)) <|
    gr (okLd (R (R 42 4) 0)) <|
    if (I (R (R 42 4) 0) 3) ≤ u2 then
      some (.inr ())
    else
      ldI (I 43) 8 u2 fun v3 =>
      jnt (β := Unit) (fun y8 =>
        f_X4_isAwaited_L2 n I R u1 (u2 + 1)) fun j4 =>
      if v3 = u1 then
        ldI (I ((R 42 4) + 2)) 8 u2 fun v5 =>
        if v5 = u1 then
          j4 ()
        else
          gz 1 (some (.inl 1))
      else
        j4 ()
def f_X4_isAwaited (fu : Nat) (I : HI) (R : HR) (p1 : Int32) : Option (Int32) :=
  (f_X4_isAwaited_L2 fu I R p1 0).bind (Sum.elim (fun r => some r) fun x10 =>
  gz 0 (some 0))
set_option maxRecDepth 20000 in
theorem lp_X4_isAwaited_2 (fu : Nat) (u1 : Int32) (I : HI) (L : HL) (R : HR) : ∀ (n : Nat) (u2 : Int32) (N : ((Int32) ⊕ (Unit)) → Prop) (F : HF), (∀ v : Unit, N (.inr v) → PW 1 93 0 RX4 cX4_isAwaited 3 (some .boolean) 47 [] [] I L R F) → (∀ r : Int32, N (.inl r) → F = (fun x : Int32 => ((some (.int x), I, L, R) : HF)) r) → PWk 1 93 0 RX4 cX4_isAwaited 3 (some .boolean) 2 [(0, .ref 42), (1, .int u1), (2, .int u2)] [] I L R (f_X4_isAwaited_L2 n I R u1 u2) N F := by
  intro n
  induction n with
  | zero => intro u2 N F hx hr; exact PWk.none'
  | succ n ih =>
    intro u2 N F hx hr
    unfold f_X4_isAwaited_L2
    refine PWk.iload_n 2 dX4_isAwaited_2 rfl ?_
    refine PWk.aload_n 0 dX4_isAwaited_3 rfl ?_
    refine PWk.getr dX4_isAwaited_4 rg_42 lc_42 fl_X4_39 rfl okSc_ne (fun hk1 => ?_)
    refine PWk.getr dX4_isAwaited_7 (rgSc_0 (okSc_is hk1)) (lcSc (okSc_is hk1)) fl_X4_47 rfl okLd_ne (fun hk2 => ?_)
    refine PWk.geti dX4_isAwaited_10 (rgLd_0 (okLd_is hk2)) (lcLd (okLd_is hk2)) fl_X4_71 rfl ?_
    refine PWk.icmp_ge 47 dX4_isAwaited_13 (by decide) (fun h9 => ?_) (fun h9 => ?_)
    · refine PWk.sub [] rfl ?_
      exact PWk.done (fun h => hx _ h)
    · refine PWk.aload_n 0 dX4_isAwaited_16 rfl ?_
      refine PWk.gets dX4_isAwaited_17 rg_42 lc_42 fl_X4_9 rfl st_42_0 ?_
      refine PWk.iload_n 2 dX4_isAwaited_20 rfl ?_
      refine PWk.iald dX4_isAwaited_21 rg_43 ly_43 (fun v3 => ?_)
      refine PWk.iload_n 1 dX4_isAwaited_22 rfl ?_
      refine PWk.jn (pc' := 41) (lv' := fun y8 => [(0, .ref 42), (1, .int u1), (2, .int u2)]) (st' := fun y8 => []) (I' := fun y8 => I) (L' := fun y8 => L) (R' := fun y8 => R) (fun j4 hj4 => ?_) (fun y8 => ?_)
      · refine PWk.icmp_ne 41 dX4_isAwaited_23 (by decide) (fun h7 => ?_) (fun h7 => ?_)
        · refine PWk.aload_n 0 dX4_isAwaited_26 rfl ?_
          refine PWk.getrk dX4_isAwaited_27 rg_42 lc_42 fl_X4_39 rfl (neSc (okSc_is hk1)) ?_
          refine PWk.gets dX4_isAwaited_30 (rgSc_0 (okSc_is hk1)) (lcSc (okSc_is hk1)) fl_X4_74 rfl (stSc_3 (okSc_is hk1)) ?_
          refine PWk.iload_n 2 dX4_isAwaited_33 rfl ?_
          refine PWk.iald dX4_isAwaited_34 (rgSc_2 (okSc_is hk1)) (lySc_2 (okSc_is hk1)) (fun v5 => ?_)
          refine PWk.iload_n 1 dX4_isAwaited_35 rfl ?_
          refine PWk.icmp_eq 41 dX4_isAwaited_36 (by decide) (fun h6 => ?_) (fun h6 => ?_)
          · exact hj4 ()
          · refine PWk.iconst (v := 1) dX4_isAwaited_39 ic_1 ?_
            exact PWk.zret dX4_isAwaited_40 rfl (hr _)
        · exact hj4 ()
      · refine PWk.iinc (v := (u2 + 1)) 2 [(2, .int (u2 + 1)), (0, .ref 42), (1, .int u1)] dX4_isAwaited_41 rfl (by rw [ic_1]) (by decide) rfl ?_
        refine PWk.goto 2 dX4_isAwaited_44 (by decide) ?_
        refine PWk.sub [1, 2, 0] rfl ?_
        exact ih (u2 + 1) N F hx hr
set_option maxRecDepth 20000 in
theorem pc_X4_isAwaited (fu : Nat) (I : HI) (L : HL) (R : HR) (p1 : Int32) : PCo 1 93 0 yX4_isAwaited cX4_isAwaited 3 (some .boolean) [.ref 42, .int p1] I L R (f_X4_isAwaited fu I R p1) (fun x : Int32 => ((some (.int x), I, L, R) : HF)) := by
  refine PCo.of (own := RX4) (by decide +kernel) (Nat.le_of_ble_eq_true rfl) rfl rfl (fun F => ?_)
  unfold f_X4_isAwaited
  refine PWk.iconst (v := 0) dX4_isAwaited_0 ic_0 ?_
  refine PWk.istore_n [(2, .int 0), (0, .ref 42), (1, .int p1)] dX4_isAwaited_1 (by decide) rfl ?_
  refine PWk.sub [1, 2, 0] rfl ?_
  refine PWk.loopS (fun N' hx' hr' => lp_X4_isAwaited_2 fu p1 I L R fu 0 N' F hx' hr') (fun r a e h => by cases e; exact h) (fun x10 => ?_)
  refine PWk.iconst (v := 0) dX4_isAwaited_47 ic_0 ?_
  exact PWk.zret dX4_isAwaited_48 rfl (fun h => h)
/-! LakeMarket$Mover.shift(III)V -/
def f_X4_shift (I : HI) (R : HR) (p1 : Int32) (p2 : Int32) (p3 : Int32) : Option (HI) :=
  gr (okSc (R 42 4)) <|
  inb 8 p1 <|
  bnd (sI I ((R 42 4) + 2) (p1 : Int32).toNatClampNeg p3) fun I2 =>
  ldI (I2 44) 8 p2 fun v3 =>
  ldI (I2 ((R 42 4) + 1)) 8 p1 fun v4 =>
  inb 8 p2 <|
  bnd (sI I2 44 (p2 : Int32).toNatClampNeg (v3 + v4)) fun I5 =>
  ldI (I5 45) 8 p2 fun v6 =>
  inb 8 p2 <|
  bnd (sI I5 45 (p2 : Int32).toNatClampNeg (v6 - 1)) fun I7 =>
  ldI (I7 44) 8 p3 fun v8 =>
  ldI (I7 ((R 42 4) + 1)) 8 p1 fun v9 =>
  inb 8 p3 <|
  bnd (sI I7 44 (p3 : Int32).toNatClampNeg (v8 - v9)) fun I10 =>
  ldI (I10 45) 8 p3 fun v11 =>
  inb 8 p3 <|
  bnd (sI I10 45 (p3 : Int32).toNatClampNeg (v11 + 1)) fun I12 =>
  some I12
set_option maxRecDepth 20000 in
theorem pc_X4_shift (I : HI) (L : HL) (R : HR) (p1 : Int32) (p2 : Int32) (p3 : Int32) : PCo 1 93 0 yX4_shift cX4_shift 4 none [.ref 42, .int p1, .int p2, .int p3] I L R (f_X4_shift I R p1 p2 p3) (fun x : HI => ((none, x, L, R) : HF)) := by
  refine PCo.of (own := RX4) (by decide +kernel) (Nat.le_of_ble_eq_true rfl) rfl rfl (fun F => ?_)
  unfold f_X4_shift
  refine PWk.aload_n 0 dX4_shift_0 rfl ?_
  refine PWk.getr dX4_shift_1 rg_42 lc_42 fl_X4_39 rfl okSc_ne (fun hk1 => ?_)
  refine PWk.gets dX4_shift_4 (rgSc_0 (okSc_is hk1)) (lcSc (okSc_is hk1)) fl_X4_74 rfl (stSc_3 (okSc_is hk1)) ?_
  refine PWk.iload_n 1 dX4_shift_7 rfl ?_
  refine PWk.iload_n 3 dX4_shift_8 rfl ?_
  refine PWk.iast dX4_shift_9 (rgSc_2 (okSc_is hk1)) (lySc_2 (okSc_is hk1)) ?_
  refine PWk.bI (fun I2 => ?_)
  refine PWk.aload_n 0 dX4_shift_10 rfl ?_
  refine PWk.gets dX4_shift_11 rg_42 lc_42 fl_X4_15 rfl st_42_1 ?_
  refine PWk.iload_n 2 dX4_shift_14 rfl ?_
  refine PWk.dup2 dX4_shift_15 rfl rfl ?_
  refine PWk.iald dX4_shift_16 rg_44 ly_44 (fun v3 => ?_)
  refine PWk.aload_n 0 dX4_shift_17 rfl ?_
  refine PWk.getrk dX4_shift_18 rg_42 lc_42 fl_X4_39 rfl (neSc (okSc_is hk1)) ?_
  refine PWk.gets dX4_shift_21 (rgSc_0 (okSc_is hk1)) (lcSc (okSc_is hk1)) fl_X4_81 rfl (stSc_2 (okSc_is hk1)) ?_
  refine PWk.iload_n 1 dX4_shift_24 rfl ?_
  refine PWk.iald dX4_shift_25 (rgSc_1 (okSc_is hk1)) (lySc_1 (okSc_is hk1)) (fun v4 => ?_)
  refine PWk.iadd dX4_shift_26 ?_
  refine PWk.iast dX4_shift_27 rg_44 ly_44 ?_
  refine PWk.bI (fun I5 => ?_)
  refine PWk.aload_n 0 dX4_shift_28 rfl ?_
  refine PWk.gets dX4_shift_29 rg_42 lc_42 fl_X4_18 rfl st_42_2 ?_
  refine PWk.iload_n 2 dX4_shift_32 rfl ?_
  refine PWk.dup2 dX4_shift_33 rfl rfl ?_
  refine PWk.iald dX4_shift_34 rg_45 ly_45 (fun v6 => ?_)
  refine PWk.iconst (v := 1) dX4_shift_35 ic_1 ?_
  refine PWk.isub dX4_shift_36 ?_
  refine PWk.iast dX4_shift_37 rg_45 ly_45 ?_
  refine PWk.bI (fun I7 => ?_)
  refine PWk.aload_n 0 dX4_shift_38 rfl ?_
  refine PWk.gets dX4_shift_39 rg_42 lc_42 fl_X4_15 rfl st_42_1 ?_
  refine PWk.iload_n 3 dX4_shift_42 rfl ?_
  refine PWk.dup2 dX4_shift_43 rfl rfl ?_
  refine PWk.iald dX4_shift_44 rg_44 ly_44 (fun v8 => ?_)
  refine PWk.aload_n 0 dX4_shift_45 rfl ?_
  refine PWk.getrk dX4_shift_46 rg_42 lc_42 fl_X4_39 rfl (neSc (okSc_is hk1)) ?_
  refine PWk.gets dX4_shift_49 (rgSc_0 (okSc_is hk1)) (lcSc (okSc_is hk1)) fl_X4_81 rfl (stSc_2 (okSc_is hk1)) ?_
  refine PWk.iload_n 1 dX4_shift_52 rfl ?_
  refine PWk.iald dX4_shift_53 (rgSc_1 (okSc_is hk1)) (lySc_1 (okSc_is hk1)) (fun v9 => ?_)
  refine PWk.isub dX4_shift_54 ?_
  refine PWk.iast dX4_shift_55 rg_44 ly_44 ?_
  refine PWk.bI (fun I10 => ?_)
  refine PWk.aload_n 0 dX4_shift_56 rfl ?_
  refine PWk.gets dX4_shift_57 rg_42 lc_42 fl_X4_18 rfl st_42_2 ?_
  refine PWk.iload_n 3 dX4_shift_60 rfl ?_
  refine PWk.dup2 dX4_shift_61 rfl rfl ?_
  refine PWk.iald dX4_shift_62 rg_45 ly_45 (fun v11 => ?_)
  refine PWk.iconst (v := 1) dX4_shift_63 ic_1 ?_
  refine PWk.iadd dX4_shift_64 ?_
  refine PWk.iast dX4_shift_65 rg_45 ly_45 ?_
  refine PWk.bI (fun I12 => ?_)
  exact PWk.vret dX4_shift_66 rfl (fun h => h)
/-! LakeMarket$Mover.forgetSeen(I)V -/
def f_X4_forgetSeen (fu : Nat) (I : HI) (p1 : Int32) : Option (HI) :=
  if p1 ≤ 1 then
    some I
  else
    (f_J7_fill_53178 fu I 46 2048 0).bind fun x1 =>
    some x1
set_option maxRecDepth 20000 in
theorem pc_X4_forgetSeen (fu : Nat) (I : HI) (L : HL) (R : HR) (p1 : Int32) : PCo 1 93 1 yX4_forgetSeen cX4_forgetSeen 2 none [.ref 42, .int p1] I L R (f_X4_forgetSeen fu I p1) (fun x : HI => ((none, x, L, R) : HF)) := by
  refine PCo.of (own := RX4) (by decide +kernel) (Nat.le_of_ble_eq_true rfl) rfl rfl (fun F => ?_)
  unfold f_X4_forgetSeen
  refine PWk.iload_n 1 dX4_forgetSeen_0 rfl ?_
  refine PWk.iconst (v := 1) dX4_forgetSeen_1 ic_1 ?_
  refine PWk.icmp_le 13 dX4_forgetSeen_2 (by decide) (fun h2 => ?_) (fun h2 => ?_)
  · exact PWk.vret dX4_forgetSeen_13 rfl (fun h => h)
  · refine PWk.aload_n 0 dX4_forgetSeen_5 rfl ?_
    refine PWk.gets dX4_forgetSeen_6 rg_42 lc_42 fl_X4_21 rfl st_42_3 ?_
    refine PWk.iconst (v := 0) dX4_forgetSeen_9 ic_0 ?_
    refine PWk.callSvI (pc_J7_fill_53178 fu I L R 46 2048 ly_46 rg_46 0) dX4_forgetSeen_10 ml_X4_24 rfl (by decide) rfl (Nat.le_of_ble_eq_true rfl) (fun x1 => ?_)
    exact PWk.vret dX4_forgetSeen_13 rfl (fun h => h)
/-! LakeMarket$Mover.wasSeen()Z -/
def f_X4_wasSeen_L53 : Nat → HI → Int32 → Int32 → Int32 → Option ((Int32 × HI) ⊕ (Unit))
  | 0, _, _, _, _ => none
  | n + 1, I, u1, u2, u3 =>
    if 2048 ≤ u3 then
      some (.inr ())
    else
      ldI (I 46) 2048 u2 fun v9 =>
      if v9 = u1 then
        gz 1 (some (.inl (1, I)))
      else
        ldI (I 46) 2048 u2 fun v10 =>
        if v10 = 0 then
          inb 2048 u2 <|
          bnd (sI I 46 (u2 : Int32).toNatClampNeg u1) fun I11 =>
          gz 0 (some (.inl (0, I11)))
        else
          dvI 2048 <|
          bnd (((u2 + 1) - (u2 + 1) / 2048 * 2048)) fun v12 =>
          f_X4_wasSeen_L53 n I u1 v12 (u3 + 1)
def f_X4_wasSeen_L4 : Nat → HI → HR → Int32 → Int32 → Option (Int32)
  | 0, _, _, _, _ => none
  | n + 1, I, R, u1, u2 =>
    gr (okSc (R 42 4)) <|
    gr (okLd (R (R 42 4) 0)) <|
    if (I (R (R 42 4) 0) 3) ≤ u2 then
      some u1
    else
      ldI (I ((R 42 4) + 2)) 8 u2 fun v3 =>
      (f_J9_max_7cf53 0 v3).bind fun x4 =>
      bnd (((u1 * 8) + x4)) fun v5 =>
      f_X4_wasSeen_L4 n I R v5 (u2 + 1)
def f_X4_wasSeen (fu : Nat) (I : HI) (R : HR) : Option (Int32 × HI) :=
  (f_X4_wasSeen_L4 fu I R 1 0).bind fun x7 =>
  bnd ((((x7 * (-1640531535)) : Int32).toUInt32 >>> ((21 : Int32).toUInt32 &&& Int32.toUInt32 31)).toInt32) fun v8 =>
  (f_X4_wasSeen_L53 fu I x7 v8 0).bind (Sum.elim (fun r => some r) fun x16 =>
  gz 0 (some (0, I)))
set_option maxRecDepth 20000 in
theorem lp_X4_wasSeen_53 (fu : Nat) (u1 : Int32) (I : HI) (L : HL) (R : HR) : ∀ (n : Nat) (u2 : Int32) (u3 : Int32) (N : ((Int32 × HI) ⊕ (Unit)) → Prop) (F : HF), (∀ v : Unit, N (.inr v) → PW 1 93 1 RX4 cX4_wasSeen 4 (some .boolean) 104 [] [] I L R F) → (∀ r : Int32 × HI, N (.inl r) → F = (fun x : Int32 × HI => ((some (.int x.1), x.2, L, R) : HF)) r) → PWk 1 93 1 RX4 cX4_wasSeen 4 (some .boolean) 53 [(0, .ref 42), (1, .int u1), (2, .int u2), (3, .int u3)] [] I L R (f_X4_wasSeen_L53 n I u1 u2 u3) N F := by
  intro n
  induction n with
  | zero => intro u2 u3 N F hx hr; exact PWk.none'
  | succ n ih =>
    intro u2 u3 N F hx hr
    unfold f_X4_wasSeen_L53
    refine PWk.iload_n 3 dX4_wasSeen_53 rfl ?_
    refine PWk.sipush (v := 2048) dX4_wasSeen_54 sp_2048 ?_
    refine PWk.icmp_ge 104 dX4_wasSeen_57 (by decide) (fun h15 => ?_) (fun h15 => ?_)
    · refine PWk.sub [] rfl ?_
      exact PWk.done (fun h => hx _ h)
    · refine PWk.aload_n 0 dX4_wasSeen_60 rfl ?_
      refine PWk.gets dX4_wasSeen_61 rg_42 lc_42 fl_X4_21 rfl st_42_3 ?_
      refine PWk.iload_n 2 dX4_wasSeen_64 rfl ?_
      refine PWk.iald dX4_wasSeen_65 rg_46 ly_46 (fun v9 => ?_)
      refine PWk.iload_n 1 dX4_wasSeen_66 rfl ?_
      refine PWk.icmp_ne 72 dX4_wasSeen_67 (by decide) (fun h14 => ?_) (fun h14 => ?_)
      · refine PWk.iconst (v := 1) dX4_wasSeen_70 ic_1 ?_
        exact PWk.zret dX4_wasSeen_71 rfl (hr _)
      · refine PWk.aload_n 0 dX4_wasSeen_72 rfl ?_
        refine PWk.gets dX4_wasSeen_73 rg_42 lc_42 fl_X4_21 rfl st_42_3 ?_
        refine PWk.iload_n 2 dX4_wasSeen_76 rfl ?_
        refine PWk.iald dX4_wasSeen_77 rg_46 ly_46 (fun v10 => ?_)
        refine PWk.if_ne 90 dX4_wasSeen_78 (by decide) (fun h13 => ?_) (fun h13 => ?_)
        · refine PWk.aload_n 0 dX4_wasSeen_81 rfl ?_
          refine PWk.gets dX4_wasSeen_82 rg_42 lc_42 fl_X4_21 rfl st_42_3 ?_
          refine PWk.iload_n 2 dX4_wasSeen_85 rfl ?_
          refine PWk.iload_n 1 dX4_wasSeen_86 rfl ?_
          refine PWk.iast dX4_wasSeen_87 rg_46 ly_46 ?_
          refine PWk.bI (fun I11 => ?_)
          refine PWk.iconst (v := 0) dX4_wasSeen_88 ic_0 ?_
          exact PWk.zret dX4_wasSeen_89 rfl (hr _)
        · refine PWk.iload_n 2 dX4_wasSeen_90 rfl ?_
          refine PWk.iconst (v := 1) dX4_wasSeen_91 ic_1 ?_
          refine PWk.iadd dX4_wasSeen_92 ?_
          refine PWk.sipush (v := 2048) dX4_wasSeen_93 sp_2048 ?_
          refine PWk.irem dX4_wasSeen_96 ?_
          refine PWk.bi (fun v12 => ?_)
          refine PWk.istore_n [(2, .int v12), (0, .ref 42), (1, .int u1), (3, .int u3)] dX4_wasSeen_97 (by decide) rfl ?_
          refine PWk.iinc (v := (u3 + 1)) 3 [(3, .int (u3 + 1)), (2, .int v12), (0, .ref 42), (1, .int u1)] dX4_wasSeen_98 rfl (by rw [ic_1]) (by decide) rfl ?_
          refine PWk.goto 53 dX4_wasSeen_101 (by decide) ?_
          refine PWk.sub [2, 3, 1, 0] rfl ?_
          exact ih v12 (u3 + 1) N F hx hr
set_option maxRecDepth 20000 in
theorem lp_X4_wasSeen_4 (fu : Nat) (I : HI) (L : HL) (R : HR) : ∀ (n : Nat) (u1 : Int32) (u2 : Int32) (N : (Int32) → Prop) (F : HF), (∀ v : Int32, N v → PW 1 93 1 RX4 cX4_wasSeen 4 (some .boolean) 43 [(0, .ref 42), (1, .int v)] [] I L R F) → PWk 1 93 1 RX4 cX4_wasSeen 4 (some .boolean) 4 [(0, .ref 42), (1, .int u1), (2, .int u2)] [] I L R (f_X4_wasSeen_L4 n I R u1 u2) N F := by
  intro n
  induction n with
  | zero => intro u1 u2 N F hx; exact PWk.none'
  | succ n ih =>
    intro u1 u2 N F hx
    unfold f_X4_wasSeen_L4
    refine PWk.iload_n 2 dX4_wasSeen_4 rfl ?_
    refine PWk.aload_n 0 dX4_wasSeen_5 rfl ?_
    refine PWk.getr dX4_wasSeen_6 rg_42 lc_42 fl_X4_39 rfl okSc_ne (fun hk1 => ?_)
    refine PWk.getr dX4_wasSeen_9 (rgSc_0 (okSc_is hk1)) (lcSc (okSc_is hk1)) fl_X4_47 rfl okLd_ne (fun hk2 => ?_)
    refine PWk.geti dX4_wasSeen_12 (rgLd_0 (okLd_is hk2)) (lcLd (okLd_is hk2)) fl_X4_71 rfl ?_
    refine PWk.icmp_ge 43 dX4_wasSeen_15 (by decide) (fun h6 => ?_) (fun h6 => ?_)
    · refine PWk.sub [0, 1] rfl ?_
      exact PWk.done (fun h => hx _ h)
    · refine PWk.iload_n 1 dX4_wasSeen_18 rfl ?_
      refine PWk.bipush (v := 8) dX4_wasSeen_19 bp_8 ?_
      refine PWk.imul dX4_wasSeen_21 ?_
      refine PWk.iconst (v := 0) dX4_wasSeen_22 ic_0 ?_
      refine PWk.aload_n 0 dX4_wasSeen_23 rfl ?_
      refine PWk.getrk dX4_wasSeen_24 rg_42 lc_42 fl_X4_39 rfl (neSc (okSc_is hk1)) ?_
      refine PWk.gets dX4_wasSeen_27 (rgSc_0 (okSc_is hk1)) (lcSc (okSc_is hk1)) fl_X4_74 rfl (stSc_3 (okSc_is hk1)) ?_
      refine PWk.iload_n 2 dX4_wasSeen_30 rfl ?_
      refine PWk.iald dX4_wasSeen_31 (rgSc_2 (okSc_is hk1)) (lySc_2 (okSc_is hk1)) (fun v3 => ?_)
      refine PWk.callSi (pc_J9_max_7cf53 I L R 0 v3) dX4_wasSeen_32 ml_X4_118 rfl (by decide) rfl (Nat.le_of_ble_eq_true rfl) (fun x4 => ?_)
      refine PWk.iadd dX4_wasSeen_35 ?_
      refine PWk.bi (fun v5 => ?_)
      refine PWk.istore_n [(1, .int v5), (0, .ref 42), (2, .int u2)] dX4_wasSeen_36 (by decide) rfl ?_
      refine PWk.iinc (v := (u2 + 1)) 2 [(2, .int (u2 + 1)), (1, .int v5), (0, .ref 42)] dX4_wasSeen_37 rfl (by rw [ic_1]) (by decide) rfl ?_
      refine PWk.goto 4 dX4_wasSeen_40 (by decide) ?_
      refine PWk.sub [2, 1, 0] rfl ?_
      exact ih v5 (u2 + 1) N F hx
set_option maxRecDepth 20000 in
theorem pc_X4_wasSeen (fu : Nat) (I : HI) (L : HL) (R : HR) : PCo 1 93 1 yX4_wasSeen cX4_wasSeen 4 (some .boolean) [.ref 42] I L R (f_X4_wasSeen fu I R) (fun x : Int32 × HI => ((some (.int x.1), x.2, L, R) : HF)) := by
  refine PCo.of (own := RX4) (by decide +kernel) (Nat.le_of_ble_eq_true rfl) rfl rfl (fun F => ?_)
  unfold f_X4_wasSeen
  refine PWk.iconst (v := 1) dX4_wasSeen_0 ic_1 ?_
  refine PWk.istore_n [(1, .int 1), (0, .ref 42)] dX4_wasSeen_1 (by decide) rfl ?_
  refine PWk.iconst (v := 0) dX4_wasSeen_2 ic_0 ?_
  refine PWk.istore_n [(2, .int 0), (1, .int 1), (0, .ref 42)] dX4_wasSeen_3 (by decide) rfl ?_
  refine PWk.sub [2, 1, 0] rfl ?_
  refine PWk.loopV (fun N' hx' => lp_X4_wasSeen_4 fu I L R fu 1 0 N' F hx') (fun x7 => ?_)
  refine PWk.iload_n 1 dX4_wasSeen_43 rfl ?_
  refine PWk.ldc (v := (-1640531535)) dX4_wasSeen_44 kc_X4_124 ?_
  refine PWk.imul dX4_wasSeen_46 ?_
  refine PWk.bipush (v := 21) dX4_wasSeen_47 bp_21 ?_
  refine PWk.iushr dX4_wasSeen_49 ?_
  refine PWk.bi (fun v8 => ?_)
  refine PWk.istore_n [(2, .int v8), (0, .ref 42), (1, .int x7)] dX4_wasSeen_50 (by decide) rfl ?_
  refine PWk.iconst (v := 0) dX4_wasSeen_51 ic_0 ?_
  refine PWk.istore_n [(3, .int 0), (2, .int v8), (0, .ref 42), (1, .int x7)] dX4_wasSeen_52 (by decide) rfl ?_
  refine PWk.sub [2, 3, 1, 0] rfl ?_
  refine PWk.loopS (fun N' hx' hr' => lp_X4_wasSeen_53 fu x7 I L R fu v8 0 N' F hx' hr') (fun r a e h => by cases e; exact h) (fun x16 => ?_)
  refine PWk.iconst (v := 0) dX4_wasSeen_104 ic_0 ?_
  exact PWk.zret dX4_wasSeen_105 rfl (fun h => h)
/-! LakeMarket$Mover.hasHeavyStray()Z -/
def f_X4_hasHeavyStray_L2 : Nat → HI → HR → Int32 → Option ((Int32) ⊕ (Unit))
  | 0, _, _, _ => none
  | n + 1, I, R, u1 =>
    gr (okSc (R 42 4)) <|
    gr (okLd (R (R 42 4) 0)) <|
    if (I (R (R 42 4) 0) 3) ≤ u1 then
      some (.inr ())
    else
      ldI (I ((R 42 4) + 2)) 8 u1 fun v3 =>
      (f_X4_isAstray I u1 v3).bind fun x4 =>
      jnt (β := Unit) (fun y9 =>
        f_X4_hasHeavyStray_L2 n I R (u1 + 1)) fun j5 =>
      if x4 = 0 then
        j5 ()
      else
        ldI (I ((R 42 4) + 1)) 8 u1 fun v6 =>
        if v6 ≤ (I (R (R 42 4) 0) 5) then
          j5 ()
        else
          gz 1 (some (.inl 1))
def f_X4_hasHeavyStray (fu : Nat) (I : HI) (R : HR) : Option (Int32) :=
  (f_X4_hasHeavyStray_L2 fu I R 0).bind (Sum.elim (fun r => some r) fun x11 =>
  gz 0 (some 0))
set_option maxRecDepth 20000 in
theorem lp_X4_hasHeavyStray_2 (fu : Nat) (I : HI) (L : HL) (R : HR) : ∀ (n : Nat) (u1 : Int32) (N : ((Int32) ⊕ (Unit)) → Prop) (F : HF), (∀ v : Unit, N (.inr v) → PW 1 93 1 RX4 cX4_hasHeavyStray 2 (some .boolean) 63 [] [] I L R F) → (∀ r : Int32, N (.inl r) → F = (fun x : Int32 => ((some (.int x), I, L, R) : HF)) r) → PWk 1 93 1 RX4 cX4_hasHeavyStray 2 (some .boolean) 2 [(0, .ref 42), (1, .int u1)] [] I L R (f_X4_hasHeavyStray_L2 n I R u1) N F := by
  intro n
  induction n with
  | zero => intro u1 N F hx hr; exact PWk.none'
  | succ n ih =>
    intro u1 N F hx hr
    unfold f_X4_hasHeavyStray_L2
    refine PWk.iload_n 1 dX4_hasHeavyStray_2 rfl ?_
    refine PWk.aload_n 0 dX4_hasHeavyStray_3 rfl ?_
    refine PWk.getr dX4_hasHeavyStray_4 rg_42 lc_42 fl_X4_39 rfl okSc_ne (fun hk1 => ?_)
    refine PWk.getr dX4_hasHeavyStray_7 (rgSc_0 (okSc_is hk1)) (lcSc (okSc_is hk1)) fl_X4_47 rfl okLd_ne (fun hk2 => ?_)
    refine PWk.geti dX4_hasHeavyStray_10 (rgLd_0 (okLd_is hk2)) (lcLd (okLd_is hk2)) fl_X4_71 rfl ?_
    refine PWk.icmp_ge 63 dX4_hasHeavyStray_13 (by decide) (fun h10 => ?_) (fun h10 => ?_)
    · refine PWk.sub [] rfl ?_
      exact PWk.done (fun h => hx _ h)
    · refine PWk.aload_n 0 dX4_hasHeavyStray_16 rfl ?_
      refine PWk.iload_n 1 dX4_hasHeavyStray_17 rfl ?_
      refine PWk.aload_n 0 dX4_hasHeavyStray_18 rfl ?_
      refine PWk.getrk dX4_hasHeavyStray_19 rg_42 lc_42 fl_X4_39 rfl (neSc (okSc_is hk1)) ?_
      refine PWk.gets dX4_hasHeavyStray_22 (rgSc_0 (okSc_is hk1)) (lcSc (okSc_is hk1)) fl_X4_74 rfl (stSc_3 (okSc_is hk1)) ?_
      refine PWk.iload_n 1 dX4_hasHeavyStray_25 rfl ?_
      refine PWk.iald dX4_hasHeavyStray_26 (rgSc_2 (okSc_is hk1)) (lySc_2 (okSc_is hk1)) (fun v3 => ?_)
      refine PWk.callVi (pc_X4_isAstray I L R u1 v3) dX4_hasHeavyStray_27 ml_X4_77 rfl rg_42 lc_42 vq_4 (by decide) rfl (Nat.le_of_ble_eq_true rfl) (fun x4 => ?_)
      refine PWk.jn (pc' := 57) (lv' := fun y9 => [(0, .ref 42), (1, .int u1)]) (st' := fun y9 => []) (I' := fun y9 => I) (L' := fun y9 => L) (R' := fun y9 => R) (fun j5 hj5 => ?_) (fun y9 => ?_)
      · refine PWk.if_eq 57 dX4_hasHeavyStray_30 (by decide) (fun h8 => ?_) (fun h8 => ?_)
        · exact hj5 ()
        · refine PWk.aload_n 0 dX4_hasHeavyStray_33 rfl ?_
          refine PWk.getrk dX4_hasHeavyStray_34 rg_42 lc_42 fl_X4_39 rfl (neSc (okSc_is hk1)) ?_
          refine PWk.gets dX4_hasHeavyStray_37 (rgSc_0 (okSc_is hk1)) (lcSc (okSc_is hk1)) fl_X4_81 rfl (stSc_2 (okSc_is hk1)) ?_
          refine PWk.iload_n 1 dX4_hasHeavyStray_40 rfl ?_
          refine PWk.iald dX4_hasHeavyStray_41 (rgSc_1 (okSc_is hk1)) (lySc_1 (okSc_is hk1)) (fun v6 => ?_)
          refine PWk.aload_n 0 dX4_hasHeavyStray_42 rfl ?_
          refine PWk.getrk dX4_hasHeavyStray_43 rg_42 lc_42 fl_X4_39 rfl (neSc (okSc_is hk1)) ?_
          refine PWk.getrk dX4_hasHeavyStray_46 (rgSc_0 (okSc_is hk1)) (lcSc (okSc_is hk1)) fl_X4_47 rfl (neLd (okLd_is hk2)) ?_
          refine PWk.geti dX4_hasHeavyStray_49 (rgLd_0 (okLd_is hk2)) (lcLd (okLd_is hk2)) fl_X4_84 rfl ?_
          refine PWk.icmp_le 57 dX4_hasHeavyStray_52 (by decide) (fun h7 => ?_) (fun h7 => ?_)
          · exact hj5 ()
          · refine PWk.iconst (v := 1) dX4_hasHeavyStray_55 ic_1 ?_
            exact PWk.zret dX4_hasHeavyStray_56 rfl (hr _)
      · refine PWk.iinc (v := (u1 + 1)) 1 [(1, .int (u1 + 1)), (0, .ref 42)] dX4_hasHeavyStray_57 rfl (by rw [ic_1]) (by decide) rfl ?_
        refine PWk.goto 2 dX4_hasHeavyStray_60 (by decide) ?_
        refine PWk.sub [1, 0] rfl ?_
        exact ih (u1 + 1) N F hx hr
set_option maxRecDepth 20000 in
theorem pc_X4_hasHeavyStray (fu : Nat) (I : HI) (L : HL) (R : HR) : PCo 1 93 1 yX4_hasHeavyStray cX4_hasHeavyStray 2 (some .boolean) [.ref 42] I L R (f_X4_hasHeavyStray fu I R) (fun x : Int32 => ((some (.int x), I, L, R) : HF)) := by
  refine PCo.of (own := RX4) (by decide +kernel) (Nat.le_of_ble_eq_true rfl) rfl rfl (fun F => ?_)
  unfold f_X4_hasHeavyStray
  refine PWk.iconst (v := 0) dX4_hasHeavyStray_0 ic_0 ?_
  refine PWk.istore_n [(1, .int 0), (0, .ref 42)] dX4_hasHeavyStray_1 (by decide) rfl ?_
  refine PWk.sub [1, 0] rfl ?_
  refine PWk.loopS (fun N' hx' hr' => lp_X4_hasHeavyStray_2 fu I L R fu 0 N' F hx' hr') (fun r a e h => by cases e; exact h) (fun x11 => ?_)
  refine PWk.iconst (v := 0) dX4_hasHeavyStray_63 ic_0 ?_
  exact PWk.zret dX4_hasHeavyStray_64 rfl (fun h => h)
/-! LakeMarket$Mover.helpsLast(II)Z -/
def f_X4_helpsLast (fu : Nat) (I : HI) (R : HR) (p1 : Int32) (p2 : Int32) : Option (Int32) :=
  gr (okSc (R 42 4)) <|
  ldI (I ((R 42 4) + 2)) 8 p1 fun v2 =>
  (f_X4_isAstray I p1 v2).bind fun x3 =>
  if x3 = 0 then
    (f_X4_isAwaited fu I R p2).bind fun x4 =>
    jnt (β := Unit) (fun y10 =>
      gz 1 (some 1)) fun j5 =>
    if x4 = 0 then
      ldI (I ((R 42 4) + 2)) 8 p1 fun v6 =>
      (f_X4_isAwaited fu I R v6).bind fun x7 =>
      if x7 = 0 then
        gz 0 (some 0)
      else
        j5 ()
    else
      j5 ()
  else
    gz 1 (some 1)
set_option maxRecDepth 20000 in
theorem pc_X4_helpsLast (fu : Nat) (I : HI) (L : HL) (R : HR) (p1 : Int32) (p2 : Int32) : PCo 1 93 1 yX4_helpsLast cX4_helpsLast 3 (some .boolean) [.ref 42, .int p1, .int p2] I L R (f_X4_helpsLast fu I R p1 p2) (fun x : Int32 => ((some (.int x), I, L, R) : HF)) := by
  refine PCo.of (own := RX4) (by decide +kernel) (Nat.le_of_ble_eq_true rfl) rfl rfl (fun F => ?_)
  unfold f_X4_helpsLast
  refine PWk.aload_n 0 dX4_helpsLast_0 rfl ?_
  refine PWk.iload_n 1 dX4_helpsLast_1 rfl ?_
  refine PWk.aload_n 0 dX4_helpsLast_2 rfl ?_
  refine PWk.getr dX4_helpsLast_3 rg_42 lc_42 fl_X4_39 rfl okSc_ne (fun hk1 => ?_)
  refine PWk.gets dX4_helpsLast_6 (rgSc_0 (okSc_is hk1)) (lcSc (okSc_is hk1)) fl_X4_74 rfl (stSc_3 (okSc_is hk1)) ?_
  refine PWk.iload_n 1 dX4_helpsLast_9 rfl ?_
  refine PWk.iald dX4_helpsLast_10 (rgSc_2 (okSc_is hk1)) (lySc_2 (okSc_is hk1)) (fun v2 => ?_)
  refine PWk.callVi (pc_X4_isAstray I L R p1 v2) dX4_helpsLast_11 ml_X4_77 rfl rg_42 lc_42 vq_4 (by decide) rfl (Nat.le_of_ble_eq_true rfl) (fun x3 => ?_)
  refine PWk.if_eq 19 dX4_helpsLast_14 (by decide) (fun h11 => ?_) (fun h11 => ?_)
  · refine PWk.aload_n 0 dX4_helpsLast_19 rfl ?_
    refine PWk.iload_n 2 dX4_helpsLast_20 rfl ?_
    refine PWk.callVi (pc_X4_isAwaited fu I L R p2) dX4_helpsLast_21 ml_X4_107 rfl rg_42 lc_42 vq_4 (by decide) rfl (Nat.le_of_ble_eq_true rfl) (fun x4 => ?_)
    refine PWk.jn (pc' := 43) (lv' := fun y10 => []) (st' := fun y10 => []) (I' := fun y10 => I) (L' := fun y10 => L) (R' := fun y10 => R) (fun j5 hj5 => ?_) (fun y10 => ?_)
    · refine PWk.if_ne 43 dX4_helpsLast_24 (by decide) (fun h9 => ?_) (fun h9 => ?_)
      · refine PWk.aload_n 0 dX4_helpsLast_27 rfl ?_
        refine PWk.aload_n 0 dX4_helpsLast_28 rfl ?_
        refine PWk.getrk dX4_helpsLast_29 rg_42 lc_42 fl_X4_39 rfl (neSc (okSc_is hk1)) ?_
        refine PWk.gets dX4_helpsLast_32 (rgSc_0 (okSc_is hk1)) (lcSc (okSc_is hk1)) fl_X4_74 rfl (stSc_3 (okSc_is hk1)) ?_
        refine PWk.iload_n 1 dX4_helpsLast_35 rfl ?_
        refine PWk.iald dX4_helpsLast_36 (rgSc_2 (okSc_is hk1)) (lySc_2 (okSc_is hk1)) (fun v6 => ?_)
        refine PWk.callVi (pc_X4_isAwaited fu I L R v6) dX4_helpsLast_37 ml_X4_107 rfl rg_42 lc_42 vq_4 (by decide) rfl (Nat.le_of_ble_eq_true rfl) (fun x7 => ?_)
        refine PWk.if_eq 47 dX4_helpsLast_40 (by decide) (fun h8 => ?_) (fun h8 => ?_)
        · refine PWk.iconst (v := 0) dX4_helpsLast_47 ic_0 ?_
          exact PWk.zret dX4_helpsLast_48 rfl (fun h => h)
        · refine PWk.sub [] rfl ?_
          exact hj5 ()
      · refine PWk.sub [] rfl ?_
        exact hj5 ()
    · refine PWk.iconst (v := 1) dX4_helpsLast_43 ic_1 ?_
      refine PWk.goto 48 dX4_helpsLast_44 (by decide) ?_
      exact PWk.zret dX4_helpsLast_48 rfl (fun h => h)
  · refine PWk.iconst (v := 1) dX4_helpsLast_17 ic_1 ?_
    exact PWk.zret dX4_helpsLast_18 rfl (fun h => h)
/-! LakeMarket$Mover.reaches(I)Z -/
def f_X4_reaches_L51 (rec : Nat → HI → HR → Int32 → Int32 → Int32 → Option (Int32 × HI)) : Nat → HI → HR → Int32 → Int32 → Int32 → Option ((Int32 × HI) ⊕ (HI))
  | 0, _, _, _, _, _ => none
  | n + 1, I, R, u1, u2, u3 =>
    gr (okSc (R 42 4)) <|
    gr (okLd (R (R 42 4) 0)) <|
    if (I (R (R 42 4) 0) 3) ≤ u3 then
      some (.inr I)
    else
      (f_X9_stands I R (R 42 4) u3).bind fun x11 =>
      jnt (β := HI) (fun y16 =>
        f_X4_reaches_L51 rec n y16 R u1 u2 (u3 + 1)) fun j12 =>
      if x11 = 0 then
        j12 I
      else
        (rec 1 I R u3 u1 u2).bind fun x13 =>
        if x13.1 = 0 then
          j12 x13.2
        else
          gz 1 (some (.inl (1, x13.2)))
def f_X4_reaches (rec : Nat → HI → HR → Int32 → Int32 → Int32 → Option (Int32 × HI)) (fu : Nat) (I : HI) (R : HR) (p1 : Int32) : Option (Int32 × HI) :=
  (f_X4_strayCount fu I R).bind fun x1 =>
  jnt (β := Unit) (fun y22 =>
    if x1 = 0 then
      gz 1 (some (1, I))
    else
      gz 0 (some (0, I))) fun j2 =>
  if x1 = 0 then
    j2 ()
  else
    if x1 ≤ p1 then
      if x1 = p1 then
        (rec 3 I R p1 0 0).bind fun x3 =>
        gz x3.1 (some (x3.1, x3.2))
      else
        jnt (β := HI) (fun y8 =>
          (f_X4_reaches_L51 rec fu y8 R p1 x1 0).bind (Sum.elim (fun r => some r) fun x18 =>
          gz 0 (some (0, x18)))) fun j4 =>
        if p1 = 2 then
          (f_X4_wasSeen fu I R).bind fun x5 =>
          if x5.1 = 0 then
            j4 x5.2
          else
            gz 0 (some (0, x5.2))
        else
          j4 I
    else
      j2 ()
set_option maxRecDepth 20000 in
theorem lp_X4_reaches_51 (rec : Nat → HI → HR → Int32 → Int32 → Int32 → Option (Int32 × HI)) (D0 : Nat) (fu : Nat) (u1 : Int32) (u2 : Int32) (L : HL) (R : HR) (hD0 : 4 ≤ D0) (hrec : (∀ (I : HI) (L : HL) (R : HR) (a0 : Int32), PCo 1 93 D0 yX4_reaches cX4_reaches 4 (some .boolean) [.ref 42, .int a0] I L R (rec 0 I R a0 0 0) (fun x : Int32 × HI => ((some (.int x.1), x.2, L, R) : HF))) ∧ (∀ (I : HI) (L : HL) (R : HR) (a0 : Int32) (a1 : Int32) (a2 : Int32), PCo 1 93 D0 yX4_reachesBy cX4_reachesBy 7 (some .boolean) [.ref 42, .int a0, .int a1, .int a2] I L R (rec 1 I R a0 a1 a2) (fun x : Int32 × HI => ((some (.int x.1), x.2, L, R) : HF))) ∧ (∀ (I : HI) (L : HL) (R : HR) (a0 : Int32) (a1 : Int32) (a2 : Int32), PCo 1 93 D0 yX4_reachesInto cX4_reachesInto 6 (some .boolean) [.ref 42, .int a0, .int a1, .int a2] I L R (rec 2 I R a0 a1 a2) (fun x : Int32 × HI => ((some (.int x.1), x.2, L, R) : HF))) ∧ (∀ (I : HI) (L : HL) (R : HR) (a0 : Int32), PCo 1 93 D0 yX4_reachesStraight cX4_reachesStraight 3 (some .boolean) [.ref 42, .int a0] I L R (rec 3 I R a0 0 0) (fun x : Int32 × HI => ((some (.int x.1), x.2, L, R) : HF)))) : ∀ (n : Nat) (u3 : Int32) (I : HI) (N : ((Int32 × HI) ⊕ (HI)) → Prop) (F : HF), (∀ v : HI, N (.inr v) → PW 1 93 (D0 + 1) RX4 cX4_reaches 4 (some .boolean) 94 [] [] v L R F) → (∀ r : Int32 × HI, N (.inl r) → F = (fun x : Int32 × HI => ((some (.int x.1), x.2, L, R) : HF)) r) → PWk 1 93 (D0 + 1) RX4 cX4_reaches 4 (some .boolean) 51 [(0, .ref 42), (1, .int u1), (2, .int u2), (3, .int u3)] [] I L R (f_X4_reaches_L51 rec n I R u1 u2 u3) N F := by
  intro n
  induction n with
  | zero => intro u3 I N F hx hr; exact PWk.none'
  | succ n ih =>
    intro u3 I N F hx hr
    unfold f_X4_reaches_L51
    refine PWk.iload_n 3 dX4_reaches_51 rfl ?_
    refine PWk.aload_n 0 dX4_reaches_52 rfl ?_
    refine PWk.getr dX4_reaches_53 rg_42 lc_42 fl_X4_39 rfl okSc_ne (fun hk9 => ?_)
    refine PWk.getr dX4_reaches_56 (rgSc_0 (okSc_is hk9)) (lcSc (okSc_is hk9)) fl_X4_47 rfl okLd_ne (fun hk10 => ?_)
    refine PWk.geti dX4_reaches_59 (rgLd_0 (okLd_is hk10)) (lcLd (okLd_is hk10)) fl_X4_71 rfl ?_
    refine PWk.icmp_ge 94 dX4_reaches_62 (by decide) (fun h17 => ?_) (fun h17 => ?_)
    · refine PWk.sub [] rfl ?_
      exact PWk.done (fun h => hx _ h)
    · refine PWk.aload_n 0 dX4_reaches_65 rfl ?_
      refine PWk.getrk dX4_reaches_66 rg_42 lc_42 fl_X4_39 rfl (neSc (okSc_is hk9)) ?_
      refine PWk.iload_n 3 dX4_reaches_69 rfl ?_
      refine PWk.callVi (pc_X9_stands I L R (R 42 4) (okSc_is hk9) u3) dX4_reaches_70 ml_X4_30 rfl (rgSc_0 (okSc_is hk9)) (lcSc (okSc_is hk9)) vq_9 (by omega) rfl (Nat.le_of_ble_eq_true rfl) (fun x11 => ?_)
      refine PWk.jn (pc' := 88) (lv' := fun y16 => [(0, .ref 42), (1, .int u1), (2, .int u2), (3, .int u3)]) (st' := fun y16 => []) (I' := fun y16 => y16) (L' := fun y16 => L) (R' := fun y16 => R) (fun j12 hj12 => ?_) (fun y16 => ?_)
      · refine PWk.if_eq 88 dX4_reaches_73 (by decide) (fun h15 => ?_) (fun h15 => ?_)
        · exact hj12 I
        · refine PWk.aload_n 0 dX4_reaches_76 rfl ?_
          refine PWk.iload_n 3 dX4_reaches_77 rfl ?_
          refine PWk.iload_n 1 dX4_reaches_78 rfl ?_
          refine PWk.iload_n 2 dX4_reaches_79 rfl ?_
          refine PWk.callViI (hrec.2.1 I L R u3 u1 u2) dX4_reaches_80 ml_X4_97 rfl rg_42 lc_42 vq_4 (by omega) rfl (Nat.le_of_ble_eq_true rfl) (fun x13 => ?_)
          refine PWk.if_eq 88 dX4_reaches_83 (by decide) (fun h14 => ?_) (fun h14 => ?_)
          · exact hj12 x13.2
          · refine PWk.iconst (v := 1) dX4_reaches_86 ic_1 ?_
            exact PWk.zret dX4_reaches_87 rfl (hr _)
      · refine PWk.iinc (v := (u3 + 1)) 3 [(3, .int (u3 + 1)), (0, .ref 42), (1, .int u1), (2, .int u2)] dX4_reaches_88 rfl (by rw [ic_1]) (by decide) rfl ?_
        refine PWk.goto 51 dX4_reaches_91 (by decide) ?_
        refine PWk.sub [1, 2, 3, 0] rfl ?_
        exact ih (u3 + 1) y16 N F hx hr
set_option maxRecDepth 20000 in
theorem pc_X4_reaches (rec : Nat → HI → HR → Int32 → Int32 → Int32 → Option (Int32 × HI)) (D0 : Nat) (fu : Nat) (I : HI) (L : HL) (R : HR) (p1 : Int32) (hD0 : 4 ≤ D0) (hrec : (∀ (I : HI) (L : HL) (R : HR) (a0 : Int32), PCo 1 93 D0 yX4_reaches cX4_reaches 4 (some .boolean) [.ref 42, .int a0] I L R (rec 0 I R a0 0 0) (fun x : Int32 × HI => ((some (.int x.1), x.2, L, R) : HF))) ∧ (∀ (I : HI) (L : HL) (R : HR) (a0 : Int32) (a1 : Int32) (a2 : Int32), PCo 1 93 D0 yX4_reachesBy cX4_reachesBy 7 (some .boolean) [.ref 42, .int a0, .int a1, .int a2] I L R (rec 1 I R a0 a1 a2) (fun x : Int32 × HI => ((some (.int x.1), x.2, L, R) : HF))) ∧ (∀ (I : HI) (L : HL) (R : HR) (a0 : Int32) (a1 : Int32) (a2 : Int32), PCo 1 93 D0 yX4_reachesInto cX4_reachesInto 6 (some .boolean) [.ref 42, .int a0, .int a1, .int a2] I L R (rec 2 I R a0 a1 a2) (fun x : Int32 × HI => ((some (.int x.1), x.2, L, R) : HF))) ∧ (∀ (I : HI) (L : HL) (R : HR) (a0 : Int32), PCo 1 93 D0 yX4_reachesStraight cX4_reachesStraight 3 (some .boolean) [.ref 42, .int a0] I L R (rec 3 I R a0 0 0) (fun x : Int32 × HI => ((some (.int x.1), x.2, L, R) : HF)))) : PCo 1 93 (D0 + 1) yX4_reaches cX4_reaches 4 (some .boolean) [.ref 42, .int p1] I L R (f_X4_reaches rec fu I R p1) (fun x : Int32 × HI => ((some (.int x.1), x.2, L, R) : HF)) := by
  refine PCo.of (own := RX4) (by decide +kernel) (Nat.le_of_ble_eq_true rfl) rfl rfl (fun F => ?_)
  unfold f_X4_reaches
  refine PWk.aload_n 0 dX4_reaches_0 rfl ?_
  refine PWk.callVi (pc_X4_strayCount fu I L R) dX4_reaches_1 ml_X4_87 rfl rg_42 lc_42 vq_4 (by omega) rfl (Nat.le_of_ble_eq_true rfl) (fun x1 => ?_)
  refine PWk.istore_n [(2, .int x1), (0, .ref 42), (1, .int p1)] dX4_reaches_4 (by decide) rfl ?_
  refine PWk.iload_n 0 dX4_reaches_5 rfl ?_
  refine PWk.jn (pc' := 14) (lv' := fun y22 => [(2, .int x1)]) (st' := fun y22 => []) (I' := fun y22 => I) (L' := fun y22 => L) (R' := fun y22 => R) (fun j2 hj2 => ?_) (fun y22 => ?_)
  · refine PWk.if_eq 14 dX4_reaches_6 (by decide) (fun h21 => ?_) (fun h21 => ?_)
    · refine PWk.sub [0] rfl ?_
      exact hj2 ()
    · refine PWk.iload_n 0 dX4_reaches_9 rfl ?_
      refine PWk.iload_n 2 dX4_reaches_10 rfl ?_
      refine PWk.icmp_le 24 dX4_reaches_11 (by decide) (fun h20 => ?_) (fun h20 => ?_)
      · refine PWk.iload_n 0 dX4_reaches_24 rfl ?_
        refine PWk.iload_n 2 dX4_reaches_25 rfl ?_
        refine PWk.icmp_ne 35 dX4_reaches_26 (by decide) (fun h19 => ?_) (fun h19 => ?_)
        · refine PWk.aload_n 1 dX4_reaches_29 rfl ?_
          refine PWk.iload_n 2 dX4_reaches_30 rfl ?_
          refine PWk.callViI (hrec.2.2.2 I L R p1) dX4_reaches_31 ml_X4_91 rfl rg_42 lc_42 vq_4 (by omega) rfl (Nat.le_of_ble_eq_true rfl) (fun x3 => ?_)
          exact PWk.zret dX4_reaches_34 rfl (fun h => h)
        · refine PWk.iload_n 2 dX4_reaches_35 rfl ?_
          refine PWk.iconst (v := 2) dX4_reaches_36 ic_2 ?_
          refine PWk.jn (pc' := 49) (lv' := fun y8 => [(0, .ref 42), (1, .int p1), (2, .int x1)]) (st' := fun y8 => []) (I' := fun y8 => y8) (L' := fun y8 => L) (R' := fun y8 => R) (fun j4 hj4 => ?_) (fun y8 => ?_)
          · refine PWk.icmp_ne 49 dX4_reaches_37 (by decide) (fun h7 => ?_) (fun h7 => ?_)
            · refine PWk.aload_n 1 dX4_reaches_40 rfl ?_
              refine PWk.callViI (pc_X4_wasSeen fu I L R) dX4_reaches_41 ml_X4_94 rfl rg_42 lc_42 vq_4 (by omega) rfl (Nat.le_of_ble_eq_true rfl) (fun x5 => ?_)
              refine PWk.if_eq 49 dX4_reaches_44 (by decide) (fun h6 => ?_) (fun h6 => ?_)
              · refine PWk.sub [1, 2, 0] rfl ?_
                exact hj4 x5.2
              · refine PWk.iconst (v := 0) dX4_reaches_47 ic_0 ?_
                exact PWk.zret dX4_reaches_48 rfl (fun h => h)
            · refine PWk.sub [1, 2, 0] rfl ?_
              exact hj4 I
          · refine PWk.iconst (v := 0) dX4_reaches_49 ic_0 ?_
            refine PWk.istore_n [(3, .int 0), (0, .ref 42), (1, .int p1), (2, .int x1)] dX4_reaches_50 (by decide) rfl ?_
            refine PWk.sub [1, 2, 3, 0] rfl ?_
            refine PWk.loopS (fun N' hx' hr' => lp_X4_reaches_51 rec D0 fu p1 x1 L R hD0 hrec fu 0 y8 N' F hx' hr') (fun r a e h => by cases e; exact h) (fun x18 => ?_)
            refine PWk.iconst (v := 0) dX4_reaches_94 ic_0 ?_
            exact PWk.zret dX4_reaches_95 rfl (fun h => h)
      · refine PWk.sub [0] rfl ?_
        exact hj2 ()
  · refine PWk.iload_n 0 dX4_reaches_14 rfl ?_
    refine PWk.if_ne 22 dX4_reaches_15 (by decide) (fun h23 => ?_) (fun h23 => ?_)
    · refine PWk.iconst (v := 1) dX4_reaches_18 ic_1 ?_
      refine PWk.goto 23 dX4_reaches_19 (by decide) ?_
      exact PWk.zret dX4_reaches_23 rfl (fun h => h)
    · refine PWk.iconst (v := 0) dX4_reaches_22 ic_0 ?_
      exact PWk.zret dX4_reaches_23 rfl (fun h => h)
/-! LakeMarket$Mover.reachesBy(III)Z -/
def f_X4_reachesBy_L29 (rec : Nat → HI → HR → Int32 → Int32 → Int32 → Option (Int32 × HI)) (fu : Nat) : Nat → HI → HR → Int32 → Int32 → Int32 → Int32 → Option ((Int32 × HI) ⊕ (HI))
  | 0, _, _, _, _, _, _ => none
  | n + 1, I, R, u1, u2, u4, u5 =>
    gr (okSc (R 42 4)) <|
    gr (okLd (R (R 42 4) 0)) <|
    if (I (R (R 42 4) 0) 1) ≤ u5 then
      some (.inr I)
    else
      (f_X4_isAstray I u1 u5).bind fun x10 =>
      jnt (β := Int32) (fun y13 =>
        jnt (β := Int32) (fun y16 =>
          jnt (β := HI) (fun y26 =>
            f_X4_reachesBy_L29 rec fu n y26 R u1 u2 u4 (u5 + 1)) fun j17 =>
          if y16 = 0 then
            j17 I
          else
            jnt (β := Unit) (fun y22 =>
              (rec 2 I R u1 u5 u2).bind fun x23 =>
              if x23.1 = 0 then
                j17 x23.2
              else
                gz 1 (some (.inl (1, x23.2)))) fun j18 =>
            if 2 < u2 then
              j18 ()
            else
              (f_X4_helpsLast fu I R u1 u5).bind fun x19 =>
              if x19 = 0 then
                j17 I
              else
                j18 ()) fun j14 =>
        if u2 ≤ (u4 + y13) then
          j14 0
        else
          j14 1) fun j11 =>
      if x10 = 0 then
        j11 0
      else
        j11 1
def f_X4_reachesBy (rec : Nat → HI → HR → Int32 → Int32 → Int32 → Option (Int32 × HI)) (fu : Nat) (I : HI) (R : HR) (p1 : Int32) (p2 : Int32) (p3 : Int32) : Option (Int32 × HI) :=
  gr (okSc (R 42 4)) <|
  ldI (I ((R 42 4) + 2)) 8 p1 fun v2 =>
  (f_X4_isAstray I p1 v2).bind fun x3 =>
  jnt (β := Int32) (fun y6 =>
    bnd ((p3 - y6)) fun v7 =>
    (f_X4_reachesBy_L29 rec fu fu I R p1 p2 v7 0).bind (Sum.elim (fun r => some r) fun x28 =>
    gz 0 (some (0, x28)))) fun j4 =>
  if x3 = 0 then
    j4 0
  else
    j4 1
set_option maxRecDepth 20000 in
theorem lp_X4_reachesBy_29 (rec : Nat → HI → HR → Int32 → Int32 → Int32 → Option (Int32 × HI)) (D0 : Nat) (fu : Nat) (u1 : Int32) (u2 : Int32) (u4 : Int32) (L : HL) (R : HR) (hD0 : 4 ≤ D0) (hrec : (∀ (I : HI) (L : HL) (R : HR) (a0 : Int32), PCo 1 93 D0 yX4_reaches cX4_reaches 4 (some .boolean) [.ref 42, .int a0] I L R (rec 0 I R a0 0 0) (fun x : Int32 × HI => ((some (.int x.1), x.2, L, R) : HF))) ∧ (∀ (I : HI) (L : HL) (R : HR) (a0 : Int32) (a1 : Int32) (a2 : Int32), PCo 1 93 D0 yX4_reachesBy cX4_reachesBy 7 (some .boolean) [.ref 42, .int a0, .int a1, .int a2] I L R (rec 1 I R a0 a1 a2) (fun x : Int32 × HI => ((some (.int x.1), x.2, L, R) : HF))) ∧ (∀ (I : HI) (L : HL) (R : HR) (a0 : Int32) (a1 : Int32) (a2 : Int32), PCo 1 93 D0 yX4_reachesInto cX4_reachesInto 6 (some .boolean) [.ref 42, .int a0, .int a1, .int a2] I L R (rec 2 I R a0 a1 a2) (fun x : Int32 × HI => ((some (.int x.1), x.2, L, R) : HF))) ∧ (∀ (I : HI) (L : HL) (R : HR) (a0 : Int32), PCo 1 93 D0 yX4_reachesStraight cX4_reachesStraight 3 (some .boolean) [.ref 42, .int a0] I L R (rec 3 I R a0 0 0) (fun x : Int32 × HI => ((some (.int x.1), x.2, L, R) : HF)))) : ∀ (n : Nat) (u5 : Int32) (I : HI) (N : ((Int32 × HI) ⊕ (HI)) → Prop) (F : HF), (∀ v : HI, N (.inr v) → PW 1 93 (D0 + 1) RX4 cX4_reachesBy 7 (some .boolean) 112 [] [] v L R F) → (∀ r : Int32 × HI, N (.inl r) → F = (fun x : Int32 × HI => ((some (.int x.1), x.2, L, R) : HF)) r) → PWk 1 93 (D0 + 1) RX4 cX4_reachesBy 7 (some .boolean) 29 [(0, .ref 42), (1, .int u1), (2, .int u2), (4, .int u4), (5, .int u5)] [] I L R (f_X4_reachesBy_L29 rec fu n I R u1 u2 u4 u5) N F := by
  intro n
  induction n with
  | zero => intro u5 I N F hx hr; exact PWk.none'
  | succ n ih =>
    intro u5 I N F hx hr
    unfold f_X4_reachesBy_L29
    refine PWk.iload 4 dX4_reachesBy_29 rfl ?_
    refine PWk.aload_n 0 dX4_reachesBy_31 rfl ?_
    refine PWk.getr dX4_reachesBy_32 rg_42 lc_42 fl_X4_39 rfl okSc_ne (fun hk8 => ?_)
    refine PWk.getr dX4_reachesBy_35 (rgSc_0 (okSc_is hk8)) (lcSc (okSc_is hk8)) fl_X4_47 rfl okLd_ne (fun hk9 => ?_)
    refine PWk.geti dX4_reachesBy_38 (rgLd_0 (okLd_is hk9)) (lcLd (okLd_is hk9)) fl_X4_51 rfl ?_
    refine PWk.icmp_ge 112 dX4_reachesBy_41 (by decide) (fun h27 => ?_) (fun h27 => ?_)
    · refine PWk.sub [] rfl ?_
      exact PWk.done (fun h => hx _ h)
    · refine PWk.iload 3 dX4_reachesBy_44 rfl ?_
      refine PWk.aload_n 0 dX4_reachesBy_46 rfl ?_
      refine PWk.iload_n 1 dX4_reachesBy_47 rfl ?_
      refine PWk.iload 4 dX4_reachesBy_48 rfl ?_
      refine PWk.callVi (pc_X4_isAstray I L R u1 u5) dX4_reachesBy_50 ml_X4_77 rfl rg_42 lc_42 vq_4 (by omega) rfl (Nat.le_of_ble_eq_true rfl) (fun x10 => ?_)
      refine PWk.jn (pc' := 61) (lv' := fun y13 => [(0, .ref 42), (1, .int u1), (2, .int u2), (4, .int u4), (5, .int u5)]) (st' := fun y13 => [.int y13, .int u4]) (I' := fun y13 => I) (L' := fun y13 => L) (R' := fun y13 => R) (fun j11 hj11 => ?_) (fun y13 => ?_)
      · refine PWk.if_eq 60 dX4_reachesBy_53 (by decide) (fun h12 => ?_) (fun h12 => ?_)
        · refine PWk.iconst (v := 0) dX4_reachesBy_60 ic_0 ?_
          exact hj11 0
        · refine PWk.iconst (v := 1) dX4_reachesBy_56 ic_1 ?_
          refine PWk.goto 61 dX4_reachesBy_57 (by decide) ?_
          exact hj11 1
      · refine PWk.iadd dX4_reachesBy_61 ?_
        refine PWk.iload_n 2 dX4_reachesBy_62 rfl ?_
        refine PWk.jn (pc' := 71) (lv' := fun y16 => [(0, .ref 42), (1, .int u1), (2, .int u2), (4, .int u4), (5, .int u5)]) (st' := fun y16 => [.int y16]) (I' := fun y16 => I) (L' := fun y16 => L) (R' := fun y16 => R) (fun j14 hj14 => ?_) (fun y16 => ?_)
        · refine PWk.icmp_ge 70 dX4_reachesBy_63 (by decide) (fun h15 => ?_) (fun h15 => ?_)
          · refine PWk.iconst (v := 0) dX4_reachesBy_70 ic_0 ?_
            exact hj14 0
          · refine PWk.iconst (v := 1) dX4_reachesBy_66 ic_1 ?_
            refine PWk.goto 71 dX4_reachesBy_67 (by decide) ?_
            exact hj14 1
        · refine PWk.istore [(6, .int y16), (0, .ref 42), (1, .int u1), (2, .int u2), (4, .int u4), (5, .int u5)] dX4_reachesBy_71 (by decide) rfl ?_
          refine PWk.iload 0 dX4_reachesBy_73 rfl ?_
          refine PWk.jn (pc' := 106) (lv' := fun y26 => [(0, .ref 42), (1, .int u1), (2, .int u2), (4, .int u4), (5, .int u5)]) (st' := fun y26 => []) (I' := fun y26 => y26) (L' := fun y26 => L) (R' := fun y26 => R) (fun j17 hj17 => ?_) (fun y26 => ?_)
          · refine PWk.if_eq 106 dX4_reachesBy_75 (by decide) (fun h25 => ?_) (fun h25 => ?_)
            · refine PWk.sub [1, 2, 3, 4, 5] rfl ?_
              exact hj17 I
            · refine PWk.iload_n 3 dX4_reachesBy_78 rfl ?_
              refine PWk.iconst (v := 2) dX4_reachesBy_79 ic_2 ?_
              refine PWk.jn (pc' := 93) (lv' := fun y22 => [(0, .ref 42), (1, .int u1), (2, .int u2), (4, .int u4), (5, .int u5)]) (st' := fun y22 => []) (I' := fun y22 => I) (L' := fun y22 => L) (R' := fun y22 => R) (fun j18 hj18 => ?_) (fun y22 => ?_)
              · refine PWk.icmp_gt 93 dX4_reachesBy_80 (by decide) (fun h21 => ?_) (fun h21 => ?_)
                · refine PWk.sub [1, 2, 3, 4, 5] rfl ?_
                  exact hj18 ()
                · refine PWk.aload_n 1 dX4_reachesBy_83 rfl ?_
                  refine PWk.iload_n 2 dX4_reachesBy_84 rfl ?_
                  refine PWk.iload 5 dX4_reachesBy_85 rfl ?_
                  refine PWk.callVi (pc_X4_helpsLast fu I L R u1 u5) dX4_reachesBy_87 ml_X4_104 rfl rg_42 lc_42 vq_4 (by omega) rfl (Nat.le_of_ble_eq_true rfl) (fun x19 => ?_)
                  refine PWk.if_eq 106 dX4_reachesBy_90 (by decide) (fun h20 => ?_) (fun h20 => ?_)
                  · refine PWk.sub [1, 2, 3, 4, 5] rfl ?_
                    exact hj17 I
                  · refine PWk.sub [1, 2, 3, 4, 5] rfl ?_
                    exact hj18 ()
              · refine PWk.aload_n 0 dX4_reachesBy_93 rfl ?_
                refine PWk.iload_n 1 dX4_reachesBy_94 rfl ?_
                refine PWk.iload 4 dX4_reachesBy_95 rfl ?_
                refine PWk.iload_n 2 dX4_reachesBy_97 rfl ?_
                refine PWk.callViI (hrec.2.2.1 I L R u1 u5 u2) dX4_reachesBy_98 ml_X4_101 rfl rg_42 lc_42 vq_4 (by omega) rfl (Nat.le_of_ble_eq_true rfl) (fun x23 => ?_)
                refine PWk.if_eq 106 dX4_reachesBy_101 (by decide) (fun h24 => ?_) (fun h24 => ?_)
                · exact hj17 x23.2
                · refine PWk.iconst (v := 1) dX4_reachesBy_104 ic_1 ?_
                  exact PWk.zret dX4_reachesBy_105 rfl (hr _)
          · refine PWk.iinc (v := (u5 + 1)) 4 [(5, .int (u5 + 1)), (0, .ref 42), (1, .int u1), (2, .int u2), (4, .int u4)] dX4_reachesBy_106 rfl (by rw [ic_1]) (by decide) rfl ?_
            refine PWk.goto 29 dX4_reachesBy_109 (by decide) ?_
            refine PWk.sub [1, 2, 3, 4, 0] rfl ?_
            exact ih (u5 + 1) y26 N F hx hr
set_option maxRecDepth 20000 in
theorem pc_X4_reachesBy (rec : Nat → HI → HR → Int32 → Int32 → Int32 → Option (Int32 × HI)) (D0 : Nat) (fu : Nat) (I : HI) (L : HL) (R : HR) (p1 : Int32) (p2 : Int32) (p3 : Int32) (hD0 : 4 ≤ D0) (hrec : (∀ (I : HI) (L : HL) (R : HR) (a0 : Int32), PCo 1 93 D0 yX4_reaches cX4_reaches 4 (some .boolean) [.ref 42, .int a0] I L R (rec 0 I R a0 0 0) (fun x : Int32 × HI => ((some (.int x.1), x.2, L, R) : HF))) ∧ (∀ (I : HI) (L : HL) (R : HR) (a0 : Int32) (a1 : Int32) (a2 : Int32), PCo 1 93 D0 yX4_reachesBy cX4_reachesBy 7 (some .boolean) [.ref 42, .int a0, .int a1, .int a2] I L R (rec 1 I R a0 a1 a2) (fun x : Int32 × HI => ((some (.int x.1), x.2, L, R) : HF))) ∧ (∀ (I : HI) (L : HL) (R : HR) (a0 : Int32) (a1 : Int32) (a2 : Int32), PCo 1 93 D0 yX4_reachesInto cX4_reachesInto 6 (some .boolean) [.ref 42, .int a0, .int a1, .int a2] I L R (rec 2 I R a0 a1 a2) (fun x : Int32 × HI => ((some (.int x.1), x.2, L, R) : HF))) ∧ (∀ (I : HI) (L : HL) (R : HR) (a0 : Int32), PCo 1 93 D0 yX4_reachesStraight cX4_reachesStraight 3 (some .boolean) [.ref 42, .int a0] I L R (rec 3 I R a0 0 0) (fun x : Int32 × HI => ((some (.int x.1), x.2, L, R) : HF)))) : PCo 1 93 (D0 + 1) yX4_reachesBy cX4_reachesBy 7 (some .boolean) [.ref 42, .int p1, .int p2, .int p3] I L R (f_X4_reachesBy rec fu I R p1 p2 p3) (fun x : Int32 × HI => ((some (.int x.1), x.2, L, R) : HF)) := by
  refine PCo.of (own := RX4) (by decide +kernel) (Nat.le_of_ble_eq_true rfl) rfl rfl (fun F => ?_)
  unfold f_X4_reachesBy
  refine PWk.iload_n 3 dX4_reachesBy_0 rfl ?_
  refine PWk.aload_n 0 dX4_reachesBy_1 rfl ?_
  refine PWk.iload_n 1 dX4_reachesBy_2 rfl ?_
  refine PWk.aload_n 0 dX4_reachesBy_3 rfl ?_
  refine PWk.getr dX4_reachesBy_4 rg_42 lc_42 fl_X4_39 rfl okSc_ne (fun hk1 => ?_)
  refine PWk.gets dX4_reachesBy_7 (rgSc_0 (okSc_is hk1)) (lcSc (okSc_is hk1)) fl_X4_74 rfl (stSc_3 (okSc_is hk1)) ?_
  refine PWk.iload_n 1 dX4_reachesBy_10 rfl ?_
  refine PWk.iald dX4_reachesBy_11 (rgSc_2 (okSc_is hk1)) (lySc_2 (okSc_is hk1)) (fun v2 => ?_)
  refine PWk.callVi (pc_X4_isAstray I L R p1 v2) dX4_reachesBy_12 ml_X4_77 rfl rg_42 lc_42 vq_4 (by omega) rfl (Nat.le_of_ble_eq_true rfl) (fun x3 => ?_)
  refine PWk.jn (pc' := 23) (lv' := fun y6 => [(0, .ref 42), (1, .int p1), (2, .int p2)]) (st' := fun y6 => [.int y6, .int p3]) (I' := fun y6 => I) (L' := fun y6 => L) (R' := fun y6 => R) (fun j4 hj4 => ?_) (fun y6 => ?_)
  · refine PWk.if_eq 22 dX4_reachesBy_15 (by decide) (fun h5 => ?_) (fun h5 => ?_)
    · refine PWk.iconst (v := 0) dX4_reachesBy_22 ic_0 ?_
      refine PWk.sub [0, 1, 2] rfl ?_
      exact hj4 0
    · refine PWk.iconst (v := 1) dX4_reachesBy_18 ic_1 ?_
      refine PWk.goto 23 dX4_reachesBy_19 (by decide) ?_
      refine PWk.sub [0, 1, 2] rfl ?_
      exact hj4 1
  · refine PWk.isub dX4_reachesBy_23 ?_
    refine PWk.bi (fun v7 => ?_)
    refine PWk.istore [(4, .int v7), (0, .ref 42), (1, .int p1), (2, .int p2)] dX4_reachesBy_24 (by decide) rfl ?_
    refine PWk.iconst (v := 0) dX4_reachesBy_26 ic_0 ?_
    refine PWk.istore [(5, .int 0), (4, .int v7), (0, .ref 42), (1, .int p1), (2, .int p2)] dX4_reachesBy_27 (by decide) rfl ?_
    refine PWk.sub [2, 3, 4, 1, 0] rfl ?_
    refine PWk.loopS (fun N' hx' hr' => lp_X4_reachesBy_29 rec D0 fu p1 p2 v7 L R hD0 hrec fu 0 I N' F hx' hr') (fun r a e h => by cases e; exact h) (fun x28 => ?_)
    refine PWk.iconst (v := 0) dX4_reachesBy_112 ic_0 ?_
    exact PWk.zret dX4_reachesBy_113 rfl (fun h => h)
/-! LakeMarket$Mover.reachesInto(III)Z -/
def f_X4_reachesInto (rec : Nat → HI → HR → Int32 → Int32 → Int32 → Option (Int32 × HI)) (fu : Nat) (I : HI) (R : HR) (p1 : Int32) (p2 : Int32) (p3 : Int32) : Option (Int32 × HI) :=
  gr (okSc (R 42 4)) <|
  ldI (I ((R 42 4) + 2)) 8 p1 fun v2 =>
  if p2 = v2 then
    gz 0 (some (0, I))
  else
    ldI (I 44) 8 p2 fun v3 =>
    ldI (I 45) 8 p2 fun v4 =>
    (f_X9_mayGo fu I R (R 42 4) p1 p2 v3 v4).bind fun x5 =>
    if x5.1 = 0 then
      gz 0 (some (0, x5.2))
    else
      (f_X4_shift x5.2 R p1 v2 p2).bind fun x6 =>
      (rec 0 x6 R (p3 - 1) 0 0).bind fun x7 =>
      (f_X4_shift x7.2 R p1 p2 v2).bind fun x8 =>
      gz x7.1 (some (x7.1, x8))
set_option maxRecDepth 20000 in
theorem pc_X4_reachesInto (rec : Nat → HI → HR → Int32 → Int32 → Int32 → Option (Int32 × HI)) (D0 : Nat) (fu : Nat) (I : HI) (L : HL) (R : HR) (p1 : Int32) (p2 : Int32) (p3 : Int32) (hD0 : 4 ≤ D0) (hrec : (∀ (I : HI) (L : HL) (R : HR) (a0 : Int32), PCo 1 93 D0 yX4_reaches cX4_reaches 4 (some .boolean) [.ref 42, .int a0] I L R (rec 0 I R a0 0 0) (fun x : Int32 × HI => ((some (.int x.1), x.2, L, R) : HF))) ∧ (∀ (I : HI) (L : HL) (R : HR) (a0 : Int32) (a1 : Int32) (a2 : Int32), PCo 1 93 D0 yX4_reachesBy cX4_reachesBy 7 (some .boolean) [.ref 42, .int a0, .int a1, .int a2] I L R (rec 1 I R a0 a1 a2) (fun x : Int32 × HI => ((some (.int x.1), x.2, L, R) : HF))) ∧ (∀ (I : HI) (L : HL) (R : HR) (a0 : Int32) (a1 : Int32) (a2 : Int32), PCo 1 93 D0 yX4_reachesInto cX4_reachesInto 6 (some .boolean) [.ref 42, .int a0, .int a1, .int a2] I L R (rec 2 I R a0 a1 a2) (fun x : Int32 × HI => ((some (.int x.1), x.2, L, R) : HF))) ∧ (∀ (I : HI) (L : HL) (R : HR) (a0 : Int32), PCo 1 93 D0 yX4_reachesStraight cX4_reachesStraight 3 (some .boolean) [.ref 42, .int a0] I L R (rec 3 I R a0 0 0) (fun x : Int32 × HI => ((some (.int x.1), x.2, L, R) : HF)))) : PCo 1 93 (D0 + 1) yX4_reachesInto cX4_reachesInto 6 (some .boolean) [.ref 42, .int p1, .int p2, .int p3] I L R (f_X4_reachesInto rec fu I R p1 p2 p3) (fun x : Int32 × HI => ((some (.int x.1), x.2, L, R) : HF)) := by
  refine PCo.of (own := RX4) (by decide +kernel) (Nat.le_of_ble_eq_true rfl) rfl rfl (fun F => ?_)
  unfold f_X4_reachesInto
  refine PWk.aload_n 0 dX4_reachesInto_0 rfl ?_
  refine PWk.getr dX4_reachesInto_1 rg_42 lc_42 fl_X4_39 rfl okSc_ne (fun hk1 => ?_)
  refine PWk.gets dX4_reachesInto_4 (rgSc_0 (okSc_is hk1)) (lcSc (okSc_is hk1)) fl_X4_74 rfl (stSc_3 (okSc_is hk1)) ?_
  refine PWk.iload_n 1 dX4_reachesInto_7 rfl ?_
  refine PWk.iald dX4_reachesInto_8 (rgSc_2 (okSc_is hk1)) (lySc_2 (okSc_is hk1)) (fun v2 => ?_)
  refine PWk.istore [(4, .int v2), (0, .ref 42), (1, .int p1), (2, .int p2), (3, .int p3)] dX4_reachesInto_9 (by decide) rfl ?_
  refine PWk.iload_n 3 dX4_reachesInto_11 rfl ?_
  refine PWk.iload 0 dX4_reachesInto_12 rfl ?_
  refine PWk.icmp_eq 41 dX4_reachesInto_14 (by decide) (fun h10 => ?_) (fun h10 => ?_)
  · refine PWk.iconst (v := 0) dX4_reachesInto_41 ic_0 ?_
    exact PWk.zret dX4_reachesInto_42 rfl (fun h => h)
  · refine PWk.aload_n 1 dX4_reachesInto_17 rfl ?_
    refine PWk.getrk dX4_reachesInto_18 rg_42 lc_42 fl_X4_39 rfl (neSc (okSc_is hk1)) ?_
    refine PWk.iload_n 2 dX4_reachesInto_21 rfl ?_
    refine PWk.iload_n 3 dX4_reachesInto_22 rfl ?_
    refine PWk.aload_n 1 dX4_reachesInto_23 rfl ?_
    refine PWk.gets dX4_reachesInto_24 rg_42 lc_42 fl_X4_15 rfl st_42_1 ?_
    refine PWk.iload_n 3 dX4_reachesInto_27 rfl ?_
    refine PWk.iald dX4_reachesInto_28 rg_44 ly_44 (fun v3 => ?_)
    refine PWk.aload_n 1 dX4_reachesInto_29 rfl ?_
    refine PWk.gets dX4_reachesInto_30 rg_42 lc_42 fl_X4_18 rfl st_42_2 ?_
    refine PWk.iload_n 3 dX4_reachesInto_33 rfl ?_
    refine PWk.iald dX4_reachesInto_34 rg_45 ly_45 (fun v4 => ?_)
    refine PWk.callViI (pc_X9_mayGo fu I L R (R 42 4) (okSc_is hk1) p1 p2 v3 v4) dX4_reachesInto_35 ml_X4_110 rfl (rgSc_0 (okSc_is hk1)) (lcSc (okSc_is hk1)) vq_9 (by omega) rfl (Nat.le_of_ble_eq_true rfl) (fun x5 => ?_)
    refine PWk.if_ne 43 dX4_reachesInto_38 (by decide) (fun h9 => ?_) (fun h9 => ?_)
    · refine PWk.iconst (v := 0) dX4_reachesInto_41 ic_0 ?_
      exact PWk.zret dX4_reachesInto_42 rfl (fun h => h)
    · refine PWk.aload_n 1 dX4_reachesInto_43 rfl ?_
      refine PWk.iload_n 2 dX4_reachesInto_44 rfl ?_
      refine PWk.iload 0 dX4_reachesInto_45 rfl ?_
      refine PWk.iload_n 3 dX4_reachesInto_47 rfl ?_
      refine PWk.callVvI (pc_X4_shift x5.2 L R p1 v2 p2) dX4_reachesInto_48 ml_X4_114 rfl rg_42 lc_42 vq_4 (by omega) rfl (Nat.le_of_ble_eq_true rfl) (fun x6 => ?_)
      refine PWk.aload_n 1 dX4_reachesInto_51 rfl ?_
      refine PWk.iload_n 4 dX4_reachesInto_52 rfl ?_
      refine PWk.iconst (v := 1) dX4_reachesInto_53 ic_1 ?_
      refine PWk.isub dX4_reachesInto_54 ?_
      refine PWk.callViI (hrec.1 x6 L R (p3 - 1)) dX4_reachesInto_55 ml_X4_68 rfl rg_42 lc_42 vq_4 (by omega) rfl (Nat.le_of_ble_eq_true rfl) (fun x7 => ?_)
      refine PWk.istore [(5, .int x7.1), (4, .int v2), (0, .ref 42), (1, .int p1), (2, .int p2), (3, .int p3)] dX4_reachesInto_58 (by decide) rfl ?_
      refine PWk.aload_n 2 dX4_reachesInto_60 rfl ?_
      refine PWk.iload_n 3 dX4_reachesInto_61 rfl ?_
      refine PWk.iload_n 4 dX4_reachesInto_62 rfl ?_
      refine PWk.iload 1 dX4_reachesInto_63 rfl ?_
      refine PWk.callVvI (pc_X4_shift x7.2 L R p1 p2 v2) dX4_reachesInto_65 ml_X4_114 rfl rg_42 lc_42 vq_4 (by omega) rfl (Nat.le_of_ble_eq_true rfl) (fun x8 => ?_)
      refine PWk.iload 0 dX4_reachesInto_68 rfl ?_
      exact PWk.zret dX4_reachesInto_70 rfl (fun h => h)
/-! LakeMarket$Mover.reachesStraight(I)Z -/
def f_X4_reachesStraight_L2 (rec : Nat → HI → HR → Int32 → Int32 → Int32 → Option (Int32 × HI)) : Nat → HI → HR → Int32 → Int32 → Option ((Int32 × HI) ⊕ (HI))
  | 0, _, _, _, _ => none
  | n + 1, I, R, u1, u2 =>
    gr (okSc (R 42 4)) <|
    gr (okLd (R (R 42 4) 0)) <|
    if (I (R (R 42 4) 0) 3) ≤ u2 then
      some (.inr I)
    else
      ldI (I ((R 42 4) + 2)) 8 u2 fun v3 =>
      (f_X4_isAstray I u2 v3).bind fun x4 =>
      jnt (β := HI) (fun y10 =>
        f_X4_reachesStraight_L2 rec n y10 R u1 (u2 + 1)) fun j5 =>
      if x4 = 0 then
        j5 I
      else
        ldI (I 43) 8 u2 fun v6 =>
        (rec 2 I R u2 v6 u1).bind fun x7 =>
        if x7.1 = 0 then
          j5 x7.2
        else
          gz 1 (some (.inl (1, x7.2)))
def f_X4_reachesStraight (rec : Nat → HI → HR → Int32 → Int32 → Int32 → Option (Int32 × HI)) (fu : Nat) (I : HI) (R : HR) (p1 : Int32) : Option (Int32 × HI) :=
  (f_X4_reachesStraight_L2 rec fu I R p1 0).bind (Sum.elim (fun r => some r) fun x12 =>
  gz 0 (some (0, x12)))
set_option maxRecDepth 20000 in
theorem lp_X4_reachesStraight_2 (rec : Nat → HI → HR → Int32 → Int32 → Int32 → Option (Int32 × HI)) (D0 : Nat) (fu : Nat) (u1 : Int32) (L : HL) (R : HR) (hD0 : 4 ≤ D0) (hrec : (∀ (I : HI) (L : HL) (R : HR) (a0 : Int32), PCo 1 93 D0 yX4_reaches cX4_reaches 4 (some .boolean) [.ref 42, .int a0] I L R (rec 0 I R a0 0 0) (fun x : Int32 × HI => ((some (.int x.1), x.2, L, R) : HF))) ∧ (∀ (I : HI) (L : HL) (R : HR) (a0 : Int32) (a1 : Int32) (a2 : Int32), PCo 1 93 D0 yX4_reachesBy cX4_reachesBy 7 (some .boolean) [.ref 42, .int a0, .int a1, .int a2] I L R (rec 1 I R a0 a1 a2) (fun x : Int32 × HI => ((some (.int x.1), x.2, L, R) : HF))) ∧ (∀ (I : HI) (L : HL) (R : HR) (a0 : Int32) (a1 : Int32) (a2 : Int32), PCo 1 93 D0 yX4_reachesInto cX4_reachesInto 6 (some .boolean) [.ref 42, .int a0, .int a1, .int a2] I L R (rec 2 I R a0 a1 a2) (fun x : Int32 × HI => ((some (.int x.1), x.2, L, R) : HF))) ∧ (∀ (I : HI) (L : HL) (R : HR) (a0 : Int32), PCo 1 93 D0 yX4_reachesStraight cX4_reachesStraight 3 (some .boolean) [.ref 42, .int a0] I L R (rec 3 I R a0 0 0) (fun x : Int32 × HI => ((some (.int x.1), x.2, L, R) : HF)))) : ∀ (n : Nat) (u2 : Int32) (I : HI) (N : ((Int32 × HI) ⊕ (HI)) → Prop) (F : HF), (∀ v : HI, N (.inr v) → PW 1 93 (D0 + 1) RX4 cX4_reachesStraight 3 (some .boolean) 56 [] [] v L R F) → (∀ r : Int32 × HI, N (.inl r) → F = (fun x : Int32 × HI => ((some (.int x.1), x.2, L, R) : HF)) r) → PWk 1 93 (D0 + 1) RX4 cX4_reachesStraight 3 (some .boolean) 2 [(0, .ref 42), (1, .int u1), (2, .int u2)] [] I L R (f_X4_reachesStraight_L2 rec n I R u1 u2) N F := by
  intro n
  induction n with
  | zero => intro u2 I N F hx hr; exact PWk.none'
  | succ n ih =>
    intro u2 I N F hx hr
    unfold f_X4_reachesStraight_L2
    refine PWk.iload_n 2 dX4_reachesStraight_2 rfl ?_
    refine PWk.aload_n 0 dX4_reachesStraight_3 rfl ?_
    refine PWk.getr dX4_reachesStraight_4 rg_42 lc_42 fl_X4_39 rfl okSc_ne (fun hk1 => ?_)
    refine PWk.getr dX4_reachesStraight_7 (rgSc_0 (okSc_is hk1)) (lcSc (okSc_is hk1)) fl_X4_47 rfl okLd_ne (fun hk2 => ?_)
    refine PWk.geti dX4_reachesStraight_10 (rgLd_0 (okLd_is hk2)) (lcLd (okLd_is hk2)) fl_X4_71 rfl ?_
    refine PWk.icmp_ge 56 dX4_reachesStraight_13 (by decide) (fun h11 => ?_) (fun h11 => ?_)
    · refine PWk.sub [] rfl ?_
      exact PWk.done (fun h => hx _ h)
    · refine PWk.aload_n 0 dX4_reachesStraight_16 rfl ?_
      refine PWk.iload_n 2 dX4_reachesStraight_17 rfl ?_
      refine PWk.aload_n 0 dX4_reachesStraight_18 rfl ?_
      refine PWk.getrk dX4_reachesStraight_19 rg_42 lc_42 fl_X4_39 rfl (neSc (okSc_is hk1)) ?_
      refine PWk.gets dX4_reachesStraight_22 (rgSc_0 (okSc_is hk1)) (lcSc (okSc_is hk1)) fl_X4_74 rfl (stSc_3 (okSc_is hk1)) ?_
      refine PWk.iload_n 2 dX4_reachesStraight_25 rfl ?_
      refine PWk.iald dX4_reachesStraight_26 (rgSc_2 (okSc_is hk1)) (lySc_2 (okSc_is hk1)) (fun v3 => ?_)
      refine PWk.callVi (pc_X4_isAstray I L R u2 v3) dX4_reachesStraight_27 ml_X4_77 rfl rg_42 lc_42 vq_4 (by omega) rfl (Nat.le_of_ble_eq_true rfl) (fun x4 => ?_)
      refine PWk.jn (pc' := 50) (lv' := fun y10 => [(0, .ref 42), (1, .int u1), (2, .int u2)]) (st' := fun y10 => []) (I' := fun y10 => y10) (L' := fun y10 => L) (R' := fun y10 => R) (fun j5 hj5 => ?_) (fun y10 => ?_)
      · refine PWk.if_eq 50 dX4_reachesStraight_30 (by decide) (fun h9 => ?_) (fun h9 => ?_)
        · exact hj5 I
        · refine PWk.aload_n 0 dX4_reachesStraight_33 rfl ?_
          refine PWk.iload_n 2 dX4_reachesStraight_34 rfl ?_
          refine PWk.aload_n 0 dX4_reachesStraight_35 rfl ?_
          refine PWk.gets dX4_reachesStraight_36 rg_42 lc_42 fl_X4_9 rfl st_42_0 ?_
          refine PWk.iload_n 2 dX4_reachesStraight_39 rfl ?_
          refine PWk.iald dX4_reachesStraight_40 rg_43 ly_43 (fun v6 => ?_)
          refine PWk.iload_n 1 dX4_reachesStraight_41 rfl ?_
          refine PWk.callViI (hrec.2.2.1 I L R u2 v6 u1) dX4_reachesStraight_42 ml_X4_101 rfl rg_42 lc_42 vq_4 (by omega) rfl (Nat.le_of_ble_eq_true rfl) (fun x7 => ?_)
          refine PWk.if_eq 50 dX4_reachesStraight_45 (by decide) (fun h8 => ?_) (fun h8 => ?_)
          · exact hj5 x7.2
          · refine PWk.iconst (v := 1) dX4_reachesStraight_48 ic_1 ?_
            exact PWk.zret dX4_reachesStraight_49 rfl (hr _)
      · refine PWk.iinc (v := (u2 + 1)) 2 [(2, .int (u2 + 1)), (0, .ref 42), (1, .int u1)] dX4_reachesStraight_50 rfl (by rw [ic_1]) (by decide) rfl ?_
        refine PWk.goto 2 dX4_reachesStraight_53 (by decide) ?_
        refine PWk.sub [1, 2, 0] rfl ?_
        exact ih (u2 + 1) y10 N F hx hr
set_option maxRecDepth 20000 in
theorem pc_X4_reachesStraight (rec : Nat → HI → HR → Int32 → Int32 → Int32 → Option (Int32 × HI)) (D0 : Nat) (fu : Nat) (I : HI) (L : HL) (R : HR) (p1 : Int32) (hD0 : 4 ≤ D0) (hrec : (∀ (I : HI) (L : HL) (R : HR) (a0 : Int32), PCo 1 93 D0 yX4_reaches cX4_reaches 4 (some .boolean) [.ref 42, .int a0] I L R (rec 0 I R a0 0 0) (fun x : Int32 × HI => ((some (.int x.1), x.2, L, R) : HF))) ∧ (∀ (I : HI) (L : HL) (R : HR) (a0 : Int32) (a1 : Int32) (a2 : Int32), PCo 1 93 D0 yX4_reachesBy cX4_reachesBy 7 (some .boolean) [.ref 42, .int a0, .int a1, .int a2] I L R (rec 1 I R a0 a1 a2) (fun x : Int32 × HI => ((some (.int x.1), x.2, L, R) : HF))) ∧ (∀ (I : HI) (L : HL) (R : HR) (a0 : Int32) (a1 : Int32) (a2 : Int32), PCo 1 93 D0 yX4_reachesInto cX4_reachesInto 6 (some .boolean) [.ref 42, .int a0, .int a1, .int a2] I L R (rec 2 I R a0 a1 a2) (fun x : Int32 × HI => ((some (.int x.1), x.2, L, R) : HF))) ∧ (∀ (I : HI) (L : HL) (R : HR) (a0 : Int32), PCo 1 93 D0 yX4_reachesStraight cX4_reachesStraight 3 (some .boolean) [.ref 42, .int a0] I L R (rec 3 I R a0 0 0) (fun x : Int32 × HI => ((some (.int x.1), x.2, L, R) : HF)))) : PCo 1 93 (D0 + 1) yX4_reachesStraight cX4_reachesStraight 3 (some .boolean) [.ref 42, .int p1] I L R (f_X4_reachesStraight rec fu I R p1) (fun x : Int32 × HI => ((some (.int x.1), x.2, L, R) : HF)) := by
  refine PCo.of (own := RX4) (by decide +kernel) (Nat.le_of_ble_eq_true rfl) rfl rfl (fun F => ?_)
  unfold f_X4_reachesStraight
  refine PWk.iconst (v := 0) dX4_reachesStraight_0 ic_0 ?_
  refine PWk.istore_n [(2, .int 0), (0, .ref 42), (1, .int p1)] dX4_reachesStraight_1 (by decide) rfl ?_
  refine PWk.sub [1, 2, 0] rfl ?_
  refine PWk.loopS (fun N' hx' hr' => lp_X4_reachesStraight_2 rec D0 fu p1 L R hD0 hrec fu 0 I N' F hx' hr') (fun r a e h => by cases e; exact h) (fun x12 => ?_)
  refine PWk.iconst (v := 0) dX4_reachesStraight_56 ic_0 ?_
  exact PWk.zret dX4_reachesStraight_57 rfl (fun h => h)
def g_X4 (fu : Nat) : Nat → Nat → HI → HR → Int32 → Int32 → Int32 → Option (Int32 × HI)
  | 0, _, _, _, _, _, _ => none
  | r + 1, w, I, R, a0, a1, a2 =>
    if w = 0 then f_X4_reaches (g_X4 fu r) fu I R a0 else
    if w = 1 then f_X4_reachesBy (g_X4 fu r) fu I R a0 a1 a2 else
    if w = 2 then f_X4_reachesInto (g_X4 fu r) fu I R a0 a1 a2 else
    f_X4_reachesStraight (g_X4 fu r) fu I R a0
theorem g_X4_ok (fu : Nat) : ∀ r : Nat, (∀ (I : HI) (L : HL) (R : HR) (a0 : Int32), PCo 1 93 (4 + r) yX4_reaches cX4_reaches 4 (some .boolean) [.ref 42, .int a0] I L R (g_X4 fu r 0 I R a0 0 0) (fun x : Int32 × HI => ((some (.int x.1), x.2, L, R) : HF))) ∧ (∀ (I : HI) (L : HL) (R : HR) (a0 : Int32) (a1 : Int32) (a2 : Int32), PCo 1 93 (4 + r) yX4_reachesBy cX4_reachesBy 7 (some .boolean) [.ref 42, .int a0, .int a1, .int a2] I L R (g_X4 fu r 1 I R a0 a1 a2) (fun x : Int32 × HI => ((some (.int x.1), x.2, L, R) : HF))) ∧ (∀ (I : HI) (L : HL) (R : HR) (a0 : Int32) (a1 : Int32) (a2 : Int32), PCo 1 93 (4 + r) yX4_reachesInto cX4_reachesInto 6 (some .boolean) [.ref 42, .int a0, .int a1, .int a2] I L R (g_X4 fu r 2 I R a0 a1 a2) (fun x : Int32 × HI => ((some (.int x.1), x.2, L, R) : HF))) ∧ (∀ (I : HI) (L : HL) (R : HR) (a0 : Int32), PCo 1 93 (4 + r) yX4_reachesStraight cX4_reachesStraight 3 (some .boolean) [.ref 42, .int a0] I L R (g_X4 fu r 3 I R a0 0 0) (fun x : Int32 × HI => ((some (.int x.1), x.2, L, R) : HF))) := by
  intro r
  induction r with
  | zero => exact ⟨fun I L R a0 a h => (by cases h), fun I L R a0 a1 a2 a h => (by cases h), fun I L R a0 a1 a2 a h => (by cases h), fun I L R a0 a h => (by cases h)⟩
  | succ r ih =>
    exact ⟨fun I L R a0 => pc_X4_reaches (g_X4 fu r) (4 + r) fu I L R a0 (by omega) ih, fun I L R a0 a1 a2 => pc_X4_reachesBy (g_X4 fu r) (4 + r) fu I L R a0 a1 a2 (by omega) ih, fun I L R a0 a1 a2 => pc_X4_reachesInto (g_X4 fu r) (4 + r) fu I L R a0 a1 a2 (by omega) ih, fun I L R a0 => pc_X4_reachesStraight (g_X4 fu r) (4 + r) fu I L R a0 (by omega) ih⟩
/-! LakeMarket$Mover.fewest(LLakeMarket$Scene;)I -/
def f_X4_fewest_L66 (fu : Nat) : Nat → HI → HR → Int32 → Option ((Int32 × HI × HR) ⊕ (HI))
  | 0, _, _, _ => none
  | n + 1, I, R, u2 =>
    if 4 < u2 then
      some (.inr I)
    else
      (f_X4_forgetSeen fu I u2).bind fun x11 =>
      (g_X4 fu 20 0 x11 R u2 0 0).bind fun x12 =>
      if x12.1 = 0 then
        f_X4_fewest_L66 fu n x12.2 R (u2 + 1)
      else
        some (.inl (u2, x12.2, R))
def f_X4_fewest_L16 (fu : Nat) : Nat → HI → HR → Int32 → Option (HI)
  | 0, _, _, _ => none
  | n + 1, I, R, u2 =>
    gr (okSc (R 42 4)) <|
    gr (okLd (R (R 42 4) 0)) <|
    if (I (R (R 42 4) 0) 1) ≤ u2 then
      some I
    else
      (f_X9_roomIn fu I R (R 42 4) u2).bind fun x5 =>
      inb 8 u2 <|
      bnd (sI I 44 (u2 : Int32).toNatClampNeg x5) fun I6 =>
      (f_X9_countIn fu I6 R (R 42 4) u2).bind fun x7 =>
      inb 8 u2 <|
      bnd (sI I6 45 (u2 : Int32).toNatClampNeg x7) fun I8 =>
      f_X4_fewest_L16 fu n I8 R (u2 + 1)
def f_X4_fewest (fu : Nat) (I : HI) (R : HR) (a1 : Nat) : Option (Int32 × HI × HR) :=
  bnd (sR R 42 4 a1) fun R1 =>
  (f_X4_hasHeavyStray fu I R1).bind fun x2 =>
  if x2 = 0 then
    (f_X4_fewest_L16 fu fu I R1 0).bind fun x10 =>
    (f_X4_fewest_L66 fu fu x10 R1 0).bind (Sum.elim (fun r => some r) fun x15 =>
    some ((-1), x15, R1))
  else
    some ((-1), I, R1)
set_option maxRecDepth 20000 in
theorem lp_X4_fewest_66 (fu : Nat) (L : HL) (R : HR) : ∀ (n : Nat) (u2 : Int32) (I : HI) (N : ((Int32 × HI × HR) ⊕ (HI)) → Prop) (F : HF), (∀ v : HI, N (.inr v) → PW 1 93 25 RX4 cX4_fewest 3 (some .int) 92 [] [] v L R F) → (∀ r : Int32 × HI × HR, N (.inl r) → F = (fun x : Int32 × HI × HR => ((some (.int x.1), x.2.1, L, x.2.2) : HF)) r) → PWk 1 93 25 RX4 cX4_fewest 3 (some .int) 66 [(0, .ref 42), (2, .int u2)] [] I L R (f_X4_fewest_L66 fu n I R u2) N F := by
  intro n
  induction n with
  | zero => intro u2 I N F hx hr; exact PWk.none'
  | succ n ih =>
    intro u2 I N F hx hr
    unfold f_X4_fewest_L66
    refine PWk.iload_n 1 dX4_fewest_66 rfl ?_
    refine PWk.iconst (v := 4) dX4_fewest_67 ic_4 ?_
    refine PWk.icmp_gt 92 dX4_fewest_68 (by decide) (fun h14 => ?_) (fun h14 => ?_)
    · refine PWk.sub [] rfl ?_
      exact PWk.done (fun h => hx _ h)
    · refine PWk.aload_n 0 dX4_fewest_71 rfl ?_
      refine PWk.iload_n 1 dX4_fewest_72 rfl ?_
      refine PWk.callVvI (pc_X4_forgetSeen fu I L R u2) dX4_fewest_73 ml_X4_64 rfl rg_42 lc_42 vq_4 (by decide) rfl (Nat.le_of_ble_eq_true rfl) (fun x11 => ?_)
      refine PWk.aload_n 0 dX4_fewest_76 rfl ?_
      refine PWk.iload_n 1 dX4_fewest_77 rfl ?_
      refine PWk.callViI ((g_X4_ok fu 20).1 x11 L R u2) dX4_fewest_78 ml_X4_68 rfl rg_42 lc_42 vq_4 (by decide) rfl (Nat.le_of_ble_eq_true rfl) (fun x12 => ?_)
      refine PWk.if_eq 86 dX4_fewest_81 (by decide) (fun h13 => ?_) (fun h13 => ?_)
      · refine PWk.iinc (v := (u2 + 1)) 1 [(2, .int (u2 + 1)), (0, .ref 42)] dX4_fewest_86 rfl (by rw [ic_1]) (by decide) rfl ?_
        refine PWk.goto 66 dX4_fewest_89 (by decide) ?_
        refine PWk.sub [1, 0] rfl ?_
        exact ih (u2 + 1) x12.2 N F hx hr
      · refine PWk.iload_n 1 dX4_fewest_84 rfl ?_
        exact PWk.iret dX4_fewest_85 rfl (hr _)
set_option maxRecDepth 20000 in
theorem lp_X4_fewest_16 (fu : Nat) (L : HL) (R : HR) : ∀ (n : Nat) (u2 : Int32) (I : HI) (N : (HI) → Prop) (F : HF), (∀ v : HI, N v → PW 1 93 25 RX4 cX4_fewest 3 (some .int) 64 [(0, .ref 42)] [] v L R F) → PWk 1 93 25 RX4 cX4_fewest 3 (some .int) 16 [(0, .ref 42), (2, .int u2)] [] I L R (f_X4_fewest_L16 fu n I R u2) N F := by
  intro n
  induction n with
  | zero => intro u2 I N F hx; exact PWk.none'
  | succ n ih =>
    intro u2 I N F hx
    unfold f_X4_fewest_L16
    refine PWk.iload_n 1 dX4_fewest_16 rfl ?_
    refine PWk.aload_n 0 dX4_fewest_17 rfl ?_
    refine PWk.getr dX4_fewest_18 rg_42 lc_42 fl_X4_39 rfl okSc_ne (fun hk3 => ?_)
    refine PWk.getr dX4_fewest_21 (rgSc_0 (okSc_is hk3)) (lcSc (okSc_is hk3)) fl_X4_47 rfl okLd_ne (fun hk4 => ?_)
    refine PWk.geti dX4_fewest_24 (rgLd_0 (okLd_is hk4)) (lcLd (okLd_is hk4)) fl_X4_51 rfl ?_
    refine PWk.icmp_ge 64 dX4_fewest_27 (by decide) (fun h9 => ?_) (fun h9 => ?_)
    · refine PWk.sub [0] rfl ?_
      exact PWk.done (fun h => hx _ h)
    · refine PWk.aload_n 0 dX4_fewest_30 rfl ?_
      refine PWk.gets dX4_fewest_31 rg_42 lc_42 fl_X4_15 rfl st_42_1 ?_
      refine PWk.iload_n 1 dX4_fewest_34 rfl ?_
      refine PWk.aload_n 0 dX4_fewest_35 rfl ?_
      refine PWk.getrk dX4_fewest_36 rg_42 lc_42 fl_X4_39 rfl (neSc (okSc_is hk3)) ?_
      refine PWk.iload_n 1 dX4_fewest_39 rfl ?_
      refine PWk.callVi (pc_X9_roomIn fu I L R (R 42 4) (okSc_is hk3) u2) dX4_fewest_40 ml_X4_57 rfl (rgSc_0 (okSc_is hk3)) (lcSc (okSc_is hk3)) vq_9 (by decide) rfl (Nat.le_of_ble_eq_true rfl) (fun x5 => ?_)
      refine PWk.iast dX4_fewest_43 rg_44 ly_44 ?_
      refine PWk.bI (fun I6 => ?_)
      refine PWk.aload_n 0 dX4_fewest_44 rfl ?_
      refine PWk.gets dX4_fewest_45 rg_42 lc_42 fl_X4_18 rfl st_42_2 ?_
      refine PWk.iload_n 1 dX4_fewest_48 rfl ?_
      refine PWk.aload_n 0 dX4_fewest_49 rfl ?_
      refine PWk.getrk dX4_fewest_50 rg_42 lc_42 fl_X4_39 rfl (neSc (okSc_is hk3)) ?_
      refine PWk.iload_n 1 dX4_fewest_53 rfl ?_
      refine PWk.callVi (pc_X9_countIn fu I6 L R (R 42 4) (okSc_is hk3) u2) dX4_fewest_54 ml_X4_61 rfl (rgSc_0 (okSc_is hk3)) (lcSc (okSc_is hk3)) vq_9 (by decide) rfl (Nat.le_of_ble_eq_true rfl) (fun x7 => ?_)
      refine PWk.iast dX4_fewest_57 rg_45 ly_45 ?_
      refine PWk.bI (fun I8 => ?_)
      refine PWk.iinc (v := (u2 + 1)) 1 [(2, .int (u2 + 1)), (0, .ref 42)] dX4_fewest_58 rfl (by rw [ic_1]) (by decide) rfl ?_
      refine PWk.goto 16 dX4_fewest_61 (by decide) ?_
      refine PWk.sub [1, 0] rfl ?_
      exact ih (u2 + 1) I8 N F hx
set_option maxRecDepth 20000 in
theorem pc_X4_fewest (fu : Nat) (I : HI) (L : HL) (R : HR) (a1 : Nat) (hy_a1 : isSc a1) : PCo 1 93 25 yX4_fewest cX4_fewest 3 (some .int) [.ref 42, .ref a1] I L R (f_X4_fewest fu I R a1) (fun x : Int32 × HI × HR => ((some (.int x.1), x.2.1, L, x.2.2) : HF)) := by
  refine PCo.of (own := RX4) (by decide +kernel) (Nat.le_of_ble_eq_true rfl) rfl rfl (fun F => ?_)
  unfold f_X4_fewest
  refine PWk.aload_n 0 dX4_fewest_0 rfl ?_
  refine PWk.aload_n 1 dX4_fewest_1 rfl ?_
  refine PWk.putr dX4_fewest_2 rg_42 lc_42 fl_X4_39 fp_4_4 rfl (neSc hy_a1) ?_
  refine PWk.bR (fun R1 => ?_)
  refine PWk.aload_n 0 dX4_fewest_5 rfl ?_
  refine PWk.callVi (pc_X4_hasHeavyStray fu I L R1) dX4_fewest_6 ml_X4_43 rfl rg_42 lc_42 vq_4 (by decide) rfl (Nat.le_of_ble_eq_true rfl) (fun x2 => ?_)
  refine PWk.if_eq 14 dX4_fewest_9 (by decide) (fun h16 => ?_) (fun h16 => ?_)
  · refine PWk.iconst (v := 0) dX4_fewest_14 ic_0 ?_
    refine PWk.istore_n [(2, .int 0), (0, .ref 42), (1, .ref a1)] dX4_fewest_15 (by decide) rfl ?_
    refine PWk.sub [1, 0] rfl ?_
    refine PWk.loopV (fun N' hx' => lp_X4_fewest_16 fu L R1 fu 0 I N' F hx') (fun x10 => ?_)
    refine PWk.iconst (v := 0) dX4_fewest_64 ic_0 ?_
    refine PWk.istore_n [(2, .int 0), (0, .ref 42)] dX4_fewest_65 (by decide) rfl ?_
    refine PWk.sub [1, 0] rfl ?_
    refine PWk.loopS (fun N' hx' hr' => lp_X4_fewest_66 fu L R1 fu 0 x10 N' F hx' hr') (fun r a e h => by cases e; exact h) (fun x15 => ?_)
    refine PWk.iconst (v := (-1)) dX4_fewest_92 ic_m1 ?_
    exact PWk.iret dX4_fewest_93 rfl (fun h => h)
  · refine PWk.iconst (v := (-1)) dX4_fewest_12 ic_m1 ?_
    exact PWk.iret dX4_fewest_13 rfl (fun h => h)
