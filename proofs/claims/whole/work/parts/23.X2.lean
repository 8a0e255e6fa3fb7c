/-! LakeMarket$Lowland.clear()V -/
def f_X2_clear (fu : Nat) (I : HI) (a0 : Nat) : Option (HI) :=
  bnd (sI I a0 0 0) fun I1 =>
  bnd (sI I1 a0 1 0) fun I2 =>
  bnd (sI I2 a0 2 0) fun I3 =>
  bnd (sI I3 a0 3 0) fun I4 =>
  bnd (sI I4 a0 4 0) fun I5 =>
  bnd (sI I5 a0 5 999) fun I6 =>
  bnd (sI I6 a0 16 0) fun I7 =>
  (f_J7_fill_53178 fu I7 (a0 + 9) 36 0).bind fun x8 =>
  (f_J7_fill_53178 fu x8 (a0 + 11) 3 0).bind fun x9 =>
  (f_J7_fill_53178 fu x9 (a0 + 12) 3 0).bind fun x10 =>
  some x10
set_option maxRecDepth 20000 in
theorem pc_X2_clear (fu : Nat) (I : HI) (L : HL) (R : HR) (a0 : Nat) (hy_a0 : isLd a0) : PCo 1 93 1 yX2_clear cX2_clear 1 none [.ref a0] I L R (f_X2_clear fu I a0) (fun x : HI => ((none, x, L, R) : HF)) := by
  refine PCo.of (own := RX2) (by decide +kernel) (Nat.le_of_ble_eq_true rfl) rfl rfl (fun F => ?_)
  unfold f_X2_clear
  refine PWk.aload_n 0 dX2_clear_0 rfl ?_
  refine PWk.iconst (v := 0) dX2_clear_1 ic_0 ?_
  refine PWk.puti dX2_clear_2 (rgLd_0 hy_a0) (lcLd hy_a0) fl_X2_52 fp_2_0 rfl ?_
  refine PWk.bI (fun I1 => ?_)
  refine PWk.aload_n 0 dX2_clear_5 rfl ?_
  refine PWk.iconst (v := 0) dX2_clear_6 ic_0 ?_
  refine PWk.puti dX2_clear_7 (rgLd_0 hy_a0) (lcLd hy_a0) fl_X2_55 fp_2_1 rfl ?_
  refine PWk.bI (fun I2 => ?_)
  refine PWk.aload_n 0 dX2_clear_10 rfl ?_
  refine PWk.iconst (v := 0) dX2_clear_11 ic_0 ?_
  refine PWk.puti dX2_clear_12 (rgLd_0 hy_a0) (lcLd hy_a0) fl_X2_58 fp_2_2 rfl ?_
  refine PWk.bI (fun I3 => ?_)
  refine PWk.aload_n 0 dX2_clear_15 rfl ?_
  refine PWk.iconst (v := 0) dX2_clear_16 ic_0 ?_
  refine PWk.puti dX2_clear_17 (rgLd_0 hy_a0) (lcLd hy_a0) fl_X2_61 fp_2_3 rfl ?_
  refine PWk.bI (fun I4 => ?_)
  refine PWk.aload_n 0 dX2_clear_20 rfl ?_
  refine PWk.iconst (v := 0) dX2_clear_21 ic_0 ?_
  refine PWk.puti dX2_clear_22 (rgLd_0 hy_a0) (lcLd hy_a0) fl_X2_64 fp_2_4 rfl ?_
  refine PWk.bI (fun I5 => ?_)
  refine PWk.aload_n 0 dX2_clear_25 rfl ?_
  refine PWk.sipush (v := 999) dX2_clear_26 sp_999 ?_
  refine PWk.puti dX2_clear_29 (rgLd_0 hy_a0) (lcLd hy_a0) fl_X2_9 fp_2_5 rfl ?_
  refine PWk.bI (fun I6 => ?_)
  refine PWk.aload_n 0 dX2_clear_32 rfl ?_
  refine PWk.iconst (v := 0) dX2_clear_33 ic_0 ?_
  refine PWk.puti dX2_clear_34 (rgLd_0 hy_a0) (lcLd hy_a0) fl_X2_67 fp_2_16 rfl ?_
  refine PWk.bI (fun I7 => ?_)
  refine PWk.aload_n 0 dX2_clear_37 rfl ?_
  refine PWk.gets dX2_clear_38 (rgLd_0 hy_a0) (lcLd hy_a0) fl_X2_40 rfl (stLd_14 hy_a0) ?_
  refine PWk.iconst (v := 0) dX2_clear_41 ic_0 ?_
  refine PWk.callSvI (pc_J7_fill_53178 fu I7 L R (a0 + 9) 36 (lyLd_9 hy_a0) (rgLd_9 hy_a0) 0) dX2_clear_42 ml_X2_70 rfl (by decide) rfl (Nat.le_of_ble_eq_true rfl) (fun x8 => ?_)
  refine PWk.aload_n 0 dX2_clear_45 rfl ?_
  refine PWk.gets dX2_clear_46 (rgLd_0 hy_a0) (lcLd hy_a0) fl_X2_46 rfl (stLd_17 hy_a0) ?_
  refine PWk.iconst (v := 0) dX2_clear_49 ic_0 ?_
  refine PWk.callSvI (pc_J7_fill_53178 fu x8 L R (a0 + 11) 3 (lyLd_11 hy_a0) (rgLd_11 hy_a0) 0) dX2_clear_50 ml_X2_70 rfl (by decide) rfl (Nat.le_of_ble_eq_true rfl) (fun x9 => ?_)
  refine PWk.aload_n 0 dX2_clear_53 rfl ?_
  refine PWk.gets dX2_clear_54 (rgLd_0 hy_a0) (lcLd hy_a0) fl_X2_49 rfl (stLd_18 hy_a0) ?_
  refine PWk.iconst (v := 0) dX2_clear_57 ic_0 ?_
  refine PWk.callSvI (pc_J7_fill_53178 fu x9 L R (a0 + 12) 3 (lyLd_12 hy_a0) (rgLd_12 hy_a0) 0) dX2_clear_58 ml_X2_70 rfl (by decide) rfl (Nat.le_of_ble_eq_true rfl) (fun x10 => ?_)
  exact PWk.vret dX2_clear_61 rfl (fun h => h)
/-! LakeMarket$Lowland.hasRule(I)Z -/
def f_X2_hasRule (I : HI) (a0 : Nat) (p1 : Int32) : Option (Int32) :=
  ldI (I (a0 + 12)) 3 p1 fun v1 =>
  ldI (I (a0 + 11)) 3 p1 fun v2 =>
  if v1 ≤ v2 then
    gz 0 (some 0)
  else
    gz 1 (some 1)
set_option maxRecDepth 20000 in
theorem pc_X2_hasRule (I : HI) (L : HL) (R : HR) (a0 : Nat) (hy_a0 : isLd a0) (p1 : Int32) : PCo 1 93 0 yX2_hasRule cX2_hasRule 2 (some .boolean) [.ref a0, .int p1] I L R (f_X2_hasRule I a0 p1) (fun x : Int32 => ((some (.int x), I, L, R) : HF)) := by
  refine PCo.of (own := RX2) (by decide +kernel) (Nat.le_of_ble_eq_true rfl) rfl rfl (fun F => ?_)
  unfold f_X2_hasRule
  refine PWk.aload_n 0 dX2_hasRule_0 rfl ?_
  refine PWk.gets dX2_hasRule_1 (rgLd_0 hy_a0) (lcLd hy_a0) fl_X2_49 rfl (stLd_18 hy_a0) ?_
  refine PWk.iload_n 1 dX2_hasRule_4 rfl ?_
  refine PWk.iald dX2_hasRule_5 (rgLd_12 hy_a0) (lyLd_12 hy_a0) (fun v1 => ?_)
  refine PWk.aload_n 0 dX2_hasRule_6 rfl ?_
  refine PWk.gets dX2_hasRule_7 (rgLd_0 hy_a0) (lcLd hy_a0) fl_X2_46 rfl (stLd_17 hy_a0) ?_
  refine PWk.iload_n 1 dX2_hasRule_10 rfl ?_
  refine PWk.iald dX2_hasRule_11 (rgLd_11 hy_a0) (lyLd_11 hy_a0) (fun v2 => ?_)
  refine PWk.icmp_le 19 dX2_hasRule_12 (by decide) (fun h3 => ?_) (fun h3 => ?_)
  · refine PWk.iconst (v := 0) dX2_hasRule_19 ic_0 ?_
    exact PWk.zret dX2_hasRule_20 rfl (fun h => h)
  · refine PWk.iconst (v := 1) dX2_hasRule_15 ic_1 ?_
    refine PWk.goto 20 dX2_hasRule_16 (by decide) ?_
    exact PWk.zret dX2_hasRule_20 rfl (fun h => h)
/-! LakeMarket$Lowland.emit(I)Z -/
def f_X2_emit (I : HI) (a0 : Nat) (p1 : Int32) : Option (Int32 × HI) :=
  if (I a0 16) < 1600 then
    inb 1600 (I a0 16) <|
    bnd (sI I (a0 + 10) ((I a0 16) : Int32).toNatClampNeg p1) fun I1 =>
    bnd (sI I1 a0 16 ((I1 a0 16) + 1)) fun I2 =>
    gz 1 (some (1, I2))
  else
    gz 0 (some (0, I))
set_option maxRecDepth 20000 in
theorem pc_X2_emit (I : HI) (L : HL) (R : HR) (a0 : Nat) (hy_a0 : isLd a0) (p1 : Int32) : PCo 1 93 0 yX2_emit cX2_emit 2 (some .boolean) [.ref a0, .int p1] I L R (f_X2_emit I a0 p1) (fun x : Int32 × HI => ((some (.int x.1), x.2, L, R) : HF)) := by
  refine PCo.of (own := RX2) (by decide +kernel) (Nat.le_of_ble_eq_true rfl) rfl rfl (fun F => ?_)
  unfold f_X2_emit
  refine PWk.aload_n 0 dX2_emit_0 rfl ?_
  refine PWk.geti dX2_emit_1 (rgLd_0 hy_a0) (lcLd hy_a0) fl_X2_67 rfl ?_
  refine PWk.sipush (v := 1600) dX2_emit_4 sp_1600 ?_
  refine PWk.icmp_lt 12 dX2_emit_7 (by decide) (fun h3 => ?_) (fun h3 => ?_)
  · refine PWk.aload_n 0 dX2_emit_12 rfl ?_
    refine PWk.gets dX2_emit_13 (rgLd_0 hy_a0) (lcLd hy_a0) fl_X2_43 rfl (stLd_15 hy_a0) ?_
    refine PWk.aload_n 0 dX2_emit_16 rfl ?_
    refine PWk.geti dX2_emit_17 (rgLd_0 hy_a0) (lcLd hy_a0) fl_X2_67 rfl ?_
    refine PWk.iload_n 1 dX2_emit_20 rfl ?_
    refine PWk.iast dX2_emit_21 (rgLd_10 hy_a0) (lyLd_10 hy_a0) ?_
    refine PWk.bI (fun I1 => ?_)
    refine PWk.aload_n 0 dX2_emit_22 rfl ?_
    refine PWk.dup dX2_emit_23 rfl ?_
    refine PWk.geti dX2_emit_24 (rgLd_0 hy_a0) (lcLd hy_a0) fl_X2_67 rfl ?_
    refine PWk.iconst (v := 1) dX2_emit_27 ic_1 ?_
    refine PWk.iadd dX2_emit_28 ?_
    refine PWk.puti dX2_emit_29 (rgLd_0 hy_a0) (lcLd hy_a0) fl_X2_67 fp_2_16 rfl ?_
    refine PWk.bI (fun I2 => ?_)
    refine PWk.iconst (v := 1) dX2_emit_32 ic_1 ?_
    exact PWk.zret dX2_emit_33 rfl (fun h => h)
  · refine PWk.iconst (v := 0) dX2_emit_10 ic_0 ?_
    exact PWk.zret dX2_emit_11 rfl (fun h => h)
/-! LakeMarket$Lowland.find([III)I -/
def f_X2_find_L3 : Nat → HI → Nat → Nat → Int32 → Int32 → Int32 → Option ((Int32) ⊕ (Unit))
  | 0, _, _, _, _, _, _ => none
  | n + 1, I, b1, b1n, u2, u3, u4 =>
    if u2 ≤ u4 then
      some (.inr ())
    else
      ldI (I b1) b1n u4 fun v1 =>
      if v1 = u3 then
        some (.inl u4)
      else
        f_X2_find_L3 n I b1 b1n u2 u3 (u4 + 1)
def f_X2_find (fu : Nat) (I : HI) (a0 : Nat) (a1 : Nat) (a1n : Nat) (p2 : Int32) (p3 : Int32) : Option (Int32) :=
  (f_X2_find_L3 fu I a1 a1n p2 p3 0).bind (Sum.elim (fun r => some r) fun x4 =>
  some (-1))
set_option maxRecDepth 20000 in
theorem lp_X2_find_3 (fu : Nat) (b1 b1n : Nat) (hl1 : lay b1 = (13, b1n)) (hr1 : 1 ≤ b1 ∧ b1 < 93) (u2 : Int32) (u3 : Int32) (I : HI) (L : HL) (R : HR) : ∀ (n : Nat) (u4 : Int32) (N : ((Int32) ⊕ (Unit)) → Prop) (F : HF), (∀ v : Unit, N (.inr v) → PW 1 93 0 RX2 cX2_find 5 (some .int) 26 [] [] I L R F) → (∀ r : Int32, N (.inl r) → F = (fun x : Int32 => ((some (.int x), I, L, R) : HF)) r) → PWk 1 93 0 RX2 cX2_find 5 (some .int) 3 [(1, .ref b1), (2, .int u2), (3, .int u3), (4, .int u4)] [] I L R (f_X2_find_L3 n I b1 b1n u2 u3 u4) N F := by
  intro n
  induction n with
  | zero => intro u4 N F hx hr; exact PWk.none'
  | succ n ih =>
    intro u4 N F hx hr
    unfold f_X2_find_L3
    refine PWk.iload 3 dX2_find_3 rfl ?_
    refine PWk.iload_n 1 dX2_find_5 rfl ?_
    refine PWk.icmp_ge 26 dX2_find_6 (by decide) (fun h3 => ?_) (fun h3 => ?_)
    · refine PWk.sub [] rfl ?_
      exact PWk.done (fun h => hx _ h)
    · refine PWk.aload_n 0 dX2_find_9 rfl ?_
      refine PWk.iload 3 dX2_find_10 rfl ?_
      refine PWk.iald dX2_find_12 hr1 hl1 (fun v1 => ?_)
      refine PWk.iload_n 2 dX2_find_13 rfl ?_
      refine PWk.icmp_ne 20 dX2_find_14 (by decide) (fun h2 => ?_) (fun h2 => ?_)
      · refine PWk.iload 3 dX2_find_17 rfl ?_
        exact PWk.iret dX2_find_19 rfl (hr _)
      · refine PWk.iinc (v := (u4 + 1)) 3 [(4, .int (u4 + 1)), (1, .ref b1), (2, .int u2), (3, .int u3)] dX2_find_20 rfl (by rw [ic_1]) (by decide) rfl ?_
        refine PWk.goto 3 dX2_find_23 (by decide) ?_
        refine PWk.sub [1, 2, 3, 0] rfl ?_
        exact ih (u4 + 1) N F hx hr
set_option maxRecDepth 20000 in
theorem pc_X2_find (fu : Nat) (I : HI) (L : HL) (R : HR) (a0 : Nat) (hy_a0 : isLd a0) (a1 : Nat) (a1n : Nat) (hl_a1 : lay a1 = (13, a1n)) (hr_a1 : 1 ≤ a1 ∧ a1 < 93) (p2 : Int32) (p3 : Int32) : PCo 1 93 0 yX2_find cX2_find 5 (some .int) [.ref a0, .ref a1, .int p2, .int p3] I L R (f_X2_find fu I a0 a1 a1n p2 p3) (fun x : Int32 => ((some (.int x), I, L, R) : HF)) := by
  refine PCo.of (own := RX2) (by decide +kernel) (Nat.le_of_ble_eq_true rfl) rfl rfl (fun F => ?_)
  unfold f_X2_find
  refine PWk.iconst (v := 0) dX2_find_0 ic_0 ?_
  refine PWk.istore [(4, .int 0), (0, .ref a0), (1, .ref a1), (2, .int p2), (3, .int p3)] dX2_find_1 (by decide) rfl ?_
  refine PWk.sub [2, 3, 4, 0] rfl ?_
  refine PWk.loopS (fun N' hx' hr' => lp_X2_find_3 fu a1 a1n hl_a1 hr_a1 p2 p3 I L R fu 0 N' F hx' hr') (fun r a e h => by cases e; exact h) (fun x4 => ?_)
  refine PWk.iconst (v := (-1)) dX2_find_26 ic_m1 ?_
  exact PWk.iret dX2_find_27 rfl (fun h => h)
/-! LakeMarket$Lowland.findHollow(I)I -/
def f_X2_findHollow (fu : Nat) (I : HI) (a0 : Nat) (p1 : Int32) : Option (Int32) :=
  (f_X2_find fu I a0 (a0 + 1) 8 (I a0 1) p1).bind fun x1 =>
  some x1
set_option maxRecDepth 20000 in
theorem pc_X2_findHollow (fu : Nat) (I : HI) (L : HL) (R : HR) (a0 : Nat) (hy_a0 : isLd a0) (p1 : Int32) : PCo 1 93 1 yX2_findHollow cX2_findHollow 2 (some .int) [.ref a0, .int p1] I L R (f_X2_findHollow fu I a0 p1) (fun x : Int32 => ((some (.int x), I, L, R) : HF)) := by
  refine PCo.of (own := RX2) (by decide +kernel) (Nat.le_of_ble_eq_true rfl) rfl rfl (fun F => ?_)
  unfold f_X2_findHollow
  refine PWk.aload_n 0 dX2_findHollow_0 rfl ?_
  refine PWk.aload_n 0 dX2_findHollow_1 rfl ?_
  refine PWk.gets dX2_findHollow_2 (rgLd_0 hy_a0) (lcLd hy_a0) fl_X2_15 rfl (stLd_6 hy_a0) ?_
  refine PWk.aload_n 0 dX2_findHollow_5 rfl ?_
  refine PWk.geti dX2_findHollow_6 (rgLd_0 hy_a0) (lcLd hy_a0) fl_X2_55 rfl ?_
  refine PWk.iload_n 1 dX2_findHollow_9 rfl ?_
  refine PWk.callVi (pc_X2_find fu I L R a0 hy_a0 (a0 + 1) 8 (lyLd_1 hy_a0) (rgLd_1 hy_a0) (I a0 1) p1) dX2_findHollow_10 ml_X2_76 rfl (rgLd_0 hy_a0) (lcLd hy_a0) vq_2 (by decide) rfl (Nat.le_of_ble_eq_true rfl) (fun x1 => ?_)
  exact PWk.iret dX2_findHollow_13 rfl (fun h => h)
/-! LakeMarket$Lowland.findOwner(I)I -/
def f_X2_findOwner (fu : Nat) (I : HI) (a0 : Nat) (p1 : Int32) : Option (Int32) :=
  (f_X2_find fu I a0 (a0 + 2) 6 (I a0 2) p1).bind fun x1 =>
  some x1
set_option maxRecDepth 20000 in
theorem pc_X2_findOwner (fu : Nat) (I : HI) (L : HL) (R : HR) (a0 : Nat) (hy_a0 : isLd a0) (p1 : Int32) : PCo 1 93 1 yX2_findOwner cX2_findOwner 2 (some .int) [.ref a0, .int p1] I L R (f_X2_findOwner fu I a0 p1) (fun x : Int32 => ((some (.int x), I, L, R) : HF)) := by
  refine PCo.of (own := RX2) (by decide +kernel) (Nat.le_of_ble_eq_true rfl) rfl rfl (fun F => ?_)
  unfold f_X2_findOwner
  refine PWk.aload_n 0 dX2_findOwner_0 rfl ?_
  refine PWk.aload_n 0 dX2_findOwner_1 rfl ?_
  refine PWk.gets dX2_findOwner_2 (rgLd_0 hy_a0) (lcLd hy_a0) fl_X2_19 rfl (stLd_7 hy_a0) ?_
  refine PWk.aload_n 0 dX2_findOwner_5 rfl ?_
  refine PWk.geti dX2_findOwner_6 (rgLd_0 hy_a0) (lcLd hy_a0) fl_X2_58 rfl ?_
  refine PWk.iload_n 1 dX2_findOwner_9 rfl ?_
  refine PWk.callVi (pc_X2_find fu I L R a0 hy_a0 (a0 + 2) 6 (lyLd_2 hy_a0) (rgLd_2 hy_a0) (I a0 2) p1) dX2_findOwner_10 ml_X2_76 rfl (rgLd_0 hy_a0) (lcLd hy_a0) vq_2 (by decide) rfl (Nat.le_of_ble_eq_true rfl) (fun x1 => ?_)
  exact PWk.iret dX2_findOwner_13 rfl (fun h => h)
/-! LakeMarket$Lowland.isTaken(I)Z -/
def f_X2_isTaken (fu : Nat) (I : HI) (a0 : Nat) (p1 : Int32) : Option (Int32) :=
  (f_X2_find fu I a0 (a0 + 1) 8 (I a0 1) p1).bind fun x1 =>
  jnt (β := Unit) (fun y8 =>
    gz 1 (some 1)) fun j2 =>
  if x1 = (-1) then
    (f_X2_find fu I a0 (a0 + 2) 6 (I a0 2) p1).bind fun x3 =>
    if x3 = (-1) then
      (f_X2_find fu I a0 (a0 + 3) 8 (I a0 3) p1).bind fun x4 =>
      if x4 = (-1) then
        gz 0 (some 0)
      else
        j2 ()
    else
      j2 ()
  else
    j2 ()
set_option maxRecDepth 20000 in
theorem pc_X2_isTaken (fu : Nat) (I : HI) (L : HL) (R : HR) (a0 : Nat) (hy_a0 : isLd a0) (p1 : Int32) : PCo 1 93 1 yX2_isTaken cX2_isTaken 2 (some .boolean) [.ref a0, .int p1] I L R (f_X2_isTaken fu I a0 p1) (fun x : Int32 => ((some (.int x), I, L, R) : HF)) := by
  refine PCo.of (own := RX2) (by decide +kernel) (Nat.le_of_ble_eq_true rfl) rfl rfl (fun F => ?_)
  unfold f_X2_isTaken
  refine PWk.aload_n 0 dX2_isTaken_0 rfl ?_
  refine PWk.aload_n 0 dX2_isTaken_1 rfl ?_
  refine PWk.gets dX2_isTaken_2 (rgLd_0 hy_a0) (lcLd hy_a0) fl_X2_15 rfl (stLd_6 hy_a0) ?_
  refine PWk.aload_n 0 dX2_isTaken_5 rfl ?_
  refine PWk.geti dX2_isTaken_6 (rgLd_0 hy_a0) (lcLd hy_a0) fl_X2_55 rfl ?_
  refine PWk.iload_n 1 dX2_isTaken_9 rfl ?_
  refine PWk.callVi (pc_X2_find fu I L R a0 hy_a0 (a0 + 1) 8 (lyLd_1 hy_a0) (rgLd_1 hy_a0) (I a0 1) p1) dX2_isTaken_10 ml_X2_76 rfl (rgLd_0 hy_a0) (lcLd hy_a0) vq_2 (by decide) rfl (Nat.le_of_ble_eq_true rfl) (fun x1 => ?_)
  refine PWk.iconst (v := (-1)) dX2_isTaken_13 ic_m1 ?_
  refine PWk.jn (pc' := 51) (lv' := fun y8 => []) (st' := fun y8 => []) (I' := fun y8 => I) (L' := fun y8 => L) (R' := fun y8 => R) (fun j2 hj2 => ?_) (fun y8 => ?_)
  · refine PWk.icmp_ne 51 dX2_isTaken_14 (by decide) (fun h7 => ?_) (fun h7 => ?_)
    · refine PWk.aload_n 0 dX2_isTaken_17 rfl ?_
      refine PWk.aload_n 0 dX2_isTaken_18 rfl ?_
      refine PWk.gets dX2_isTaken_19 (rgLd_0 hy_a0) (lcLd hy_a0) fl_X2_19 rfl (stLd_7 hy_a0) ?_
      refine PWk.aload_n 0 dX2_isTaken_22 rfl ?_
      refine PWk.geti dX2_isTaken_23 (rgLd_0 hy_a0) (lcLd hy_a0) fl_X2_58 rfl ?_
      refine PWk.iload_n 1 dX2_isTaken_26 rfl ?_
      refine PWk.callVi (pc_X2_find fu I L R a0 hy_a0 (a0 + 2) 6 (lyLd_2 hy_a0) (rgLd_2 hy_a0) (I a0 2) p1) dX2_isTaken_27 ml_X2_76 rfl (rgLd_0 hy_a0) (lcLd hy_a0) vq_2 (by decide) rfl (Nat.le_of_ble_eq_true rfl) (fun x3 => ?_)
      refine PWk.iconst (v := (-1)) dX2_isTaken_30 ic_m1 ?_
      refine PWk.icmp_ne 51 dX2_isTaken_31 (by decide) (fun h6 => ?_) (fun h6 => ?_)
      · refine PWk.aload_n 0 dX2_isTaken_34 rfl ?_
        refine PWk.aload_n 0 dX2_isTaken_35 rfl ?_
        refine PWk.gets dX2_isTaken_36 (rgLd_0 hy_a0) (lcLd hy_a0) fl_X2_22 rfl (stLd_8 hy_a0) ?_
        refine PWk.aload_n 0 dX2_isTaken_39 rfl ?_
        refine PWk.geti dX2_isTaken_40 (rgLd_0 hy_a0) (lcLd hy_a0) fl_X2_61 rfl ?_
        refine PWk.iload_n 1 dX2_isTaken_43 rfl ?_
        refine PWk.callVi (pc_X2_find fu I L R a0 hy_a0 (a0 + 3) 8 (lyLd_3 hy_a0) (rgLd_3 hy_a0) (I a0 3) p1) dX2_isTaken_44 ml_X2_76 rfl (rgLd_0 hy_a0) (lcLd hy_a0) vq_2 (by decide) rfl (Nat.le_of_ble_eq_true rfl) (fun x4 => ?_)
        refine PWk.iconst (v := (-1)) dX2_isTaken_47 ic_m1 ?_
        refine PWk.icmp_eq 55 dX2_isTaken_48 (by decide) (fun h5 => ?_) (fun h5 => ?_)
        · refine PWk.iconst (v := 0) dX2_isTaken_55 ic_0 ?_
          exact PWk.zret dX2_isTaken_56 rfl (fun h => h)
        · refine PWk.sub [] rfl ?_
          exact hj2 ()
      · refine PWk.sub [] rfl ?_
        exact hj2 ()
    · refine PWk.sub [] rfl ?_
      exact hj2 ()
  · refine PWk.iconst (v := 1) dX2_isTaken_51 ic_1 ?_
    refine PWk.goto 56 dX2_isTaken_52 (by decide) ?_
    exact PWk.zret dX2_isTaken_56 rfl (fun h => h)
/-! LakeMarket$Lowland.letterOf(II)I -/
def f_X2_letterOf (a0 : Nat) (p1 : Int32) (p2 : Int32) : Option (Int32) :=
  some (((p1 : Int32).toUInt32 >>> (((5 * p2) : Int32).toUInt32 &&& Int32.toUInt32 31)).toInt32 &&& 31)
set_option maxRecDepth 20000 in
theorem pc_X2_letterOf (I : HI) (L : HL) (R : HR) (a0 : Nat) (hy_a0 : isLd a0) (p1 : Int32) (p2 : Int32) : PCo 1 93 0 yX2_letterOf cX2_letterOf 3 (some .int) [.ref a0, .int p1, .int p2] I L R (f_X2_letterOf a0 p1 p2) (fun x : Int32 => ((some (.int x), I, L, R) : HF)) := by
  refine PCo.of (own := RX2) (by decide +kernel) (Nat.le_of_ble_eq_true rfl) rfl rfl (fun F => ?_)
  unfold f_X2_letterOf
  refine PWk.iload_n 1 dX2_letterOf_0 rfl ?_
  refine PWk.iconst (v := 5) dX2_letterOf_1 ic_5 ?_
  refine PWk.iload_n 2 dX2_letterOf_2 rfl ?_
  refine PWk.imul dX2_letterOf_3 ?_
  refine PWk.iushr dX2_letterOf_4 ?_
  refine PWk.bipush (v := 31) dX2_letterOf_5 bp_31 ?_
  refine PWk.iand dX2_letterOf_7 ?_
  exact PWk.iret dX2_letterOf_8 rfl (fun h => h)
/-! LakeMarket$Lowland.roomAtFirst(I)I -/
def f_X2_roomAtFirst_L9 : Nat → HI → Nat → Int32 → Int32 → Int32 → Option (Int32)
  | 0, _, _, _, _, _ => none
  | n + 1, I, b0, u1, u2, u3 =>
    if (I b0 3) ≤ u3 then
      some u2
    else
      ldI (I (b0 + 7)) 8 u3 fun v2 =>
      jnt (β := Int32) (fun y7 =>
        f_X2_roomAtFirst_L9 n I b0 u1 y7 (u3 + 1)) fun j3 =>
      if v2 = u1 then
        ldI (I (b0 + 6)) 8 u3 fun v4 =>
        bnd ((u2 - v4)) fun v5 =>
        j3 v5
      else
        j3 u2
def f_X2_roomAtFirst (fu : Nat) (I : HI) (a0 : Nat) (p1 : Int32) : Option (Int32) :=
  ldI (I (a0 + 4)) 8 p1 fun v1 =>
  (f_X2_roomAtFirst_L9 fu I a0 p1 v1 0).bind fun x9 =>
  some x9
set_option maxRecDepth 20000 in
theorem lp_X2_roomAtFirst_9 (fu : Nat) (b0 : Nat) (hb0 : isLd b0) (u1 : Int32) (I : HI) (L : HL) (R : HR) : ∀ (n : Nat) (u2 : Int32) (u3 : Int32) (N : (Int32) → Prop) (F : HF), (∀ v : Int32, N v → PW 1 93 0 RX2 cX2_roomAtFirst 4 (some .int) 42 [(2, .int v)] [] I L R F) → PWk 1 93 0 RX2 cX2_roomAtFirst 4 (some .int) 9 [(0, .ref b0), (1, .int u1), (2, .int u2), (3, .int u3)] [] I L R (f_X2_roomAtFirst_L9 n I b0 u1 u2 u3) N F := by
  intro n
  induction n with
  | zero => intro u2 u3 N F hx; exact PWk.none'
  | succ n ih =>
    intro u2 u3 N F hx
    unfold f_X2_roomAtFirst_L9
    refine PWk.iload_n 3 dX2_roomAtFirst_9 rfl ?_
    refine PWk.aload_n 0 dX2_roomAtFirst_10 rfl ?_
    refine PWk.geti dX2_roomAtFirst_11 (rgLd_0 hb0) (lcLd hb0) fl_X2_61 rfl ?_
    refine PWk.icmp_ge 42 dX2_roomAtFirst_14 (by decide) (fun h8 => ?_) (fun h8 => ?_)
    · refine PWk.sub [2] rfl ?_
      exact PWk.done (fun h => hx _ h)
    · refine PWk.aload_n 0 dX2_roomAtFirst_17 rfl ?_
      refine PWk.gets dX2_roomAtFirst_18 (rgLd_0 hb0) (lcLd hb0) fl_X2_34 rfl (stLd_12 hb0) ?_
      refine PWk.iload_n 3 dX2_roomAtFirst_21 rfl ?_
      refine PWk.iald dX2_roomAtFirst_22 (rgLd_7 hb0) (lyLd_7 hb0) (fun v2 => ?_)
      refine PWk.iload_n 1 dX2_roomAtFirst_23 rfl ?_
      refine PWk.jn (pc' := 36) (lv' := fun y7 => [(0, .ref b0), (1, .int u1), (2, .int y7), (3, .int u3)]) (st' := fun y7 => []) (I' := fun y7 => I) (L' := fun y7 => L) (R' := fun y7 => R) (fun j3 hj3 => ?_) (fun y7 => ?_)
      · refine PWk.icmp_ne 36 dX2_roomAtFirst_24 (by decide) (fun h6 => ?_) (fun h6 => ?_)
        · refine PWk.iload_n 2 dX2_roomAtFirst_27 rfl ?_
          refine PWk.aload_n 0 dX2_roomAtFirst_28 rfl ?_
          refine PWk.gets dX2_roomAtFirst_29 (rgLd_0 hb0) (lcLd hb0) fl_X2_31 rfl (stLd_11 hb0) ?_
          refine PWk.iload_n 3 dX2_roomAtFirst_32 rfl ?_
          refine PWk.iald dX2_roomAtFirst_33 (rgLd_6 hb0) (lyLd_6 hb0) (fun v4 => ?_)
          refine PWk.isub dX2_roomAtFirst_34 ?_
          refine PWk.bi (fun v5 => ?_)
          refine PWk.istore_n [(2, .int v5), (0, .ref b0), (1, .int u1), (3, .int u3)] dX2_roomAtFirst_35 (by decide) rfl ?_
          refine PWk.sub [1, 2, 0, 3] rfl ?_
          exact hj3 v5
        · exact hj3 u2
      · refine PWk.iinc (v := (u3 + 1)) 3 [(3, .int (u3 + 1)), (0, .ref b0), (1, .int u1), (2, .int y7)] dX2_roomAtFirst_36 rfl (by rw [ic_1]) (by decide) rfl ?_
        refine PWk.goto 9 dX2_roomAtFirst_39 (by decide) ?_
        refine PWk.sub [1, 2, 3, 0] rfl ?_
        exact ih y7 (u3 + 1) N F hx
set_option maxRecDepth 20000 in
theorem pc_X2_roomAtFirst (fu : Nat) (I : HI) (L : HL) (R : HR) (a0 : Nat) (hy_a0 : isLd a0) (p1 : Int32) : PCo 1 93 0 yX2_roomAtFirst cX2_roomAtFirst 4 (some .int) [.ref a0, .int p1] I L R (f_X2_roomAtFirst fu I a0 p1) (fun x : Int32 => ((some (.int x), I, L, R) : HF)) := by
  refine PCo.of (own := RX2) (by decide +kernel) (Nat.le_of_ble_eq_true rfl) rfl rfl (fun F => ?_)
  unfold f_X2_roomAtFirst
  refine PWk.aload_n 0 dX2_roomAtFirst_0 rfl ?_
  refine PWk.gets dX2_roomAtFirst_1 (rgLd_0 hy_a0) (lcLd hy_a0) fl_X2_25 rfl (stLd_9 hy_a0) ?_
  refine PWk.iload_n 1 dX2_roomAtFirst_4 rfl ?_
  refine PWk.iald dX2_roomAtFirst_5 (rgLd_4 hy_a0) (lyLd_4 hy_a0) (fun v1 => ?_)
  refine PWk.istore_n [(2, .int v1), (0, .ref a0), (1, .int p1)] dX2_roomAtFirst_6 (by decide) rfl ?_
  refine PWk.iconst (v := 0) dX2_roomAtFirst_7 ic_0 ?_
  refine PWk.istore_n [(3, .int 0), (2, .int v1), (0, .ref a0), (1, .int p1)] dX2_roomAtFirst_8 (by decide) rfl ?_
  refine PWk.sub [2, 3, 1, 0] rfl ?_
  refine PWk.loopV (fun N' hx' => lp_X2_roomAtFirst_9 fu a0 hy_a0 p1 I L R fu v1 0 N' F hx') (fun x9 => ?_)
  refine PWk.iload_n 0 dX2_roomAtFirst_42 rfl ?_
  exact PWk.iret dX2_roomAtFirst_43 rfl (fun h => h)
