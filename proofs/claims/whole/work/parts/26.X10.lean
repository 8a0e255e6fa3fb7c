/-! LakeMarket$Tokens.isSign(I)Z -/
def f_X10_isSign (I : HI) (p1 : Int32) : Option (Int32) :=
  if (I 7 3) = 4 then
    if (I 7 6) = p1 then
      gz 1 (some 1)
    else
      gz 0 (some 0)
  else
    gz 0 (some 0)
set_option maxRecDepth 20000 in
theorem pc_X10_isSign (I : HI) (L : HL) (R : HR) (p1 : Int32) : PCo 1 93 0 yX10_isSign cX10_isSign 2 (some .boolean) [.ref 7, .int p1] I L R (f_X10_isSign I p1) (fun x : Int32 => ((some (.int x), I, L, R) : HF)) := by
  refine PCo.of (own := RX10) (by decide +kernel) (Nat.le_of_ble_eq_true rfl) rfl rfl (fun F => ?_)
  unfold f_X10_isSign
  refine PWk.aload_n 0 dX10_isSign_0 rfl ?_
  refine PWk.geti dX10_isSign_1 rg_7 lc_7 fl_X10_22 rfl ?_
  refine PWk.iconst (v := 4) dX10_isSign_4 ic_4 ?_
  refine PWk.icmp_ne 20 dX10_isSign_5 (by decide) (fun h2 => ?_) (fun h2 => ?_)
  · refine PWk.aload_n 0 dX10_isSign_8 rfl ?_
    refine PWk.geti dX10_isSign_9 rg_7 lc_7 fl_X10_29 rfl ?_
    refine PWk.iload_n 1 dX10_isSign_12 rfl ?_
    refine PWk.icmp_ne 20 dX10_isSign_13 (by decide) (fun h1 => ?_) (fun h1 => ?_)
    · refine PWk.iconst (v := 1) dX10_isSign_16 ic_1 ?_
      refine PWk.goto 21 dX10_isSign_17 (by decide) ?_
      exact PWk.zret dX10_isSign_21 rfl (fun h => h)
    · refine PWk.iconst (v := 0) dX10_isSign_20 ic_0 ?_
      exact PWk.zret dX10_isSign_21 rfl (fun h => h)
  · refine PWk.iconst (v := 0) dX10_isSign_20 ic_0 ?_
    exact PWk.zret dX10_isSign_21 rfl (fun h => h)
/-! LakeMarket$Tokens.isOwn(I)Z -/
def f_X10_isOwn (I : HI) (p1 : Int32) : Option (Int32) :=
  if (I 7 3) = 2 then
    if (I 7 6) = p1 then
      gz 1 (some 1)
    else
      gz 0 (some 0)
  else
    gz 0 (some 0)
set_option maxRecDepth 20000 in
theorem pc_X10_isOwn (I : HI) (L : HL) (R : HR) (p1 : Int32) : PCo 1 93 0 yX10_isOwn cX10_isOwn 2 (some .boolean) [.ref 7, .int p1] I L R (f_X10_isOwn I p1) (fun x : Int32 => ((some (.int x), I, L, R) : HF)) := by
  refine PCo.of (own := RX10) (by decide +kernel) (Nat.le_of_ble_eq_true rfl) rfl rfl (fun F => ?_)
  unfold f_X10_isOwn
  refine PWk.aload_n 0 dX10_isOwn_0 rfl ?_
  refine PWk.geti dX10_isOwn_1 rg_7 lc_7 fl_X10_22 rfl ?_
  refine PWk.iconst (v := 2) dX10_isOwn_4 ic_2 ?_
  refine PWk.icmp_ne 20 dX10_isOwn_5 (by decide) (fun h2 => ?_) (fun h2 => ?_)
  · refine PWk.aload_n 0 dX10_isOwn_8 rfl ?_
    refine PWk.geti dX10_isOwn_9 rg_7 lc_7 fl_X10_29 rfl ?_
    refine PWk.iload_n 1 dX10_isOwn_12 rfl ?_
    refine PWk.icmp_ne 20 dX10_isOwn_13 (by decide) (fun h1 => ?_) (fun h1 => ?_)
    · refine PWk.iconst (v := 1) dX10_isOwn_16 ic_1 ?_
      refine PWk.goto 21 dX10_isOwn_17 (by decide) ?_
      exact PWk.zret dX10_isOwn_21 rfl (fun h => h)
    · refine PWk.iconst (v := 0) dX10_isOwn_20 ic_0 ?_
      exact PWk.zret dX10_isOwn_21 rfl (fun h => h)
  · refine PWk.iconst (v := 0) dX10_isOwn_20 ic_0 ?_
    exact PWk.zret dX10_isOwn_21 rfl (fun h => h)
/-! LakeMarket$Tokens.fail(I)Z -/
def f_X10_fail (I : HI) (p1 : Int32) : Option (Int32 × HI) :=
  bnd (sI I 7 7 p1) fun I1 =>
  bnd (sI I1 7 8 (I1 7 4)) fun I2 =>
  gz 0 (some (0, I2))
set_option maxRecDepth 20000 in
theorem pc_X10_fail (I : HI) (L : HL) (R : HR) (p1 : Int32) : PCo 1 93 0 yX10_fail cX10_fail 2 (some .boolean) [.ref 7, .int p1] I L R (f_X10_fail I p1) (fun x : Int32 × HI => ((some (.int x.1), x.2, L, R) : HF)) := by
  refine PCo.of (own := RX10) (by decide +kernel) (Nat.le_of_ble_eq_true rfl) rfl rfl (fun F => ?_)
  unfold f_X10_fail
  refine PWk.aload_n 0 dX10_fail_0 rfl ?_
  refine PWk.iload_n 1 dX10_fail_1 rfl ?_
  refine PWk.puti dX10_fail_2 rg_7 lc_7 fl_X10_42 fp_10_7 rfl ?_
  refine PWk.bI (fun I1 => ?_)
  refine PWk.aload_n 0 dX10_fail_5 rfl ?_
  refine PWk.aload_n 0 dX10_fail_6 rfl ?_
  refine PWk.geti dX10_fail_7 rg_7 lc_7 fl_X10_45 rfl ?_
  refine PWk.puti dX10_fail_10 rg_7 lc_7 fl_X10_48 fp_10_8 rfl ?_
  refine PWk.bI (fun I2 => ?_)
  refine PWk.iconst (v := 0) dX10_fail_13 ic_0 ?_
  exact PWk.zret dX10_fail_14 rfl (fun h => h)
/-! LakeMarket$Tokens.failForm()Z -/
def f_X10_failForm (I : HI) : Option (Int32 × HI) :=
  bnd (sI I 7 7 1) fun I1 =>
  bnd (sI I1 7 8 (I1 7 5)) fun I2 =>
  gz 0 (some (0, I2))
set_option maxRecDepth 20000 in
theorem pc_X10_failForm (I : HI) (L : HL) (R : HR) : PCo 1 93 0 yX10_failForm cX10_failForm 1 (some .boolean) [.ref 7] I L R (f_X10_failForm I) (fun x : Int32 × HI => ((some (.int x.1), x.2, L, R) : HF)) := by
  refine PCo.of (own := RX10) (by decide +kernel) (Nat.le_of_ble_eq_true rfl) rfl rfl (fun F => ?_)
  unfold f_X10_failForm
  refine PWk.aload_n 0 dX10_failForm_0 rfl ?_
  refine PWk.iconst (v := 1) dX10_failForm_1 ic_1 ?_
  refine PWk.puti dX10_failForm_2 rg_7 lc_7 fl_X10_42 fp_10_7 rfl ?_
  refine PWk.bI (fun I1 => ?_)
  refine PWk.aload_n 0 dX10_failForm_5 rfl ?_
  refine PWk.aload_n 0 dX10_failForm_6 rfl ?_
  refine PWk.geti dX10_failForm_7 rg_7 lc_7 fl_X10_51 rfl ?_
  refine PWk.puti dX10_failForm_10 rg_7 lc_7 fl_X10_48 fp_10_8 rfl ?_
  refine PWk.bI (fun I2 => ?_)
  refine PWk.iconst (v := 0) dX10_failForm_13 ic_0 ?_
  exact PWk.zret dX10_failForm_14 rfl (fun h => h)
/-! LakeMarket$Tokens.isText()Z -/
def f_X10_isText (I : HI) : Option (Int32) :=
  if (I 7 3) = 0 then
    gz 0 (some 0)
  else
    if (I 7 3) = 4 then
      gz 0 (some 0)
    else
      gz 1 (some 1)
set_option maxRecDepth 20000 in
theorem pc_X10_isText (I : HI) (L : HL) (R : HR) : PCo 1 93 0 yX10_isText cX10_isText 1 (some .boolean) [.ref 7] I L R (f_X10_isText I) (fun x : Int32 => ((some (.int x), I, L, R) : HF)) := by
  refine PCo.of (own := RX10) (by decide +kernel) (Nat.le_of_ble_eq_true rfl) rfl rfl (fun F => ?_)
  unfold f_X10_isText
  refine PWk.aload_n 0 dX10_isText_0 rfl ?_
  refine PWk.geti dX10_isText_1 rg_7 lc_7 fl_X10_22 rfl ?_
  refine PWk.if_eq 19 dX10_isText_4 (by decide) (fun h2 => ?_) (fun h2 => ?_)
  · refine PWk.iconst (v := 0) dX10_isText_19 ic_0 ?_
    exact PWk.zret dX10_isText_20 rfl (fun h => h)
  · refine PWk.aload_n 0 dX10_isText_7 rfl ?_
    refine PWk.geti dX10_isText_8 rg_7 lc_7 fl_X10_22 rfl ?_
    refine PWk.iconst (v := 4) dX10_isText_11 ic_4 ?_
    refine PWk.icmp_eq 19 dX10_isText_12 (by decide) (fun h1 => ?_) (fun h1 => ?_)
    · refine PWk.iconst (v := 0) dX10_isText_19 ic_0 ?_
      exact PWk.zret dX10_isText_20 rfl (fun h => h)
    · refine PWk.iconst (v := 1) dX10_isText_15 ic_1 ?_
      refine PWk.goto 20 dX10_isText_16 (by decide) ?_
      exact PWk.zret dX10_isText_20 rfl (fun h => h)
/-! LakeMarket$Tokens.isLetter(I)Z -/
def f_X10_isLetter (p0 : Int32) : Option (Int32) :=
  if p0 < 97 then
    gz 0 (some 0)
  else
    if 122 < p0 then
      gz 0 (some 0)
    else
      gz 1 (some 1)
set_option maxRecDepth 20000 in
theorem pc_X10_isLetter (I : HI) (L : HL) (R : HR) (p0 : Int32) : PCo 1 93 0 yX10_isLetter cX10_isLetter 1 (some .boolean) [.int p0] I L R (f_X10_isLetter p0) (fun x : Int32 => ((some (.int x), I, L, R) : HF)) := by
  refine PCo.of (own := RX10) (by decide +kernel) (Nat.le_of_ble_eq_true rfl) rfl rfl (fun F => ?_)
  unfold f_X10_isLetter
  refine PWk.iload_n 0 dX10_isLetter_0 rfl ?_
  refine PWk.bipush (v := 97) dX10_isLetter_1 bp_97 ?_
  refine PWk.icmp_lt 16 dX10_isLetter_3 (by decide) (fun h2 => ?_) (fun h2 => ?_)
  · refine PWk.iconst (v := 0) dX10_isLetter_16 ic_0 ?_
    exact PWk.zret dX10_isLetter_17 rfl (fun h => h)
  · refine PWk.iload_n 0 dX10_isLetter_6 rfl ?_
    refine PWk.bipush (v := 122) dX10_isLetter_7 bp_122 ?_
    refine PWk.icmp_gt 16 dX10_isLetter_9 (by decide) (fun h1 => ?_) (fun h1 => ?_)
    · refine PWk.iconst (v := 0) dX10_isLetter_16 ic_0 ?_
      exact PWk.zret dX10_isLetter_17 rfl (fun h => h)
    · refine PWk.iconst (v := 1) dX10_isLetter_12 ic_1 ?_
      refine PWk.goto 17 dX10_isLetter_13 (by decide) ?_
      exact PWk.zret dX10_isLetter_17 rfl (fun h => h)
/-! LakeMarket$Tokens.isDigit(I)Z -/
def f_X10_isDigit (p0 : Int32) : Option (Int32) :=
  if p0 < 48 then
    gz 0 (some 0)
  else
    if 57 < p0 then
      gz 0 (some 0)
    else
      gz 1 (some 1)
set_option maxRecDepth 20000 in
theorem pc_X10_isDigit (I : HI) (L : HL) (R : HR) (p0 : Int32) : PCo 1 93 0 yX10_isDigit cX10_isDigit 1 (some .boolean) [.int p0] I L R (f_X10_isDigit p0) (fun x : Int32 => ((some (.int x), I, L, R) : HF)) := by
  refine PCo.of (own := RX10) (by decide +kernel) (Nat.le_of_ble_eq_true rfl) rfl rfl (fun F => ?_)
  unfold f_X10_isDigit
  refine PWk.iload_n 0 dX10_isDigit_0 rfl ?_
  refine PWk.bipush (v := 48) dX10_isDigit_1 bp_48 ?_
  refine PWk.icmp_lt 16 dX10_isDigit_3 (by decide) (fun h2 => ?_) (fun h2 => ?_)
  · refine PWk.iconst (v := 0) dX10_isDigit_16 ic_0 ?_
    exact PWk.zret dX10_isDigit_17 rfl (fun h => h)
  · refine PWk.iload_n 0 dX10_isDigit_6 rfl ?_
    refine PWk.bipush (v := 57) dX10_isDigit_7 bp_57 ?_
    refine PWk.icmp_gt 16 dX10_isDigit_9 (by decide) (fun h1 => ?_) (fun h1 => ?_)
    · refine PWk.iconst (v := 0) dX10_isDigit_16 ic_0 ?_
      exact PWk.zret dX10_isDigit_17 rfl (fun h => h)
    · refine PWk.iconst (v := 1) dX10_isDigit_12 ic_1 ?_
      refine PWk.goto 17 dX10_isDigit_13 (by decide) ?_
      exact PWk.zret dX10_isDigit_17 rfl (fun h => h)
/-! LakeMarket$Tokens.packName(I)I -/
def f_X10_packName_L4 : Nat → HI → Int32 → Int32 → Int32 → Option (Int32)
  | 0, _, _, _, _ => none
  | n + 1, I, u1, u2, u3 =>
    if u1 ≤ u3 then
      some u2
    else
      ldI (I 2) 1600 ((I 7 4) + u3) fun v1 =>
      bnd ((u2 ||| (((v1 - 97) + 1) <<< ((5 * u3) &&& 31)))) fun v2 =>
      f_X10_packName_L4 n I u1 v2 (u3 + 1)
def f_X10_packName (fu : Nat) (I : HI) (p1 : Int32) : Option (Int32) :=
  (f_X10_packName_L4 fu I p1 0 0).bind fun x4 =>
  some x4
set_option maxRecDepth 20000 in
theorem lp_X10_packName_4 (fu : Nat) (u1 : Int32) (I : HI) (L : HL) (R : HR) : ∀ (n : Nat) (u2 : Int32) (u3 : Int32) (N : (Int32) → Prop) (F : HF), (∀ v : Int32, N v → PW 1 93 0 RX10 cX10_packName 4 (some .int) 38 [(2, .int v)] [] I L R F) → PWk 1 93 0 RX10 cX10_packName 4 (some .int) 4 [(0, .ref 7), (1, .int u1), (2, .int u2), (3, .int u3)] [] I L R (f_X10_packName_L4 n I u1 u2 u3) N F := by
  intro n
  induction n with
  | zero => intro u2 u3 N F hx; exact PWk.none'
  | succ n ih =>
    intro u2 u3 N F hx
    unfold f_X10_packName_L4
    refine PWk.iload_n 3 dX10_packName_4 rfl ?_
    refine PWk.iload_n 1 dX10_packName_5 rfl ?_
    refine PWk.icmp_ge 38 dX10_packName_6 (by decide) (fun h3 => ?_) (fun h3 => ?_)
    · refine PWk.sub [2] rfl ?_
      exact PWk.done (fun h => hx _ h)
    · refine PWk.iload_n 2 dX10_packName_9 rfl ?_
      refine PWk.aload_n 0 dX10_packName_10 rfl ?_
      refine PWk.gets dX10_packName_11 rg_7 lc_7 fl_X10_9 rfl st_7_0 ?_
      refine PWk.aload_n 0 dX10_packName_14 rfl ?_
      refine PWk.geti dX10_packName_15 rg_7 lc_7 fl_X10_45 rfl ?_
      refine PWk.iload_n 3 dX10_packName_18 rfl ?_
      refine PWk.iadd dX10_packName_19 ?_
      refine PWk.iald dX10_packName_20 rg_2 ly_2 (fun v1 => ?_)
      refine PWk.bipush (v := 97) dX10_packName_21 bp_97 ?_
      refine PWk.isub dX10_packName_23 ?_
      refine PWk.iconst (v := 1) dX10_packName_24 ic_1 ?_
      refine PWk.iadd dX10_packName_25 ?_
      refine PWk.iconst (v := 5) dX10_packName_26 ic_5 ?_
      refine PWk.iload_n 3 dX10_packName_27 rfl ?_
      refine PWk.imul dX10_packName_28 ?_
      refine PWk.ishl dX10_packName_29 ?_
      refine PWk.ior dX10_packName_30 ?_
      refine PWk.bi (fun v2 => ?_)
      refine PWk.istore_n [(2, .int v2), (0, .ref 7), (1, .int u1), (3, .int u3)] dX10_packName_31 (by decide) rfl ?_
      refine PWk.iinc (v := (u3 + 1)) 3 [(3, .int (u3 + 1)), (2, .int v2), (0, .ref 7), (1, .int u1)] dX10_packName_32 rfl (by rw [ic_1]) (by decide) rfl ?_
      refine PWk.goto 4 dX10_packName_35 (by decide) ?_
      refine PWk.sub [2, 3, 1, 0] rfl ?_
      exact ih v2 (u3 + 1) N F hx
set_option maxRecDepth 20000 in
theorem pc_X10_packName (fu : Nat) (I : HI) (L : HL) (R : HR) (p1 : Int32) : PCo 1 93 0 yX10_packName cX10_packName 4 (some .int) [.ref 7, .int p1] I L R (f_X10_packName fu I p1) (fun x : Int32 => ((some (.int x), I, L, R) : HF)) := by
  refine PCo.of (own := RX10) (by decide +kernel) (Nat.le_of_ble_eq_true rfl) rfl rfl (fun F => ?_)
  unfold f_X10_packName
  refine PWk.iconst (v := 0) dX10_packName_0 ic_0 ?_
  refine PWk.istore_n [(2, .int 0), (0, .ref 7), (1, .int p1)] dX10_packName_1 (by decide) rfl ?_
  refine PWk.iconst (v := 0) dX10_packName_2 ic_0 ?_
  refine PWk.istore_n [(3, .int 0), (2, .int 0), (0, .ref 7), (1, .int p1)] dX10_packName_3 (by decide) rfl ?_
  refine PWk.sub [2, 3, 1, 0] rfl ?_
  refine PWk.loopV (fun N' hx' => lp_X10_packName_4 fu p1 I L R fu 0 0 N' F hx') (fun x4 => ?_)
  refine PWk.iload_n 0 dX10_packName_38 rfl ?_
  exact PWk.iret dX10_packName_39 rfl (fun h => h)
/-! LakeMarket$Tokens.findOwn(I)I -/
def f_X10_findOwn_L22 : Nat → HI → Int32 → Int32 → Int32 → Option (Int32)
  | 0, _, _, _, _ => none
  | n + 1, I, u1, u3, u4 =>
    if u1 ≤ u4 then
      some u4
    else
      ldI ownC 200 (u3 + u4) fun x2 =>
      ldI (I 2) 1600 ((I 7 4) + u4) fun v3 =>
      if x2 = v3 then
        f_X10_findOwn_L22 n I u1 u3 (u4 + 1)
      else
        some u4
def f_X10_findOwn_L2 (fu : Nat) : Nat → HI → Int32 → Int32 → Option ((Int32) ⊕ (Unit))
  | 0, _, _, _ => none
  | n + 1, I, u1, u2 =>
    if 25 ≤ u2 then
      some (.inr ())
    else
      if 8 ≤ u1 then
        some (.inr ())
      else
        bnd ((u2 * 8)) fun v1 =>
        (f_X10_findOwn_L22 fu I u1 v1 0).bind fun x6 =>
        jnt (β := Unit) (fun y11 =>
          f_X10_findOwn_L2 fu n I u1 (u2 + 1)) fun j7 =>
        if x6 = u1 then
          ldI ownC 200 (v1 + u1) fun x8 =>
          if x8 = 32 then
            some (.inl u2)
          else
            j7 ()
        else
          j7 ()
def f_X10_findOwn (fu : Nat) (I : HI) (p1 : Int32) : Option (Int32) :=
  (f_X10_findOwn_L2 fu fu I p1 0).bind (Sum.elim (fun r => some r) fun x14 =>
  some (-1))
set_option maxRecDepth 20000 in
theorem lp_X10_findOwn_22 (fu : Nat) (u1 : Int32) (u2 : Int32) (u3 : Int32) (I : HI) (L : HL) (R : HR) : ∀ (n : Nat) (u4 : Int32) (N : (Int32) → Prop) (F : HF), (∀ v : Int32, N v → PW 1 93 4 RX10 cX10_findOwn 5 (some .int) 58 [(0, .ref 7), (1, .int u1), (2, .int u2), (3, .int u3), (4, .int v)] [] I L R F) → PWk 1 93 4 RX10 cX10_findOwn 5 (some .int) 22 [(0, .ref 7), (1, .int u1), (2, .int u2), (3, .int u3), (4, .int u4)] [] I L R (f_X10_findOwn_L22 n I u1 u3 u4) N F := by
  intro n
  induction n with
  | zero => intro u4 N F hx; exact PWk.none'
  | succ n ih =>
    intro u4 N F hx
    unfold f_X10_findOwn_L22
    refine PWk.iload 4 dX10_findOwn_22 rfl ?_
    refine PWk.iload_n 1 dX10_findOwn_24 rfl ?_
    refine PWk.icmp_ge 58 dX10_findOwn_25 (by decide) (fun h5 => ?_) (fun h5 => ?_)
    · exact PWk.done (fun h => hx _ h)
    · refine PWk.ldcS dX10_findOwn_28 rfl ?_
      refine PWk.iload_n 3 dX10_findOwn_30 rfl ?_
      refine PWk.iload 4 dX10_findOwn_31 rfl ?_
      refine PWk.iadd dX10_findOwn_33 ?_
      refine PWk.charAt dX10_findOwn_34 ml_X10_78 (by decide) (Nat.le_of_ble_eq_true rfl) (fun x2 => ?_)
      refine PWk.aload_n 0 dX10_findOwn_37 rfl ?_
      refine PWk.gets dX10_findOwn_38 rg_7 lc_7 fl_X10_9 rfl st_7_0 ?_
      refine PWk.aload_n 0 dX10_findOwn_41 rfl ?_
      refine PWk.geti dX10_findOwn_42 rg_7 lc_7 fl_X10_45 rfl ?_
      refine PWk.iload 4 dX10_findOwn_45 rfl ?_
      refine PWk.iadd dX10_findOwn_47 ?_
      refine PWk.iald dX10_findOwn_48 rg_2 ly_2 (fun v3 => ?_)
      refine PWk.icmp_ne 58 dX10_findOwn_49 (by decide) (fun h4 => ?_) (fun h4 => ?_)
      · refine PWk.iinc (v := (u4 + 1)) 4 [(4, .int (u4 + 1)), (0, .ref 7), (1, .int u1), (2, .int u2), (3, .int u3)] dX10_findOwn_52 rfl (by rw [ic_1]) (by decide) rfl ?_
        refine PWk.goto 22 dX10_findOwn_55 (by decide) ?_
        refine PWk.sub [1, 2, 3, 4, 0] rfl ?_
        exact ih (u4 + 1) N F hx
      · exact PWk.done (fun h => hx _ h)
set_option maxRecDepth 20000 in
theorem lp_X10_findOwn_2 (fu : Nat) (u1 : Int32) (I : HI) (L : HL) (R : HR) : ∀ (n : Nat) (u2 : Int32) (N : ((Int32) ⊕ (Unit)) → Prop) (F : HF), (∀ v : Unit, N (.inr v) → PW 1 93 4 RX10 cX10_findOwn 5 (some .int) 85 [] [] I L R F) → (∀ r : Int32, N (.inl r) → F = (fun x : Int32 => ((some (.int x), I, L, R) : HF)) r) → PWk 1 93 4 RX10 cX10_findOwn 5 (some .int) 2 [(0, .ref 7), (1, .int u1), (2, .int u2)] [] I L R (f_X10_findOwn_L2 fu n I u1 u2) N F := by
  intro n
  induction n with
  | zero => intro u2 N F hx hr; exact PWk.none'
  | succ n ih =>
    intro u2 N F hx hr
    unfold f_X10_findOwn_L2
    refine PWk.iload_n 2 dX10_findOwn_2 rfl ?_
    refine PWk.bipush (v := 25) dX10_findOwn_3 bp_25 ?_
    refine PWk.icmp_ge 85 dX10_findOwn_5 (by decide) (fun h13 => ?_) (fun h13 => ?_)
    · refine PWk.sub [] rfl ?_
      exact PWk.done (fun h => hx _ h)
    · refine PWk.iload_n 1 dX10_findOwn_8 rfl ?_
      refine PWk.bipush (v := 8) dX10_findOwn_9 bp_8 ?_
      refine PWk.icmp_ge 85 dX10_findOwn_11 (by decide) (fun h12 => ?_) (fun h12 => ?_)
      · refine PWk.sub [] rfl ?_
        exact PWk.done (fun h => hx _ h)
      · refine PWk.iload_n 2 dX10_findOwn_14 rfl ?_
        refine PWk.bipush (v := 8) dX10_findOwn_15 bp_8 ?_
        refine PWk.imul dX10_findOwn_17 ?_
        refine PWk.bi (fun v1 => ?_)
        refine PWk.istore_n [(3, .int v1), (0, .ref 7), (1, .int u1), (2, .int u2)] dX10_findOwn_18 (by decide) rfl ?_
        refine PWk.iconst (v := 0) dX10_findOwn_19 ic_0 ?_
        refine PWk.istore [(4, .int 0), (3, .int v1), (0, .ref 7), (1, .int u1), (2, .int u2)] dX10_findOwn_20 (by decide) rfl ?_
        refine PWk.sub [2, 3, 4, 1, 0] rfl ?_
        refine PWk.loopV (fun N' hx' => lp_X10_findOwn_22 fu u1 u2 v1 I L R fu 0 N' F hx') (fun x6 => ?_)
        refine PWk.iload 4 dX10_findOwn_58 rfl ?_
        refine PWk.iload_n 1 dX10_findOwn_60 rfl ?_
        refine PWk.jn (pc' := 79) (lv' := fun y11 => [(0, .ref 7), (1, .int u1), (2, .int u2)]) (st' := fun y11 => []) (I' := fun y11 => I) (L' := fun y11 => L) (R' := fun y11 => R) (fun j7 hj7 => ?_) (fun y11 => ?_)
        · refine PWk.icmp_ne 79 dX10_findOwn_61 (by decide) (fun h10 => ?_) (fun h10 => ?_)
          · refine PWk.ldcS dX10_findOwn_64 rfl ?_
            refine PWk.iload_n 3 dX10_findOwn_66 rfl ?_
            refine PWk.iload_n 1 dX10_findOwn_67 rfl ?_
            refine PWk.iadd dX10_findOwn_68 ?_
            refine PWk.charAt dX10_findOwn_69 ml_X10_78 (by decide) (Nat.le_of_ble_eq_true rfl) (fun x8 => ?_)
            refine PWk.bipush (v := 32) dX10_findOwn_72 bp_32 ?_
            refine PWk.icmp_ne 79 dX10_findOwn_74 (by decide) (fun h9 => ?_) (fun h9 => ?_)
            · refine PWk.iload_n 2 dX10_findOwn_77 rfl ?_
              exact PWk.iret dX10_findOwn_78 rfl (hr _)
            · refine PWk.sub [0, 1, 2] rfl ?_
              exact hj7 ()
          · refine PWk.sub [0, 1, 2] rfl ?_
            exact hj7 ()
        · refine PWk.iinc (v := (u2 + 1)) 2 [(2, .int (u2 + 1)), (0, .ref 7), (1, .int u1)] dX10_findOwn_79 rfl (by rw [ic_1]) (by decide) rfl ?_
          refine PWk.goto 2 dX10_findOwn_82 (by decide) ?_
          refine PWk.sub [1, 2, 0] rfl ?_
          exact ih (u2 + 1) N F hx hr
set_option maxRecDepth 20000 in
theorem pc_X10_findOwn (fu : Nat) (I : HI) (L : HL) (R : HR) (p1 : Int32) : PCo 1 93 4 yX10_findOwn cX10_findOwn 5 (some .int) [.ref 7, .int p1] I L R (f_X10_findOwn fu I p1) (fun x : Int32 => ((some (.int x), I, L, R) : HF)) := by
  refine PCo.of (own := RX10) (by decide +kernel) (Nat.le_of_ble_eq_true rfl) rfl rfl (fun F => ?_)
  unfold f_X10_findOwn
  refine PWk.iconst (v := 0) dX10_findOwn_0 ic_0 ?_
  refine PWk.istore_n [(2, .int 0), (0, .ref 7), (1, .int p1)] dX10_findOwn_1 (by decide) rfl ?_
  refine PWk.sub [1, 2, 0] rfl ?_
  refine PWk.loopS (fun N' hx' hr' => lp_X10_findOwn_2 fu p1 I L R fu 0 N' F hx' hr') (fun r a e h => by cases e; exact h) (fun x14 => ?_)
  refine PWk.iconst (v := (-1)) dX10_findOwn_85 ic_m1 ?_
  exact PWk.iret dX10_findOwn_86 rfl (fun h => h)
/-! LakeMarket$Tokens.readNumber()V -/
def f_X10_readNumber_L2 : Nat → HI → Int32 → Option (Int32 × HI)
  | 0, _, _ => none
  | n + 1, I, u1 =>
    if (I 7 1) ≤ (I 7 2) then
      some (u1, I)
    else
      ldI (I 2) 1600 (I 7 2) fun v1 =>
      (f_X10_isDigit v1).bind fun x2 =>
      if x2 = 0 then
        some (u1, I)
      else
        jnt (β := Int32) (fun y7 =>
          bnd (sI I 7 2 ((I 7 2) + 1)) fun I8 =>
          f_X10_readNumber_L2 n I8 y7) fun j3 =>
        if 4 ≤ ((I 7 2) - (I 7 4)) then
          j3 u1
        else
          ldI (I 2) 1600 (I 7 2) fun v4 =>
          bnd ((((u1 * 10) + v4) - 48)) fun v5 =>
          j3 v5
def f_X10_readNumber (fu : Nat) (I : HI) : Option (HI) :=
  (f_X10_readNumber_L2 fu I 0).bind fun x11 =>
  bnd (sI x11.2 7 3 3) fun I12 =>
  bnd (sI I12 7 6 x11.1) fun I13 =>
  if ((I13 7 2) - (I13 7 4)) ≤ 4 then
    some I13
  else
    bnd (sI I13 7 3 5) fun I14 =>
    bnd (sI I14 7 5 ((I14 7 4) + 4)) fun I15 =>
    some I15
set_option maxRecDepth 20000 in
theorem lp_X10_readNumber_2 (fu : Nat) (L : HL) (R : HR) : ∀ (n : Nat) (u1 : Int32) (I : HI) (N : (Int32 × HI) → Prop) (F : HF), (∀ v : Int32 × HI, N v → PW 1 93 1 RX10 cX10_readNumber 2 none 72 [(0, .ref 7), (1, .int v.1)] [] v.2 L R F) → PWk 1 93 1 RX10 cX10_readNumber 2 none 2 [(0, .ref 7), (1, .int u1)] [] I L R (f_X10_readNumber_L2 n I u1) N F := by
  intro n
  induction n with
  | zero => intro u1 I N F hx; exact PWk.none'
  | succ n ih =>
    intro u1 I N F hx
    unfold f_X10_readNumber_L2
    refine PWk.aload_n 0 dX10_readNumber_2 rfl ?_
    refine PWk.geti dX10_readNumber_3 rg_7 lc_7 fl_X10_19 rfl ?_
    refine PWk.aload_n 0 dX10_readNumber_6 rfl ?_
    refine PWk.geti dX10_readNumber_7 rg_7 lc_7 fl_X10_15 rfl ?_
    refine PWk.icmp_ge 72 dX10_readNumber_10 (by decide) (fun h10 => ?_) (fun h10 => ?_)
    · exact PWk.done (fun h => hx _ h)
    · refine PWk.aload_n 0 dX10_readNumber_13 rfl ?_
      refine PWk.gets dX10_readNumber_14 rg_7 lc_7 fl_X10_9 rfl st_7_0 ?_
      refine PWk.aload_n 0 dX10_readNumber_17 rfl ?_
      refine PWk.geti dX10_readNumber_18 rg_7 lc_7 fl_X10_19 rfl ?_
      refine PWk.iald dX10_readNumber_21 rg_2 ly_2 (fun v1 => ?_)
      refine PWk.callSi (pc_X10_isDigit I L R v1) dX10_readNumber_22 ml_X10_63 rfl (by decide) rfl (Nat.le_of_ble_eq_true rfl) (fun x2 => ?_)
      refine PWk.if_eq 72 dX10_readNumber_25 (by decide) (fun h9 => ?_) (fun h9 => ?_)
      · exact PWk.done (fun h => hx _ h)
      · refine PWk.aload_n 0 dX10_readNumber_28 rfl ?_
        refine PWk.geti dX10_readNumber_29 rg_7 lc_7 fl_X10_19 rfl ?_
        refine PWk.aload_n 0 dX10_readNumber_32 rfl ?_
        refine PWk.geti dX10_readNumber_33 rg_7 lc_7 fl_X10_45 rfl ?_
        refine PWk.isub dX10_readNumber_36 ?_
        refine PWk.iconst (v := 4) dX10_readNumber_37 ic_4 ?_
        refine PWk.jn (pc' := 59) (lv' := fun y7 => [(0, .ref 7), (1, .int y7)]) (st' := fun y7 => []) (I' := fun y7 => I) (L' := fun y7 => L) (R' := fun y7 => R) (fun j3 hj3 => ?_) (fun y7 => ?_)
        · refine PWk.icmp_ge 59 dX10_readNumber_38 (by decide) (fun h6 => ?_) (fun h6 => ?_)
          · exact hj3 u1
          · refine PWk.iload_n 1 dX10_readNumber_41 rfl ?_
            refine PWk.bipush (v := 10) dX10_readNumber_42 bp_10 ?_
            refine PWk.imul dX10_readNumber_44 ?_
            refine PWk.aload_n 0 dX10_readNumber_45 rfl ?_
            refine PWk.gets dX10_readNumber_46 rg_7 lc_7 fl_X10_9 rfl st_7_0 ?_
            refine PWk.aload_n 0 dX10_readNumber_49 rfl ?_
            refine PWk.geti dX10_readNumber_50 rg_7 lc_7 fl_X10_19 rfl ?_
            refine PWk.iald dX10_readNumber_53 rg_2 ly_2 (fun v4 => ?_)
            refine PWk.iadd dX10_readNumber_54 ?_
            refine PWk.bipush (v := 48) dX10_readNumber_55 bp_48 ?_
            refine PWk.isub dX10_readNumber_57 ?_
            refine PWk.bi (fun v5 => ?_)
            refine PWk.istore_n [(1, .int v5), (0, .ref 7)] dX10_readNumber_58 (by decide) rfl ?_
            refine PWk.sub [1, 0] rfl ?_
            exact hj3 v5
        · refine PWk.aload_n 0 dX10_readNumber_59 rfl ?_
          refine PWk.dup dX10_readNumber_60 rfl ?_
          refine PWk.geti dX10_readNumber_61 rg_7 lc_7 fl_X10_19 rfl ?_
          refine PWk.iconst (v := 1) dX10_readNumber_64 ic_1 ?_
          refine PWk.iadd dX10_readNumber_65 ?_
          refine PWk.puti dX10_readNumber_66 rg_7 lc_7 fl_X10_19 fp_10_2 rfl ?_
          refine PWk.bI (fun I8 => ?_)
          refine PWk.goto 2 dX10_readNumber_69 (by decide) ?_
          exact ih y7 I8 N F hx
set_option maxRecDepth 20000 in
theorem pc_X10_readNumber (fu : Nat) (I : HI) (L : HL) (R : HR) : PCo 1 93 1 yX10_readNumber cX10_readNumber 2 none [.ref 7] I L R (f_X10_readNumber fu I) (fun x : HI => ((none, x, L, R) : HF)) := by
  refine PCo.of (own := RX10) (by decide +kernel) (Nat.le_of_ble_eq_true rfl) rfl rfl (fun F => ?_)
  unfold f_X10_readNumber
  refine PWk.iconst (v := 0) dX10_readNumber_0 ic_0 ?_
  refine PWk.istore_n [(1, .int 0), (0, .ref 7)] dX10_readNumber_1 (by decide) rfl ?_
  refine PWk.sub [1, 0] rfl ?_
  refine PWk.loopV (fun N' hx' => lp_X10_readNumber_2 fu L R fu 0 I N' F hx') (fun x11 => ?_)
  refine PWk.aload_n 0 dX10_readNumber_72 rfl ?_
  refine PWk.iconst (v := 3) dX10_readNumber_73 ic_3 ?_
  refine PWk.puti dX10_readNumber_74 rg_7 lc_7 fl_X10_22 fp_10_3 rfl ?_
  refine PWk.bI (fun I12 => ?_)
  refine PWk.aload_n 0 dX10_readNumber_77 rfl ?_
  refine PWk.iload_n 1 dX10_readNumber_78 rfl ?_
  refine PWk.puti dX10_readNumber_79 rg_7 lc_7 fl_X10_29 fp_10_6 rfl ?_
  refine PWk.bI (fun I13 => ?_)
  refine PWk.aload_n 0 dX10_readNumber_82 rfl ?_
  refine PWk.geti dX10_readNumber_83 rg_7 lc_7 fl_X10_19 rfl ?_
  refine PWk.aload_n 0 dX10_readNumber_86 rfl ?_
  refine PWk.geti dX10_readNumber_87 rg_7 lc_7 fl_X10_45 rfl ?_
  refine PWk.isub dX10_readNumber_90 ?_
  refine PWk.iconst (v := 4) dX10_readNumber_91 ic_4 ?_
  refine PWk.icmp_le 110 dX10_readNumber_92 (by decide) (fun h16 => ?_) (fun h16 => ?_)
  · exact PWk.vret dX10_readNumber_110 rfl (fun h => h)
  · refine PWk.aload_n 0 dX10_readNumber_95 rfl ?_
    refine PWk.iconst (v := 5) dX10_readNumber_96 ic_5 ?_
    refine PWk.puti dX10_readNumber_97 rg_7 lc_7 fl_X10_22 fp_10_3 rfl ?_
    refine PWk.bI (fun I14 => ?_)
    refine PWk.aload_n 0 dX10_readNumber_100 rfl ?_
    refine PWk.aload_n 0 dX10_readNumber_101 rfl ?_
    refine PWk.geti dX10_readNumber_102 rg_7 lc_7 fl_X10_45 rfl ?_
    refine PWk.iconst (v := 4) dX10_readNumber_105 ic_4 ?_
    refine PWk.iadd dX10_readNumber_106 ?_
    refine PWk.puti dX10_readNumber_107 rg_7 lc_7 fl_X10_51 fp_10_5 rfl ?_
    refine PWk.bI (fun I15 => ?_)
    exact PWk.vret dX10_readNumber_110 rfl (fun h => h)
/-! LakeMarket$Tokens.needSign(I)Z -/
def f_X10_needSign (I : HI) (p1 : Int32) : Option (Int32 × HI) :=
  (f_X10_isSign I p1).bind fun x1 =>
  jnt (β := HI) (fun y6 =>
    gz 1 (some (1, y6))) fun j2 =>
  if x1 = 0 then
    (f_X10_failForm I).bind fun x3 =>
    if x3.1 = 0 then
      gz 0 (some (0, x3.2))
    else
      j2 x3.2
  else
    j2 I
set_option maxRecDepth 20000 in
theorem pc_X10_needSign (I : HI) (L : HL) (R : HR) (p1 : Int32) : PCo 1 93 1 yX10_needSign cX10_needSign 2 (some .boolean) [.ref 7, .int p1] I L R (f_X10_needSign I p1) (fun x : Int32 × HI => ((some (.int x.1), x.2, L, R) : HF)) := by
  refine PCo.of (own := RX10) (by decide +kernel) (Nat.le_of_ble_eq_true rfl) rfl rfl (fun F => ?_)
  unfold f_X10_needSign
  refine PWk.aload_n 0 dX10_needSign_0 rfl ?_
  refine PWk.iload_n 1 dX10_needSign_1 rfl ?_
  refine PWk.callVi (pc_X10_isSign I L R p1) dX10_needSign_2 ml_X10_32 rfl rg_7 lc_7 vq_10 (by decide) rfl (Nat.le_of_ble_eq_true rfl) (fun x1 => ?_)
  refine PWk.jn (pc' := 15) (lv' := fun y6 => []) (st' := fun y6 => []) (I' := fun y6 => y6) (L' := fun y6 => L) (R' := fun y6 => R) (fun j2 hj2 => ?_) (fun y6 => ?_)
  · refine PWk.if_ne 15 dX10_needSign_5 (by decide) (fun h5 => ?_) (fun h5 => ?_)
    · refine PWk.aload_n 0 dX10_needSign_8 rfl ?_
      refine PWk.callViI (pc_X10_failForm I L R) dX10_needSign_9 ml_X10_36 rfl rg_7 lc_7 vq_10 (by decide) rfl (Nat.le_of_ble_eq_true rfl) (fun x3 => ?_)
      refine PWk.if_eq 19 dX10_needSign_12 (by decide) (fun h4 => ?_) (fun h4 => ?_)
      · refine PWk.iconst (v := 0) dX10_needSign_19 ic_0 ?_
        exact PWk.zret dX10_needSign_20 rfl (fun h => h)
      · refine PWk.sub [] rfl ?_
        exact hj2 x3.2
    · refine PWk.sub [] rfl ?_
      exact hj2 I
  · refine PWk.iconst (v := 1) dX10_needSign_15 ic_1 ?_
    refine PWk.goto 20 dX10_needSign_16 (by decide) ?_
    exact PWk.zret dX10_needSign_20 rfl (fun h => h)
/-! LakeMarket$Tokens.needOwn(I)Z -/
def f_X10_needOwn (I : HI) (p1 : Int32) : Option (Int32 × HI) :=
  (f_X10_isOwn I p1).bind fun x1 =>
  jnt (β := HI) (fun y6 =>
    gz 1 (some (1, y6))) fun j2 =>
  if x1 = 0 then
    (f_X10_failForm I).bind fun x3 =>
    if x3.1 = 0 then
      gz 0 (some (0, x3.2))
    else
      j2 x3.2
  else
    j2 I
set_option maxRecDepth 20000 in
theorem pc_X10_needOwn (I : HI) (L : HL) (R : HR) (p1 : Int32) : PCo 1 93 1 yX10_needOwn cX10_needOwn 2 (some .boolean) [.ref 7, .int p1] I L R (f_X10_needOwn I p1) (fun x : Int32 × HI => ((some (.int x.1), x.2, L, R) : HF)) := by
  refine PCo.of (own := RX10) (by decide +kernel) (Nat.le_of_ble_eq_true rfl) rfl rfl (fun F => ?_)
  unfold f_X10_needOwn
  refine PWk.aload_n 0 dX10_needOwn_0 rfl ?_
  refine PWk.iload_n 1 dX10_needOwn_1 rfl ?_
  refine PWk.callVi (pc_X10_isOwn I L R p1) dX10_needOwn_2 ml_X10_39 rfl rg_7 lc_7 vq_10 (by decide) rfl (Nat.le_of_ble_eq_true rfl) (fun x1 => ?_)
  refine PWk.jn (pc' := 15) (lv' := fun y6 => []) (st' := fun y6 => []) (I' := fun y6 => y6) (L' := fun y6 => L) (R' := fun y6 => R) (fun j2 hj2 => ?_) (fun y6 => ?_)
  · refine PWk.if_ne 15 dX10_needOwn_5 (by decide) (fun h5 => ?_) (fun h5 => ?_)
    · refine PWk.aload_n 0 dX10_needOwn_8 rfl ?_
      refine PWk.callViI (pc_X10_failForm I L R) dX10_needOwn_9 ml_X10_36 rfl rg_7 lc_7 vq_10 (by decide) rfl (Nat.le_of_ble_eq_true rfl) (fun x3 => ?_)
      refine PWk.if_eq 19 dX10_needOwn_12 (by decide) (fun h4 => ?_) (fun h4 => ?_)
      · refine PWk.iconst (v := 0) dX10_needOwn_19 ic_0 ?_
        exact PWk.zret dX10_needOwn_20 rfl (fun h => h)
      · refine PWk.sub [] rfl ?_
        exact hj2 x3.2
    · refine PWk.sub [] rfl ?_
      exact hj2 I
  · refine PWk.iconst (v := 1) dX10_needOwn_15 ic_1 ?_
    refine PWk.goto 20 dX10_needOwn_16 (by decide) ?_
    exact PWk.zret dX10_needOwn_20 rfl (fun h => h)
/-! LakeMarket$Tokens.needKind(I)Z -/
def f_X10_needKind (I : HI) (p1 : Int32) : Option (Int32 × HI) :=
  jnt (β := HI) (fun y5 =>
    gz 1 (some (1, y5))) fun j1 =>
  if (I 7 3) = p1 then
    j1 I
  else
    (f_X10_failForm I).bind fun x2 =>
    if x2.1 = 0 then
      gz 0 (some (0, x2.2))
    else
      j1 x2.2
set_option maxRecDepth 20000 in
theorem pc_X10_needKind (I : HI) (L : HL) (R : HR) (p1 : Int32) : PCo 1 93 1 yX10_needKind cX10_needKind 2 (some .boolean) [.ref 7, .int p1] I L R (f_X10_needKind I p1) (fun x : Int32 × HI => ((some (.int x.1), x.2, L, R) : HF)) := by
  refine PCo.of (own := RX10) (by decide +kernel) (Nat.le_of_ble_eq_true rfl) rfl rfl (fun F => ?_)
  unfold f_X10_needKind
  refine PWk.aload_n 0 dX10_needKind_0 rfl ?_
  refine PWk.geti dX10_needKind_1 rg_7 lc_7 fl_X10_22 rfl ?_
  refine PWk.iload_n 1 dX10_needKind_4 rfl ?_
  refine PWk.jn (pc' := 15) (lv' := fun y5 => []) (st' := fun y5 => []) (I' := fun y5 => y5) (L' := fun y5 => L) (R' := fun y5 => R) (fun j1 hj1 => ?_) (fun y5 => ?_)
  · refine PWk.icmp_eq 15 dX10_needKind_5 (by decide) (fun h4 => ?_) (fun h4 => ?_)
    · refine PWk.sub [] rfl ?_
      exact hj1 I
    · refine PWk.aload_n 0 dX10_needKind_8 rfl ?_
      refine PWk.callViI (pc_X10_failForm I L R) dX10_needKind_9 ml_X10_36 rfl rg_7 lc_7 vq_10 (by decide) rfl (Nat.le_of_ble_eq_true rfl) (fun x2 => ?_)
      refine PWk.if_eq 19 dX10_needKind_12 (by decide) (fun h3 => ?_) (fun h3 => ?_)
      · refine PWk.iconst (v := 0) dX10_needKind_19 ic_0 ?_
        exact PWk.zret dX10_needKind_20 rfl (fun h => h)
      · refine PWk.sub [] rfl ?_
        exact hj1 x2.2
  · refine PWk.iconst (v := 1) dX10_needKind_15 ic_1 ?_
    refine PWk.goto 20 dX10_needKind_16 (by decide) ?_
    exact PWk.zret dX10_needKind_20 rfl (fun h => h)
/-! LakeMarket$Tokens.readWord()V -/
def f_X10_readWord_L0 : Nat → HI → Option (HI)
  | 0, _ => none
  | n + 1, I =>
    if (I 7 1) ≤ (I 7 2) then
      some I
    else
      ldI (I 2) 1600 (I 7 2) fun v1 =>
      (f_X10_isLetter v1).bind fun x2 =>
      if x2 = 0 then
        some I
      else
        bnd (sI I 7 2 ((I 7 2) + 1)) fun I3 =>
        f_X10_readWord_L0 n I3
def f_X10_readWord (fu : Nat) (I : HI) : Option (HI) :=
  (f_X10_readWord_L0 fu I).bind fun x6 =>
  bnd (((x6 7 2) - (x6 7 4))) fun v7 =>
  (f_X10_findOwn fu x6 v7).bind fun x8 =>
  if x8 = (-1) then
    if v7 ≤ 6 then
      bnd (sI x6 7 3 1) fun I9 =>
      (f_X10_packName fu I9 v7).bind fun x10 =>
      bnd (sI I9 7 6 x10) fun I11 =>
      some I11
    else
      bnd (sI x6 7 3 5) fun I12 =>
      bnd (sI I12 7 5 ((I12 7 4) + 6)) fun I13 =>
      some I13
  else
    bnd (sI x6 7 3 2) fun I15 =>
    bnd (sI I15 7 6 x8) fun I16 =>
    some I16
set_option maxRecDepth 20000 in
theorem lp_X10_readWord_0 (fu : Nat) (L : HL) (R : HR) : ∀ (n : Nat) (I : HI) (N : (HI) → Prop) (F : HF), (∀ v : HI, N v → PW 1 93 5 RX10 cX10_readWord 3 none 39 [(0, .ref 7)] [] v L R F) → PWk 1 93 5 RX10 cX10_readWord 3 none 0 [(0, .ref 7)] [] I L R (f_X10_readWord_L0 n I) N F := by
  intro n
  induction n with
  | zero => intro I N F hx; exact PWk.none'
  | succ n ih =>
    intro I N F hx
    unfold f_X10_readWord_L0
    refine PWk.aload_n 0 dX10_readWord_0 rfl ?_
    refine PWk.geti dX10_readWord_1 rg_7 lc_7 fl_X10_19 rfl ?_
    refine PWk.aload_n 0 dX10_readWord_4 rfl ?_
    refine PWk.geti dX10_readWord_5 rg_7 lc_7 fl_X10_15 rfl ?_
    refine PWk.icmp_ge 39 dX10_readWord_8 (by decide) (fun h5 => ?_) (fun h5 => ?_)
    · exact PWk.done (fun h => hx _ h)
    · refine PWk.aload_n 0 dX10_readWord_11 rfl ?_
      refine PWk.gets dX10_readWord_12 rg_7 lc_7 fl_X10_9 rfl st_7_0 ?_
      refine PWk.aload_n 0 dX10_readWord_15 rfl ?_
      refine PWk.geti dX10_readWord_16 rg_7 lc_7 fl_X10_19 rfl ?_
      refine PWk.iald dX10_readWord_19 rg_2 ly_2 (fun v1 => ?_)
      refine PWk.callSi (pc_X10_isLetter I L R v1) dX10_readWord_20 ml_X10_57 rfl (by decide) rfl (Nat.le_of_ble_eq_true rfl) (fun x2 => ?_)
      refine PWk.if_eq 39 dX10_readWord_23 (by decide) (fun h4 => ?_) (fun h4 => ?_)
      · exact PWk.done (fun h => hx _ h)
      · refine PWk.aload_n 0 dX10_readWord_26 rfl ?_
        refine PWk.dup dX10_readWord_27 rfl ?_
        refine PWk.geti dX10_readWord_28 rg_7 lc_7 fl_X10_19 rfl ?_
        refine PWk.iconst (v := 1) dX10_readWord_31 ic_1 ?_
        refine PWk.iadd dX10_readWord_32 ?_
        refine PWk.puti dX10_readWord_33 rg_7 lc_7 fl_X10_19 fp_10_2 rfl ?_
        refine PWk.bI (fun I3 => ?_)
        refine PWk.goto 0 dX10_readWord_36 (by decide) ?_
        exact ih I3 N F hx
set_option maxRecDepth 20000 in
theorem pc_X10_readWord (fu : Nat) (I : HI) (L : HL) (R : HR) : PCo 1 93 5 yX10_readWord cX10_readWord 3 none [.ref 7] I L R (f_X10_readWord fu I) (fun x : HI => ((none, x, L, R) : HF)) := by
  refine PCo.of (own := RX10) (by decide +kernel) (Nat.le_of_ble_eq_true rfl) rfl rfl (fun F => ?_)
  unfold f_X10_readWord
  refine PWk.loopV (fun N' hx' => lp_X10_readWord_0 fu L R fu I N' F hx') (fun x6 => ?_)
  refine PWk.aload_n 0 dX10_readWord_39 rfl ?_
  refine PWk.geti dX10_readWord_40 rg_7 lc_7 fl_X10_19 rfl ?_
  refine PWk.aload_n 0 dX10_readWord_43 rfl ?_
  refine PWk.geti dX10_readWord_44 rg_7 lc_7 fl_X10_45 rfl ?_
  refine PWk.isub dX10_readWord_47 ?_
  refine PWk.bi (fun v7 => ?_)
  refine PWk.istore_n [(1, .int v7), (0, .ref 7)] dX10_readWord_48 (by decide) rfl ?_
  refine PWk.aload_n 1 dX10_readWord_49 rfl ?_
  refine PWk.iload_n 0 dX10_readWord_50 rfl ?_
  refine PWk.callVi (pc_X10_findOwn fu x6 L R v7) dX10_readWord_51 ml_X10_69 rfl rg_7 lc_7 vq_10 (by decide) rfl (Nat.le_of_ble_eq_true rfl) (fun x8 => ?_)
  refine PWk.istore_n [(2, .int x8), (1, .int v7), (0, .ref 7)] dX10_readWord_54 (by decide) rfl ?_
  refine PWk.iload_n 0 dX10_readWord_55 rfl ?_
  refine PWk.iconst (v := (-1)) dX10_readWord_56 ic_m1 ?_
  refine PWk.icmp_eq 73 dX10_readWord_57 (by decide) (fun h17 => ?_) (fun h17 => ?_)
  · refine PWk.iload_n 1 dX10_readWord_73 rfl ?_
    refine PWk.bipush (v := 6) dX10_readWord_74 bp_6 ?_
    refine PWk.icmp_le 98 dX10_readWord_76 (by decide) (fun h14 => ?_) (fun h14 => ?_)
    · refine PWk.aload_n 2 dX10_readWord_98 rfl ?_
      refine PWk.iconst (v := 1) dX10_readWord_99 ic_1 ?_
      refine PWk.puti dX10_readWord_100 rg_7 lc_7 fl_X10_22 fp_10_3 rfl ?_
      refine PWk.bI (fun I9 => ?_)
      refine PWk.aload_n 2 dX10_readWord_103 rfl ?_
      refine PWk.aload_n 2 dX10_readWord_104 rfl ?_
      refine PWk.iload_n 1 dX10_readWord_105 rfl ?_
      refine PWk.callVi (pc_X10_packName fu I9 L R v7) dX10_readWord_106 ml_X10_73 rfl rg_7 lc_7 vq_10 (by decide) rfl (Nat.le_of_ble_eq_true rfl) (fun x10 => ?_)
      refine PWk.puti dX10_readWord_109 rg_7 lc_7 fl_X10_29 fp_10_6 rfl ?_
      refine PWk.bI (fun I11 => ?_)
      exact PWk.vret dX10_readWord_112 rfl (fun h => h)
    · refine PWk.aload_n 2 dX10_readWord_79 rfl ?_
      refine PWk.iconst (v := 5) dX10_readWord_80 ic_5 ?_
      refine PWk.puti dX10_readWord_81 rg_7 lc_7 fl_X10_22 fp_10_3 rfl ?_
      refine PWk.bI (fun I12 => ?_)
      refine PWk.aload_n 2 dX10_readWord_84 rfl ?_
      refine PWk.aload_n 2 dX10_readWord_85 rfl ?_
      refine PWk.geti dX10_readWord_86 rg_7 lc_7 fl_X10_45 rfl ?_
      refine PWk.bipush (v := 6) dX10_readWord_89 bp_6 ?_
      refine PWk.iadd dX10_readWord_91 ?_
      refine PWk.puti dX10_readWord_92 rg_7 lc_7 fl_X10_51 fp_10_5 rfl ?_
      refine PWk.bI (fun I13 => ?_)
      refine PWk.goto 112 dX10_readWord_95 (by decide) ?_
      exact PWk.vret dX10_readWord_112 rfl (fun h => h)
  · refine PWk.aload_n 2 dX10_readWord_60 rfl ?_
    refine PWk.iconst (v := 2) dX10_readWord_61 ic_2 ?_
    refine PWk.puti dX10_readWord_62 rg_7 lc_7 fl_X10_22 fp_10_3 rfl ?_
    refine PWk.bI (fun I15 => ?_)
    refine PWk.aload_n 2 dX10_readWord_65 rfl ?_
    refine PWk.iload_n 0 dX10_readWord_66 rfl ?_
    refine PWk.puti dX10_readWord_67 rg_7 lc_7 fl_X10_29 fp_10_6 rfl ?_
    refine PWk.bI (fun I16 => ?_)
    refine PWk.goto 112 dX10_readWord_70 (by decide) ?_
    exact PWk.vret dX10_readWord_112 rfl (fun h => h)
/-! LakeMarket$Tokens.advance()Z -/
def f_X10_advance_L10 : Nat → HI → Option (HI)
  | 0, _ => none
  | n + 1, I =>
    if (I 7 1) ≤ (I 7 2) then
      some I
    else
      ldI (I 2) 1600 (I 7 2) fun v2 =>
      jnt (β := Unit) (fun y7 =>
        bnd (sI I 7 2 ((I 7 2) + 1)) fun I8 =>
        f_X10_advance_L10 n I8) fun j3 =>
      if v2 = 32 then
        j3 ()
      else
        ldI (I 2) 1600 (I 7 2) fun v4 =>
        if v4 = 10 then
          j3 ()
        else
          some I
def f_X10_advance (fu : Nat) (I : HI) : Option (Int32 × HI) :=
  (f_X10_isText I).bind fun x1 =>
  (f_X10_advance_L10 fu I).bind fun x10 =>
  bnd (sI x10 7 4 (x10 7 2)) fun I11 =>
  bnd (sI I11 7 5 (I11 7 2)) fun I12 =>
  jnt (β := HI) (fun y28 =>
    if x1 = 0 then
      gz 1 (some (1, y28))
    else
      if (y28 7 4) = (I 7 2) then
        (f_X10_isText y28).bind fun x29 =>
        if x29 = 0 then
          gz 1 (some (1, y28))
        else
          bnd (sI y28 7 3 5) fun I30 =>
          bnd (sI I30 7 5 (I30 7 4)) fun I31 =>
          gz 1 (some (1, I31))
      else
        gz 1 (some (1, y28))) fun j13 =>
  if (I12 7 2) < (I12 7 1) then
    ldI (I12 2) 1600 (I12 7 2) fun v14 =>
    (f_X10_isLetter v14).bind fun x15 =>
    if x15 = 0 then
      ldI (I12 2) 1600 (I12 7 2) fun v16 =>
      (f_X10_isDigit v16).bind fun x17 =>
      if x17 = 0 then
        bnd (sI I12 7 3 4) fun I18 =>
        ldI (I18 2) 1600 (I18 7 2) fun v19 =>
        bnd (sI I18 7 6 v19) fun I20 =>
        bnd (sI I20 7 2 ((I20 7 2) + 1)) fun I21 =>
        j13 I21
      else
        (f_X10_readNumber fu I12).bind fun x22 =>
        j13 x22
    else
      (f_X10_readWord fu I12).bind fun x24 =>
      j13 x24
  else
    bnd (sI I12 7 3 0) fun I26 =>
    j13 I26
set_option maxRecDepth 20000 in
theorem lp_X10_advance_10 (fu : Nat) (u1 : Int32) (u2 : Int32) (L : HL) (R : HR) : ∀ (n : Nat) (I : HI) (N : (HI) → Prop) (F : HF), (∀ v : HI, N v → PW 1 93 6 RX10 cX10_advance 3 (some .boolean) 62 [(0, .ref 7), (1, .int u1), (2, .int u2)] [] v L R F) → PWk 1 93 6 RX10 cX10_advance 3 (some .boolean) 10 [(0, .ref 7), (1, .int u1), (2, .int u2)] [] I L R (f_X10_advance_L10 n I) N F := by
  intro n
  induction n with
  | zero => intro I N F hx; exact PWk.none'
  | succ n ih =>
    intro I N F hx
    unfold f_X10_advance_L10
    refine PWk.aload_n 0 dX10_advance_10 rfl ?_
    refine PWk.geti dX10_advance_11 rg_7 lc_7 fl_X10_19 rfl ?_
    refine PWk.aload_n 0 dX10_advance_14 rfl ?_
    refine PWk.geti dX10_advance_15 rg_7 lc_7 fl_X10_15 rfl ?_
    refine PWk.icmp_ge 62 dX10_advance_18 (by decide) (fun h9 => ?_) (fun h9 => ?_)
    · exact PWk.done (fun h => hx _ h)
    · refine PWk.aload_n 0 dX10_advance_21 rfl ?_
      refine PWk.gets dX10_advance_22 rg_7 lc_7 fl_X10_9 rfl st_7_0 ?_
      refine PWk.aload_n 0 dX10_advance_25 rfl ?_
      refine PWk.geti dX10_advance_26 rg_7 lc_7 fl_X10_19 rfl ?_
      refine PWk.iald dX10_advance_29 rg_2 ly_2 (fun v2 => ?_)
      refine PWk.bipush (v := 32) dX10_advance_30 bp_32 ?_
      refine PWk.jn (pc' := 49) (lv' := fun y7 => [(0, .ref 7), (1, .int u1), (2, .int u2)]) (st' := fun y7 => []) (I' := fun y7 => I) (L' := fun y7 => L) (R' := fun y7 => R) (fun j3 hj3 => ?_) (fun y7 => ?_)
      · refine PWk.icmp_eq 49 dX10_advance_32 (by decide) (fun h6 => ?_) (fun h6 => ?_)
        · exact hj3 ()
        · refine PWk.aload_n 0 dX10_advance_35 rfl ?_
          refine PWk.gets dX10_advance_36 rg_7 lc_7 fl_X10_9 rfl st_7_0 ?_
          refine PWk.aload_n 0 dX10_advance_39 rfl ?_
          refine PWk.geti dX10_advance_40 rg_7 lc_7 fl_X10_19 rfl ?_
          refine PWk.iald dX10_advance_43 rg_2 ly_2 (fun v4 => ?_)
          refine PWk.bipush (v := 10) dX10_advance_44 bp_10 ?_
          refine PWk.icmp_ne 62 dX10_advance_46 (by decide) (fun h5 => ?_) (fun h5 => ?_)
          · exact hj3 ()
          · exact PWk.done (fun h => hx _ h)
      · refine PWk.aload_n 0 dX10_advance_49 rfl ?_
        refine PWk.dup dX10_advance_50 rfl ?_
        refine PWk.geti dX10_advance_51 rg_7 lc_7 fl_X10_19 rfl ?_
        refine PWk.iconst (v := 1) dX10_advance_54 ic_1 ?_
        refine PWk.iadd dX10_advance_55 ?_
        refine PWk.puti dX10_advance_56 rg_7 lc_7 fl_X10_19 fp_10_2 rfl ?_
        refine PWk.bI (fun I8 => ?_)
        refine PWk.goto 10 dX10_advance_59 (by decide) ?_
        exact ih I8 N F hx
set_option maxRecDepth 20000 in
theorem pc_X10_advance (fu : Nat) (I : HI) (L : HL) (R : HR) : PCo 1 93 6 yX10_advance cX10_advance 3 (some .boolean) [.ref 7] I L R (f_X10_advance fu I) (fun x : Int32 × HI => ((some (.int x.1), x.2, L, R) : HF)) := by
  refine PCo.of (own := RX10) (by decide +kernel) (Nat.le_of_ble_eq_true rfl) rfl rfl (fun F => ?_)
  unfold f_X10_advance
  refine PWk.aload_n 0 dX10_advance_0 rfl ?_
  refine PWk.callVi (pc_X10_isText I L R) dX10_advance_1 ml_X10_54 rfl rg_7 lc_7 vq_10 (by decide) rfl (Nat.le_of_ble_eq_true rfl) (fun x1 => ?_)
  refine PWk.istore_n [(1, .int x1), (0, .ref 7)] dX10_advance_4 (by decide) rfl ?_
  refine PWk.aload_n 1 dX10_advance_5 rfl ?_
  refine PWk.geti dX10_advance_6 rg_7 lc_7 fl_X10_19 rfl ?_
  refine PWk.istore_n [(2, .int (I 7 2)), (1, .int x1), (0, .ref 7)] dX10_advance_9 (by decide) rfl ?_
  refine PWk.sub [2, 1, 0] rfl ?_
  refine PWk.loopV (fun N' hx' => lp_X10_advance_10 fu x1 (I 7 2) L R fu I N' F hx') (fun x10 => ?_)
  refine PWk.aload_n 0 dX10_advance_62 rfl ?_
  refine PWk.aload_n 0 dX10_advance_63 rfl ?_
  refine PWk.geti dX10_advance_64 rg_7 lc_7 fl_X10_19 rfl ?_
  refine PWk.puti dX10_advance_67 rg_7 lc_7 fl_X10_45 fp_10_4 rfl ?_
  refine PWk.bI (fun I11 => ?_)
  refine PWk.aload_n 0 dX10_advance_70 rfl ?_
  refine PWk.aload_n 0 dX10_advance_71 rfl ?_
  refine PWk.geti dX10_advance_72 rg_7 lc_7 fl_X10_19 rfl ?_
  refine PWk.puti dX10_advance_75 rg_7 lc_7 fl_X10_51 fp_10_5 rfl ?_
  refine PWk.bI (fun I12 => ?_)
  refine PWk.aload_n 0 dX10_advance_78 rfl ?_
  refine PWk.geti dX10_advance_79 rg_7 lc_7 fl_X10_19 rfl ?_
  refine PWk.aload_n 0 dX10_advance_82 rfl ?_
  refine PWk.geti dX10_advance_83 rg_7 lc_7 fl_X10_15 rfl ?_
  refine PWk.jn (pc' := 169) (lv' := fun y28 => [(0, .ref 7), (1, .int x1), (2, .int (I 7 2))]) (st' := fun y28 => []) (I' := fun y28 => y28) (L' := fun y28 => L) (R' := fun y28 => R) (fun j13 hj13 => ?_) (fun y28 => ?_)
  · refine PWk.icmp_lt 97 dX10_advance_86 (by decide) (fun h27 => ?_) (fun h27 => ?_)
    · refine PWk.aload_n 0 dX10_advance_97 rfl ?_
      refine PWk.gets dX10_advance_98 rg_7 lc_7 fl_X10_9 rfl st_7_0 ?_
      refine PWk.aload_n 0 dX10_advance_101 rfl ?_
      refine PWk.geti dX10_advance_102 rg_7 lc_7 fl_X10_19 rfl ?_
      refine PWk.iald dX10_advance_105 rg_2 ly_2 (fun v14 => ?_)
      refine PWk.callSi (pc_X10_isLetter I12 L R v14) dX10_advance_106 ml_X10_57 rfl (by decide) rfl (Nat.le_of_ble_eq_true rfl) (fun x15 => ?_)
      refine PWk.if_eq 119 dX10_advance_109 (by decide) (fun h25 => ?_) (fun h25 => ?_)
      · refine PWk.aload_n 0 dX10_advance_119 rfl ?_
        refine PWk.gets dX10_advance_120 rg_7 lc_7 fl_X10_9 rfl st_7_0 ?_
        refine PWk.aload_n 0 dX10_advance_123 rfl ?_
        refine PWk.geti dX10_advance_124 rg_7 lc_7 fl_X10_19 rfl ?_
        refine PWk.iald dX10_advance_127 rg_2 ly_2 (fun v16 => ?_)
        refine PWk.callSi (pc_X10_isDigit I12 L R v16) dX10_advance_128 ml_X10_63 rfl (by decide) rfl (Nat.le_of_ble_eq_true rfl) (fun x17 => ?_)
        refine PWk.if_eq 141 dX10_advance_131 (by decide) (fun h23 => ?_) (fun h23 => ?_)
        · refine PWk.aload_n 0 dX10_advance_141 rfl ?_
          refine PWk.iconst (v := 4) dX10_advance_142 ic_4 ?_
          refine PWk.puti dX10_advance_143 rg_7 lc_7 fl_X10_22 fp_10_3 rfl ?_
          refine PWk.bI (fun I18 => ?_)
          refine PWk.aload_n 0 dX10_advance_146 rfl ?_
          refine PWk.aload_n 0 dX10_advance_147 rfl ?_
          refine PWk.gets dX10_advance_148 rg_7 lc_7 fl_X10_9 rfl st_7_0 ?_
          refine PWk.aload_n 0 dX10_advance_151 rfl ?_
          refine PWk.geti dX10_advance_152 rg_7 lc_7 fl_X10_19 rfl ?_
          refine PWk.iald dX10_advance_155 rg_2 ly_2 (fun v19 => ?_)
          refine PWk.puti dX10_advance_156 rg_7 lc_7 fl_X10_29 fp_10_6 rfl ?_
          refine PWk.bI (fun I20 => ?_)
          refine PWk.aload_n 0 dX10_advance_159 rfl ?_
          refine PWk.dup dX10_advance_160 rfl ?_
          refine PWk.geti dX10_advance_161 rg_7 lc_7 fl_X10_19 rfl ?_
          refine PWk.iconst (v := 1) dX10_advance_164 ic_1 ?_
          refine PWk.iadd dX10_advance_165 ?_
          refine PWk.puti dX10_advance_166 rg_7 lc_7 fl_X10_19 fp_10_2 rfl ?_
          refine PWk.bI (fun I21 => ?_)
          exact hj13 I21
        · refine PWk.aload_n 0 dX10_advance_134 rfl ?_
          refine PWk.callVvI (pc_X10_readNumber fu I12 L R) dX10_advance_135 ml_X10_66 rfl rg_7 lc_7 vq_10 (by decide) rfl (Nat.le_of_ble_eq_true rfl) (fun x22 => ?_)
          refine PWk.goto 169 dX10_advance_138 (by decide) ?_
          exact hj13 x22
      · refine PWk.aload_n 0 dX10_advance_112 rfl ?_
        refine PWk.callVvI (pc_X10_readWord fu I12 L R) dX10_advance_113 ml_X10_60 rfl rg_7 lc_7 vq_10 (by decide) rfl (Nat.le_of_ble_eq_true rfl) (fun x24 => ?_)
        refine PWk.goto 169 dX10_advance_116 (by decide) ?_
        exact hj13 x24
    · refine PWk.aload_n 0 dX10_advance_89 rfl ?_
      refine PWk.iconst (v := 0) dX10_advance_90 ic_0 ?_
      refine PWk.puti dX10_advance_91 rg_7 lc_7 fl_X10_22 fp_10_3 rfl ?_
      refine PWk.bI (fun I26 => ?_)
      refine PWk.goto 169 dX10_advance_94 (by decide) ?_
      exact hj13 I26
  · refine PWk.iload_n 1 dX10_advance_169 rfl ?_
    refine PWk.if_eq 201 dX10_advance_170 (by decide) (fun h34 => ?_) (fun h34 => ?_)
    · refine PWk.iconst (v := 1) dX10_advance_201 ic_1 ?_
      exact PWk.zret dX10_advance_202 rfl (fun h => h)
    · refine PWk.aload_n 0 dX10_advance_173 rfl ?_
      refine PWk.geti dX10_advance_174 rg_7 lc_7 fl_X10_45 rfl ?_
      refine PWk.iload_n 2 dX10_advance_177 rfl ?_
      refine PWk.icmp_ne 201 dX10_advance_178 (by decide) (fun h33 => ?_) (fun h33 => ?_)
      · refine PWk.aload_n 0 dX10_advance_181 rfl ?_
        refine PWk.callVi (pc_X10_isText y28 L R) dX10_advance_182 ml_X10_54 rfl rg_7 lc_7 vq_10 (by decide) rfl (Nat.le_of_ble_eq_true rfl) (fun x29 => ?_)
        refine PWk.if_eq 201 dX10_advance_185 (by decide) (fun h32 => ?_) (fun h32 => ?_)
        · refine PWk.iconst (v := 1) dX10_advance_201 ic_1 ?_
          exact PWk.zret dX10_advance_202 rfl (fun h => h)
        · refine PWk.aload_n 0 dX10_advance_188 rfl ?_
          refine PWk.iconst (v := 5) dX10_advance_189 ic_5 ?_
          refine PWk.puti dX10_advance_190 rg_7 lc_7 fl_X10_22 fp_10_3 rfl ?_
          refine PWk.bI (fun I30 => ?_)
          refine PWk.aload_n 0 dX10_advance_193 rfl ?_
          refine PWk.aload_n 0 dX10_advance_194 rfl ?_
          refine PWk.geti dX10_advance_195 rg_7 lc_7 fl_X10_45 rfl ?_
          refine PWk.puti dX10_advance_198 rg_7 lc_7 fl_X10_51 fp_10_5 rfl ?_
          refine PWk.bI (fun I31 => ?_)
          refine PWk.iconst (v := 1) dX10_advance_201 ic_1 ?_
          exact PWk.zret dX10_advance_202 rfl (fun h => h)
      · refine PWk.iconst (v := 1) dX10_advance_201 ic_1 ?_
        exact PWk.zret dX10_advance_202 rfl (fun h => h)
/-! LakeMarket$Tokens.begin(I)V -/
def f_X10_begin (fu : Nat) (I : HI) (p1 : Int32) : Option (HI) :=
  bnd (sI I 7 1 p1) fun I1 =>
  bnd (sI I1 7 2 0) fun I2 =>
  bnd (sI I2 7 3 0) fun I3 =>
  (f_X10_advance fu I3).bind fun x4 =>
  some x4.2
set_option maxRecDepth 20000 in
theorem pc_X10_begin (fu : Nat) (I : HI) (L : HL) (R : HR) (p1 : Int32) : PCo 1 93 7 yX10_begin cX10_begin 2 none [.ref 7, .int p1] I L R (f_X10_begin fu I p1) (fun x : HI => ((none, x, L, R) : HF)) := by
  refine PCo.of (own := RX10) (by decide +kernel) (Nat.le_of_ble_eq_true rfl) rfl rfl (fun F => ?_)
  unfold f_X10_begin
  refine PWk.aload_n 0 dX10_begin_0 rfl ?_
  refine PWk.iload_n 1 dX10_begin_1 rfl ?_
  refine PWk.puti dX10_begin_2 rg_7 lc_7 fl_X10_15 fp_10_1 rfl ?_
  refine PWk.bI (fun I1 => ?_)
  refine PWk.aload_n 0 dX10_begin_5 rfl ?_
  refine PWk.iconst (v := 0) dX10_begin_6 ic_0 ?_
  refine PWk.puti dX10_begin_7 rg_7 lc_7 fl_X10_19 fp_10_2 rfl ?_
  refine PWk.bI (fun I2 => ?_)
  refine PWk.aload_n 0 dX10_begin_10 rfl ?_
  refine PWk.iconst (v := 0) dX10_begin_11 ic_0 ?_
  refine PWk.puti dX10_begin_12 rg_7 lc_7 fl_X10_22 fp_10_3 rfl ?_
  refine PWk.bI (fun I3 => ?_)
  refine PWk.aload_n 0 dX10_begin_15 rfl ?_
  refine PWk.callViI (pc_X10_advance fu I3 L R) dX10_begin_16 ml_X10_25 rfl rg_7 lc_7 vq_10 (by decide) rfl (Nat.le_of_ble_eq_true rfl) (fun x4 => ?_)
  refine PWk.pop dX10_begin_19 rfl ?_
  exact PWk.vret dX10_begin_20 rfl (fun h => h)
