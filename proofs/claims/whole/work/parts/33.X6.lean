/-! LakeMarket$Picture.put(I)V -/
def f_X6_put (I : HI) (p1 : Int32) : Option (HI) :=
  if 107 ≤ (I 47 1) then
    some I
  else
    inb 107 (I 47 1) <|
    bnd (sI I 48 ((I 47 1) : Int32).toNatClampNeg p1) fun I1 =>
    bnd (sI I1 47 1 ((I1 47 1) + 1)) fun I2 =>
    some I2
set_option maxRecDepth 20000 in
theorem pc_X6_put (I : HI) (L : HL) (R : HR) (p1 : Int32) : PCo 1 93 0 yX6_put cX6_put 2 none [.ref 47, .int p1] I L R (f_X6_put I p1) (fun x : HI => ((none, x, L, R) : HF)) := by
  refine PCo.of (own := RX6) (by decide +kernel) (Nat.le_of_ble_eq_true rfl) rfl rfl (fun F => ?_)
  unfold f_X6_put
  refine PWk.aload_n 0 dX6_put_0 rfl ?_
  refine PWk.geti dX6_put_1 rg_47 lc_47 fl_X6_15 rfl ?_
  refine PWk.bipush (v := 107) dX6_put_4 bp_107 ?_
  refine PWk.icmp_ge 29 dX6_put_6 (by decide) (fun h3 => ?_) (fun h3 => ?_)
  · exact PWk.vret dX6_put_29 rfl (fun h => h)
  · refine PWk.aload_n 0 dX6_put_9 rfl ?_
    refine PWk.gets dX6_put_10 rg_47 lc_47 fl_X6_11 rfl st_47_0 ?_
    refine PWk.aload_n 0 dX6_put_13 rfl ?_
    refine PWk.geti dX6_put_14 rg_47 lc_47 fl_X6_15 rfl ?_
    refine PWk.iload_n 1 dX6_put_17 rfl ?_
    refine PWk.iast dX6_put_18 rg_48 ly_48 ?_
    refine PWk.bI (fun I1 => ?_)
    refine PWk.aload_n 0 dX6_put_19 rfl ?_
    refine PWk.dup dX6_put_20 rfl ?_
    refine PWk.geti dX6_put_21 rg_47 lc_47 fl_X6_15 rfl ?_
    refine PWk.iconst (v := 1) dX6_put_24 ic_1 ?_
    refine PWk.iadd dX6_put_25 ?_
    refine PWk.puti dX6_put_26 rg_47 lc_47 fl_X6_15 fp_6_1 rfl ?_
    refine PWk.bI (fun I2 => ?_)
    exact PWk.vret dX6_put_29 rfl (fun h => h)
/-! LakeMarket$Picture.putPair(I)V -/
def f_X6_putPair (I : HI) (p1 : Int32) : Option (HI) :=
  dvI 256 <|
  (f_X6_put I (p1 / 256)).bind fun x1 =>
  dvI 256 <|
  (f_X6_put x1 (p1 - p1 / 256 * 256)).bind fun x2 =>
  some x2
set_option maxRecDepth 20000 in
theorem pc_X6_putPair (I : HI) (L : HL) (R : HR) (p1 : Int32) : PCo 1 93 1 yX6_putPair cX6_putPair 2 none [.ref 47, .int p1] I L R (f_X6_putPair I p1) (fun x : HI => ((none, x, L, R) : HF)) := by
  refine PCo.of (own := RX6) (by decide +kernel) (Nat.le_of_ble_eq_true rfl) rfl rfl (fun F => ?_)
  unfold f_X6_putPair
  refine PWk.aload_n 0 dX6_putPair_0 rfl ?_
  refine PWk.iload_n 1 dX6_putPair_1 rfl ?_
  refine PWk.sipush (v := 256) dX6_putPair_2 sp_256 ?_
  refine PWk.idiv dX6_putPair_5 ?_
  refine PWk.callVvI (pc_X6_put I L R (p1 / 256)) dX6_putPair_6 ml_X6_47 rfl rg_47 lc_47 vq_6 (by decide) rfl (Nat.le_of_ble_eq_true rfl) (fun x1 => ?_)
  refine PWk.aload_n 0 dX6_putPair_9 rfl ?_
  refine PWk.iload_n 1 dX6_putPair_10 rfl ?_
  refine PWk.sipush (v := 256) dX6_putPair_11 sp_256 ?_
  refine PWk.irem dX6_putPair_14 ?_
  refine PWk.callVvI (pc_X6_put x1 L R (p1 - p1 / 256 * 256)) dX6_putPair_15 ml_X6_47 rfl rg_47 lc_47 vq_6 (by decide) rfl (Nat.le_of_ble_eq_true rfl) (fun x2 => ?_)
  exact PWk.vret dX6_putPair_18 rfl (fun h => h)
/-! LakeMarket$Picture.check([II)I -/
def f_X6_check_L6 : Nat → HI → Nat → Nat → Int32 → Int32 → Int32 → Option (Int32)
  | 0, _, _, _, _, _, _ => none
  | n + 1, I, b0, b0n, u1, u2, u3 =>
    if u1 ≤ u3 then
      some u2
    else
      ldI (I b0) b0n u3 fun v1 =>
      dvI 251 <|
      bnd ((((5 * u2) + v1) - ((5 * u2) + v1) / 251 * 251)) fun v2 =>
      f_X6_check_L6 n I b0 b0n u1 v2 (u3 + 1)
def f_X6_check (fu : Nat) (I : HI) (a0 : Nat) (a0n : Nat) (p1 : Int32) : Option (Int32) :=
  (f_X6_check_L6 fu I a0 a0n p1 149 0).bind fun x4 =>
  some x4
set_option maxRecDepth 20000 in
theorem lp_X6_check_6 (fu : Nat) (b0 b0n : Nat) (hl0 : lay b0 = (13, b0n)) (hr0 : 1 ≤ b0 ∧ b0 < 93) (u1 : Int32) (I : HI) (L : HL) (R : HR) : ∀ (n : Nat) (u2 : Int32) (u3 : Int32) (N : (Int32) → Prop) (F : HF), (∀ v : Int32, N v → PW 1 93 0 RX6 cX6_check 4 (some .int) 29 [(2, .int v)] [] I L R F) → PWk 1 93 0 RX6 cX6_check 4 (some .int) 6 [(0, .ref b0), (1, .int u1), (2, .int u2), (3, .int u3)] [] I L R (f_X6_check_L6 n I b0 b0n u1 u2 u3) N F := by
  intro n
  induction n with
  | zero => intro u2 u3 N F hx; exact PWk.none'
  | succ n ih =>
    intro u2 u3 N F hx
    unfold f_X6_check_L6
    refine PWk.iload_n 3 dX6_check_6 rfl ?_
    refine PWk.iload_n 1 dX6_check_7 rfl ?_
    refine PWk.icmp_ge 29 dX6_check_8 (by decide) (fun h3 => ?_) (fun h3 => ?_)
    · refine PWk.sub [2] rfl ?_
      exact PWk.done (fun h => hx _ h)
    · refine PWk.iconst (v := 5) dX6_check_11 ic_5 ?_
      refine PWk.iload_n 2 dX6_check_12 rfl ?_
      refine PWk.imul dX6_check_13 ?_
      refine PWk.aload_n 0 dX6_check_14 rfl ?_
      refine PWk.iload_n 3 dX6_check_15 rfl ?_
      refine PWk.iald dX6_check_16 hr0 hl0 (fun v1 => ?_)
      refine PWk.iadd dX6_check_17 ?_
      refine PWk.sipush (v := 251) dX6_check_18 sp_251 ?_
      refine PWk.irem dX6_check_21 ?_
      refine PWk.bi (fun v2 => ?_)
      refine PWk.istore_n [(2, .int v2), (0, .ref b0), (1, .int u1), (3, .int u3)] dX6_check_22 (by decide) rfl ?_
      refine PWk.iinc (v := (u3 + 1)) 3 [(3, .int (u3 + 1)), (2, .int v2), (0, .ref b0), (1, .int u1)] dX6_check_23 rfl (by rw [ic_1]) (by decide) rfl ?_
      refine PWk.goto 6 dX6_check_26 (by decide) ?_
      refine PWk.sub [2, 3, 1, 0] rfl ?_
      exact ih v2 (u3 + 1) N F hx
set_option maxRecDepth 20000 in
theorem pc_X6_check (fu : Nat) (I : HI) (L : HL) (R : HR) (a0 : Nat) (a0n : Nat) (hl_a0 : lay a0 = (13, a0n)) (hr_a0 : 1 ≤ a0 ∧ a0 < 93) (p1 : Int32) : PCo 1 93 0 yX6_check cX6_check 4 (some .int) [.ref a0, .int p1] I L R (f_X6_check fu I a0 a0n p1) (fun x : Int32 => ((some (.int x), I, L, R) : HF)) := by
  refine PCo.of (own := RX6) (by decide +kernel) (Nat.le_of_ble_eq_true rfl) rfl rfl (fun F => ?_)
  unfold f_X6_check
  refine PWk.sipush (v := 149) dX6_check_0 sp_149 ?_
  refine PWk.istore_n [(2, .int 149), (0, .ref a0), (1, .int p1)] dX6_check_3 (by decide) rfl ?_
  refine PWk.iconst (v := 0) dX6_check_4 ic_0 ?_
  refine PWk.istore_n [(3, .int 0), (2, .int 149), (0, .ref a0), (1, .int p1)] dX6_check_5 (by decide) rfl ?_
  refine PWk.sub [2, 3, 1, 0] rfl ?_
  refine PWk.loopV (fun N' hx' => lp_X6_check_6 fu a0 a0n hl_a0 hr_a0 p1 I L R fu 149 0 N' F hx') (fun x4 => ?_)
  refine PWk.iload_n 0 dX6_check_29 rfl ?_
  exact PWk.iret dX6_check_30 rfl (fun h => h)
/-! LakeMarket$Picture.sizeFor(LLakeMarket$Lowland;)I -/
def f_X6_sizeFor (I : HI) (a0 : Nat) : Option (Int32) :=
  some (((2 + (4 * (I a0 3))) + ((2 * (I a0 2)) * (I a0 2))) + 1)
set_option maxRecDepth 20000 in
theorem pc_X6_sizeFor (I : HI) (L : HL) (R : HR) (a0 : Nat) (hy_a0 : isLd a0) : PCo 1 93 0 yX6_sizeFor cX6_sizeFor 1 (some .int) [.ref a0] I L R (f_X6_sizeFor I a0) (fun x : Int32 => ((some (.int x), I, L, R) : HF)) := by
  refine PCo.of (own := RX6) (by decide +kernel) (Nat.le_of_ble_eq_true rfl) rfl rfl (fun F => ?_)
  unfold f_X6_sizeFor
  refine PWk.iconst (v := 2) dX6_sizeFor_0 ic_2 ?_
  refine PWk.iconst (v := 4) dX6_sizeFor_1 ic_4 ?_
  refine PWk.aload_n 0 dX6_sizeFor_2 rfl ?_
  refine PWk.geti dX6_sizeFor_3 (rgLd_0 hy_a0) (lcLd hy_a0) fl_X6_32 rfl ?_
  refine PWk.imul dX6_sizeFor_6 ?_
  refine PWk.iadd dX6_sizeFor_7 ?_
  refine PWk.iconst (v := 2) dX6_sizeFor_8 ic_2 ?_
  refine PWk.aload_n 0 dX6_sizeFor_9 rfl ?_
  refine PWk.geti dX6_sizeFor_10 (rgLd_0 hy_a0) (lcLd hy_a0) fl_X6_53 rfl ?_
  refine PWk.imul dX6_sizeFor_13 ?_
  refine PWk.aload_n 0 dX6_sizeFor_14 rfl ?_
  refine PWk.geti dX6_sizeFor_15 (rgLd_0 hy_a0) (lcLd hy_a0) fl_X6_53 rfl ?_
  refine PWk.imul dX6_sizeFor_18 ?_
  refine PWk.iadd dX6_sizeFor_19 ?_
  refine PWk.iconst (v := 1) dX6_sizeFor_20 ic_1 ?_
  refine PWk.iadd dX6_sizeFor_21 ?_
  exact PWk.iret dX6_sizeFor_22 rfl (fun h => h)
/-! LakeMarket$Picture.pair([II)I -/
def f_X6_pair (I : HI) (a0 : Nat) (a0n : Nat) (p1 : Int32) : Option (Int32) :=
  ldI (I a0) a0n p1 fun v1 =>
  ldI (I a0) a0n (p1 + 1) fun v2 =>
  some ((v1 * 256) + v2)
set_option maxRecDepth 20000 in
theorem pc_X6_pair (I : HI) (L : HL) (R : HR) (a0 : Nat) (a0n : Nat) (hl_a0 : lay a0 = (13, a0n)) (hr_a0 : 1 ≤ a0 ∧ a0 < 93) (p1 : Int32) : PCo 1 93 0 yX6_pair cX6_pair 2 (some .int) [.ref a0, .int p1] I L R (f_X6_pair I a0 a0n p1) (fun x : Int32 => ((some (.int x), I, L, R) : HF)) := by
  refine PCo.of (own := RX6) (by decide +kernel) (Nat.le_of_ble_eq_true rfl) rfl rfl (fun F => ?_)
  unfold f_X6_pair
  refine PWk.aload_n 0 dX6_pair_0 rfl ?_
  refine PWk.iload_n 1 dX6_pair_1 rfl ?_
  refine PWk.iald dX6_pair_2 hr_a0 hl_a0 (fun v1 => ?_)
  refine PWk.sipush (v := 256) dX6_pair_3 sp_256 ?_
  refine PWk.imul dX6_pair_6 ?_
  refine PWk.aload_n 0 dX6_pair_7 rfl ?_
  refine PWk.iload_n 1 dX6_pair_8 rfl ?_
  refine PWk.iconst (v := 1) dX6_pair_9 ic_1 ?_
  refine PWk.iadd dX6_pair_10 ?_
  refine PWk.iald dX6_pair_11 hr_a0 hl_a0 (fun v2 => ?_)
  refine PWk.iadd dX6_pair_12 ?_
  exact PWk.iret dX6_pair_13 rfl (fun h => h)
/-! LakeMarket$Picture.isLakeRow(IIILLakeMarket$Scene;)Z -/
def f_X6_isLakeRow (I : HI) (R : HR) (p0 : Int32) (p1 : Int32) (p2 : Int32) (a3 : Nat) : Option (Int32) :=
  if p0 = 0 then
    if p1 = 255 then
      if p2 = 255 then
        gz 1 (some 1)
      else
        gz 0 (some 0)
    else
      gz 0 (some 0)
  else
    if 999 < p0 then
      gz 0 (some 0)
    else
      (f_X9_isHollow I R a3 p1).bind fun x3 =>
      if x3 = 0 then
        gz 0 (some 0)
      else
        (f_X9_isOwner I R a3 p2).bind fun x4 =>
        if x4 = 0 then
          gz 0 (some 0)
        else
          gz 1 (some 1)
set_option maxRecDepth 20000 in
theorem pc_X6_isLakeRow (I : HI) (L : HL) (R : HR) (p0 : Int32) (p1 : Int32) (p2 : Int32) (a3 : Nat) (hy_a3 : isSc a3) : PCo 1 93 1 yX6_isLakeRow cX6_isLakeRow 4 (some .boolean) [.int p0, .int p1, .int p2, .ref a3] I L R (f_X6_isLakeRow I R p0 p1 p2 a3) (fun x : Int32 => ((some (.int x), I, L, R) : HF)) := by
  refine PCo.of (own := RX6) (by decide +kernel) (Nat.le_of_ble_eq_true rfl) rfl rfl (fun F => ?_)
  unfold f_X6_isLakeRow
  refine PWk.iload_n 0 dX6_isLakeRow_0 rfl ?_
  refine PWk.if_ne 24 dX6_isLakeRow_1 (by decide) (fun h8 => ?_) (fun h8 => ?_)
  · refine PWk.iload_n 1 dX6_isLakeRow_4 rfl ?_
    refine PWk.sipush (v := 255) dX6_isLakeRow_5 sp_255 ?_
    refine PWk.icmp_ne 22 dX6_isLakeRow_8 (by decide) (fun h2 => ?_) (fun h2 => ?_)
    · refine PWk.iload_n 2 dX6_isLakeRow_11 rfl ?_
      refine PWk.sipush (v := 255) dX6_isLakeRow_12 sp_255 ?_
      refine PWk.icmp_ne 22 dX6_isLakeRow_15 (by decide) (fun h1 => ?_) (fun h1 => ?_)
      · refine PWk.iconst (v := 1) dX6_isLakeRow_18 ic_1 ?_
        refine PWk.goto 23 dX6_isLakeRow_19 (by decide) ?_
        exact PWk.zret dX6_isLakeRow_23 rfl (fun h => h)
      · refine PWk.iconst (v := 0) dX6_isLakeRow_22 ic_0 ?_
        exact PWk.zret dX6_isLakeRow_23 rfl (fun h => h)
    · refine PWk.iconst (v := 0) dX6_isLakeRow_22 ic_0 ?_
      exact PWk.zret dX6_isLakeRow_23 rfl (fun h => h)
  · refine PWk.iload_n 0 dX6_isLakeRow_24 rfl ?_
    refine PWk.sipush (v := 999) dX6_isLakeRow_25 sp_999 ?_
    refine PWk.icmp_gt 51 dX6_isLakeRow_28 (by decide) (fun h7 => ?_) (fun h7 => ?_)
    · refine PWk.iconst (v := 0) dX6_isLakeRow_51 ic_0 ?_
      exact PWk.zret dX6_isLakeRow_52 rfl (fun h => h)
    · refine PWk.aload_n 3 dX6_isLakeRow_31 rfl ?_
      refine PWk.iload_n 1 dX6_isLakeRow_32 rfl ?_
      refine PWk.callVi (pc_X9_isHollow I L R a3 hy_a3 p1) dX6_isLakeRow_33 ml_X6_93 rfl (rgSc_0 hy_a3) (lcSc hy_a3) vq_9 (by decide) rfl (Nat.le_of_ble_eq_true rfl) (fun x3 => ?_)
      refine PWk.if_eq 51 dX6_isLakeRow_36 (by decide) (fun h6 => ?_) (fun h6 => ?_)
      · refine PWk.iconst (v := 0) dX6_isLakeRow_51 ic_0 ?_
        exact PWk.zret dX6_isLakeRow_52 rfl (fun h => h)
      · refine PWk.aload_n 3 dX6_isLakeRow_39 rfl ?_
        refine PWk.iload_n 2 dX6_isLakeRow_40 rfl ?_
        refine PWk.callVi (pc_X9_isOwner I L R a3 hy_a3 p2) dX6_isLakeRow_41 ml_X6_96 rfl (rgSc_0 hy_a3) (lcSc hy_a3) vq_9 (by decide) rfl (Nat.le_of_ble_eq_true rfl) (fun x4 => ?_)
        refine PWk.if_eq 51 dX6_isLakeRow_44 (by decide) (fun h5 => ?_) (fun h5 => ?_)
        · refine PWk.iconst (v := 0) dX6_isLakeRow_51 ic_0 ?_
          exact PWk.zret dX6_isLakeRow_52 rfl (fun h => h)
        · refine PWk.iconst (v := 1) dX6_isLakeRow_47 ic_1 ?_
          refine PWk.goto 52 dX6_isLakeRow_48 (by decide) ?_
          exact PWk.zret dX6_isLakeRow_52 rfl (fun h => h)
/-! LakeMarket$Picture.restoresDebts([IILLakeMarket$Scene;)Z -/
def f_X6_restoresDebts_L21 : Nat → HI → HR → Nat → Nat → Nat → Int32 → Int32 → Int32 → Option ((Int32 × HI) ⊕ (Int32 × HI))
  | 0, _, _, _, _, _, _, _, _ => none
  | n + 1, I, R, b1, b1n, b3, u4, u5, u6 =>
    gr (okLd (R b3 0)) <|
    if (I (R b3 0) 2) ≤ u6 then
      some (.inr (u4, I))
    else
      (f_X6_pair I b1 b1n u4).bind fun x3 =>
      if 9999 < x3 then
        gz 0 (some (.inl (0, I)))
      else
        jnt (β := Unit) (fun y7 =>
          inb 36 ((u5 * 6) + u6) <|
          bnd (sI I (b3 + 4) (((u5 * 6) + u6) : Int32).toNatClampNeg x3) fun I8 =>
          f_X6_restoresDebts_L21 n I8 R b1 b1n b3 (u4 + 2) u5 (u6 + 1)) fun j4 =>
        if u5 = u6 then
          if x3 ≤ 0 then
            j4 ()
          else
            gz 0 (some (.inl (0, I)))
        else
          j4 ()
def f_X6_restoresDebts_L6 (fu : Nat) : Nat → HI → HR → Nat → Nat → Nat → Int32 → Int32 → Option ((Int32 × HI) ⊕ (HI))
  | 0, _, _, _, _, _, _, _ => none
  | n + 1, I, R, b1, b1n, b3, u4, u5 =>
    gr (okLd (R b3 0)) <|
    if (I (R b3 0) 2) ≤ u5 then
      some (.inr I)
    else
      (f_X6_restoresDebts_L21 fu I R b1 b1n b3 u4 u5 0).bind (Sum.elim (fun r => some (.inl r)) fun x11 =>
      f_X6_restoresDebts_L6 fu n x11.2 R b1 b1n b3 x11.1 (u5 + 1))
def f_X6_restoresDebts (fu : Nat) (I : HI) (R : HR) (a1 : Nat) (a1n : Nat) (p2 : Int32) (a3 : Nat) : Option (Int32 × HI) :=
  (f_X6_restoresDebts_L6 fu fu I R a1 a1n a3 p2 0).bind (Sum.elim (fun r => some r) fun x13 =>
  gz 1 (some (1, x13)))
set_option maxRecDepth 20000 in
theorem lp_X6_restoresDebts_21 (fu : Nat) (b1 b1n : Nat) (hl1 : lay b1 = (13, b1n)) (hr1 : 1 ≤ b1 ∧ b1 < 93) (b3 : Nat) (hb3 : isSc b3) (u5 : Int32) (L : HL) (R : HR) : ∀ (n : Nat) (u4 : Int32) (u6 : Int32) (I : HI) (N : ((Int32 × HI) ⊕ (Int32 × HI)) → Prop) (F : HF), (∀ v : Int32 × HI, N (.inr v) → PW 1 93 1 RX6 cX6_restoresDebts 8 (some .boolean) 87 [(1, .ref b1), (3, .ref b3), (4, .int v.1), (5, .int u5)] [] v.2 L R F) → (∀ r : Int32 × HI, N (.inl r) → F = (fun x : Int32 × HI => ((some (.int x.1), x.2, L, R) : HF)) r) → PWk 1 93 1 RX6 cX6_restoresDebts 8 (some .boolean) 21 [(1, .ref b1), (3, .ref b3), (4, .int u4), (5, .int u5), (6, .int u6)] [] I L R (f_X6_restoresDebts_L21 n I R b1 b1n b3 u4 u5 u6) N F := by
  intro n
  induction n with
  | zero => intro u4 u6 I N F hx hr; exact PWk.none'
  | succ n ih =>
    intro u4 u6 I N F hx hr
    unfold f_X6_restoresDebts_L21
    refine PWk.iload 4 dX6_restoresDebts_21 rfl ?_
    refine PWk.aload_n 1 dX6_restoresDebts_23 rfl ?_
    refine PWk.getr dX6_restoresDebts_24 (rgSc_0 hb3) (lcSc hb3) fl_X6_28 rfl okLd_ne (fun hk2 => ?_)
    refine PWk.geti dX6_restoresDebts_27 (rgLd_0 (okLd_is hk2)) (lcLd (okLd_is hk2)) fl_X6_53 rfl ?_
    refine PWk.icmp_ge 87 dX6_restoresDebts_30 (by decide) (fun h10 => ?_) (fun h10 => ?_)
    · refine PWk.sub [0, 1, 2, 3] rfl ?_
      exact PWk.done (fun h => hx _ h)
    · refine PWk.aload_n 0 dX6_restoresDebts_33 rfl ?_
      refine PWk.iload 2 dX6_restoresDebts_34 rfl ?_
      refine PWk.callSi (pc_X6_pair I L R b1 b1n hl1 hr1 u4) dX6_restoresDebts_36 ml_X6_67 rfl (by decide) rfl (Nat.le_of_ble_eq_true rfl) (fun x3 => ?_)
      refine PWk.istore [(7, .int x3), (1, .ref b1), (3, .ref b3), (4, .int u4), (5, .int u5), (6, .int u6)] dX6_restoresDebts_39 (by decide) rfl ?_
      refine PWk.iload 0 dX6_restoresDebts_41 rfl ?_
      refine PWk.sipush (v := 9999) dX6_restoresDebts_43 sp_9999 ?_
      refine PWk.icmp_gt 61 dX6_restoresDebts_46 (by decide) (fun h9 => ?_) (fun h9 => ?_)
      · refine PWk.iconst (v := 0) dX6_restoresDebts_61 ic_0 ?_
        exact PWk.zret dX6_restoresDebts_62 rfl (hr _)
      · refine PWk.iload 4 dX6_restoresDebts_49 rfl ?_
        refine PWk.iload 5 dX6_restoresDebts_51 rfl ?_
        refine PWk.jn (pc' := 63) (lv' := fun y7 => [(1, .ref b1), (3, .ref b3), (4, .int u4), (5, .int u5), (6, .int u6), (7, .int x3)]) (st' := fun y7 => []) (I' := fun y7 => I) (L' := fun y7 => L) (R' := fun y7 => R) (fun j4 hj4 => ?_) (fun y7 => ?_)
        · refine PWk.icmp_ne 63 dX6_restoresDebts_53 (by decide) (fun h6 => ?_) (fun h6 => ?_)
          · refine PWk.iload 0 dX6_restoresDebts_56 rfl ?_
            refine PWk.if_le 63 dX6_restoresDebts_58 (by decide) (fun h5 => ?_) (fun h5 => ?_)
            · refine PWk.sub [1, 2, 3, 4, 5, 0] rfl ?_
              exact hj4 ()
            · refine PWk.iconst (v := 0) dX6_restoresDebts_61 ic_0 ?_
              exact PWk.zret dX6_restoresDebts_62 rfl (hr _)
          · refine PWk.sub [1, 2, 3, 4, 5, 0] rfl ?_
            exact hj4 ()
        · refine PWk.aload_n 1 dX6_restoresDebts_63 rfl ?_
          refine PWk.gets dX6_restoresDebts_64 (rgSc_0 hb3) (lcSc hb3) fl_X6_56 rfl (stSc_5 hb3) ?_
          refine PWk.iload 3 dX6_restoresDebts_67 rfl ?_
          refine PWk.bipush (v := 6) dX6_restoresDebts_69 bp_6 ?_
          refine PWk.imul dX6_restoresDebts_71 ?_
          refine PWk.iload 4 dX6_restoresDebts_72 rfl ?_
          refine PWk.iadd dX6_restoresDebts_74 ?_
          refine PWk.iload 5 dX6_restoresDebts_75 rfl ?_
          refine PWk.iast dX6_restoresDebts_77 (rgSc_4 hb3) (lySc_4 hb3) ?_
          refine PWk.bI (fun I8 => ?_)
          refine PWk.iinc (v := (u4 + 2)) 2 [(4, .int (u4 + 2)), (1, .ref b1), (3, .ref b3), (5, .int u5), (6, .int u6), (7, .int x3)] dX6_restoresDebts_78 rfl (by rw [ic_2]) (by decide) rfl ?_
          refine PWk.iinc (v := (u6 + 1)) 4 [(6, .int (u6 + 1)), (4, .int (u4 + 2)), (1, .ref b1), (3, .ref b3), (5, .int u5), (7, .int x3)] dX6_restoresDebts_81 rfl (by rw [ic_1]) (by decide) rfl ?_
          refine PWk.goto 21 dX6_restoresDebts_84 (by decide) ?_
          refine PWk.sub [2, 3, 1, 4, 0] rfl ?_
          exact ih (u4 + 2) (u6 + 1) I8 N F hx hr
set_option maxRecDepth 20000 in
theorem lp_X6_restoresDebts_6 (fu : Nat) (b1 b1n : Nat) (hl1 : lay b1 = (13, b1n)) (hr1 : 1 ≤ b1 ∧ b1 < 93) (b3 : Nat) (hb3 : isSc b3) (L : HL) (R : HR) : ∀ (n : Nat) (u4 : Int32) (u5 : Int32) (I : HI) (N : ((Int32 × HI) ⊕ (HI)) → Prop) (F : HF), (∀ v : HI, N (.inr v) → PW 1 93 1 RX6 cX6_restoresDebts 8 (some .boolean) 93 [] [] v L R F) → (∀ r : Int32 × HI, N (.inl r) → F = (fun x : Int32 × HI => ((some (.int x.1), x.2, L, R) : HF)) r) → PWk 1 93 1 RX6 cX6_restoresDebts 8 (some .boolean) 6 [(1, .ref b1), (3, .ref b3), (4, .int u4), (5, .int u5)] [] I L R (f_X6_restoresDebts_L6 fu n I R b1 b1n b3 u4 u5) N F := by
  intro n
  induction n with
  | zero => intro u4 u5 I N F hx hr; exact PWk.none'
  | succ n ih =>
    intro u4 u5 I N F hx hr
    unfold f_X6_restoresDebts_L6
    refine PWk.iload 3 dX6_restoresDebts_6 rfl ?_
    refine PWk.aload_n 1 dX6_restoresDebts_8 rfl ?_
    refine PWk.getr dX6_restoresDebts_9 (rgSc_0 hb3) (lcSc hb3) fl_X6_28 rfl okLd_ne (fun hk1 => ?_)
    refine PWk.geti dX6_restoresDebts_12 (rgLd_0 (okLd_is hk1)) (lcLd (okLd_is hk1)) fl_X6_53 rfl ?_
    refine PWk.icmp_ge 93 dX6_restoresDebts_15 (by decide) (fun h12 => ?_) (fun h12 => ?_)
    · refine PWk.sub [] rfl ?_
      exact PWk.done (fun h => hx _ h)
    · refine PWk.iconst (v := 0) dX6_restoresDebts_18 ic_0 ?_
      refine PWk.istore [(6, .int 0), (1, .ref b1), (3, .ref b3), (4, .int u4), (5, .int u5)] dX6_restoresDebts_19 (by decide) rfl ?_
      refine PWk.sub [1, 2, 3, 4, 0] rfl ?_
      refine PWk.loopS (fun N' hx' hr' => lp_X6_restoresDebts_21 fu b1 b1n hl1 hr1 b3 hb3 u5 L R fu u4 0 I N' F hx' hr') (fun r a e h => by cases e; exact hr _ h) (fun x11 => ?_)
      refine PWk.iinc (v := (u5 + 1)) 3 [(5, .int (u5 + 1)), (1, .ref b1), (3, .ref b3), (4, .int x11.1)] dX6_restoresDebts_87 rfl (by rw [ic_1]) (by decide) rfl ?_
      refine PWk.goto 6 dX6_restoresDebts_90 (by decide) ?_
      refine PWk.sub [1, 2, 3, 0] rfl ?_
      exact ih x11.1 (u5 + 1) x11.2 N F hx hr
set_option maxRecDepth 20000 in
theorem pc_X6_restoresDebts (fu : Nat) (I : HI) (L : HL) (R : HR) (a1 : Nat) (a1n : Nat) (hl_a1 : lay a1 = (13, a1n)) (hr_a1 : 1 ≤ a1 ∧ a1 < 93) (p2 : Int32) (a3 : Nat) (hy_a3 : isSc a3) : PCo 1 93 1 yX6_restoresDebts cX6_restoresDebts 8 (some .boolean) [.ref 47, .ref a1, .int p2, .ref a3] I L R (f_X6_restoresDebts fu I R a1 a1n p2 a3) (fun x : Int32 × HI => ((some (.int x.1), x.2, L, R) : HF)) := by
  refine PCo.of (own := RX6) (by decide +kernel) (Nat.le_of_ble_eq_true rfl) rfl rfl (fun F => ?_)
  unfold f_X6_restoresDebts
  refine PWk.iload_n 2 dX6_restoresDebts_0 rfl ?_
  refine PWk.istore [(4, .int p2), (0, .ref 47), (1, .ref a1), (2, .int p2), (3, .ref a3)] dX6_restoresDebts_1 (by decide) rfl ?_
  refine PWk.iconst (v := 0) dX6_restoresDebts_3 ic_0 ?_
  refine PWk.istore [(5, .int 0), (4, .int p2), (0, .ref 47), (1, .ref a1), (2, .int p2), (3, .ref a3)] dX6_restoresDebts_4 (by decide) rfl ?_
  refine PWk.sub [3, 5, 1, 0] rfl ?_
  refine PWk.loopS (fun N' hx' hr' => lp_X6_restoresDebts_6 fu a1 a1n hl_a1 hr_a1 a3 hy_a3 L R fu p2 0 I N' F hx' hr') (fun r a e h => by cases e; exact h) (fun x13 => ?_)
  refine PWk.iconst (v := 1) dX6_restoresDebts_93 ic_1 ?_
  exact PWk.zret dX6_restoresDebts_94 rfl (fun h => h)
/-! LakeMarket$Picture.draw(LLakeMarket$Scene;)V -/
def f_X6_draw_L105 : Nat → HI → HR → Nat → Int32 → Int32 → Option (HI)
  | 0, _, _, _, _, _ => none
  | n + 1, I, R, b1, u2, u3 =>
    gr (okLd (R b1 0)) <|
    if (I (R b1 0) 2) ≤ u3 then
      some I
    else
      ldI (I (b1 + 4)) 36 ((u2 * 6) + u3) fun v22 =>
      (f_X6_putPair I v22).bind fun x23 =>
      f_X6_draw_L105 n x23 R b1 u2 (u3 + 1)
def f_X6_draw_L92 (fu : Nat) : Nat → HI → HR → Nat → Int32 → Option (HI)
  | 0, _, _, _, _ => none
  | n + 1, I, R, b1, u2 =>
    gr (okLd (R b1 0)) <|
    if (I (R b1 0) 2) ≤ u2 then
      some I
    else
      (f_X6_draw_L105 fu I R b1 u2 0).bind fun x25 =>
      f_X6_draw_L92 fu n x25 R b1 (u2 + 1)
def f_X6_draw_L15 : Nat → HI → HR → Nat → Int32 → Option (HI)
  | 0, _, _, _, _ => none
  | n + 1, I, R, b1, u2 =>
    gr (okLd (R b1 0)) <|
    if (I (R b1 0) 3) ≤ u2 then
      some I
    else
      ldI (I (b1 + 1)) 8 u2 fun v4 =>
      (f_X6_putPair I v4).bind fun x5 =>
      (f_X9_stands x5 R b1 u2).bind fun x6 =>
      jnt (β := Int32) (fun y10 =>
        (f_X6_put x5 y10).bind fun x11 =>
        (f_X9_stands x11 R b1 u2).bind fun x12 =>
        jnt (β := Int32) (fun y16 =>
          (f_X6_put x11 y16).bind fun x17 =>
          f_X6_draw_L15 n x17 R b1 (u2 + 1)) fun j13 =>
        if x12 = 0 then
          j13 255
        else
          ldI (x11 (b1 + 3)) 8 u2 fun v14 =>
          j13 v14) fun j7 =>
      if x6 = 0 then
        j7 255
      else
        ldI (x5 (b1 + 2)) 8 u2 fun v8 =>
        j7 v8
def f_X6_draw (fu : Nat) (I : HI) (R : HR) (a1 : Nat) : Option (HI) :=
  bnd (sI I 47 1 0) fun I1 =>
  (f_X6_putPair I1 (I1 a1 1)).bind fun x2 =>
  (f_X6_draw_L15 fu x2 R a1 0).bind fun x19 =>
  (f_X6_draw_L92 fu fu x19 R a1 0).bind fun x27 =>
  (f_X6_check fu x27 48 107 (x27 47 1)).bind fun x28 =>
  (f_X6_put x27 x28).bind fun x29 =>
  some x29
set_option maxRecDepth 20000 in
theorem lp_X6_draw_105 (fu : Nat) (b1 : Nat) (hb1 : isSc b1) (u2 : Int32) (L : HL) (R : HR) : ∀ (n : Nat) (u3 : Int32) (I : HI) (N : (HI) → Prop) (F : HF), (∀ v : HI, N v → PW 1 93 2 RX6 cX6_draw 4 none 137 [(0, .ref 47), (1, .ref b1), (2, .int u2)] [] v L R F) → PWk 1 93 2 RX6 cX6_draw 4 none 105 [(0, .ref 47), (1, .ref b1), (2, .int u2), (3, .int u3)] [] I L R (f_X6_draw_L105 n I R b1 u2 u3) N F := by
  intro n
  induction n with
  | zero => intro u3 I N F hx; exact PWk.none'
  | succ n ih =>
    intro u3 I N F hx
    unfold f_X6_draw_L105
    refine PWk.iload_n 3 dX6_draw_105 rfl ?_
    refine PWk.aload_n 1 dX6_draw_106 rfl ?_
    refine PWk.getr dX6_draw_107 (rgSc_0 hb1) (lcSc hb1) fl_X6_28 rfl okLd_ne (fun hk21 => ?_)
    refine PWk.geti dX6_draw_110 (rgLd_0 (okLd_is hk21)) (lcLd (okLd_is hk21)) fl_X6_53 rfl ?_
    refine PWk.icmp_ge 137 dX6_draw_113 (by decide) (fun h24 => ?_) (fun h24 => ?_)
    · refine PWk.sub [0, 1, 2] rfl ?_
      exact PWk.done (fun h => hx _ h)
    · refine PWk.aload_n 0 dX6_draw_116 rfl ?_
      refine PWk.aload_n 1 dX6_draw_117 rfl ?_
      refine PWk.gets dX6_draw_118 (rgSc_0 hb1) (lcSc hb1) fl_X6_56 rfl (stSc_5 hb1) ?_
      refine PWk.iload_n 2 dX6_draw_121 rfl ?_
      refine PWk.bipush (v := 6) dX6_draw_122 bp_6 ?_
      refine PWk.imul dX6_draw_124 ?_
      refine PWk.iload_n 3 dX6_draw_125 rfl ?_
      refine PWk.iadd dX6_draw_126 ?_
      refine PWk.iald dX6_draw_127 (rgSc_4 hb1) (lySc_4 hb1) (fun v22 => ?_)
      refine PWk.callVvI (pc_X6_putPair I L R v22) dX6_draw_128 ml_X6_24 rfl rg_47 lc_47 vq_6 (by decide) rfl (Nat.le_of_ble_eq_true rfl) (fun x23 => ?_)
      refine PWk.iinc (v := (u3 + 1)) 3 [(3, .int (u3 + 1)), (0, .ref 47), (1, .ref b1), (2, .int u2)] dX6_draw_131 rfl (by rw [ic_1]) (by decide) rfl ?_
      refine PWk.goto 105 dX6_draw_134 (by decide) ?_
      refine PWk.sub [1, 2, 3, 0] rfl ?_
      exact ih (u3 + 1) x23 N F hx
set_option maxRecDepth 20000 in
theorem lp_X6_draw_92 (fu : Nat) (b1 : Nat) (hb1 : isSc b1) (L : HL) (R : HR) : ∀ (n : Nat) (u2 : Int32) (I : HI) (N : (HI) → Prop) (F : HF), (∀ v : HI, N v → PW 1 93 2 RX6 cX6_draw 4 none 143 [(0, .ref 47)] [] v L R F) → PWk 1 93 2 RX6 cX6_draw 4 none 92 [(0, .ref 47), (1, .ref b1), (2, .int u2)] [] I L R (f_X6_draw_L92 fu n I R b1 u2) N F := by
  intro n
  induction n with
  | zero => intro u2 I N F hx; exact PWk.none'
  | succ n ih =>
    intro u2 I N F hx
    unfold f_X6_draw_L92
    refine PWk.iload_n 2 dX6_draw_92 rfl ?_
    refine PWk.aload_n 1 dX6_draw_93 rfl ?_
    refine PWk.getr dX6_draw_94 (rgSc_0 hb1) (lcSc hb1) fl_X6_28 rfl okLd_ne (fun hk20 => ?_)
    refine PWk.geti dX6_draw_97 (rgLd_0 (okLd_is hk20)) (lcLd (okLd_is hk20)) fl_X6_53 rfl ?_
    refine PWk.icmp_ge 143 dX6_draw_100 (by decide) (fun h26 => ?_) (fun h26 => ?_)
    · refine PWk.sub [0] rfl ?_
      exact PWk.done (fun h => hx _ h)
    · refine PWk.iconst (v := 0) dX6_draw_103 ic_0 ?_
      refine PWk.istore_n [(3, .int 0), (0, .ref 47), (1, .ref b1), (2, .int u2)] dX6_draw_104 (by decide) rfl ?_
      refine PWk.sub [1, 2, 3, 0] rfl ?_
      refine PWk.loopV (fun N' hx' => lp_X6_draw_105 fu b1 hb1 u2 L R fu 0 I N' F hx') (fun x25 => ?_)
      refine PWk.iinc (v := (u2 + 1)) 2 [(2, .int (u2 + 1)), (0, .ref 47), (1, .ref b1)] dX6_draw_137 rfl (by rw [ic_1]) (by decide) rfl ?_
      refine PWk.goto 92 dX6_draw_140 (by decide) ?_
      refine PWk.sub [1, 2, 0] rfl ?_
      exact ih (u2 + 1) x25 N F hx
set_option maxRecDepth 20000 in
theorem lp_X6_draw_15 (fu : Nat) (b1 : Nat) (hb1 : isSc b1) (L : HL) (R : HR) : ∀ (n : Nat) (u2 : Int32) (I : HI) (N : (HI) → Prop) (F : HF), (∀ v : HI, N v → PW 1 93 2 RX6 cX6_draw 4 none 90 [(0, .ref 47), (1, .ref b1)] [] v L R F) → PWk 1 93 2 RX6 cX6_draw 4 none 15 [(0, .ref 47), (1, .ref b1), (2, .int u2)] [] I L R (f_X6_draw_L15 n I R b1 u2) N F := by
  intro n
  induction n with
  | zero => intro u2 I N F hx; exact PWk.none'
  | succ n ih =>
    intro u2 I N F hx
    unfold f_X6_draw_L15
    refine PWk.iload_n 2 dX6_draw_15 rfl ?_
    refine PWk.aload_n 1 dX6_draw_16 rfl ?_
    refine PWk.getr dX6_draw_17 (rgSc_0 hb1) (lcSc hb1) fl_X6_28 rfl okLd_ne (fun hk3 => ?_)
    refine PWk.geti dX6_draw_20 (rgLd_0 (okLd_is hk3)) (lcLd (okLd_is hk3)) fl_X6_32 rfl ?_
    refine PWk.icmp_ge 90 dX6_draw_23 (by decide) (fun h18 => ?_) (fun h18 => ?_)
    · refine PWk.sub [0, 1] rfl ?_
      exact PWk.done (fun h => hx _ h)
    · refine PWk.aload_n 0 dX6_draw_26 rfl ?_
      refine PWk.aload_n 1 dX6_draw_27 rfl ?_
      refine PWk.gets dX6_draw_28 (rgSc_0 hb1) (lcSc hb1) fl_X6_37 rfl (stSc_2 hb1) ?_
      refine PWk.iload_n 2 dX6_draw_31 rfl ?_
      refine PWk.iald dX6_draw_32 (rgSc_1 hb1) (lySc_1 hb1) (fun v4 => ?_)
      refine PWk.callVvI (pc_X6_putPair I L R v4) dX6_draw_33 ml_X6_24 rfl rg_47 lc_47 vq_6 (by decide) rfl (Nat.le_of_ble_eq_true rfl) (fun x5 => ?_)
      refine PWk.aload_n 0 dX6_draw_36 rfl ?_
      refine PWk.aload_n 1 dX6_draw_37 rfl ?_
      refine PWk.iload_n 2 dX6_draw_38 rfl ?_
      refine PWk.callVi (pc_X9_stands x5 L R b1 hb1 u2) dX6_draw_39 ml_X6_40 rfl (rgSc_0 hb1) (lcSc hb1) vq_9 (by decide) rfl (Nat.le_of_ble_eq_true rfl) (fun x6 => ?_)
      refine PWk.jn (pc' := 57) (lv' := fun y10 => [(0, .ref 47), (1, .ref b1), (2, .int u2)]) (st' := fun y10 => [.int y10, .ref 47]) (I' := fun y10 => x5) (L' := fun y10 => L) (R' := fun y10 => R) (fun j7 hj7 => ?_) (fun y10 => ?_)
      · refine PWk.if_eq 54 dX6_draw_42 (by decide) (fun h9 => ?_) (fun h9 => ?_)
        · refine PWk.sipush (v := 255) dX6_draw_54 sp_255 ?_
          exact hj7 255
        · refine PWk.aload_n 1 dX6_draw_45 rfl ?_
          refine PWk.gets dX6_draw_46 (rgSc_0 hb1) (lcSc hb1) fl_X6_44 rfl (stSc_3 hb1) ?_
          refine PWk.iload_n 2 dX6_draw_49 rfl ?_
          refine PWk.iald dX6_draw_50 (rgSc_2 hb1) (lySc_2 hb1) (fun v8 => ?_)
          refine PWk.goto 57 dX6_draw_51 (by decide) ?_
          exact hj7 v8
      · refine PWk.callVvI (pc_X6_put x5 L R y10) dX6_draw_57 ml_X6_47 rfl rg_47 lc_47 vq_6 (by decide) rfl (Nat.le_of_ble_eq_true rfl) (fun x11 => ?_)
        refine PWk.aload_n 0 dX6_draw_60 rfl ?_
        refine PWk.aload_n 1 dX6_draw_61 rfl ?_
        refine PWk.iload_n 2 dX6_draw_62 rfl ?_
        refine PWk.callVi (pc_X9_stands x11 L R b1 hb1 u2) dX6_draw_63 ml_X6_40 rfl (rgSc_0 hb1) (lcSc hb1) vq_9 (by decide) rfl (Nat.le_of_ble_eq_true rfl) (fun x12 => ?_)
        refine PWk.jn (pc' := 81) (lv' := fun y16 => [(0, .ref 47), (1, .ref b1), (2, .int u2)]) (st' := fun y16 => [.int y16, .ref 47]) (I' := fun y16 => x11) (L' := fun y16 => L) (R' := fun y16 => R) (fun j13 hj13 => ?_) (fun y16 => ?_)
        · refine PWk.if_eq 78 dX6_draw_66 (by decide) (fun h15 => ?_) (fun h15 => ?_)
          · refine PWk.sipush (v := 255) dX6_draw_78 sp_255 ?_
            exact hj13 255
          · refine PWk.aload_n 1 dX6_draw_69 rfl ?_
            refine PWk.gets dX6_draw_70 (rgSc_0 hb1) (lcSc hb1) fl_X6_50 rfl (stSc_4 hb1) ?_
            refine PWk.iload_n 2 dX6_draw_73 rfl ?_
            refine PWk.iald dX6_draw_74 (rgSc_3 hb1) (lySc_3 hb1) (fun v14 => ?_)
            refine PWk.goto 81 dX6_draw_75 (by decide) ?_
            exact hj13 v14
        · refine PWk.callVvI (pc_X6_put x11 L R y16) dX6_draw_81 ml_X6_47 rfl rg_47 lc_47 vq_6 (by decide) rfl (Nat.le_of_ble_eq_true rfl) (fun x17 => ?_)
          refine PWk.iinc (v := (u2 + 1)) 2 [(2, .int (u2 + 1)), (0, .ref 47), (1, .ref b1)] dX6_draw_84 rfl (by rw [ic_1]) (by decide) rfl ?_
          refine PWk.goto 15 dX6_draw_87 (by decide) ?_
          refine PWk.sub [1, 2, 0] rfl ?_
          exact ih (u2 + 1) x17 N F hx
set_option maxRecDepth 20000 in
theorem pc_X6_draw (fu : Nat) (I : HI) (L : HL) (R : HR) (a1 : Nat) (hy_a1 : isSc a1) : PCo 1 93 2 yX6_draw cX6_draw 4 none [.ref 47, .ref a1] I L R (f_X6_draw fu I R a1) (fun x : HI => ((none, x, L, R) : HF)) := by
  refine PCo.of (own := RX6) (by decide +kernel) (Nat.le_of_ble_eq_true rfl) rfl rfl (fun F => ?_)
  unfold f_X6_draw
  refine PWk.aload_n 0 dX6_draw_0 rfl ?_
  refine PWk.iconst (v := 0) dX6_draw_1 ic_0 ?_
  refine PWk.puti dX6_draw_2 rg_47 lc_47 fl_X6_15 fp_6_1 rfl ?_
  refine PWk.bI (fun I1 => ?_)
  refine PWk.aload_n 0 dX6_draw_5 rfl ?_
  refine PWk.aload_n 1 dX6_draw_6 rfl ?_
  refine PWk.geti dX6_draw_7 (rgSc_0 hy_a1) (lcSc hy_a1) fl_X6_19 rfl ?_
  refine PWk.callVvI (pc_X6_putPair I1 L R (I1 a1 1)) dX6_draw_10 ml_X6_24 rfl rg_47 lc_47 vq_6 (by decide) rfl (Nat.le_of_ble_eq_true rfl) (fun x2 => ?_)
  refine PWk.iconst (v := 0) dX6_draw_13 ic_0 ?_
  refine PWk.istore_n [(2, .int 0), (0, .ref 47), (1, .ref a1)] dX6_draw_14 (by decide) rfl ?_
  refine PWk.sub [1, 2, 0] rfl ?_
  refine PWk.loopV (fun N' hx' => lp_X6_draw_15 fu a1 hy_a1 L R fu 0 x2 N' F hx') (fun x19 => ?_)
  refine PWk.iconst (v := 0) dX6_draw_90 ic_0 ?_
  refine PWk.istore_n [(2, .int 0), (0, .ref 47), (1, .ref a1)] dX6_draw_91 (by decide) rfl ?_
  refine PWk.sub [1, 2, 0] rfl ?_
  refine PWk.loopV (fun N' hx' => lp_X6_draw_92 fu a1 hy_a1 L R fu 0 x19 N' F hx') (fun x27 => ?_)
  refine PWk.aload_n 0 dX6_draw_143 rfl ?_
  refine PWk.aload_n 0 dX6_draw_144 rfl ?_
  refine PWk.gets dX6_draw_145 rg_47 lc_47 fl_X6_11 rfl st_47_0 ?_
  refine PWk.aload_n 0 dX6_draw_148 rfl ?_
  refine PWk.geti dX6_draw_149 rg_47 lc_47 fl_X6_15 rfl ?_
  refine PWk.callSi (pc_X6_check fu x27 L R 48 107 ly_48 rg_48 (x27 47 1)) dX6_draw_152 ml_X6_59 rfl (by decide) rfl (Nat.le_of_ble_eq_true rfl) (fun x28 => ?_)
  refine PWk.callVvI (pc_X6_put x27 L R x28) dX6_draw_155 ml_X6_47 rfl rg_47 lc_47 vq_6 (by decide) rfl (Nat.le_of_ble_eq_true rfl) (fun x29 => ?_)
  exact PWk.vret dX6_draw_158 rfl (fun h => h)
/-! LakeMarket$Picture.restoresLakes([ILLakeMarket$Scene;)Z -/
def f_X6_restoresLakes_L90 (fu : Nat) : Nat → HI → HR → Nat → Int32 → Option ((Int32 × HI) ⊕ (Unit))
  | 0, _, _, _, _ => none
  | n + 1, I, R, b2, u3 =>
    gr (okLd (R b2 0)) <|
    if (I (R b2 0) 1) ≤ u3 then
      some (.inr ())
    else
      (f_X9_roomIn fu I R b2 u3).bind fun x17 =>
      if 0 ≤ x17 then
        f_X6_restoresLakes_L90 fu n I R b2 (u3 + 1)
      else
        gz 0 (some (.inl (0, I)))
def f_X6_restoresLakes_L2 : Nat → HI → HR → Nat → Nat → Nat → Int32 → Option ((Int32 × HI) ⊕ (HI))
  | 0, _, _, _, _, _, _ => none
  | n + 1, I, R, b1, b1n, b2, u3 =>
    gr (okLd (R b2 0)) <|
    if (I (R b2 0) 3) ≤ u3 then
      some (.inr I)
    else
      bnd ((2 + (4 * u3))) fun v2 =>
      (f_X6_pair I b1 b1n v2).bind fun x3 =>
      ldI (I b1) b1n (v2 + 2) fun v4 =>
      ldI (I b1) b1n (v2 + 3) fun v5 =>
      (f_X6_isLakeRow I R x3 v4 v5 b2).bind fun x6 =>
      if x6 = 0 then
        gz 0 (some (.inl (0, I)))
      else
        ldI (I b1) b1n (v2 + 2) fun v7 =>
        inb 8 u3 <|
        bnd (sI I (b2 + 2) (u3 : Int32).toNatClampNeg v7) fun I8 =>
        ldI (I8 b1) b1n (v2 + 3) fun v9 =>
        inb 8 u3 <|
        bnd (sI I8 (b2 + 3) (u3 : Int32).toNatClampNeg v9) fun I10 =>
        (f_X6_pair I10 b1 b1n v2).bind fun x11 =>
        (f_X9_setBarrels I10 b2 u3 x11).bind fun x12 =>
        f_X6_restoresLakes_L2 n x12 R b1 b1n b2 (u3 + 1)
def f_X6_restoresLakes (fu : Nat) (I : HI) (R : HR) (a1 : Nat) (a1n : Nat) (a2 : Nat) : Option (Int32 × HI) :=
  (f_X6_restoresLakes_L2 fu I R a1 a1n a2 0).bind (Sum.elim (fun r => some r) fun x15 =>
  (f_X6_restoresLakes_L90 fu fu x15 R a2 0).bind (Sum.elim (fun r => some r) fun x20 =>
  gz 1 (some (1, x15))))
set_option maxRecDepth 20000 in
theorem lp_X6_restoresLakes_90 (fu : Nat) (b2 : Nat) (hb2 : isSc b2) (I : HI) (L : HL) (R : HR) : ∀ (n : Nat) (u3 : Int32) (N : ((Int32 × HI) ⊕ (Unit)) → Prop) (F : HF), (∀ v : Unit, N (.inr v) → PW 1 93 2 RX6 cX6_restoresLakes 5 (some .boolean) 117 [] [] I L R F) → (∀ r : Int32 × HI, N (.inl r) → F = (fun x : Int32 × HI => ((some (.int x.1), x.2, L, R) : HF)) r) → PWk 1 93 2 RX6 cX6_restoresLakes 5 (some .boolean) 90 [(2, .ref b2), (3, .int u3)] [] I L R (f_X6_restoresLakes_L90 fu n I R b2 u3) N F := by
  intro n
  induction n with
  | zero => intro u3 N F hx hr; exact PWk.none'
  | succ n ih =>
    intro u3 N F hx hr
    unfold f_X6_restoresLakes_L90
    refine PWk.iload_n 1 dX6_restoresLakes_90 rfl ?_
    refine PWk.aload_n 0 dX6_restoresLakes_91 rfl ?_
    refine PWk.getr dX6_restoresLakes_92 (rgSc_0 hb2) (lcSc hb2) fl_X6_28 rfl okLd_ne (fun hk16 => ?_)
    refine PWk.geti dX6_restoresLakes_95 (rgLd_0 (okLd_is hk16)) (lcLd (okLd_is hk16)) fl_X6_86 rfl ?_
    refine PWk.icmp_ge 117 dX6_restoresLakes_98 (by decide) (fun h19 => ?_) (fun h19 => ?_)
    · refine PWk.sub [] rfl ?_
      exact PWk.done (fun h => hx _ h)
    · refine PWk.aload_n 0 dX6_restoresLakes_101 rfl ?_
      refine PWk.iload_n 1 dX6_restoresLakes_102 rfl ?_
      refine PWk.callVi (pc_X9_roomIn fu I L R b2 hb2 u3) dX6_restoresLakes_103 ml_X6_89 rfl (rgSc_0 hb2) (lcSc hb2) vq_9 (by decide) rfl (Nat.le_of_ble_eq_true rfl) (fun x17 => ?_)
      refine PWk.if_ge 111 dX6_restoresLakes_106 (by decide) (fun h18 => ?_) (fun h18 => ?_)
      · refine PWk.iinc (v := (u3 + 1)) 1 [(3, .int (u3 + 1)), (2, .ref b2)] dX6_restoresLakes_111 rfl (by rw [ic_1]) (by decide) rfl ?_
        refine PWk.goto 90 dX6_restoresLakes_114 (by decide) ?_
        refine PWk.sub [1, 0] rfl ?_
        exact ih (u3 + 1) N F hx hr
      · refine PWk.iconst (v := 0) dX6_restoresLakes_109 ic_0 ?_
        exact PWk.zret dX6_restoresLakes_110 rfl (hr _)
set_option maxRecDepth 20000 in
theorem lp_X6_restoresLakes_2 (fu : Nat) (b1 b1n : Nat) (hl1 : lay b1 = (13, b1n)) (hr1 : 1 ≤ b1 ∧ b1 < 93) (b2 : Nat) (hb2 : isSc b2) (L : HL) (R : HR) : ∀ (n : Nat) (u3 : Int32) (I : HI) (N : ((Int32 × HI) ⊕ (HI)) → Prop) (F : HF), (∀ v : HI, N (.inr v) → PW 1 93 2 RX6 cX6_restoresLakes 5 (some .boolean) 88 [(2, .ref b2)] [] v L R F) → (∀ r : Int32 × HI, N (.inl r) → F = (fun x : Int32 × HI => ((some (.int x.1), x.2, L, R) : HF)) r) → PWk 1 93 2 RX6 cX6_restoresLakes 5 (some .boolean) 2 [(1, .ref b1), (2, .ref b2), (3, .int u3)] [] I L R (f_X6_restoresLakes_L2 n I R b1 b1n b2 u3) N F := by
  intro n
  induction n with
  | zero => intro u3 I N F hx hr; exact PWk.none'
  | succ n ih =>
    intro u3 I N F hx hr
    unfold f_X6_restoresLakes_L2
    refine PWk.iload_n 2 dX6_restoresLakes_2 rfl ?_
    refine PWk.aload_n 1 dX6_restoresLakes_3 rfl ?_
    refine PWk.getr dX6_restoresLakes_4 (rgSc_0 hb2) (lcSc hb2) fl_X6_28 rfl okLd_ne (fun hk1 => ?_)
    refine PWk.geti dX6_restoresLakes_7 (rgLd_0 (okLd_is hk1)) (lcLd (okLd_is hk1)) fl_X6_32 rfl ?_
    refine PWk.icmp_ge 88 dX6_restoresLakes_10 (by decide) (fun h14 => ?_) (fun h14 => ?_)
    · refine PWk.sub [1] rfl ?_
      exact PWk.done (fun h => hx _ h)
    · refine PWk.iconst (v := 2) dX6_restoresLakes_13 ic_2 ?_
      refine PWk.iconst (v := 4) dX6_restoresLakes_14 ic_4 ?_
      refine PWk.iload_n 2 dX6_restoresLakes_15 rfl ?_
      refine PWk.imul dX6_restoresLakes_16 ?_
      refine PWk.iadd dX6_restoresLakes_17 ?_
      refine PWk.bi (fun v2 => ?_)
      refine PWk.istore [(4, .int v2), (1, .ref b1), (2, .ref b2), (3, .int u3)] dX6_restoresLakes_18 (by decide) rfl ?_
      refine PWk.aload_n 1 dX6_restoresLakes_20 rfl ?_
      refine PWk.iload 0 dX6_restoresLakes_21 rfl ?_
      refine PWk.callSi (pc_X6_pair I L R b1 b1n hl1 hr1 v2) dX6_restoresLakes_23 ml_X6_67 rfl (by decide) rfl (Nat.le_of_ble_eq_true rfl) (fun x3 => ?_)
      refine PWk.aload_n 1 dX6_restoresLakes_26 rfl ?_
      refine PWk.iload 0 dX6_restoresLakes_27 rfl ?_
      refine PWk.iconst (v := 2) dX6_restoresLakes_29 ic_2 ?_
      refine PWk.iadd dX6_restoresLakes_30 ?_
      refine PWk.iald dX6_restoresLakes_31 hr1 hl1 (fun v4 => ?_)
      refine PWk.aload_n 1 dX6_restoresLakes_32 rfl ?_
      refine PWk.iload 0 dX6_restoresLakes_33 rfl ?_
      refine PWk.iconst (v := 3) dX6_restoresLakes_35 ic_3 ?_
      refine PWk.iadd dX6_restoresLakes_36 ?_
      refine PWk.iald dX6_restoresLakes_37 hr1 hl1 (fun v5 => ?_)
      refine PWk.aload_n 2 dX6_restoresLakes_38 rfl ?_
      refine PWk.callSi (pc_X6_isLakeRow I L R x3 v4 v5 b2 hb2) dX6_restoresLakes_39 ml_X6_78 rfl (by decide) rfl (Nat.le_of_ble_eq_true rfl) (fun x6 => ?_)
      refine PWk.if_ne 47 dX6_restoresLakes_42 (by decide) (fun h13 => ?_) (fun h13 => ?_)
      · refine PWk.iconst (v := 0) dX6_restoresLakes_45 ic_0 ?_
        exact PWk.zret dX6_restoresLakes_46 rfl (hr _)
      · refine PWk.aload_n 2 dX6_restoresLakes_47 rfl ?_
        refine PWk.gets dX6_restoresLakes_48 (rgSc_0 hb2) (lcSc hb2) fl_X6_44 rfl (stSc_3 hb2) ?_
        refine PWk.iload_n 3 dX6_restoresLakes_51 rfl ?_
        refine PWk.aload_n 1 dX6_restoresLakes_52 rfl ?_
        refine PWk.iload 0 dX6_restoresLakes_53 rfl ?_
        refine PWk.iconst (v := 2) dX6_restoresLakes_55 ic_2 ?_
        refine PWk.iadd dX6_restoresLakes_56 ?_
        refine PWk.iald dX6_restoresLakes_57 hr1 hl1 (fun v7 => ?_)
        refine PWk.iast dX6_restoresLakes_58 (rgSc_2 hb2) (lySc_2 hb2) ?_
        refine PWk.bI (fun I8 => ?_)
        refine PWk.aload_n 2 dX6_restoresLakes_59 rfl ?_
        refine PWk.gets dX6_restoresLakes_60 (rgSc_0 hb2) (lcSc hb2) fl_X6_50 rfl (stSc_4 hb2) ?_
        refine PWk.iload_n 3 dX6_restoresLakes_63 rfl ?_
        refine PWk.aload_n 1 dX6_restoresLakes_64 rfl ?_
        refine PWk.iload 0 dX6_restoresLakes_65 rfl ?_
        refine PWk.iconst (v := 3) dX6_restoresLakes_67 ic_3 ?_
        refine PWk.iadd dX6_restoresLakes_68 ?_
        refine PWk.iald dX6_restoresLakes_69 hr1 hl1 (fun v9 => ?_)
        refine PWk.iast dX6_restoresLakes_70 (rgSc_3 hb2) (lySc_3 hb2) ?_
        refine PWk.bI (fun I10 => ?_)
        refine PWk.aload_n 2 dX6_restoresLakes_71 rfl ?_
        refine PWk.iload_n 3 dX6_restoresLakes_72 rfl ?_
        refine PWk.aload_n 1 dX6_restoresLakes_73 rfl ?_
        refine PWk.iload 0 dX6_restoresLakes_74 rfl ?_
        refine PWk.callSi (pc_X6_pair I10 L R b1 b1n hl1 hr1 v2) dX6_restoresLakes_76 ml_X6_67 rfl (by decide) rfl (Nat.le_of_ble_eq_true rfl) (fun x11 => ?_)
        refine PWk.callVvI (pc_X9_setBarrels I10 L R b2 hb2 u3 x11) dX6_restoresLakes_79 ml_X6_82 rfl (rgSc_0 hb2) (lcSc hb2) vq_9 (by decide) rfl (Nat.le_of_ble_eq_true rfl) (fun x12 => ?_)
        refine PWk.iinc (v := (u3 + 1)) 3 [(3, .int (u3 + 1)), (4, .int v2), (1, .ref b1), (2, .ref b2)] dX6_restoresLakes_82 rfl (by rw [ic_1]) (by decide) rfl ?_
        refine PWk.goto 2 dX6_restoresLakes_85 (by decide) ?_
        refine PWk.sub [2, 3, 0] rfl ?_
        exact ih (u3 + 1) x12 N F hx hr
set_option maxRecDepth 20000 in
theorem pc_X6_restoresLakes (fu : Nat) (I : HI) (L : HL) (R : HR) (a1 : Nat) (a1n : Nat) (hl_a1 : lay a1 = (13, a1n)) (hr_a1 : 1 ≤ a1 ∧ a1 < 93) (a2 : Nat) (hy_a2 : isSc a2) : PCo 1 93 2 yX6_restoresLakes cX6_restoresLakes 5 (some .boolean) [.ref 47, .ref a1, .ref a2] I L R (f_X6_restoresLakes fu I R a1 a1n a2) (fun x : Int32 × HI => ((some (.int x.1), x.2, L, R) : HF)) := by
  refine PCo.of (own := RX6) (by decide +kernel) (Nat.le_of_ble_eq_true rfl) rfl rfl (fun F => ?_)
  unfold f_X6_restoresLakes
  refine PWk.iconst (v := 0) dX6_restoresLakes_0 ic_0 ?_
  refine PWk.istore_n [(3, .int 0), (0, .ref 47), (1, .ref a1), (2, .ref a2)] dX6_restoresLakes_1 (by decide) rfl ?_
  refine PWk.sub [2, 3, 0] rfl ?_
  refine PWk.loopS (fun N' hx' hr' => lp_X6_restoresLakes_2 fu a1 a1n hl_a1 hr_a1 a2 hy_a2 L R fu 0 I N' F hx' hr') (fun r a e h => by cases e; exact h) (fun x15 => ?_)
  refine PWk.iconst (v := 0) dX6_restoresLakes_88 ic_0 ?_
  refine PWk.istore_n [(3, .int 0), (2, .ref a2)] dX6_restoresLakes_89 (by decide) rfl ?_
  refine PWk.sub [1, 0] rfl ?_
  refine PWk.loopS (fun N' hx' hr' => lp_X6_restoresLakes_90 fu a2 hy_a2 x15 L R fu 0 N' F hx' hr') (fun r a e h => by cases e; exact h) (fun x20 => ?_)
  refine PWk.iconst (v := 1) dX6_restoresLakes_117 ic_1 ?_
  exact PWk.zret dX6_restoresLakes_118 rfl (fun h => h)
/-! LakeMarket$Picture.restores([IILLakeMarket$Scene;)Z -/
def f_X6_restores (fu : Nat) (I : HI) (R : HR) (a1 : Nat) (a1n : Nat) (p2 : Int32) (a3 : Nat) : Option (Int32 × HI) :=
  gr (okLd (R a3 0)) <|
  (f_X6_sizeFor I (R a3 0)).bind fun x2 =>
  if p2 = x2 then
    ldI (I a1) a1n (p2 - 1) fun v3 =>
    (f_X6_check fu I a1 a1n (p2 - 1)).bind fun x4 =>
    if v3 = x4 then
      (f_X6_pair I a1 a1n 0).bind fun x5 =>
      bnd (sI I a3 1 x5) fun I6 =>
      bnd ((2 + (4 * (I6 (R a3 0) 3)))) fun v7 =>
      if 9999 < (I6 a3 1) then
        gz 0 (some (0, I6))
      else
        (f_X6_restoresLakes fu I6 R a1 a1n a3).bind fun x8 =>
        if x8.1 = 0 then
          gz 0 (some (0, x8.2))
        else
          (f_X6_restoresDebts fu x8.2 R a1 a1n v7 a3).bind fun x9 =>
          if x9.1 = 0 then
            gz 0 (some (0, x9.2))
          else
            gz 1 (some (1, x9.2))
    else
      gz 0 (some (0, I))
  else
    gz 0 (some (0, I))
set_option maxRecDepth 20000 in
theorem pc_X6_restores (fu : Nat) (I : HI) (L : HL) (R : HR) (a1 : Nat) (a1n : Nat) (hl_a1 : lay a1 = (13, a1n)) (hr_a1 : 1 ≤ a1 ∧ a1 < 93) (p2 : Int32) (a3 : Nat) (hy_a3 : isSc a3) : PCo 1 93 3 yX6_restores cX6_restores 5 (some .boolean) [.ref 47, .ref a1, .int p2, .ref a3] I L R (f_X6_restores fu I R a1 a1n p2 a3) (fun x : Int32 × HI => ((some (.int x.1), x.2, L, R) : HF)) := by
  refine PCo.of (own := RX6) (by decide +kernel) (Nat.le_of_ble_eq_true rfl) rfl rfl (fun F => ?_)
  unfold f_X6_restores
  refine PWk.iload_n 2 dX6_restores_0 rfl ?_
  refine PWk.aload_n 3 dX6_restores_1 rfl ?_
  refine PWk.getr dX6_restores_2 (rgSc_0 hy_a3) (lcSc hy_a3) fl_X6_28 rfl okLd_ne (fun hk1 => ?_)
  refine PWk.callSi (pc_X6_sizeFor I L R (R a3 0) (okLd_is hk1)) dX6_restores_5 ml_X6_63 rfl (by decide) rfl (Nat.le_of_ble_eq_true rfl) (fun x2 => ?_)
  refine PWk.icmp_ne 26 dX6_restores_8 (by decide) (fun h14 => ?_) (fun h14 => ?_)
  · refine PWk.aload_n 1 dX6_restores_11 rfl ?_
    refine PWk.iload_n 2 dX6_restores_12 rfl ?_
    refine PWk.iconst (v := 1) dX6_restores_13 ic_1 ?_
    refine PWk.isub dX6_restores_14 ?_
    refine PWk.iald dX6_restores_15 hr_a1 hl_a1 (fun v3 => ?_)
    refine PWk.aload_n 1 dX6_restores_16 rfl ?_
    refine PWk.iload_n 2 dX6_restores_17 rfl ?_
    refine PWk.iconst (v := 1) dX6_restores_18 ic_1 ?_
    refine PWk.isub dX6_restores_19 ?_
    refine PWk.callSi (pc_X6_check fu I L R a1 a1n hl_a1 hr_a1 (p2 - 1)) dX6_restores_20 ml_X6_59 rfl (by decide) rfl (Nat.le_of_ble_eq_true rfl) (fun x4 => ?_)
    refine PWk.icmp_eq 28 dX6_restores_23 (by decide) (fun h13 => ?_) (fun h13 => ?_)
    · refine PWk.aload_n 3 dX6_restores_28 rfl ?_
      refine PWk.aload_n 1 dX6_restores_29 rfl ?_
      refine PWk.iconst (v := 0) dX6_restores_30 ic_0 ?_
      refine PWk.callSi (pc_X6_pair I L R a1 a1n hl_a1 hr_a1 0) dX6_restores_31 ml_X6_67 rfl (by decide) rfl (Nat.le_of_ble_eq_true rfl) (fun x5 => ?_)
      refine PWk.puti dX6_restores_34 (rgSc_0 hy_a3) (lcSc hy_a3) fl_X6_19 fp_9_1 rfl ?_
      refine PWk.bI (fun I6 => ?_)
      refine PWk.iconst (v := 2) dX6_restores_37 ic_2 ?_
      refine PWk.iconst (v := 4) dX6_restores_38 ic_4 ?_
      refine PWk.aload_n 3 dX6_restores_39 rfl ?_
      refine PWk.getrk dX6_restores_40 (rgSc_0 hy_a3) (lcSc hy_a3) fl_X6_28 rfl (neLd (okLd_is hk1)) ?_
      refine PWk.geti dX6_restores_43 (rgLd_0 (okLd_is hk1)) (lcLd (okLd_is hk1)) fl_X6_32 rfl ?_
      refine PWk.imul dX6_restores_46 ?_
      refine PWk.iadd dX6_restores_47 ?_
      refine PWk.bi (fun v7 => ?_)
      refine PWk.istore [(4, .int v7), (0, .ref 47), (1, .ref a1), (2, .int p2), (3, .ref a3)] dX6_restores_48 (by decide) rfl ?_
      refine PWk.aload_n 4 dX6_restores_50 rfl ?_
      refine PWk.geti dX6_restores_51 (rgSc_0 hy_a3) (lcSc hy_a3) fl_X6_19 rfl ?_
      refine PWk.sipush (v := 9999) dX6_restores_54 sp_9999 ?_
      refine PWk.icmp_gt 84 dX6_restores_57 (by decide) (fun h12 => ?_) (fun h12 => ?_)
      · refine PWk.iconst (v := 0) dX6_restores_84 ic_0 ?_
        exact PWk.zret dX6_restores_85 rfl (fun h => h)
      · refine PWk.aload_n 1 dX6_restores_60 rfl ?_
        refine PWk.aload_n 2 dX6_restores_61 rfl ?_
        refine PWk.aload_n 4 dX6_restores_62 rfl ?_
        refine PWk.callViI (pc_X6_restoresLakes fu I6 L R a1 a1n hl_a1 hr_a1 a3 hy_a3) dX6_restores_63 ml_X6_70 rfl rg_47 lc_47 vq_6 (by decide) rfl (Nat.le_of_ble_eq_true rfl) (fun x8 => ?_)
        refine PWk.if_eq 84 dX6_restores_66 (by decide) (fun h11 => ?_) (fun h11 => ?_)
        · refine PWk.iconst (v := 0) dX6_restores_84 ic_0 ?_
          exact PWk.zret dX6_restores_85 rfl (fun h => h)
        · refine PWk.aload_n 1 dX6_restores_69 rfl ?_
          refine PWk.aload_n 2 dX6_restores_70 rfl ?_
          refine PWk.iload 0 dX6_restores_71 rfl ?_
          refine PWk.aload_n 4 dX6_restores_73 rfl ?_
          refine PWk.callViI (pc_X6_restoresDebts fu x8.2 L R a1 a1n hl_a1 hr_a1 v7 a3 hy_a3) dX6_restores_74 ml_X6_74 rfl rg_47 lc_47 vq_6 (by decide) rfl (Nat.le_of_ble_eq_true rfl) (fun x9 => ?_)
          refine PWk.if_eq 84 dX6_restores_77 (by decide) (fun h10 => ?_) (fun h10 => ?_)
          · refine PWk.iconst (v := 0) dX6_restores_84 ic_0 ?_
            exact PWk.zret dX6_restores_85 rfl (fun h => h)
          · refine PWk.iconst (v := 1) dX6_restores_80 ic_1 ?_
            refine PWk.goto 85 dX6_restores_81 (by decide) ?_
            exact PWk.zret dX6_restores_85 rfl (fun h => h)
    · refine PWk.iconst (v := 0) dX6_restores_26 ic_0 ?_
      exact PWk.zret dX6_restores_27 rfl (fun h => h)
  · refine PWk.iconst (v := 0) dX6_restores_26 ic_0 ?_
    exact PWk.zret dX6_restores_27 rfl (fun h => h)
