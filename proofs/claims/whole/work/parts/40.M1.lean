/-! LakeMarketModel.is(III)Z -/
def f_X12_is (p0 : Int32) (p1 : Int32) (p2 : Int32) : Option (Int32) :=
  if p0 < p1 then
    gz 0 (some 0)
  else
    if p2 < p0 then
      gz 0 (some 0)
    else
      gz 1 (some 1)
set_option maxRecDepth 20000 in
theorem pc_X12_is (I : HI) (L : HL) (R : HR) (p0 : Int32) (p1 : Int32) (p2 : Int32) : PCo 100 147 0 yX12_is cX12_is 3 (some .boolean) [.int p0, .int p1, .int p2] I L R (f_X12_is p0 p1 p2) (fun x : Int32 => ((some (.int x), I, L, R) : HF)) := by
  refine PCo.of (own := RX12) (by decide +kernel) (Nat.le_of_ble_eq_true rfl) rfl rfl (fun F => ?_)
  unfold f_X12_is
  refine PWk.iload_n 0 dX12_is_0 rfl ?_
  refine PWk.iload_n 1 dX12_is_1 rfl ?_
  refine PWk.icmp_lt 14 dX12_is_2 (by decide) (fun h2 => ?_) (fun h2 => ?_)
  · refine PWk.iconst (v := 0) dX12_is_14 ic_0 ?_
    exact PWk.zret dX12_is_15 rfl (fun h => h)
  · refine PWk.iload_n 0 dX12_is_5 rfl ?_
    refine PWk.iload_n 2 dX12_is_6 rfl ?_
    refine PWk.icmp_gt 14 dX12_is_7 (by decide) (fun h1 => ?_) (fun h1 => ?_)
    · refine PWk.iconst (v := 0) dX12_is_14 ic_0 ?_
      exact PWk.zret dX12_is_15 rfl (fun h => h)
    · refine PWk.iconst (v := 1) dX12_is_10 ic_1 ?_
      refine PWk.goto 15 dX12_is_11 (by decide) ?_
      exact PWk.zret dX12_is_15 rfl (fun h => h)
/-! LakeMarketModel.put(I)V -/
def f_X12_put_L3 : Nat → HI → Int32 → Int32 → Option (HI)
  | 0, _, _, _ => none
  | n + 1, I, u1, u2 =>
    if u2 < 0 then
      some I
    else
      inb 1800 (I 100 1) <|
      bnd (sI I 101 ((I 100 1) : Int32).toNatClampNeg ((u1 >>> (u2 &&& 31)) &&& 255)) fun I1 =>
      bnd (sI I1 100 1 ((I1 100 1) + 1)) fun I2 =>
      f_X12_put_L3 n I2 u1 (u2 + (-8))
def f_X12_put (fu : Nat) (I : HI) (p1 : Int32) : Option (HI) :=
  (f_X12_put_L3 fu I p1 24).bind fun x4 =>
  some x4
set_option maxRecDepth 20000 in
theorem lp_X12_put_3 (fu : Nat) (u1 : Int32) (L : HL) (R : HR) : ∀ (n : Nat) (u2 : Int32) (I : HI) (N : (HI) → Prop) (F : HF), (∀ v : HI, N v → PW 100 147 0 RX12 cX12_put 3 none 39 [] [] v L R F) → PWk 100 147 0 RX12 cX12_put 3 none 3 [(0, .ref 100), (1, .int u1), (2, .int u2)] [] I L R (f_X12_put_L3 n I u1 u2) N F := by
  intro n
  induction n with
  | zero => intro u2 I N F hx; exact PWk.none'
  | succ n ih =>
    intro u2 I N F hx
    unfold f_X12_put_L3
    refine PWk.iload_n 2 dX12_put_3 rfl ?_
    refine PWk.if_lt 39 dX12_put_4 (by decide) (fun h3 => ?_) (fun h3 => ?_)
    · refine PWk.sub [] rfl ?_
      exact PWk.done (fun h => hx _ h)
    · refine PWk.aload_n 0 dX12_put_7 rfl ?_
      refine PWk.gets dX12_put_8 rg_100 lc_100 fl_X12_7 rfl st_100_0 ?_
      refine PWk.aload_n 0 dX12_put_11 rfl ?_
      refine PWk.geti dX12_put_12 rg_100 lc_100 fl_X12_13 rfl ?_
      refine PWk.iload_n 1 dX12_put_15 rfl ?_
      refine PWk.iload_n 2 dX12_put_16 rfl ?_
      refine PWk.ishr dX12_put_17 ?_
      refine PWk.sipush (v := 255) dX12_put_18 sp_255 ?_
      refine PWk.iand dX12_put_21 ?_
      refine PWk.iast dX12_put_22 rg_101 ly_101 ?_
      refine PWk.bI (fun I1 => ?_)
      refine PWk.aload_n 0 dX12_put_23 rfl ?_
      refine PWk.dup dX12_put_24 rfl ?_
      refine PWk.geti dX12_put_25 rg_100 lc_100 fl_X12_13 rfl ?_
      refine PWk.iconst (v := 1) dX12_put_28 ic_1 ?_
      refine PWk.iadd dX12_put_29 ?_
      refine PWk.puti dX12_put_30 rg_100 lc_100 fl_X12_13 fp_12_1 rfl ?_
      refine PWk.bI (fun I2 => ?_)
      refine PWk.iinc (v := (u2 + (-8))) 2 [(2, .int (u2 + (-8))), (0, .ref 100), (1, .int u1)] dX12_put_33 rfl (by rw [ic_m8]) (by decide) rfl ?_
      refine PWk.goto 3 dX12_put_36 (by decide) ?_
      refine PWk.sub [1, 2, 0] rfl ?_
      exact ih (u2 + (-8)) I2 N F hx
set_option maxRecDepth 20000 in
theorem pc_X12_put (fu : Nat) (I : HI) (L : HL) (R : HR) (p1 : Int32) : PCo 100 147 0 yX12_put cX12_put 3 none [.ref 100, .int p1] I L R (f_X12_put fu I p1) (fun x : HI => ((none, x, L, R) : HF)) := by
  refine PCo.of (own := RX12) (by decide +kernel) (Nat.le_of_ble_eq_true rfl) rfl rfl (fun F => ?_)
  unfold f_X12_put
  refine PWk.bipush (v := 24) dX12_put_0 bp_24 ?_
  refine PWk.istore_n [(2, .int 24), (0, .ref 100), (1, .int p1)] dX12_put_2 (by decide) rfl ?_
  refine PWk.sub [1, 2, 0] rfl ?_
  refine PWk.loopV (fun N' hx' => lp_X12_put_3 fu p1 L R fu 24 I N' F hx') (fun x4 => ?_)
  exact PWk.vret dX12_put_39 rfl (fun h => h)
/-! LakeMarketModel.blame(II)V -/
def f_X12_blame (I : HI) (p1 : Int32) (p2 : Int32) : Option (HI) :=
  if (I 100 8) ≤ 0 then
    bnd (sI I 100 8 p1) fun I1 =>
    bnd (sI I1 100 9 p2) fun I2 =>
    some I2
  else
    some I
set_option maxRecDepth 20000 in
theorem pc_X12_blame (I : HI) (L : HL) (R : HR) (p1 : Int32) (p2 : Int32) : PCo 100 147 0 yX12_blame cX12_blame 3 none [.ref 100, .int p1, .int p2] I L R (f_X12_blame I p1 p2) (fun x : HI => ((none, x, L, R) : HF)) := by
  refine PCo.of (own := RX12) (by decide +kernel) (Nat.le_of_ble_eq_true rfl) rfl rfl (fun F => ?_)
  unfold f_X12_blame
  refine PWk.aload_n 0 dX12_blame_0 rfl ?_
  refine PWk.geti dX12_blame_1 rg_100 lc_100 fl_X12_36 rfl ?_
  refine PWk.if_le 8 dX12_blame_4 (by decide) (fun h3 => ?_) (fun h3 => ?_)
  · refine PWk.aload_n 0 dX12_blame_8 rfl ?_
    refine PWk.iload_n 1 dX12_blame_9 rfl ?_
    refine PWk.puti dX12_blame_10 rg_100 lc_100 fl_X12_36 fp_12_8 rfl ?_
    refine PWk.bI (fun I1 => ?_)
    refine PWk.aload_n 0 dX12_blame_13 rfl ?_
    refine PWk.iload_n 2 dX12_blame_14 rfl ?_
    refine PWk.puti dX12_blame_15 rg_100 lc_100 fl_X12_39 fp_12_9 rfl ?_
    refine PWk.bI (fun I2 => ?_)
    exact PWk.vret dX12_blame_18 rfl (fun h => h)
  · exact PWk.vret dX12_blame_7 rfl (fun h => h)
/-! LakeMarketModel.isLetter(I)Z -/
def f_X12_isLetter (p0 : Int32) : Option (Int32) :=
  if p0 < 97 then
    gz 0 (some 0)
  else
    if 122 < p0 then
      gz 0 (some 0)
    else
      gz 1 (some 1)
set_option maxRecDepth 20000 in
theorem pc_X12_isLetter (I : HI) (L : HL) (R : HR) (p0 : Int32) : PCo 100 147 0 yX12_isLetter cX12_isLetter 1 (some .boolean) [.int p0] I L R (f_X12_isLetter p0) (fun x : Int32 => ((some (.int x), I, L, R) : HF)) := by
  refine PCo.of (own := RX12) (by decide +kernel) (Nat.le_of_ble_eq_true rfl) rfl rfl (fun F => ?_)
  unfold f_X12_isLetter
  refine PWk.iload_n 0 dX12_isLetter_0 rfl ?_
  refine PWk.bipush (v := 97) dX12_isLetter_1 bp_97 ?_
  refine PWk.icmp_lt 16 dX12_isLetter_3 (by decide) (fun h2 => ?_) (fun h2 => ?_)
  · refine PWk.iconst (v := 0) dX12_isLetter_16 ic_0 ?_
    exact PWk.zret dX12_isLetter_17 rfl (fun h => h)
  · refine PWk.iload_n 0 dX12_isLetter_6 rfl ?_
    refine PWk.bipush (v := 122) dX12_isLetter_7 bp_122 ?_
    refine PWk.icmp_gt 16 dX12_isLetter_9 (by decide) (fun h1 => ?_) (fun h1 => ?_)
    · refine PWk.iconst (v := 0) dX12_isLetter_16 ic_0 ?_
      exact PWk.zret dX12_isLetter_17 rfl (fun h => h)
    · refine PWk.iconst (v := 1) dX12_isLetter_12 ic_1 ?_
      refine PWk.goto 17 dX12_isLetter_13 (by decide) ?_
      exact PWk.zret dX12_isLetter_17 rfl (fun h => h)
/-! LakeMarketModel.isDigit(I)Z -/
def f_X12_isDigit (p0 : Int32) : Option (Int32) :=
  if p0 < 48 then
    gz 0 (some 0)
  else
    if 57 < p0 then
      gz 0 (some 0)
    else
      gz 1 (some 1)
set_option maxRecDepth 20000 in
theorem pc_X12_isDigit (I : HI) (L : HL) (R : HR) (p0 : Int32) : PCo 100 147 0 yX12_isDigit cX12_isDigit 1 (some .boolean) [.int p0] I L R (f_X12_isDigit p0) (fun x : Int32 => ((some (.int x), I, L, R) : HF)) := by
  refine PCo.of (own := RX12) (by decide +kernel) (Nat.le_of_ble_eq_true rfl) rfl rfl (fun F => ?_)
  unfold f_X12_isDigit
  refine PWk.iload_n 0 dX12_isDigit_0 rfl ?_
  refine PWk.bipush (v := 48) dX12_isDigit_1 bp_48 ?_
  refine PWk.icmp_lt 16 dX12_isDigit_3 (by decide) (fun h2 => ?_) (fun h2 => ?_)
  · refine PWk.iconst (v := 0) dX12_isDigit_16 ic_0 ?_
    exact PWk.zret dX12_isDigit_17 rfl (fun h => h)
  · refine PWk.iload_n 0 dX12_isDigit_6 rfl ?_
    refine PWk.bipush (v := 57) dX12_isDigit_7 bp_57 ?_
    refine PWk.icmp_gt 16 dX12_isDigit_9 (by decide) (fun h1 => ?_) (fun h1 => ?_)
    · refine PWk.iconst (v := 0) dX12_isDigit_16 ic_0 ?_
      exact PWk.zret dX12_isDigit_17 rfl (fun h => h)
    · refine PWk.iconst (v := 1) dX12_isDigit_12 ic_1 ?_
      refine PWk.goto 17 dX12_isDigit_13 (by decide) ?_
      exact PWk.zret dX12_isDigit_17 rfl (fun h => h)
/-! LakeMarketModel.lex()V -/
def f_X12_lex (I : HI) : Option (HI) :=
  if (I 100 12) = (-1) then
    some I
  else
    (f_X12_blame I 1 (I 100 12)).bind fun x1 =>
    some x1
set_option maxRecDepth 20000 in
theorem pc_X12_lex (I : HI) (L : HL) (R : HR) : PCo 100 147 1 yX12_lex cX12_lex 1 none [.ref 100] I L R (f_X12_lex I) (fun x : HI => ((none, x, L, R) : HF)) := by
  refine PCo.of (own := RX12) (by decide +kernel) (Nat.le_of_ble_eq_true rfl) rfl rfl (fun F => ?_)
  unfold f_X12_lex
  refine PWk.aload_n 0 dX12_lex_0 rfl ?_
  refine PWk.geti dX12_lex_1 rg_100 lc_100 fl_X12_48 rfl ?_
  refine PWk.iconst (v := (-1)) dX12_lex_4 ic_m1 ?_
  refine PWk.icmp_eq 17 dX12_lex_5 (by decide) (fun h2 => ?_) (fun h2 => ?_)
  · exact PWk.vret dX12_lex_17 rfl (fun h => h)
  · refine PWk.aload_n 0 dX12_lex_8 rfl ?_
    refine PWk.iconst (v := 1) dX12_lex_9 ic_1 ?_
    refine PWk.aload_n 0 dX12_lex_10 rfl ?_
    refine PWk.geti dX12_lex_11 rg_100 lc_100 fl_X12_48 rfl ?_
    refine PWk.callVvI (pc_X12_blame I L R 1 (I 100 12)) dX12_lex_14 ml_X12_237 rfl rg_100 lc_100 vq_12 (by decide) rfl (Nat.le_of_ble_eq_true rfl) (fun x1 => ?_)
    exact PWk.vret dX12_lex_17 rfl (fun h => h)
/-! LakeMarketModel.isSign(I)Z -/
def f_X12_isSign (I : HI) (p1 : Int32) : Option (Int32) :=
  if (I 100 3) = 3 then
    if (I 100 6) = p1 then
      gz 1 (some 1)
    else
      gz 0 (some 0)
  else
    gz 0 (some 0)
set_option maxRecDepth 20000 in
theorem pc_X12_isSign (I : HI) (L : HL) (R : HR) (p1 : Int32) : PCo 100 147 0 yX12_isSign cX12_isSign 2 (some .boolean) [.ref 100, .int p1] I L R (f_X12_isSign I p1) (fun x : Int32 => ((some (.int x), I, L, R) : HF)) := by
  refine PCo.of (own := RX12) (by decide +kernel) (Nat.le_of_ble_eq_true rfl) rfl rfl (fun F => ?_)
  unfold f_X12_isSign
  refine PWk.aload_n 0 dX12_isSign_0 rfl ?_
  refine PWk.geti dX12_isSign_1 rg_100 lc_100 fl_X12_20 rfl ?_
  refine PWk.iconst (v := 3) dX12_isSign_4 ic_3 ?_
  refine PWk.icmp_ne 20 dX12_isSign_5 (by decide) (fun h2 => ?_) (fun h2 => ?_)
  · refine PWk.aload_n 0 dX12_isSign_8 rfl ?_
    refine PWk.geti dX12_isSign_9 rg_100 lc_100 fl_X12_29 rfl ?_
    refine PWk.iload_n 1 dX12_isSign_12 rfl ?_
    refine PWk.icmp_ne 20 dX12_isSign_13 (by decide) (fun h1 => ?_) (fun h1 => ?_)
    · refine PWk.iconst (v := 1) dX12_isSign_16 ic_1 ?_
      refine PWk.goto 21 dX12_isSign_17 (by decide) ?_
      exact PWk.zret dX12_isSign_21 rfl (fun h => h)
    · refine PWk.iconst (v := 0) dX12_isSign_20 ic_0 ?_
      exact PWk.zret dX12_isSign_21 rfl (fun h => h)
  · refine PWk.iconst (v := 0) dX12_isSign_20 ic_0 ?_
    exact PWk.zret dX12_isSign_21 rfl (fun h => h)
/-! LakeMarketModel.isWord(J)Z -/
def f_X12_isWord (I : HI) (L : HL) (p1 : Int64) : Option (Int32) :=
  if (I 100 3) = 1 then
    if (lg_cmp (L 100 7) p1) = 0 then
      gz 1 (some 1)
    else
      gz 0 (some 0)
  else
    gz 0 (some 0)
set_option maxRecDepth 20000 in
theorem pc_X12_isWord (I : HI) (L : HL) (R : HR) (p1 : Int64) : PCo 100 147 0 yX12_isWord cX12_isWord 3 (some .boolean) [.ref 100, .long p1] I L R (f_X12_isWord I L p1) (fun x : Int32 => ((some (.int x), I, L, R) : HF)) := by
  refine PCo.of (own := RX12) (by decide +kernel) (Nat.le_of_ble_eq_true rfl) rfl rfl (fun F => ?_)
  unfold f_X12_isWord
  refine PWk.aload_n 0 dX12_isWord_0 rfl ?_
  refine PWk.geti dX12_isWord_1 rg_100 lc_100 fl_X12_20 rfl ?_
  refine PWk.iconst (v := 1) dX12_isWord_4 ic_1 ?_
  refine PWk.icmp_ne 21 dX12_isWord_5 (by decide) (fun h2 => ?_) (fun h2 => ?_)
  · refine PWk.aload_n 0 dX12_isWord_8 rfl ?_
    refine PWk.getl dX12_isWord_9 rg_100 lc_100 fl_X12_32 rfl ?_
    refine PWk.lload_n 1 dX12_isWord_12 rfl ?_
    refine PWk.lcmp dX12_isWord_13 ?_
    refine PWk.if_ne 21 dX12_isWord_14 (by decide) (fun h1 => ?_) (fun h1 => ?_)
    · refine PWk.iconst (v := 1) dX12_isWord_17 ic_1 ?_
      refine PWk.goto 22 dX12_isWord_18 (by decide) ?_
      exact PWk.zret dX12_isWord_22 rfl (fun h => h)
    · refine PWk.iconst (v := 0) dX12_isWord_21 ic_0 ?_
      exact PWk.zret dX12_isWord_22 rfl (fun h => h)
  · refine PWk.iconst (v := 0) dX12_isWord_21 ic_0 ?_
    exact PWk.zret dX12_isWord_22 rfl (fun h => h)
/-! LakeMarketModel.isOwn(J)Z -/
def f_X12_isOwn (p1 : Int64) : Option (Int32) :=
  if (lg_cmp p1 114827769704311) = 0 then
    gz 1 (some 1)
  else
    if (lg_cmp p1 448545973363) = 0 then
      gz 1 (some 1)
    else
      if (lg_cmp p1 24948) = 0 then
        gz 1 (some 1)
      else
        if (lg_cmp p1 478745093490) = 0 then
          gz 1 (some 1)
        else
          if (lg_cmp p1 1818323813) = 0 then
            gz 1 (some 1)
          else
            if (lg_cmp p1 6840691) = 0 then
              gz 1 (some 1)
            else
              if (lg_cmp p1 26990) = 0 then
                gz 1 (some 1)
              else
                if (lg_cmp p1 28518) = 0 then
                  gz 1 (some 1)
                else
                  if (lg_cmp p1 1870095731) = 0 then
                    gz 1 (some 1)
                  else
                    if (lg_cmp p1 465557351283) = 0 then
                      gz 1 (some 1)
                    else
                      if (lg_cmp p1 512970880104) = 0 then
                        gz 1 (some 1)
                      else
                        if (lg_cmp p1 7168377) = 0 then
                          gz 1 (some 1)
                        else
                          if (lg_cmp p1 426836653171) = 0 then
                            gz 1 (some 1)
                          else
                            if (lg_cmp p1 474214787188) = 0 then
                              gz 1 (some 1)
                            else
                              if (lg_cmp p1 108187867505765) = 0 then
                                gz 1 (some 1)
                              else
                                if (lg_cmp p1 495874044019) = 0 then
                                  gz 1 (some 1)
                                else
                                  if (lg_cmp p1 1718773093) = 0 then
                                    gz 1 (some 1)
                                  else
                                    if (lg_cmp p1 26982) = 0 then
                                      gz 1 (some 1)
                                    else
                                      if (lg_cmp p1 28530) = 0 then
                                        gz 1 (some 1)
                                      else
                                        if (lg_cmp p1 6385252) = 0 then
                                          gz 1 (some 1)
                                        else
                                          if (lg_cmp p1 7237492) = 0 then
                                            gz 1 (some 1)
                                          else
                                            if (lg_cmp p1 6384748) = 0 then
                                              gz 1 (some 1)
                                            else
                                              if (lg_cmp p1 7170414) = 0 then
                                                gz 1 (some 1)
                                              else
                                                if (lg_cmp p1 7168376) = 0 then
                                                  gz 1 (some 1)
                                                else
                                                  if (lg_cmp p1 28273320707713140) = 0 then
                                                    gz 1 (some 1)
                                                  else
                                                    gz 0 (some 0)
set_option maxRecDepth 20000 in
theorem pc_X12_isOwn (I : HI) (L : HL) (R : HR) (p1 : Int64) : PCo 100 147 0 yX12_isOwn cX12_isOwn 3 (some .boolean) [.ref 100, .long p1] I L R (f_X12_isOwn p1) (fun x : Int32 => ((some (.int x), I, L, R) : HF)) := by
  refine PCo.of (own := RX12) (by decide +kernel) (Nat.le_of_ble_eq_true rfl) rfl rfl (fun F => ?_)
  unfold f_X12_isOwn
  refine PWk.lload_n 1 dX12_isOwn_0 rfl ?_
  refine PWk.ldc2 (v := 114827769704311) dX12_isOwn_1 kc_X12_261 ?_
  refine PWk.lcmp dX12_isOwn_4 ?_
  refine PWk.if_eq 40 dX12_isOwn_5 (by decide) (fun h25 => ?_) (fun h25 => ?_)
  · refine PWk.iconst (v := 1) dX12_isOwn_40 ic_1 ?_
    exact PWk.zret dX12_isOwn_41 rfl (fun h => h)
  · refine PWk.lload_n 1 dX12_isOwn_8 rfl ?_
    refine PWk.ldc2 (v := 448545973363) dX12_isOwn_9 kc_X12_263 ?_
    refine PWk.lcmp dX12_isOwn_12 ?_
    refine PWk.if_eq 40 dX12_isOwn_13 (by decide) (fun h24 => ?_) (fun h24 => ?_)
    · refine PWk.iconst (v := 1) dX12_isOwn_40 ic_1 ?_
      exact PWk.zret dX12_isOwn_41 rfl (fun h => h)
    · refine PWk.lload_n 1 dX12_isOwn_16 rfl ?_
      refine PWk.ldc2 (v := 24948) dX12_isOwn_17 kc_X12_265 ?_
      refine PWk.lcmp dX12_isOwn_20 ?_
      refine PWk.if_eq 40 dX12_isOwn_21 (by decide) (fun h23 => ?_) (fun h23 => ?_)
      · refine PWk.iconst (v := 1) dX12_isOwn_40 ic_1 ?_
        exact PWk.zret dX12_isOwn_41 rfl (fun h => h)
      · refine PWk.lload_n 1 dX12_isOwn_24 rfl ?_
        refine PWk.ldc2 (v := 478745093490) dX12_isOwn_25 kc_X12_267 ?_
        refine PWk.lcmp dX12_isOwn_28 ?_
        refine PWk.if_eq 40 dX12_isOwn_29 (by decide) (fun h22 => ?_) (fun h22 => ?_)
        · refine PWk.iconst (v := 1) dX12_isOwn_40 ic_1 ?_
          exact PWk.zret dX12_isOwn_41 rfl (fun h => h)
        · refine PWk.lload_n 1 dX12_isOwn_32 rfl ?_
          refine PWk.ldc2 (v := 1818323813) dX12_isOwn_33 kc_X12_269 ?_
          refine PWk.lcmp dX12_isOwn_36 ?_
          refine PWk.if_ne 42 dX12_isOwn_37 (by decide) (fun h21 => ?_) (fun h21 => ?_)
          · refine PWk.iconst (v := 1) dX12_isOwn_40 ic_1 ?_
            exact PWk.zret dX12_isOwn_41 rfl (fun h => h)
          · refine PWk.lload_n 1 dX12_isOwn_42 rfl ?_
            refine PWk.ldc2 (v := 6840691) dX12_isOwn_43 kc_X12_271 ?_
            refine PWk.lcmp dX12_isOwn_46 ?_
            refine PWk.if_eq 82 dX12_isOwn_47 (by decide) (fun h20 => ?_) (fun h20 => ?_)
            · refine PWk.iconst (v := 1) dX12_isOwn_82 ic_1 ?_
              exact PWk.zret dX12_isOwn_83 rfl (fun h => h)
            · refine PWk.lload_n 1 dX12_isOwn_50 rfl ?_
              refine PWk.ldc2 (v := 26990) dX12_isOwn_51 kc_X12_273 ?_
              refine PWk.lcmp dX12_isOwn_54 ?_
              refine PWk.if_eq 82 dX12_isOwn_55 (by decide) (fun h19 => ?_) (fun h19 => ?_)
              · refine PWk.iconst (v := 1) dX12_isOwn_82 ic_1 ?_
                exact PWk.zret dX12_isOwn_83 rfl (fun h => h)
              · refine PWk.lload_n 1 dX12_isOwn_58 rfl ?_
                refine PWk.ldc2 (v := 28518) dX12_isOwn_59 kc_X12_275 ?_
                refine PWk.lcmp dX12_isOwn_62 ?_
                refine PWk.if_eq 82 dX12_isOwn_63 (by decide) (fun h18 => ?_) (fun h18 => ?_)
                · refine PWk.iconst (v := 1) dX12_isOwn_82 ic_1 ?_
                  exact PWk.zret dX12_isOwn_83 rfl (fun h => h)
                · refine PWk.lload_n 1 dX12_isOwn_66 rfl ?_
                  refine PWk.ldc2 (v := 1870095731) dX12_isOwn_67 kc_X12_277 ?_
                  refine PWk.lcmp dX12_isOwn_70 ?_
                  refine PWk.if_eq 82 dX12_isOwn_71 (by decide) (fun h17 => ?_) (fun h17 => ?_)
                  · refine PWk.iconst (v := 1) dX12_isOwn_82 ic_1 ?_
                    exact PWk.zret dX12_isOwn_83 rfl (fun h => h)
                  · refine PWk.lload_n 1 dX12_isOwn_74 rfl ?_
                    refine PWk.ldc2 (v := 465557351283) dX12_isOwn_75 kc_X12_279 ?_
                    refine PWk.lcmp dX12_isOwn_78 ?_
                    refine PWk.if_ne 84 dX12_isOwn_79 (by decide) (fun h16 => ?_) (fun h16 => ?_)
                    · refine PWk.iconst (v := 1) dX12_isOwn_82 ic_1 ?_
                      exact PWk.zret dX12_isOwn_83 rfl (fun h => h)
                    · refine PWk.lload_n 1 dX12_isOwn_84 rfl ?_
                      refine PWk.ldc2 (v := 512970880104) dX12_isOwn_85 kc_X12_281 ?_
                      refine PWk.lcmp dX12_isOwn_88 ?_
                      refine PWk.if_eq 124 dX12_isOwn_89 (by decide) (fun h15 => ?_) (fun h15 => ?_)
                      · refine PWk.iconst (v := 1) dX12_isOwn_124 ic_1 ?_
                        exact PWk.zret dX12_isOwn_125 rfl (fun h => h)
                      · refine PWk.lload_n 1 dX12_isOwn_92 rfl ?_
                        refine PWk.ldc2 (v := 7168377) dX12_isOwn_93 kc_X12_283 ?_
                        refine PWk.lcmp dX12_isOwn_96 ?_
                        refine PWk.if_eq 124 dX12_isOwn_97 (by decide) (fun h14 => ?_) (fun h14 => ?_)
                        · refine PWk.iconst (v := 1) dX12_isOwn_124 ic_1 ?_
                          exact PWk.zret dX12_isOwn_125 rfl (fun h => h)
                        · refine PWk.lload_n 1 dX12_isOwn_100 rfl ?_
                          refine PWk.ldc2 (v := 426836653171) dX12_isOwn_101 kc_X12_285 ?_
                          refine PWk.lcmp dX12_isOwn_104 ?_
                          refine PWk.if_eq 124 dX12_isOwn_105 (by decide) (fun h13 => ?_) (fun h13 => ?_)
                          · refine PWk.iconst (v := 1) dX12_isOwn_124 ic_1 ?_
                            exact PWk.zret dX12_isOwn_125 rfl (fun h => h)
                          · refine PWk.lload_n 1 dX12_isOwn_108 rfl ?_
                            refine PWk.ldc2 (v := 474214787188) dX12_isOwn_109 kc_X12_287 ?_
                            refine PWk.lcmp dX12_isOwn_112 ?_
                            refine PWk.if_eq 124 dX12_isOwn_113 (by decide) (fun h12 => ?_) (fun h12 => ?_)
                            · refine PWk.iconst (v := 1) dX12_isOwn_124 ic_1 ?_
                              exact PWk.zret dX12_isOwn_125 rfl (fun h => h)
                            · refine PWk.lload_n 1 dX12_isOwn_116 rfl ?_
                              refine PWk.ldc2 (v := 108187867505765) dX12_isOwn_117 kc_X12_289 ?_
                              refine PWk.lcmp dX12_isOwn_120 ?_
                              refine PWk.if_ne 126 dX12_isOwn_121 (by decide) (fun h11 => ?_) (fun h11 => ?_)
                              · refine PWk.iconst (v := 1) dX12_isOwn_124 ic_1 ?_
                                exact PWk.zret dX12_isOwn_125 rfl (fun h => h)
                              · refine PWk.lload_n 1 dX12_isOwn_126 rfl ?_
                                refine PWk.ldc2 (v := 495874044019) dX12_isOwn_127 kc_X12_291 ?_
                                refine PWk.lcmp dX12_isOwn_130 ?_
                                refine PWk.if_eq 166 dX12_isOwn_131 (by decide) (fun h10 => ?_) (fun h10 => ?_)
                                · refine PWk.iconst (v := 1) dX12_isOwn_166 ic_1 ?_
                                  exact PWk.zret dX12_isOwn_167 rfl (fun h => h)
                                · refine PWk.lload_n 1 dX12_isOwn_134 rfl ?_
                                  refine PWk.ldc2 (v := 1718773093) dX12_isOwn_135 kc_X12_293 ?_
                                  refine PWk.lcmp dX12_isOwn_138 ?_
                                  refine PWk.if_eq 166 dX12_isOwn_139 (by decide) (fun h9 => ?_) (fun h9 => ?_)
                                  · refine PWk.iconst (v := 1) dX12_isOwn_166 ic_1 ?_
                                    exact PWk.zret dX12_isOwn_167 rfl (fun h => h)
                                  · refine PWk.lload_n 1 dX12_isOwn_142 rfl ?_
                                    refine PWk.ldc2 (v := 26982) dX12_isOwn_143 kc_X12_295 ?_
                                    refine PWk.lcmp dX12_isOwn_146 ?_
                                    refine PWk.if_eq 166 dX12_isOwn_147 (by decide) (fun h8 => ?_) (fun h8 => ?_)
                                    · refine PWk.iconst (v := 1) dX12_isOwn_166 ic_1 ?_
                                      exact PWk.zret dX12_isOwn_167 rfl (fun h => h)
                                    · refine PWk.lload_n 1 dX12_isOwn_150 rfl ?_
                                      refine PWk.ldc2 (v := 28530) dX12_isOwn_151 kc_X12_297 ?_
                                      refine PWk.lcmp dX12_isOwn_154 ?_
                                      refine PWk.if_eq 166 dX12_isOwn_155 (by decide) (fun h7 => ?_) (fun h7 => ?_)
                                      · refine PWk.iconst (v := 1) dX12_isOwn_166 ic_1 ?_
                                        exact PWk.zret dX12_isOwn_167 rfl (fun h => h)
                                      · refine PWk.lload_n 1 dX12_isOwn_158 rfl ?_
                                        refine PWk.ldc2 (v := 6385252) dX12_isOwn_159 kc_X12_299 ?_
                                        refine PWk.lcmp dX12_isOwn_162 ?_
                                        refine PWk.if_ne 168 dX12_isOwn_163 (by decide) (fun h6 => ?_) (fun h6 => ?_)
                                        · refine PWk.iconst (v := 1) dX12_isOwn_166 ic_1 ?_
                                          exact PWk.zret dX12_isOwn_167 rfl (fun h => h)
                                        · refine PWk.lload_n 1 dX12_isOwn_168 rfl ?_
                                          refine PWk.ldc2 (v := 7237492) dX12_isOwn_169 kc_X12_301 ?_
                                          refine PWk.lcmp dX12_isOwn_172 ?_
                                          refine PWk.if_eq 208 dX12_isOwn_173 (by decide) (fun h5 => ?_) (fun h5 => ?_)
                                          · refine PWk.iconst (v := 1) dX12_isOwn_208 ic_1 ?_
                                            exact PWk.zret dX12_isOwn_209 rfl (fun h => h)
                                          · refine PWk.lload_n 1 dX12_isOwn_176 rfl ?_
                                            refine PWk.ldc2 (v := 6384748) dX12_isOwn_177 kc_X12_303 ?_
                                            refine PWk.lcmp dX12_isOwn_180 ?_
                                            refine PWk.if_eq 208 dX12_isOwn_181 (by decide) (fun h4 => ?_) (fun h4 => ?_)
                                            · refine PWk.iconst (v := 1) dX12_isOwn_208 ic_1 ?_
                                              exact PWk.zret dX12_isOwn_209 rfl (fun h => h)
                                            · refine PWk.lload_n 1 dX12_isOwn_184 rfl ?_
                                              refine PWk.ldc2 (v := 7170414) dX12_isOwn_185 kc_X12_305 ?_
                                              refine PWk.lcmp dX12_isOwn_188 ?_
                                              refine PWk.if_eq 208 dX12_isOwn_189 (by decide) (fun h3 => ?_) (fun h3 => ?_)
                                              · refine PWk.iconst (v := 1) dX12_isOwn_208 ic_1 ?_
                                                exact PWk.zret dX12_isOwn_209 rfl (fun h => h)
                                              · refine PWk.lload_n 1 dX12_isOwn_192 rfl ?_
                                                refine PWk.ldc2 (v := 7168376) dX12_isOwn_193 kc_X12_307 ?_
                                                refine PWk.lcmp dX12_isOwn_196 ?_
                                                refine PWk.if_eq 208 dX12_isOwn_197 (by decide) (fun h2 => ?_) (fun h2 => ?_)
                                                · refine PWk.iconst (v := 1) dX12_isOwn_208 ic_1 ?_
                                                  exact PWk.zret dX12_isOwn_209 rfl (fun h => h)
                                                · refine PWk.lload_n 1 dX12_isOwn_200 rfl ?_
                                                  refine PWk.ldc2 (v := 28273320707713140) dX12_isOwn_201 kc_X12_309 ?_
                                                  refine PWk.lcmp dX12_isOwn_204 ?_
                                                  refine PWk.if_ne 210 dX12_isOwn_205 (by decide) (fun h1 => ?_) (fun h1 => ?_)
                                                  · refine PWk.iconst (v := 1) dX12_isOwn_208 ic_1 ?_
                                                    exact PWk.zret dX12_isOwn_209 rfl (fun h => h)
                                                  · refine PWk.iconst (v := 0) dX12_isOwn_210 ic_0 ?_
                                                    exact PWk.zret dX12_isOwn_211 rfl (fun h => h)
/-! LakeMarketModel.manyOf(II)I -/
def f_X12_manyOf (I : HI) (p1 : Int32) (p2 : Int32) : Option (Int32) :=
  if p2 = 0 then
    ldI (I 102) 2 p1 fun v1 =>
    some v1
  else
    if p2 = 1 then
      ldI (I 105) 2 p1 fun v2 =>
      some v2
    else
      ldI (I 106) 2 p1 fun v3 =>
      some v3
set_option maxRecDepth 20000 in
theorem pc_X12_manyOf (I : HI) (L : HL) (R : HR) (p1 : Int32) (p2 : Int32) : PCo 100 147 0 yX12_manyOf cX12_manyOf 3 (some .int) [.ref 100, .int p1, .int p2] I L R (f_X12_manyOf I p1 p2) (fun x : Int32 => ((some (.int x), I, L, R) : HF)) := by
  refine PCo.of (own := RX12) (by decide +kernel) (Nat.le_of_ble_eq_true rfl) rfl rfl (fun F => ?_)
  unfold f_X12_manyOf
  refine PWk.iload_n 2 dX12_manyOf_0 rfl ?_
  refine PWk.if_ne 13 dX12_manyOf_1 (by decide) (fun h5 => ?_) (fun h5 => ?_)
  · refine PWk.aload_n 0 dX12_manyOf_4 rfl ?_
    refine PWk.gets dX12_manyOf_5 rg_100 lc_100 fl_X12_54 rfl st_100_14 ?_
    refine PWk.iload_n 1 dX12_manyOf_8 rfl ?_
    refine PWk.iald dX12_manyOf_9 rg_102 ly_102 (fun v1 => ?_)
    refine PWk.goto 33 dX12_manyOf_10 (by decide) ?_
    exact PWk.iret dX12_manyOf_33 rfl (fun h => h)
  · refine PWk.iload_n 2 dX12_manyOf_13 rfl ?_
    refine PWk.iconst (v := 1) dX12_manyOf_14 ic_1 ?_
    refine PWk.icmp_ne 27 dX12_manyOf_15 (by decide) (fun h4 => ?_) (fun h4 => ?_)
    · refine PWk.aload_n 0 dX12_manyOf_18 rfl ?_
      refine PWk.gets dX12_manyOf_19 rg_100 lc_100 fl_X12_63 rfl st_100_17 ?_
      refine PWk.iload_n 1 dX12_manyOf_22 rfl ?_
      refine PWk.iald dX12_manyOf_23 rg_105 ly_105 (fun v2 => ?_)
      refine PWk.goto 33 dX12_manyOf_24 (by decide) ?_
      exact PWk.iret dX12_manyOf_33 rfl (fun h => h)
    · refine PWk.aload_n 0 dX12_manyOf_27 rfl ?_
      refine PWk.gets dX12_manyOf_28 rg_100 lc_100 fl_X12_66 rfl st_100_18 ?_
      refine PWk.iload_n 1 dX12_manyOf_31 rfl ?_
      refine PWk.iald dX12_manyOf_32 rg_106 ly_106 (fun v3 => ?_)
      exact PWk.iret dX12_manyOf_33 rfl (fun h => h)
/-! LakeMarketModel.nameOf(III)J -/
def f_X12_nameOf (L : HL) (p1 : Int32) (p2 : Int32) (p3 : Int32) : Option (Int64) :=
  if p2 = 0 then
    ldL (L 117) 16 ((8 * p1) + p3) fun v1 =>
    some v1
  else
    if p2 = 1 then
      ldL (L 118) 12 ((6 * p1) + p3) fun v2 =>
      some v2
    else
      ldL (L 119) 16 ((8 * p1) + p3) fun v3 =>
      some v3
set_option maxRecDepth 20000 in
theorem pc_X12_nameOf (I : HI) (L : HL) (R : HR) (p1 : Int32) (p2 : Int32) (p3 : Int32) : PCo 100 147 0 yX12_nameOf cX12_nameOf 4 (some .long) [.ref 100, .int p1, .int p2, .int p3] I L R (f_X12_nameOf L p1 p2 p3) (fun x : Int64 => ((some (.long x), I, L, R) : HF)) := by
  refine PCo.of (own := RX12) (by decide +kernel) (Nat.le_of_ble_eq_true rfl) rfl rfl (fun F => ?_)
  unfold f_X12_nameOf
  refine PWk.iload_n 2 dX12_nameOf_0 rfl ?_
  refine PWk.if_ne 18 dX12_nameOf_1 (by decide) (fun h5 => ?_) (fun h5 => ?_)
  · refine PWk.aload_n 0 dX12_nameOf_4 rfl ?_
    refine PWk.gets dX12_nameOf_5 rg_100 lc_100 fl_X12_99 rfl st_100_29 ?_
    refine PWk.bipush (v := 8) dX12_nameOf_8 bp_8 ?_
    refine PWk.iload_n 1 dX12_nameOf_10 rfl ?_
    refine PWk.imul dX12_nameOf_11 ?_
    refine PWk.iload_n 3 dX12_nameOf_12 rfl ?_
    refine PWk.iadd dX12_nameOf_13 ?_
    refine PWk.lald dX12_nameOf_14 rg_117 ly_117 (fun v1 => ?_)
    refine PWk.goto 48 dX12_nameOf_15 (by decide) ?_
    exact PWk.lret dX12_nameOf_48 rfl (fun h => h)
  · refine PWk.iload_n 2 dX12_nameOf_18 rfl ?_
    refine PWk.iconst (v := 1) dX12_nameOf_19 ic_1 ?_
    refine PWk.icmp_ne 37 dX12_nameOf_20 (by decide) (fun h4 => ?_) (fun h4 => ?_)
    · refine PWk.aload_n 0 dX12_nameOf_23 rfl ?_
      refine PWk.gets dX12_nameOf_24 rg_100 lc_100 fl_X12_103 rfl st_100_30 ?_
      refine PWk.bipush (v := 6) dX12_nameOf_27 bp_6 ?_
      refine PWk.iload_n 1 dX12_nameOf_29 rfl ?_
      refine PWk.imul dX12_nameOf_30 ?_
      refine PWk.iload_n 3 dX12_nameOf_31 rfl ?_
      refine PWk.iadd dX12_nameOf_32 ?_
      refine PWk.lald dX12_nameOf_33 rg_118 ly_118 (fun v2 => ?_)
      refine PWk.goto 48 dX12_nameOf_34 (by decide) ?_
      exact PWk.lret dX12_nameOf_48 rfl (fun h => h)
    · refine PWk.aload_n 0 dX12_nameOf_37 rfl ?_
      refine PWk.gets dX12_nameOf_38 rg_100 lc_100 fl_X12_106 rfl st_100_31 ?_
      refine PWk.bipush (v := 8) dX12_nameOf_41 bp_8 ?_
      refine PWk.iload_n 1 dX12_nameOf_43 rfl ?_
      refine PWk.imul dX12_nameOf_44 ?_
      refine PWk.iload_n 3 dX12_nameOf_45 rfl ?_
      refine PWk.iadd dX12_nameOf_46 ?_
      refine PWk.lald dX12_nameOf_47 rg_119 ly_119 (fun v3 => ?_)
      exact PWk.lret dX12_nameOf_48 rfl (fun h => h)
/-! LakeMarketModel.named(IJ)I -/
def f_X12_named_L3 : Nat → HI → HL → Int32 → Int64 → Int32 → Option ((Int32) ⊕ (Unit))
  | 0, _, _, _, _, _ => none
  | n + 1, I, L, u1, u2, u4 =>
    (f_X12_manyOf I (I 100 33) u1).bind fun x1 =>
    if x1 ≤ u4 then
      some (.inr ())
    else
      (f_X12_nameOf L (I 100 33) u1 u4).bind fun x2 =>
      if (lg_cmp x2 u2) = 0 then
        some (.inl u4)
      else
        f_X12_named_L3 n I L u1 u2 (u4 + 1)
def f_X12_named (fu : Nat) (I : HI) (L : HL) (p1 : Int32) (p2 : Int64) : Option (Int32) :=
  (f_X12_named_L3 fu I L p1 p2 0).bind (Sum.elim (fun r => some r) fun x5 =>
  some (-1))
set_option maxRecDepth 20000 in
theorem lp_X12_named_3 (fu : Nat) (u1 : Int32) (u2 : Int64) (I : HI) (L : HL) (R : HR) : ∀ (n : Nat) (u4 : Int32) (N : ((Int32) ⊕ (Unit)) → Prop) (F : HF), (∀ v : Unit, N (.inr v) → PW 100 147 1 RX12 cX12_named 5 (some .int) 42 [] [] I L R F) → (∀ r : Int32, N (.inl r) → F = (fun x : Int32 => ((some (.int x), I, L, R) : HF)) r) → PWk 100 147 1 RX12 cX12_named 5 (some .int) 3 [(0, .ref 100), (1, .int u1), (2, .long u2), (4, .int u4)] [] I L R (f_X12_named_L3 n I L u1 u2 u4) N F := by
  intro n
  induction n with
  | zero => intro u4 N F hx hr; exact PWk.none'
  | succ n ih =>
    intro u4 N F hx hr
    unfold f_X12_named_L3
    refine PWk.iload 3 dX12_named_3 rfl ?_
    refine PWk.aload_n 0 dX12_named_5 rfl ?_
    refine PWk.aload_n 0 dX12_named_6 rfl ?_
    refine PWk.geti dX12_named_7 rg_100 lc_100 fl_X12_112 rfl ?_
    refine PWk.iload_n 1 dX12_named_10 rfl ?_
    refine PWk.callVi (pc_X12_manyOf I L R (I 100 33) u1) dX12_named_11 ml_X12_311 rfl rg_100 lc_100 vq_12 (by decide) rfl (Nat.le_of_ble_eq_true rfl) (fun x1 => ?_)
    refine PWk.icmp_ge 42 dX12_named_14 (by decide) (fun h4 => ?_) (fun h4 => ?_)
    · refine PWk.sub [] rfl ?_
      exact PWk.done (fun h => hx _ h)
    · refine PWk.aload_n 0 dX12_named_17 rfl ?_
      refine PWk.aload_n 0 dX12_named_18 rfl ?_
      refine PWk.geti dX12_named_19 rg_100 lc_100 fl_X12_112 rfl ?_
      refine PWk.iload_n 1 dX12_named_22 rfl ?_
      refine PWk.iload 3 dX12_named_23 rfl ?_
      refine PWk.callVl (pc_X12_nameOf I L R (I 100 33) u1 u4) dX12_named_25 ml_X12_315 rfl rg_100 lc_100 vq_12 (by decide) rfl (Nat.le_of_ble_eq_true rfl) (fun x2 => ?_)
      refine PWk.lload_n 2 dX12_named_28 rfl ?_
      refine PWk.lcmp dX12_named_29 ?_
      refine PWk.if_ne 36 dX12_named_30 (by decide) (fun h3 => ?_) (fun h3 => ?_)
      · refine PWk.iload 3 dX12_named_33 rfl ?_
        exact PWk.iret dX12_named_35 rfl (hr _)
      · refine PWk.iinc (v := (u4 + 1)) 3 [(4, .int (u4 + 1)), (0, .ref 100), (1, .int u1), (2, .long u2)] dX12_named_36 rfl (by rw [ic_1]) (by decide) rfl ?_
        refine PWk.goto 3 dX12_named_39 (by decide) ?_
        refine PWk.sub [1, 2, 3, 0] rfl ?_
        exact ih (u4 + 1) N F hx hr
set_option maxRecDepth 20000 in
theorem pc_X12_named (fu : Nat) (I : HI) (L : HL) (R : HR) (p1 : Int32) (p2 : Int64) : PCo 100 147 1 yX12_named cX12_named 5 (some .int) [.ref 100, .int p1, .long p2] I L R (f_X12_named fu I L p1 p2) (fun x : Int32 => ((some (.int x), I, L, R) : HF)) := by
  refine PCo.of (own := RX12) (by decide +kernel) (Nat.le_of_ble_eq_true rfl) rfl rfl (fun F => ?_)
  unfold f_X12_named
  refine PWk.iconst (v := 0) dX12_named_0 ic_0 ?_
  refine PWk.istore [(4, .int 0), (0, .ref 100), (1, .int p1), (2, .long p2)] dX12_named_1 (by decide) rfl ?_
  refine PWk.sub [1, 2, 3, 0] rfl ?_
  refine PWk.loopS (fun N' hx' hr' => lp_X12_named_3 fu p1 p2 I L R fu 0 N' F hx' hr') (fun r a e h => by cases e; exact h) (fun x5 => ?_)
  refine PWk.iconst (v := (-1)) dX12_named_42 ic_m1 ?_
  exact PWk.iret dX12_named_43 rfl (fun h => h)
/-! LakeMarketModel.add(II)V -/
def f_X12_add (I : HI) (p1 : Int32) (p2 : Int32) : Option (HI) :=
  inb 3200 ((1600 * (I 100 33)) + (I 100 32)) <|
  bnd (sI I 115 (((1600 * (I 100 33)) + (I 100 32)) : Int32).toNatClampNeg p1) fun I1 =>
  inb 3200 ((1600 * (I1 100 33)) + (I1 100 32)) <|
  bnd (sI I1 116 (((1600 * (I1 100 33)) + (I1 100 32)) : Int32).toNatClampNeg p2) fun I2 =>
  bnd (sI I2 100 32 ((I2 100 32) + 1)) fun I3 =>
  some I3
set_option maxRecDepth 20000 in
theorem pc_X12_add (I : HI) (L : HL) (R : HR) (p1 : Int32) (p2 : Int32) : PCo 100 147 0 yX12_add cX12_add 3 none [.ref 100, .int p1, .int p2] I L R (f_X12_add I p1 p2) (fun x : HI => ((none, x, L, R) : HF)) := by
  refine PCo.of (own := RX12) (by decide +kernel) (Nat.le_of_ble_eq_true rfl) rfl rfl (fun F => ?_)
  unfold f_X12_add
  refine PWk.aload_n 0 dX12_add_0 rfl ?_
  refine PWk.gets dX12_add_1 rg_100 lc_100 fl_X12_93 rfl st_100_27 ?_
  refine PWk.sipush (v := 1600) dX12_add_4 sp_1600 ?_
  refine PWk.aload_n 0 dX12_add_7 rfl ?_
  refine PWk.geti dX12_add_8 rg_100 lc_100 fl_X12_112 rfl ?_
  refine PWk.imul dX12_add_11 ?_
  refine PWk.aload_n 0 dX12_add_12 rfl ?_
  refine PWk.geti dX12_add_13 rg_100 lc_100 fl_X12_109 rfl ?_
  refine PWk.iadd dX12_add_16 ?_
  refine PWk.iload_n 1 dX12_add_17 rfl ?_
  refine PWk.iast dX12_add_18 rg_115 ly_115 ?_
  refine PWk.bI (fun I1 => ?_)
  refine PWk.aload_n 0 dX12_add_19 rfl ?_
  refine PWk.gets dX12_add_20 rg_100 lc_100 fl_X12_96 rfl st_100_28 ?_
  refine PWk.sipush (v := 1600) dX12_add_23 sp_1600 ?_
  refine PWk.aload_n 0 dX12_add_26 rfl ?_
  refine PWk.geti dX12_add_27 rg_100 lc_100 fl_X12_112 rfl ?_
  refine PWk.imul dX12_add_30 ?_
  refine PWk.aload_n 0 dX12_add_31 rfl ?_
  refine PWk.geti dX12_add_32 rg_100 lc_100 fl_X12_109 rfl ?_
  refine PWk.iadd dX12_add_35 ?_
  refine PWk.iload_n 2 dX12_add_36 rfl ?_
  refine PWk.iast dX12_add_37 rg_116 ly_116 ?_
  refine PWk.bI (fun I2 => ?_)
  refine PWk.aload_n 0 dX12_add_38 rfl ?_
  refine PWk.dup dX12_add_39 rfl ?_
  refine PWk.geti dX12_add_40 rg_100 lc_100 fl_X12_109 rfl ?_
  refine PWk.iconst (v := 1) dX12_add_43 ic_1 ?_
  refine PWk.iadd dX12_add_44 ?_
  refine PWk.puti dX12_add_45 rg_100 lc_100 fl_X12_109 fp_12_32 rfl ?_
  refine PWk.bI (fun I3 => ?_)
  exact PWk.vret dX12_add_48 rfl (fun h => h)
/-! LakeMarketModel.rank(I)I -/
def f_X12_rank (p0 : Int32) : Option (Int32) :=
  if p0 = 42 then
    some 1
  else
    if p0 = 41 then
      some 2
    else
      if p0 = 43 then
        some 3
      else
        jnt (β := Unit) (fun y9 =>
          some 4) fun j1 =>
        if p0 = 38 then
          j1 ()
        else
          if p0 = 39 then
            j1 ()
          else
            if p0 = 40 then
              j1 ()
            else
              jnt (β := Unit) (fun y5 =>
                some 5) fun j2 =>
              if p0 = 31 then
                j2 ()
              else
                if p0 = 32 then
                  j2 ()
                else
                  some 6
set_option maxRecDepth 20000 in
theorem pc_X12_rank (I : HI) (L : HL) (R : HR) (p0 : Int32) : PCo 100 147 0 yX12_rank cX12_rank 1 (some .int) [.int p0] I L R (f_X12_rank p0) (fun x : Int32 => ((some (.int x), I, L, R) : HF)) := by
  refine PCo.of (own := RX12) (by decide +kernel) (Nat.le_of_ble_eq_true rfl) rfl rfl (fun F => ?_)
  unfold f_X12_rank
  refine PWk.iload_n 0 dX12_rank_0 rfl ?_
  refine PWk.bipush (v := 42) dX12_rank_1 bp_42 ?_
  refine PWk.icmp_ne 10 dX12_rank_3 (by decide) (fun h12 => ?_) (fun h12 => ?_)
  · refine PWk.iconst (v := 1) dX12_rank_6 ic_1 ?_
    refine PWk.goto 70 dX12_rank_7 (by decide) ?_
    exact PWk.iret dX12_rank_70 rfl (fun h => h)
  · refine PWk.iload_n 0 dX12_rank_10 rfl ?_
    refine PWk.bipush (v := 41) dX12_rank_11 bp_41 ?_
    refine PWk.icmp_ne 20 dX12_rank_13 (by decide) (fun h11 => ?_) (fun h11 => ?_)
    · refine PWk.iconst (v := 2) dX12_rank_16 ic_2 ?_
      refine PWk.goto 70 dX12_rank_17 (by decide) ?_
      exact PWk.iret dX12_rank_70 rfl (fun h => h)
    · refine PWk.iload_n 0 dX12_rank_20 rfl ?_
      refine PWk.bipush (v := 43) dX12_rank_21 bp_43 ?_
      refine PWk.icmp_ne 30 dX12_rank_23 (by decide) (fun h10 => ?_) (fun h10 => ?_)
      · refine PWk.iconst (v := 3) dX12_rank_26 ic_3 ?_
        refine PWk.goto 70 dX12_rank_27 (by decide) ?_
        exact PWk.iret dX12_rank_70 rfl (fun h => h)
      · refine PWk.iload_n 0 dX12_rank_30 rfl ?_
        refine PWk.bipush (v := 38) dX12_rank_31 bp_38 ?_
        refine PWk.jn (pc' := 48) (lv' := fun y9 => []) (st' := fun y9 => []) (I' := fun y9 => I) (L' := fun y9 => L) (R' := fun y9 => R) (fun j1 hj1 => ?_) (fun y9 => ?_)
        · refine PWk.icmp_eq 48 dX12_rank_33 (by decide) (fun h8 => ?_) (fun h8 => ?_)
          · refine PWk.sub [] rfl ?_
            exact hj1 ()
          · refine PWk.iload_n 0 dX12_rank_36 rfl ?_
            refine PWk.bipush (v := 39) dX12_rank_37 bp_39 ?_
            refine PWk.icmp_eq 48 dX12_rank_39 (by decide) (fun h7 => ?_) (fun h7 => ?_)
            · refine PWk.sub [] rfl ?_
              exact hj1 ()
            · refine PWk.iload_n 0 dX12_rank_42 rfl ?_
              refine PWk.bipush (v := 40) dX12_rank_43 bp_40 ?_
              refine PWk.icmp_ne 52 dX12_rank_45 (by decide) (fun h6 => ?_) (fun h6 => ?_)
              · refine PWk.sub [] rfl ?_
                exact hj1 ()
              · refine PWk.iload_n 0 dX12_rank_52 rfl ?_
                refine PWk.bipush (v := 31) dX12_rank_53 bp_31 ?_
                refine PWk.jn (pc' := 64) (lv' := fun y5 => []) (st' := fun y5 => []) (I' := fun y5 => I) (L' := fun y5 => L) (R' := fun y5 => R) (fun j2 hj2 => ?_) (fun y5 => ?_)
                · refine PWk.icmp_eq 64 dX12_rank_55 (by decide) (fun h4 => ?_) (fun h4 => ?_)
                  · refine PWk.sub [] rfl ?_
                    exact hj2 ()
                  · refine PWk.iload_n 0 dX12_rank_58 rfl ?_
                    refine PWk.bipush (v := 32) dX12_rank_59 bp_32 ?_
                    refine PWk.icmp_ne 68 dX12_rank_61 (by decide) (fun h3 => ?_) (fun h3 => ?_)
                    · refine PWk.sub [] rfl ?_
                      exact hj2 ()
                    · refine PWk.bipush (v := 6) dX12_rank_68 bp_6 ?_
                      exact PWk.iret dX12_rank_70 rfl (fun h => h)
                · refine PWk.iconst (v := 5) dX12_rank_64 ic_5 ?_
                  refine PWk.goto 70 dX12_rank_65 (by decide) ?_
                  exact PWk.iret dX12_rank_70 rfl (fun h => h)
        · refine PWk.iconst (v := 4) dX12_rank_48 ic_4 ?_
          refine PWk.goto 70 dX12_rank_49 (by decide) ?_
          exact PWk.iret dX12_rank_70 rfl (fun h => h)
/-! LakeMarketModel.joins(I)V -/
def f_X12_joins_L0 : Nat → HI → Int32 → Option (HI)
  | 0, _, _ => none
  | n + 1, I, u1 =>
    ldI (I 124) 20 ((I 100 40) - 1) fun v1 =>
    if (I 100 43) ≤ v1 then
      some I
    else
      ldI (I 125) 500 ((I 100 43) - 1) fun v2 =>
      (f_X12_rank v2).bind fun x3 =>
      if x3 < u1 then
        some I
      else
        bnd (sI I 100 43 ((I 100 43) - 1)) fun I4 =>
        ldI (I4 125) 500 (I4 100 43) fun v5 =>
        (f_X12_add I4 v5 0).bind fun x6 =>
        ldI (x6 125) 500 (x6 100 43) fun v7 =>
        if v7 = 43 then
          bnd (sI x6 100 41 ((x6 100 41) - 1)) fun I8 =>
          f_X12_joins_L0 n I8 u1
        else
          f_X12_joins_L0 n x6 u1
def f_X12_joins (fu : Nat) (I : HI) (p1 : Int32) : Option (HI) :=
  (f_X12_joins_L0 fu I p1).bind fun x12 =>
  some x12
set_option maxRecDepth 20000 in
theorem lp_X12_joins_0 (fu : Nat) (u1 : Int32) (L : HL) (R : HR) : ∀ (n : Nat) (I : HI) (N : (HI) → Prop) (F : HF), (∀ v : HI, N v → PW 100 147 1 RX12 cX12_joins 2 none 87 [] [] v L R F) → PWk 100 147 1 RX12 cX12_joins 2 none 0 [(0, .ref 100), (1, .int u1)] [] I L R (f_X12_joins_L0 n I u1) N F := by
  intro n
  induction n with
  | zero => intro I N F hx; exact PWk.none'
  | succ n ih =>
    intro I N F hx
    unfold f_X12_joins_L0
    refine PWk.aload_n 0 dX12_joins_0 rfl ?_
    refine PWk.geti dX12_joins_1 rg_100 lc_100 fl_X12_143 rfl ?_
    refine PWk.aload_n 0 dX12_joins_4 rfl ?_
    refine PWk.gets dX12_joins_5 rg_100 lc_100 fl_X12_131 rfl st_100_39 ?_
    refine PWk.aload_n 0 dX12_joins_8 rfl ?_
    refine PWk.geti dX12_joins_9 rg_100 lc_100 fl_X12_134 rfl ?_
    refine PWk.iconst (v := 1) dX12_joins_12 ic_1 ?_
    refine PWk.isub dX12_joins_13 ?_
    refine PWk.iald dX12_joins_14 rg_124 ly_124 (fun v1 => ?_)
    refine PWk.icmp_le 87 dX12_joins_15 (by decide) (fun h11 => ?_) (fun h11 => ?_)
    · refine PWk.sub [] rfl ?_
      exact PWk.done (fun h => hx _ h)
    · refine PWk.aload_n 0 dX12_joins_18 rfl ?_
      refine PWk.gets dX12_joins_19 rg_100 lc_100 fl_X12_140 rfl st_100_42 ?_
      refine PWk.aload_n 0 dX12_joins_22 rfl ?_
      refine PWk.geti dX12_joins_23 rg_100 lc_100 fl_X12_143 rfl ?_
      refine PWk.iconst (v := 1) dX12_joins_26 ic_1 ?_
      refine PWk.isub dX12_joins_27 ?_
      refine PWk.iald dX12_joins_28 rg_125 ly_125 (fun v2 => ?_)
      refine PWk.callSi (pc_X12_rank I L R v2) dX12_joins_29 ml_X12_323 rfl (by decide) rfl (Nat.le_of_ble_eq_true rfl) (fun x3 => ?_)
      refine PWk.iload_n 1 dX12_joins_32 rfl ?_
      refine PWk.icmp_lt 87 dX12_joins_33 (by decide) (fun h10 => ?_) (fun h10 => ?_)
      · refine PWk.sub [] rfl ?_
        exact PWk.done (fun h => hx _ h)
      · refine PWk.aload_n 0 dX12_joins_36 rfl ?_
        refine PWk.dup dX12_joins_37 rfl ?_
        refine PWk.geti dX12_joins_38 rg_100 lc_100 fl_X12_143 rfl ?_
        refine PWk.iconst (v := 1) dX12_joins_41 ic_1 ?_
        refine PWk.isub dX12_joins_42 ?_
        refine PWk.puti dX12_joins_43 rg_100 lc_100 fl_X12_143 fp_12_43 rfl ?_
        refine PWk.bI (fun I4 => ?_)
        refine PWk.aload_n 0 dX12_joins_46 rfl ?_
        refine PWk.aload_n 0 dX12_joins_47 rfl ?_
        refine PWk.gets dX12_joins_48 rg_100 lc_100 fl_X12_140 rfl st_100_42 ?_
        refine PWk.aload_n 0 dX12_joins_51 rfl ?_
        refine PWk.geti dX12_joins_52 rg_100 lc_100 fl_X12_143 rfl ?_
        refine PWk.iald dX12_joins_55 rg_125 ly_125 (fun v5 => ?_)
        refine PWk.iconst (v := 0) dX12_joins_56 ic_0 ?_
        refine PWk.callVvI (pc_X12_add I4 L R v5 0) dX12_joins_57 ml_X12_326 rfl rg_100 lc_100 vq_12 (by decide) rfl (Nat.le_of_ble_eq_true rfl) (fun x6 => ?_)
        refine PWk.aload_n 0 dX12_joins_60 rfl ?_
        refine PWk.gets dX12_joins_61 rg_100 lc_100 fl_X12_140 rfl st_100_42 ?_
        refine PWk.aload_n 0 dX12_joins_64 rfl ?_
        refine PWk.geti dX12_joins_65 rg_100 lc_100 fl_X12_143 rfl ?_
        refine PWk.iald dX12_joins_68 rg_125 ly_125 (fun v7 => ?_)
        refine PWk.bipush (v := 43) dX12_joins_69 bp_43 ?_
        refine PWk.icmp_ne 0 dX12_joins_71 (by decide) (fun h9 => ?_) (fun h9 => ?_)
        · refine PWk.aload_n 0 dX12_joins_74 rfl ?_
          refine PWk.dup dX12_joins_75 rfl ?_
          refine PWk.geti dX12_joins_76 rg_100 lc_100 fl_X12_137 rfl ?_
          refine PWk.iconst (v := 1) dX12_joins_79 ic_1 ?_
          refine PWk.isub dX12_joins_80 ?_
          refine PWk.puti dX12_joins_81 rg_100 lc_100 fl_X12_137 fp_12_41 rfl ?_
          refine PWk.bI (fun I8 => ?_)
          refine PWk.goto 0 dX12_joins_84 (by decide) ?_
          exact ih I8 N F hx
        · exact ih x6 N F hx
set_option maxRecDepth 20000 in
theorem pc_X12_joins (fu : Nat) (I : HI) (L : HL) (R : HR) (p1 : Int32) : PCo 100 147 1 yX12_joins cX12_joins 2 none [.ref 100, .int p1] I L R (f_X12_joins fu I p1) (fun x : HI => ((none, x, L, R) : HF)) := by
  refine PCo.of (own := RX12) (by decide +kernel) (Nat.le_of_ble_eq_true rfl) rfl rfl (fun F => ?_)
  unfold f_X12_joins
  refine PWk.loopV (fun N' hx' => lp_X12_joins_0 fu p1 L R fu I N' F hx') (fun x12 => ?_)
  exact PWk.vret dX12_joins_87 rfl (fun h => h)
/-! LakeMarketModel.holdsBack(I)V -/
def f_X12_holdsBack (I : HI) (p1 : Int32) : Option (HI) :=
  inb 500 (I 100 43) <|
  bnd (sI I 125 ((I 100 43) : Int32).toNatClampNeg p1) fun I1 =>
  bnd (sI I1 100 43 ((I1 100 43) + 1)) fun I2 =>
  some I2
set_option maxRecDepth 20000 in
theorem pc_X12_holdsBack (I : HI) (L : HL) (R : HR) (p1 : Int32) : PCo 100 147 0 yX12_holdsBack cX12_holdsBack 2 none [.ref 100, .int p1] I L R (f_X12_holdsBack I p1) (fun x : HI => ((none, x, L, R) : HF)) := by
  refine PCo.of (own := RX12) (by decide +kernel) (Nat.le_of_ble_eq_true rfl) rfl rfl (fun F => ?_)
  unfold f_X12_holdsBack
  refine PWk.aload_n 0 dX12_holdsBack_0 rfl ?_
  refine PWk.gets dX12_holdsBack_1 rg_100 lc_100 fl_X12_140 rfl st_100_42 ?_
  refine PWk.aload_n 0 dX12_holdsBack_4 rfl ?_
  refine PWk.geti dX12_holdsBack_5 rg_100 lc_100 fl_X12_143 rfl ?_
  refine PWk.iload_n 1 dX12_holdsBack_8 rfl ?_
  refine PWk.iast dX12_holdsBack_9 rg_125 ly_125 ?_
  refine PWk.bI (fun I1 => ?_)
  refine PWk.aload_n 0 dX12_holdsBack_10 rfl ?_
  refine PWk.dup dX12_holdsBack_11 rfl ?_
  refine PWk.geti dX12_holdsBack_12 rg_100 lc_100 fl_X12_143 rfl ?_
  refine PWk.iconst (v := 1) dX12_holdsBack_15 ic_1 ?_
  refine PWk.iadd dX12_holdsBack_16 ?_
  refine PWk.puti dX12_holdsBack_17 rg_100 lc_100 fl_X12_143 fp_12_43 rfl ?_
  refine PWk.bI (fun I2 => ?_)
  exact PWk.vret dX12_holdsBack_20 rfl (fun h => h)
/-! LakeMarketModel.pushes(I)V -/
def f_X12_pushes (I : HI) (p1 : Int32) : Option (HI) :=
  inb 20 (I 100 40) <|
  bnd (sI I 120 ((I 100 40) : Int32).toNatClampNeg p1) fun I1 =>
  inb 20 (I1 100 40) <|
  bnd (sI I1 121 ((I1 100 40) : Int32).toNatClampNeg 0) fun I2 =>
  inb 20 (I2 100 40) <|
  bnd (sI I2 122 ((I2 100 40) : Int32).toNatClampNeg (nz 1)) fun I3 =>
  inb 20 (I3 100 40) <|
  bnd (sI I3 124 ((I3 100 40) : Int32).toNatClampNeg (I3 100 43)) fun I4 =>
  bnd (sI I4 100 40 ((I4 100 40) + 1)) fun I5 =>
  some I5
set_option maxRecDepth 20000 in
theorem pc_X12_pushes (I : HI) (L : HL) (R : HR) (p1 : Int32) : PCo 100 147 0 yX12_pushes cX12_pushes 2 none [.ref 100, .int p1] I L R (f_X12_pushes I p1) (fun x : HI => ((none, x, L, R) : HF)) := by
  refine PCo.of (own := RX12) (by decide +kernel) (Nat.le_of_ble_eq_true rfl) rfl rfl (fun F => ?_)
  unfold f_X12_pushes
  refine PWk.aload_n 0 dX12_pushes_0 rfl ?_
  refine PWk.gets dX12_pushes_1 rg_100 lc_100 fl_X12_118 rfl st_100_35 ?_
  refine PWk.aload_n 0 dX12_pushes_4 rfl ?_
  refine PWk.geti dX12_pushes_5 rg_100 lc_100 fl_X12_134 rfl ?_
  refine PWk.iload_n 1 dX12_pushes_8 rfl ?_
  refine PWk.iast dX12_pushes_9 rg_120 ly_120 ?_
  refine PWk.bI (fun I1 => ?_)
  refine PWk.aload_n 0 dX12_pushes_10 rfl ?_
  refine PWk.gets dX12_pushes_11 rg_100 lc_100 fl_X12_121 rfl st_100_36 ?_
  refine PWk.aload_n 0 dX12_pushes_14 rfl ?_
  refine PWk.geti dX12_pushes_15 rg_100 lc_100 fl_X12_134 rfl ?_
  refine PWk.iconst (v := 0) dX12_pushes_18 ic_0 ?_
  refine PWk.iast dX12_pushes_19 rg_121 ly_121 ?_
  refine PWk.bI (fun I2 => ?_)
  refine PWk.aload_n 0 dX12_pushes_20 rfl ?_
  refine PWk.gets dX12_pushes_21 rg_100 lc_100 fl_X12_124 rfl st_100_37 ?_
  refine PWk.aload_n 0 dX12_pushes_24 rfl ?_
  refine PWk.geti dX12_pushes_25 rg_100 lc_100 fl_X12_134 rfl ?_
  refine PWk.iconst (v := 1) dX12_pushes_28 ic_1 ?_
  refine PWk.zast dX12_pushes_29 rg_122 ly_122 ?_
  refine PWk.bI (fun I3 => ?_)
  refine PWk.aload_n 0 dX12_pushes_30 rfl ?_
  refine PWk.gets dX12_pushes_31 rg_100 lc_100 fl_X12_131 rfl st_100_39 ?_
  refine PWk.aload_n 0 dX12_pushes_34 rfl ?_
  refine PWk.geti dX12_pushes_35 rg_100 lc_100 fl_X12_134 rfl ?_
  refine PWk.aload_n 0 dX12_pushes_38 rfl ?_
  refine PWk.geti dX12_pushes_39 rg_100 lc_100 fl_X12_143 rfl ?_
  refine PWk.iast dX12_pushes_42 rg_124 ly_124 ?_
  refine PWk.bI (fun I4 => ?_)
  refine PWk.aload_n 0 dX12_pushes_43 rfl ?_
  refine PWk.dup dX12_pushes_44 rfl ?_
  refine PWk.geti dX12_pushes_45 rg_100 lc_100 fl_X12_134 rfl ?_
  refine PWk.iconst (v := 1) dX12_pushes_48 ic_1 ?_
  refine PWk.iadd dX12_pushes_49 ?_
  refine PWk.puti dX12_pushes_50 rg_100 lc_100 fl_X12_134 fp_12_40 rfl ?_
  refine PWk.bI (fun I5 => ?_)
  exact PWk.vret dX12_pushes_53 rfl (fun h => h)
/-! LakeMarketModel.isTest(I)Z -/
def f_X12_isTest (p0 : Int32) : Option (Int32) :=
  jnt (β := Unit) (fun y5 =>
    gz 1 (some 1)) fun j1 =>
  if p0 = 1 then
    j1 ()
  else
    if p0 = 5 then
      j1 ()
    else
      if p0 = 6 then
        j1 ()
      else
        gz 0 (some 0)
set_option maxRecDepth 20000 in
theorem pc_X12_isTest (I : HI) (L : HL) (R : HR) (p0 : Int32) : PCo 100 147 0 yX12_isTest cX12_isTest 1 (some .boolean) [.int p0] I L R (f_X12_isTest p0) (fun x : Int32 => ((some (.int x), I, L, R) : HF)) := by
  refine PCo.of (own := RX12) (by decide +kernel) (Nat.le_of_ble_eq_true rfl) rfl rfl (fun F => ?_)
  unfold f_X12_isTest
  refine PWk.iload_n 0 dX12_isTest_0 rfl ?_
  refine PWk.iconst (v := 1) dX12_isTest_1 ic_1 ?_
  refine PWk.jn (pc' := 16) (lv' := fun y5 => []) (st' := fun y5 => []) (I' := fun y5 => I) (L' := fun y5 => L) (R' := fun y5 => R) (fun j1 hj1 => ?_) (fun y5 => ?_)
  · refine PWk.icmp_eq 16 dX12_isTest_2 (by decide) (fun h4 => ?_) (fun h4 => ?_)
    · refine PWk.sub [] rfl ?_
      exact hj1 ()
    · refine PWk.iload_n 0 dX12_isTest_5 rfl ?_
      refine PWk.iconst (v := 5) dX12_isTest_6 ic_5 ?_
      refine PWk.icmp_eq 16 dX12_isTest_7 (by decide) (fun h3 => ?_) (fun h3 => ?_)
      · refine PWk.sub [] rfl ?_
        exact hj1 ()
      · refine PWk.iload_n 0 dX12_isTest_10 rfl ?_
        refine PWk.bipush (v := 6) dX12_isTest_11 bp_6 ?_
        refine PWk.icmp_ne 20 dX12_isTest_13 (by decide) (fun h2 => ?_) (fun h2 => ?_)
        · refine PWk.sub [] rfl ?_
          exact hj1 ()
        · refine PWk.iconst (v := 0) dX12_isTest_20 ic_0 ?_
          exact PWk.zret dX12_isTest_21 rfl (fun h => h)
  · refine PWk.iconst (v := 1) dX12_isTest_16 ic_1 ?_
    refine PWk.goto 21 dX12_isTest_17 (by decide) ?_
    exact PWk.zret dX12_isTest_21 rfl (fun h => h)
/-! LakeMarketModel.has2(II)Z -/
def f_X12_has2 (p0 : Int32) (p1 : Int32) : Option (Int32) :=
  if ((p0 >>> (p1 &&& 31)) &&& 1) = 1 then
    gz 1 (some 1)
  else
    gz 0 (some 0)
set_option maxRecDepth 20000 in
theorem pc_X12_has2 (I : HI) (L : HL) (R : HR) (p0 : Int32) (p1 : Int32) : PCo 100 147 0 yX12_has2 cX12_has2 2 (some .boolean) [.int p0, .int p1] I L R (f_X12_has2 p0 p1) (fun x : Int32 => ((some (.int x), I, L, R) : HF)) := by
  refine PCo.of (own := RX12) (by decide +kernel) (Nat.le_of_ble_eq_true rfl) rfl rfl (fun F => ?_)
  unfold f_X12_has2
  refine PWk.iload_n 0 dX12_has2_0 rfl ?_
  refine PWk.iload_n 1 dX12_has2_1 rfl ?_
  refine PWk.ishr dX12_has2_2 ?_
  refine PWk.iconst (v := 1) dX12_has2_3 ic_1 ?_
  refine PWk.iand dX12_has2_4 ?_
  refine PWk.iconst (v := 1) dX12_has2_5 ic_1 ?_
  refine PWk.icmp_ne 13 dX12_has2_6 (by decide) (fun h1 => ?_) (fun h1 => ?_)
  · refine PWk.iconst (v := 1) dX12_has2_9 ic_1 ?_
    refine PWk.goto 14 dX12_has2_10 (by decide) ?_
    exact PWk.zret dX12_has2_14 rfl (fun h => h)
  · refine PWk.iconst (v := 0) dX12_has2_13 ic_0 ?_
    exact PWk.zret dX12_has2_14 rfl (fun h => h)
/-! LakeMarketModel.without(I)I -/
def f_X12_without_L36 : Nat → HI → Int32 → Int32 → Int32 → Option (Int32)
  | 0, _, _, _, _ => none
  | n + 1, I, u3, u4, u5 =>
    ldI (I 106) 2 (I 100 33) fun v3 =>
    if v3 ≤ u5 then
      some u4
    else
      ldI (I 108) 16 ((8 * (I 100 33)) + u5) fun v4 =>
      jnt (β := Int32) (fun y8 =>
        bnd ((u4 - y8)) fun v9 =>
        f_X12_without_L36 n I u3 v9 (u5 + 1)) fun j5 =>
      if v4 = u3 then
        ldI (I 107) 16 ((8 * (I 100 33)) + u5) fun v6 =>
        j5 v6
      else
        j5 0
def f_X12_without_L4 (fu : Nat) : Nat → HI → Int32 → Int32 → Int32 → Option (Int32)
  | 0, _, _, _, _ => none
  | n + 1, I, u1, u2, u3 =>
    ldI (I 102) 2 (I 100 33) fun v1 =>
    if v1 ≤ u3 then
      some u2
    else
      ldI (I 103) 16 ((8 * (I 100 33)) + u3) fun v2 =>
      (f_X12_without_L36 fu I u3 v2 0).bind fun x11 =>
      jnt (β := Int32) (fun y14 =>
        bnd ((u2 ||| y14)) fun v15 =>
        f_X12_without_L4 fu n I u1 v15 (u3 + 1)) fun j12 =>
      if u1 ≤ x11 then
        j12 0
      else
        j12 ((1 : Int32) <<< (u3 &&& 31))
def f_X12_without (fu : Nat) (I : HI) (p1 : Int32) : Option (Int32) :=
  (f_X12_without_L4 fu fu I p1 0 0).bind fun x17 =>
  some x17
set_option maxRecDepth 20000 in
theorem lp_X12_without_36 (fu : Nat) (u1 : Int32) (u2 : Int32) (u3 : Int32) (I : HI) (L : HL) (R : HR) : ∀ (n : Nat) (u4 : Int32) (u5 : Int32) (N : (Int32) → Prop) (F : HF), (∀ v : Int32, N v → PW 100 147 0 RX12 cX12_without 6 (some .int) 99 [(0, .ref 100), (1, .int u1), (2, .int u2), (3, .int u3), (4, .int v)] [] I L R F) → PWk 100 147 0 RX12 cX12_without 6 (some .int) 36 [(0, .ref 100), (1, .int u1), (2, .int u2), (3, .int u3), (4, .int u4), (5, .int u5)] [] I L R (f_X12_without_L36 n I u3 u4 u5) N F := by
  intro n
  induction n with
  | zero => intro u4 u5 N F hx; exact PWk.none'
  | succ n ih =>
    intro u4 u5 N F hx
    unfold f_X12_without_L36
    refine PWk.iload 5 dX12_without_36 rfl ?_
    refine PWk.aload_n 0 dX12_without_38 rfl ?_
    refine PWk.gets dX12_without_39 rg_100 lc_100 fl_X12_66 rfl st_100_18 ?_
    refine PWk.aload_n 0 dX12_without_42 rfl ?_
    refine PWk.geti dX12_without_43 rg_100 lc_100 fl_X12_112 rfl ?_
    refine PWk.iald dX12_without_46 rg_106 ly_106 (fun v3 => ?_)
    refine PWk.icmp_ge 99 dX12_without_47 (by decide) (fun h10 => ?_) (fun h10 => ?_)
    · refine PWk.sub [0, 1, 2, 3, 4] rfl ?_
      exact PWk.done (fun h => hx _ h)
    · refine PWk.iload 4 dX12_without_50 rfl ?_
      refine PWk.aload_n 0 dX12_without_52 rfl ?_
      refine PWk.gets dX12_without_53 rg_100 lc_100 fl_X12_72 rfl st_100_20 ?_
      refine PWk.bipush (v := 8) dX12_without_56 bp_8 ?_
      refine PWk.aload_n 0 dX12_without_58 rfl ?_
      refine PWk.geti dX12_without_59 rg_100 lc_100 fl_X12_112 rfl ?_
      refine PWk.imul dX12_without_62 ?_
      refine PWk.iload 5 dX12_without_63 rfl ?_
      refine PWk.iadd dX12_without_65 ?_
      refine PWk.iald dX12_without_66 rg_108 ly_108 (fun v4 => ?_)
      refine PWk.iload_n 3 dX12_without_67 rfl ?_
      refine PWk.jn (pc' := 90) (lv' := fun y8 => [(0, .ref 100), (1, .int u1), (2, .int u2), (3, .int u3), (5, .int u5)]) (st' := fun y8 => [.int y8, .int u4]) (I' := fun y8 => I) (L' := fun y8 => L) (R' := fun y8 => R) (fun j5 hj5 => ?_) (fun y8 => ?_)
      · refine PWk.icmp_ne 89 dX12_without_68 (by decide) (fun h7 => ?_) (fun h7 => ?_)
        · refine PWk.aload_n 0 dX12_without_71 rfl ?_
          refine PWk.gets dX12_without_72 rg_100 lc_100 fl_X12_69 rfl st_100_19 ?_
          refine PWk.bipush (v := 8) dX12_without_75 bp_8 ?_
          refine PWk.aload_n 0 dX12_without_77 rfl ?_
          refine PWk.geti dX12_without_78 rg_100 lc_100 fl_X12_112 rfl ?_
          refine PWk.imul dX12_without_81 ?_
          refine PWk.iload 5 dX12_without_82 rfl ?_
          refine PWk.iadd dX12_without_84 ?_
          refine PWk.iald dX12_without_85 rg_107 ly_107 (fun v6 => ?_)
          refine PWk.goto 90 dX12_without_86 (by decide) ?_
          refine PWk.sub [0, 1, 2, 3, 5] rfl ?_
          exact hj5 v6
        · refine PWk.iconst (v := 0) dX12_without_89 ic_0 ?_
          refine PWk.sub [0, 1, 2, 3, 5] rfl ?_
          exact hj5 0
      · refine PWk.isub dX12_without_90 ?_
        refine PWk.bi (fun v9 => ?_)
        refine PWk.istore [(4, .int v9), (0, .ref 100), (1, .int u1), (2, .int u2), (3, .int u3), (5, .int u5)] dX12_without_91 (by decide) rfl ?_
        refine PWk.iinc (v := (u5 + 1)) 5 [(5, .int (u5 + 1)), (4, .int v9), (0, .ref 100), (1, .int u1), (2, .int u2), (3, .int u3)] dX12_without_93 rfl (by rw [ic_1]) (by decide) rfl ?_
        refine PWk.goto 36 dX12_without_96 (by decide) ?_
        refine PWk.sub [2, 3, 4, 5, 1, 0] rfl ?_
        exact ih v9 (u5 + 1) N F hx
set_option maxRecDepth 20000 in
theorem lp_X12_without_4 (fu : Nat) (u1 : Int32) (I : HI) (L : HL) (R : HR) : ∀ (n : Nat) (u2 : Int32) (u3 : Int32) (N : (Int32) → Prop) (F : HF), (∀ v : Int32, N v → PW 100 147 0 RX12 cX12_without 6 (some .int) 121 [(2, .int v)] [] I L R F) → PWk 100 147 0 RX12 cX12_without 6 (some .int) 4 [(0, .ref 100), (1, .int u1), (2, .int u2), (3, .int u3)] [] I L R (f_X12_without_L4 fu n I u1 u2 u3) N F := by
  intro n
  induction n with
  | zero => intro u2 u3 N F hx; exact PWk.none'
  | succ n ih =>
    intro u2 u3 N F hx
    unfold f_X12_without_L4
    refine PWk.iload_n 3 dX12_without_4 rfl ?_
    refine PWk.aload_n 0 dX12_without_5 rfl ?_
    refine PWk.gets dX12_without_6 rg_100 lc_100 fl_X12_54 rfl st_100_14 ?_
    refine PWk.aload_n 0 dX12_without_9 rfl ?_
    refine PWk.geti dX12_without_10 rg_100 lc_100 fl_X12_112 rfl ?_
    refine PWk.iald dX12_without_13 rg_102 ly_102 (fun v1 => ?_)
    refine PWk.icmp_ge 121 dX12_without_14 (by decide) (fun h16 => ?_) (fun h16 => ?_)
    · refine PWk.sub [2] rfl ?_
      exact PWk.done (fun h => hx _ h)
    · refine PWk.aload_n 0 dX12_without_17 rfl ?_
      refine PWk.gets dX12_without_18 rg_100 lc_100 fl_X12_57 rfl st_100_15 ?_
      refine PWk.bipush (v := 8) dX12_without_21 bp_8 ?_
      refine PWk.aload_n 0 dX12_without_23 rfl ?_
      refine PWk.geti dX12_without_24 rg_100 lc_100 fl_X12_112 rfl ?_
      refine PWk.imul dX12_without_27 ?_
      refine PWk.iload_n 3 dX12_without_28 rfl ?_
      refine PWk.iadd dX12_without_29 ?_
      refine PWk.iald dX12_without_30 rg_103 ly_103 (fun v2 => ?_)
      refine PWk.istore [(4, .int v2), (0, .ref 100), (1, .int u1), (2, .int u2), (3, .int u3)] dX12_without_31 (by decide) rfl ?_
      refine PWk.iconst (v := 0) dX12_without_33 ic_0 ?_
      refine PWk.istore [(5, .int 0), (4, .int v2), (0, .ref 100), (1, .int u1), (2, .int u2), (3, .int u3)] dX12_without_34 (by decide) rfl ?_
      refine PWk.sub [2, 3, 4, 5, 1, 0] rfl ?_
      refine PWk.loopV (fun N' hx' => lp_X12_without_36 fu u1 u2 u3 I L R fu v2 0 N' F hx') (fun x11 => ?_)
      refine PWk.iload_n 2 dX12_without_99 rfl ?_
      refine PWk.iload 4 dX12_without_100 rfl ?_
      refine PWk.iload_n 1 dX12_without_102 rfl ?_
      refine PWk.jn (pc' := 113) (lv' := fun y14 => [(0, .ref 100), (1, .int u1), (3, .int u3)]) (st' := fun y14 => [.int y14, .int u2]) (I' := fun y14 => I) (L' := fun y14 => L) (R' := fun y14 => R) (fun j12 hj12 => ?_) (fun y14 => ?_)
      · refine PWk.icmp_ge 112 dX12_without_103 (by decide) (fun h13 => ?_) (fun h13 => ?_)
        · refine PWk.iconst (v := 0) dX12_without_112 ic_0 ?_
          refine PWk.sub [0, 1, 3] rfl ?_
          exact hj12 0
        · refine PWk.iconst (v := 1) dX12_without_106 ic_1 ?_
          refine PWk.iload_n 3 dX12_without_107 rfl ?_
          refine PWk.ishl dX12_without_108 ?_
          refine PWk.goto 113 dX12_without_109 (by decide) ?_
          refine PWk.sub [0, 1, 3] rfl ?_
          exact hj12 ((1 : Int32) <<< (u3 &&& 31))
      · refine PWk.ior dX12_without_113 ?_
        refine PWk.bi (fun v15 => ?_)
        refine PWk.istore_n [(2, .int v15), (0, .ref 100), (1, .int u1), (3, .int u3)] dX12_without_114 (by decide) rfl ?_
        refine PWk.iinc (v := (u3 + 1)) 3 [(3, .int (u3 + 1)), (2, .int v15), (0, .ref 100), (1, .int u1)] dX12_without_115 rfl (by rw [ic_1]) (by decide) rfl ?_
        refine PWk.goto 4 dX12_without_118 (by decide) ?_
        refine PWk.sub [2, 3, 1, 0] rfl ?_
        exact ih v15 (u3 + 1) N F hx
set_option maxRecDepth 20000 in
theorem pc_X12_without (fu : Nat) (I : HI) (L : HL) (R : HR) (p1 : Int32) : PCo 100 147 0 yX12_without cX12_without 6 (some .int) [.ref 100, .int p1] I L R (f_X12_without fu I p1) (fun x : Int32 => ((some (.int x), I, L, R) : HF)) := by
  refine PCo.of (own := RX12) (by decide +kernel) (Nat.le_of_ble_eq_true rfl) rfl rfl (fun F => ?_)
  unfold f_X12_without
  refine PWk.iconst (v := 0) dX12_without_0 ic_0 ?_
  refine PWk.istore_n [(2, .int 0), (0, .ref 100), (1, .int p1)] dX12_without_1 (by decide) rfl ?_
  refine PWk.iconst (v := 0) dX12_without_2 ic_0 ?_
  refine PWk.istore_n [(3, .int 0), (2, .int 0), (0, .ref 100), (1, .int p1)] dX12_without_3 (by decide) rfl ?_
  refine PWk.sub [2, 3, 1, 0] rfl ?_
  refine PWk.loopV (fun N' hx' => lp_X12_without_4 fu p1 I L R fu 0 0 N' F hx') (fun x17 => ?_)
  refine PWk.iload_n 0 dX12_without_121 rfl ?_
  exact PWk.iret dX12_without_122 rfl (fun h => h)
/-! LakeMarketModel.fault(I)I -/
def f_X12_fault (I : HI) (p1 : Int32) : Option (Int32) :=
  if p1 = 0 then
    some (I 100 10)
  else
    if p1 = 1 then
      some (I 100 11)
    else
      some (-1)
set_option maxRecDepth 20000 in
theorem pc_X12_fault (I : HI) (L : HL) (R : HR) (p1 : Int32) : PCo 100 147 0 yX12_fault cX12_fault 2 (some .int) [.ref 100, .int p1] I L R (f_X12_fault I p1) (fun x : Int32 => ((some (.int x), I, L, R) : HF)) := by
  refine PCo.of (own := RX12) (by decide +kernel) (Nat.le_of_ble_eq_true rfl) rfl rfl (fun F => ?_)
  unfold f_X12_fault
  refine PWk.iload_n 1 dX12_fault_0 rfl ?_
  refine PWk.if_ne 11 dX12_fault_1 (by decide) (fun h2 => ?_) (fun h2 => ?_)
  · refine PWk.aload_n 0 dX12_fault_4 rfl ?_
    refine PWk.geti dX12_fault_5 rg_100 lc_100 fl_X12_42 rfl ?_
    refine PWk.goto 24 dX12_fault_8 (by decide) ?_
    exact PWk.iret dX12_fault_24 rfl (fun h => h)
  · refine PWk.iload_n 1 dX12_fault_11 rfl ?_
    refine PWk.iconst (v := 1) dX12_fault_12 ic_1 ?_
    refine PWk.icmp_ne 23 dX12_fault_13 (by decide) (fun h1 => ?_) (fun h1 => ?_)
    · refine PWk.aload_n 0 dX12_fault_16 rfl ?_
      refine PWk.geti dX12_fault_17 rg_100 lc_100 fl_X12_45 rfl ?_
      refine PWk.goto 24 dX12_fault_20 (by decide) ?_
      exact PWk.iret dX12_fault_24 rfl (fun h => h)
    · refine PWk.iconst (v := (-1)) dX12_fault_23 ic_m1 ?_
      exact PWk.iret dX12_fault_24 rfl (fun h => h)
/-! LakeMarketModel.refuses(I)I -/
def f_X12_refuses (I : HI) (p1 : Int32) : Option (Int32 × HI) :=
  ldI (I 126) 6 p1 fun v1 =>
  inb 6 p1 <|
  bnd (sI I 126 (p1 : Int32).toNatClampNeg (v1 + 1)) fun I2 =>
  some ((-1), I2)
set_option maxRecDepth 20000 in
theorem pc_X12_refuses (I : HI) (L : HL) (R : HR) (p1 : Int32) : PCo 100 147 0 yX12_refuses cX12_refuses 2 (some .int) [.ref 100, .int p1] I L R (f_X12_refuses I p1) (fun x : Int32 × HI => ((some (.int x.1), x.2, L, R) : HF)) := by
  refine PCo.of (own := RX12) (by decide +kernel) (Nat.le_of_ble_eq_true rfl) rfl rfl (fun F => ?_)
  unfold f_X12_refuses
  refine PWk.aload_n 0 dX12_refuses_0 rfl ?_
  refine PWk.gets dX12_refuses_1 rg_100 lc_100 fl_X12_150 rfl st_100_45 ?_
  refine PWk.iload_n 1 dX12_refuses_4 rfl ?_
  refine PWk.dup2 dX12_refuses_5 rfl rfl ?_
  refine PWk.iald dX12_refuses_6 rg_126 ly_126 (fun v1 => ?_)
  refine PWk.iconst (v := 1) dX12_refuses_7 ic_1 ?_
  refine PWk.iadd dX12_refuses_8 ?_
  refine PWk.iast dX12_refuses_9 rg_126 ly_126 ?_
  refine PWk.bI (fun I2 => ?_)
  refine PWk.iconst (v := (-1)) dX12_refuses_10 ic_m1 ?_
  exact PWk.iret dX12_refuses_11 rfl (fun h => h)
/-! LakeMarketModel.status(I)I -/
def f_X12_status (I : HI) (p1 : Int32) : Option (Int32) :=
  (f_X12_is p1 0 5).bind fun x1 =>
  if x1 = 0 then
    some (-1)
  else
    ldI (I 126) 6 p1 fun v2 =>
    some v2
set_option maxRecDepth 20000 in
theorem pc_X12_status (I : HI) (L : HL) (R : HR) (p1 : Int32) : PCo 100 147 1 yX12_status cX12_status 2 (some .int) [.ref 100, .int p1] I L R (f_X12_status I p1) (fun x : Int32 => ((some (.int x), I, L, R) : HF)) := by
  refine PCo.of (own := RX12) (by decide +kernel) (Nat.le_of_ble_eq_true rfl) rfl rfl (fun F => ?_)
  unfold f_X12_status
  refine PWk.iload_n 1 dX12_status_0 rfl ?_
  refine PWk.iconst (v := 0) dX12_status_1 ic_0 ?_
  refine PWk.iconst (v := 5) dX12_status_2 ic_5 ?_
  refine PWk.callSi (pc_X12_is I L R p1 0 5) dX12_status_3 ml_X12_319 rfl (by decide) rfl (Nat.le_of_ble_eq_true rfl) (fun x1 => ?_)
  refine PWk.if_eq 18 dX12_status_6 (by decide) (fun h3 => ?_) (fun h3 => ?_)
  · refine PWk.iconst (v := (-1)) dX12_status_18 ic_m1 ?_
    exact PWk.iret dX12_status_19 rfl (fun h => h)
  · refine PWk.aload_n 0 dX12_status_9 rfl ?_
    refine PWk.gets dX12_status_10 rg_100 lc_100 fl_X12_150 rfl st_100_45 ?_
    refine PWk.iload_n 1 dX12_status_13 rfl ?_
    refine PWk.iald dX12_status_14 rg_126 ly_126 (fun v2 => ?_)
    refine PWk.goto 19 dX12_status_15 (by decide) ?_
    exact PWk.iret dX12_status_19 rfl (fun h => h)
/-! LakeMarketModel.copies(II)V -/
def f_X12_copies_L142 : Nat → HI → Int32 → Int32 → Int32 → Option (HI)
  | 0, _, _, _, _ => none
  | n + 1, I, u1, u2, u3 =>
    ldI (I 132) 26 u2 fun v17 =>
    if (4 * v17) ≤ u3 then
      some I
    else
      ldI (I 133) 4160 ((160 * u2) + u3) fun v18 =>
      inb 4160 ((160 * u1) + u3) <|
      bnd (sI I 133 (((160 * u1) + u3) : Int32).toNatClampNeg v18) fun I19 =>
      f_X12_copies_L142 n I19 u1 u2 (u3 + 1)
def f_X12_copies_L94 : Nat → HI → Int32 → Int32 → Int32 → Option (HI)
  | 0, _, _, _, _ => none
  | n + 1, I, u1, u2, u3 =>
    if 36 ≤ u3 then
      some I
    else
      ldI (I 131) 936 ((36 * u2) + u3) fun v11 =>
      inb 936 ((36 * u1) + u3) <|
      bnd (sI I 131 (((36 * u1) + u3) : Int32).toNatClampNeg v11) fun I12 =>
      f_X12_copies_L94 n I12 u1 u2 (u3 + 1)
def f_X12_copies_L14 : Nat → HI → Int32 → Int32 → Int32 → Option (HI)
  | 0, _, _, _, _ => none
  | n + 1, I, u1, u2, u3 =>
    if 8 ≤ u3 then
      some I
    else
      ldI (I 128) 208 ((8 * u2) + u3) fun v3 =>
      inb 208 ((8 * u1) + u3) <|
      bnd (sI I 128 (((8 * u1) + u3) : Int32).toNatClampNeg v3) fun I4 =>
      ldI (I4 129) 208 ((8 * u2) + u3) fun v5 =>
      inb 208 ((8 * u1) + u3) <|
      bnd (sI I4 129 (((8 * u1) + u3) : Int32).toNatClampNeg v5) fun I6 =>
      ldI (I6 130) 208 ((8 * u2) + u3) fun v7 =>
      inb 208 ((8 * u1) + u3) <|
      bnd (sI I6 130 (((8 * u1) + u3) : Int32).toNatClampNeg v7) fun I8 =>
      f_X12_copies_L14 n I8 u1 u2 (u3 + 1)
def f_X12_copies (fu : Nat) (I : HI) (p1 : Int32) (p2 : Int32) : Option (HI) :=
  ldI (I 127) 26 p2 fun v1 =>
  inb 26 p1 <|
  bnd (sI I 127 (p1 : Int32).toNatClampNeg v1) fun I2 =>
  (f_X12_copies_L14 fu I2 p1 p2 0).bind fun x10 =>
  (f_X12_copies_L94 fu x10 p1 p2 0).bind fun x14 =>
  ldI (x14 132) 26 p2 fun v15 =>
  inb 26 p1 <|
  bnd (sI x14 132 (p1 : Int32).toNatClampNeg v15) fun I16 =>
  (f_X12_copies_L142 fu I16 p1 p2 0).bind fun x21 =>
  some x21
set_option maxRecDepth 20000 in
theorem lp_X12_copies_142 (fu : Nat) (u1 : Int32) (u2 : Int32) (L : HL) (R : HR) : ∀ (n : Nat) (u3 : Int32) (I : HI) (N : (HI) → Prop) (F : HF), (∀ v : HI, N v → PW 100 147 0 RX12 cX12_copies 4 none 184 [] [] v L R F) → PWk 100 147 0 RX12 cX12_copies 4 none 142 [(0, .ref 100), (1, .int u1), (2, .int u2), (3, .int u3)] [] I L R (f_X12_copies_L142 n I u1 u2 u3) N F := by
  intro n
  induction n with
  | zero => intro u3 I N F hx; exact PWk.none'
  | succ n ih =>
    intro u3 I N F hx
    unfold f_X12_copies_L142
    refine PWk.iload_n 3 dX12_copies_142 rfl ?_
    refine PWk.iconst (v := 4) dX12_copies_143 ic_4 ?_
    refine PWk.aload_n 0 dX12_copies_144 rfl ?_
    refine PWk.gets dX12_copies_145 rg_100 lc_100 fl_X12_168 rfl st_100_51 ?_
    refine PWk.iload_n 2 dX12_copies_148 rfl ?_
    refine PWk.iald dX12_copies_149 rg_132 ly_132 (fun v17 => ?_)
    refine PWk.imul dX12_copies_150 ?_
    refine PWk.icmp_ge 184 dX12_copies_151 (by decide) (fun h20 => ?_) (fun h20 => ?_)
    · refine PWk.sub [] rfl ?_
      exact PWk.done (fun h => hx _ h)
    · refine PWk.aload_n 0 dX12_copies_154 rfl ?_
      refine PWk.gets dX12_copies_155 rg_100 lc_100 fl_X12_171 rfl st_100_52 ?_
      refine PWk.sipush (v := 160) dX12_copies_158 sp_160 ?_
      refine PWk.iload_n 1 dX12_copies_161 rfl ?_
      refine PWk.imul dX12_copies_162 ?_
      refine PWk.iload_n 3 dX12_copies_163 rfl ?_
      refine PWk.iadd dX12_copies_164 ?_
      refine PWk.aload_n 0 dX12_copies_165 rfl ?_
      refine PWk.gets dX12_copies_166 rg_100 lc_100 fl_X12_171 rfl st_100_52 ?_
      refine PWk.sipush (v := 160) dX12_copies_169 sp_160 ?_
      refine PWk.iload_n 2 dX12_copies_172 rfl ?_
      refine PWk.imul dX12_copies_173 ?_
      refine PWk.iload_n 3 dX12_copies_174 rfl ?_
      refine PWk.iadd dX12_copies_175 ?_
      refine PWk.iald dX12_copies_176 rg_133 ly_133 (fun v18 => ?_)
      refine PWk.iast dX12_copies_177 rg_133 ly_133 ?_
      refine PWk.bI (fun I19 => ?_)
      refine PWk.iinc (v := (u3 + 1)) 3 [(3, .int (u3 + 1)), (0, .ref 100), (1, .int u1), (2, .int u2)] dX12_copies_178 rfl (by rw [ic_1]) (by decide) rfl ?_
      refine PWk.goto 142 dX12_copies_181 (by decide) ?_
      refine PWk.sub [1, 2, 3, 0] rfl ?_
      exact ih (u3 + 1) I19 N F hx
set_option maxRecDepth 20000 in
theorem lp_X12_copies_94 (fu : Nat) (u1 : Int32) (u2 : Int32) (L : HL) (R : HR) : ∀ (n : Nat) (u3 : Int32) (I : HI) (N : (HI) → Prop) (F : HF), (∀ v : HI, N v → PW 100 147 0 RX12 cX12_copies 4 none 128 [(0, .ref 100), (1, .int u1), (2, .int u2)] [] v L R F) → PWk 100 147 0 RX12 cX12_copies 4 none 94 [(0, .ref 100), (1, .int u1), (2, .int u2), (3, .int u3)] [] I L R (f_X12_copies_L94 n I u1 u2 u3) N F := by
  intro n
  induction n with
  | zero => intro u3 I N F hx; exact PWk.none'
  | succ n ih =>
    intro u3 I N F hx
    unfold f_X12_copies_L94
    refine PWk.iload_n 3 dX12_copies_94 rfl ?_
    refine PWk.bipush (v := 36) dX12_copies_95 bp_36 ?_
    refine PWk.icmp_ge 128 dX12_copies_97 (by decide) (fun h13 => ?_) (fun h13 => ?_)
    · refine PWk.sub [0, 1, 2] rfl ?_
      exact PWk.done (fun h => hx _ h)
    · refine PWk.aload_n 0 dX12_copies_100 rfl ?_
      refine PWk.gets dX12_copies_101 rg_100 lc_100 fl_X12_165 rfl st_100_50 ?_
      refine PWk.bipush (v := 36) dX12_copies_104 bp_36 ?_
      refine PWk.iload_n 1 dX12_copies_106 rfl ?_
      refine PWk.imul dX12_copies_107 ?_
      refine PWk.iload_n 3 dX12_copies_108 rfl ?_
      refine PWk.iadd dX12_copies_109 ?_
      refine PWk.aload_n 0 dX12_copies_110 rfl ?_
      refine PWk.gets dX12_copies_111 rg_100 lc_100 fl_X12_165 rfl st_100_50 ?_
      refine PWk.bipush (v := 36) dX12_copies_114 bp_36 ?_
      refine PWk.iload_n 2 dX12_copies_116 rfl ?_
      refine PWk.imul dX12_copies_117 ?_
      refine PWk.iload_n 3 dX12_copies_118 rfl ?_
      refine PWk.iadd dX12_copies_119 ?_
      refine PWk.iald dX12_copies_120 rg_131 ly_131 (fun v11 => ?_)
      refine PWk.iast dX12_copies_121 rg_131 ly_131 ?_
      refine PWk.bI (fun I12 => ?_)
      refine PWk.iinc (v := (u3 + 1)) 3 [(3, .int (u3 + 1)), (0, .ref 100), (1, .int u1), (2, .int u2)] dX12_copies_122 rfl (by rw [ic_1]) (by decide) rfl ?_
      refine PWk.goto 94 dX12_copies_125 (by decide) ?_
      refine PWk.sub [1, 2, 3, 0] rfl ?_
      exact ih (u3 + 1) I12 N F hx
set_option maxRecDepth 20000 in
theorem lp_X12_copies_14 (fu : Nat) (u1 : Int32) (u2 : Int32) (L : HL) (R : HR) : ∀ (n : Nat) (u3 : Int32) (I : HI) (N : (HI) → Prop) (F : HF), (∀ v : HI, N v → PW 100 147 0 RX12 cX12_copies 4 none 92 [(0, .ref 100), (1, .int u1), (2, .int u2)] [] v L R F) → PWk 100 147 0 RX12 cX12_copies 4 none 14 [(0, .ref 100), (1, .int u1), (2, .int u2), (3, .int u3)] [] I L R (f_X12_copies_L14 n I u1 u2 u3) N F := by
  intro n
  induction n with
  | zero => intro u3 I N F hx; exact PWk.none'
  | succ n ih =>
    intro u3 I N F hx
    unfold f_X12_copies_L14
    refine PWk.iload_n 3 dX12_copies_14 rfl ?_
    refine PWk.bipush (v := 8) dX12_copies_15 bp_8 ?_
    refine PWk.icmp_ge 92 dX12_copies_17 (by decide) (fun h9 => ?_) (fun h9 => ?_)
    · refine PWk.sub [0, 1, 2] rfl ?_
      exact PWk.done (fun h => hx _ h)
    · refine PWk.aload_n 0 dX12_copies_20 rfl ?_
      refine PWk.gets dX12_copies_21 rg_100 lc_100 fl_X12_156 rfl st_100_47 ?_
      refine PWk.bipush (v := 8) dX12_copies_24 bp_8 ?_
      refine PWk.iload_n 1 dX12_copies_26 rfl ?_
      refine PWk.imul dX12_copies_27 ?_
      refine PWk.iload_n 3 dX12_copies_28 rfl ?_
      refine PWk.iadd dX12_copies_29 ?_
      refine PWk.aload_n 0 dX12_copies_30 rfl ?_
      refine PWk.gets dX12_copies_31 rg_100 lc_100 fl_X12_156 rfl st_100_47 ?_
      refine PWk.bipush (v := 8) dX12_copies_34 bp_8 ?_
      refine PWk.iload_n 2 dX12_copies_36 rfl ?_
      refine PWk.imul dX12_copies_37 ?_
      refine PWk.iload_n 3 dX12_copies_38 rfl ?_
      refine PWk.iadd dX12_copies_39 ?_
      refine PWk.iald dX12_copies_40 rg_128 ly_128 (fun v3 => ?_)
      refine PWk.iast dX12_copies_41 rg_128 ly_128 ?_
      refine PWk.bI (fun I4 => ?_)
      refine PWk.aload_n 0 dX12_copies_42 rfl ?_
      refine PWk.gets dX12_copies_43 rg_100 lc_100 fl_X12_159 rfl st_100_48 ?_
      refine PWk.bipush (v := 8) dX12_copies_46 bp_8 ?_
      refine PWk.iload_n 1 dX12_copies_48 rfl ?_
      refine PWk.imul dX12_copies_49 ?_
      refine PWk.iload_n 3 dX12_copies_50 rfl ?_
      refine PWk.iadd dX12_copies_51 ?_
      refine PWk.aload_n 0 dX12_copies_52 rfl ?_
      refine PWk.gets dX12_copies_53 rg_100 lc_100 fl_X12_159 rfl st_100_48 ?_
      refine PWk.bipush (v := 8) dX12_copies_56 bp_8 ?_
      refine PWk.iload_n 2 dX12_copies_58 rfl ?_
      refine PWk.imul dX12_copies_59 ?_
      refine PWk.iload_n 3 dX12_copies_60 rfl ?_
      refine PWk.iadd dX12_copies_61 ?_
      refine PWk.iald dX12_copies_62 rg_129 ly_129 (fun v5 => ?_)
      refine PWk.iast dX12_copies_63 rg_129 ly_129 ?_
      refine PWk.bI (fun I6 => ?_)
      refine PWk.aload_n 0 dX12_copies_64 rfl ?_
      refine PWk.gets dX12_copies_65 rg_100 lc_100 fl_X12_162 rfl st_100_49 ?_
      refine PWk.bipush (v := 8) dX12_copies_68 bp_8 ?_
      refine PWk.iload_n 1 dX12_copies_70 rfl ?_
      refine PWk.imul dX12_copies_71 ?_
      refine PWk.iload_n 3 dX12_copies_72 rfl ?_
      refine PWk.iadd dX12_copies_73 ?_
      refine PWk.aload_n 0 dX12_copies_74 rfl ?_
      refine PWk.gets dX12_copies_75 rg_100 lc_100 fl_X12_162 rfl st_100_49 ?_
      refine PWk.bipush (v := 8) dX12_copies_78 bp_8 ?_
      refine PWk.iload_n 2 dX12_copies_80 rfl ?_
      refine PWk.imul dX12_copies_81 ?_
      refine PWk.iload_n 3 dX12_copies_82 rfl ?_
      refine PWk.iadd dX12_copies_83 ?_
      refine PWk.iald dX12_copies_84 rg_130 ly_130 (fun v7 => ?_)
      refine PWk.iast dX12_copies_85 rg_130 ly_130 ?_
      refine PWk.bI (fun I8 => ?_)
      refine PWk.iinc (v := (u3 + 1)) 3 [(3, .int (u3 + 1)), (0, .ref 100), (1, .int u1), (2, .int u2)] dX12_copies_86 rfl (by rw [ic_1]) (by decide) rfl ?_
      refine PWk.goto 14 dX12_copies_89 (by decide) ?_
      refine PWk.sub [1, 2, 3, 0] rfl ?_
      exact ih (u3 + 1) I8 N F hx
set_option maxRecDepth 20000 in
theorem pc_X12_copies (fu : Nat) (I : HI) (L : HL) (R : HR) (p1 : Int32) (p2 : Int32) : PCo 100 147 0 yX12_copies cX12_copies 4 none [.ref 100, .int p1, .int p2] I L R (f_X12_copies fu I p1 p2) (fun x : HI => ((none, x, L, R) : HF)) := by
  refine PCo.of (own := RX12) (by decide +kernel) (Nat.le_of_ble_eq_true rfl) rfl rfl (fun F => ?_)
  unfold f_X12_copies
  refine PWk.aload_n 0 dX12_copies_0 rfl ?_
  refine PWk.gets dX12_copies_1 rg_100 lc_100 fl_X12_153 rfl st_100_46 ?_
  refine PWk.iload_n 1 dX12_copies_4 rfl ?_
  refine PWk.aload_n 0 dX12_copies_5 rfl ?_
  refine PWk.gets dX12_copies_6 rg_100 lc_100 fl_X12_153 rfl st_100_46 ?_
  refine PWk.iload_n 2 dX12_copies_9 rfl ?_
  refine PWk.iald dX12_copies_10 rg_127 ly_127 (fun v1 => ?_)
  refine PWk.iast dX12_copies_11 rg_127 ly_127 ?_
  refine PWk.bI (fun I2 => ?_)
  refine PWk.iconst (v := 0) dX12_copies_12 ic_0 ?_
  refine PWk.istore_n [(3, .int 0), (0, .ref 100), (1, .int p1), (2, .int p2)] dX12_copies_13 (by decide) rfl ?_
  refine PWk.sub [1, 2, 3, 0] rfl ?_
  refine PWk.loopV (fun N' hx' => lp_X12_copies_14 fu p1 p2 L R fu 0 I2 N' F hx') (fun x10 => ?_)
  refine PWk.iconst (v := 0) dX12_copies_92 ic_0 ?_
  refine PWk.istore_n [(3, .int 0), (0, .ref 100), (1, .int p1), (2, .int p2)] dX12_copies_93 (by decide) rfl ?_
  refine PWk.sub [1, 2, 3, 0] rfl ?_
  refine PWk.loopV (fun N' hx' => lp_X12_copies_94 fu p1 p2 L R fu 0 x10 N' F hx') (fun x14 => ?_)
  refine PWk.aload_n 0 dX12_copies_128 rfl ?_
  refine PWk.gets dX12_copies_129 rg_100 lc_100 fl_X12_168 rfl st_100_51 ?_
  refine PWk.iload_n 1 dX12_copies_132 rfl ?_
  refine PWk.aload_n 0 dX12_copies_133 rfl ?_
  refine PWk.gets dX12_copies_134 rg_100 lc_100 fl_X12_168 rfl st_100_51 ?_
  refine PWk.iload_n 2 dX12_copies_137 rfl ?_
  refine PWk.iald dX12_copies_138 rg_132 ly_132 (fun v15 => ?_)
  refine PWk.iast dX12_copies_139 rg_132 ly_132 ?_
  refine PWk.bI (fun I16 => ?_)
  refine PWk.iconst (v := 0) dX12_copies_140 ic_0 ?_
  refine PWk.istore_n [(3, .int 0), (0, .ref 100), (1, .int p1), (2, .int p2)] dX12_copies_141 (by decide) rfl ?_
  refine PWk.sub [1, 2, 3, 0] rfl ?_
  refine PWk.loopV (fun N' hx' => lp_X12_copies_142 fu p1 p2 L R fu 0 I16 N' F hx') (fun x21 => ?_)
  exact PWk.vret dX12_copies_184 rfl (fun h => h)
/-! LakeMarketModel.begin()V -/
def f_X12_begin_L134 : Nat → HI → Int32 → Int32 → Option (HI)
  | 0, _, _, _ => none
  | n + 1, I, u1, u2 =>
    if 6 ≤ u2 then
      some I
    else
      ldI (I 105) 2 (I 100 13) fun v23 =>
      jnt (β := Int32) (fun y31 =>
        inb 936 ((6 * u1) + u2) <|
        bnd (sI I 131 (((6 * u1) + u2) : Int32).toNatClampNeg y31) fun I32 =>
        f_X12_begin_L134 n I32 u1 (u2 + 1)) fun j25 =>
      jnt (β := Unit) (fun y30 =>
        j25 0) fun j24 =>
      if v23 ≤ u1 then
        j24 ()
      else
        ldI (I 105) 2 (I 100 13) fun v26 =>
        if v26 ≤ u2 then
          j24 ()
        else
          ldI (I 110) 72 ((6 * ((6 * (I 100 13)) + u1)) + u2) fun v27 =>
          j25 v27
def f_X12_begin_L126 (fu : Nat) : Nat → HI → Int32 → Option (HI)
  | 0, _, _ => none
  | n + 1, I, u1 =>
    if 6 ≤ u1 then
      some I
    else
      (f_X12_begin_L134 fu I u1 0).bind fun x34 =>
      f_X12_begin_L126 fu n x34 (u1 + 1)
def f_X12_begin_L9 : Nat → HI → Int32 → Option (HI)
  | 0, _, _ => none
  | n + 1, I, u1 =>
    if 8 ≤ u1 then
      some I
    else
      ldI (I 106) 2 (I 100 13) fun v2 =>
      jnt (β := Int32) (fun y5 =>
        jnt (β := Int32) (fun y9 =>
          inb 208 u1 <|
          bnd (sI I 128 (u1 : Int32).toNatClampNeg y9) fun I10 =>
          jnt (β := Int32) (fun y14 =>
            inb 208 u1 <|
            bnd (sI I10 129 (u1 : Int32).toNatClampNeg y14) fun I15 =>
            jnt (β := Int32) (fun y19 =>
              inb 208 u1 <|
              bnd (sI I15 130 (u1 : Int32).toNatClampNeg y19) fun I20 =>
              f_X12_begin_L9 n I20 (u1 + 1)) fun j16 =>
            if y5 = 0 then
              j16 (-1)
            else
              ldI (I15 109) 16 ((8 * (I15 100 13)) + u1) fun v17 =>
              j16 v17) fun j11 =>
          if y5 = 0 then
            j11 (-1)
          else
            ldI (I10 108) 16 ((8 * (I10 100 13)) + u1) fun v12 =>
            j11 v12) fun j6 =>
        if y5 = 0 then
          j6 0
        else
          ldI (I 107) 16 ((8 * (I 100 13)) + u1) fun v7 =>
          j6 v7) fun j3 =>
      if v2 ≤ u1 then
        j3 0
      else
        j3 1
def f_X12_begin (fu : Nat) (I : HI) : Option (HI) :=
  inb 26 0 <|
  bnd (sI I 127 (0 : Int32).toNatClampNeg 0) fun I1 =>
  (f_X12_begin_L9 fu I1 0).bind fun x22 =>
  (f_X12_begin_L126 fu fu x22 0).bind fun x36 =>
  inb 26 0 <|
  bnd (sI x36 132 (0 : Int32).toNatClampNeg 0) fun I37 =>
  bnd (sI I37 100 54 0) fun I38 =>
  bnd (sI I38 100 66 0) fun I39 =>
  some I39
set_option maxRecDepth 20000 in
theorem lp_X12_begin_134 (fu : Nat) (u1 : Int32) (L : HL) (R : HR) : ∀ (n : Nat) (u2 : Int32) (I : HI) (N : (HI) → Prop) (F : HF), (∀ v : HI, N v → PW 100 147 0 RX12 cX12_begin 3 none 206 [(0, .ref 100), (1, .int u1)] [] v L R F) → PWk 100 147 0 RX12 cX12_begin 3 none 134 [(0, .ref 100), (1, .int u1), (2, .int u2)] [] I L R (f_X12_begin_L134 n I u1 u2) N F := by
  intro n
  induction n with
  | zero => intro u2 I N F hx; exact PWk.none'
  | succ n ih =>
    intro u2 I N F hx
    unfold f_X12_begin_L134
    refine PWk.iload_n 2 dX12_begin_134 rfl ?_
    refine PWk.bipush (v := 6) dX12_begin_135 bp_6 ?_
    refine PWk.icmp_ge 206 dX12_begin_137 (by decide) (fun h33 => ?_) (fun h33 => ?_)
    · refine PWk.sub [0, 1] rfl ?_
      exact PWk.done (fun h => hx _ h)
    · refine PWk.aload_n 0 dX12_begin_140 rfl ?_
      refine PWk.gets dX12_begin_141 rg_100 lc_100 fl_X12_165 rfl st_100_50 ?_
      refine PWk.bipush (v := 6) dX12_begin_144 bp_6 ?_
      refine PWk.iload_n 1 dX12_begin_146 rfl ?_
      refine PWk.imul dX12_begin_147 ?_
      refine PWk.iload_n 2 dX12_begin_148 rfl ?_
      refine PWk.iadd dX12_begin_149 ?_
      refine PWk.iload_n 1 dX12_begin_150 rfl ?_
      refine PWk.aload_n 0 dX12_begin_151 rfl ?_
      refine PWk.gets dX12_begin_152 rg_100 lc_100 fl_X12_63 rfl st_100_17 ?_
      refine PWk.aload_n 0 dX12_begin_155 rfl ?_
      refine PWk.geti dX12_begin_156 rg_100 lc_100 fl_X12_51 rfl ?_
      refine PWk.iald dX12_begin_159 rg_105 ly_105 (fun v23 => ?_)
      refine PWk.jn (pc' := 199) (lv' := fun y31 => [(0, .ref 100), (1, .int u1), (2, .int u2)]) (st' := fun y31 => [.int y31, .int ((6 * u1) + u2), .ref 131]) (I' := fun y31 => I) (L' := fun y31 => L) (R' := fun y31 => R) (fun j25 hj25 => ?_) (fun y31 => ?_)
      · refine PWk.jn (pc' := 198) (lv' := fun y30 => [(0, .ref 100), (1, .int u1), (2, .int u2)]) (st' := fun y30 => [.int ((6 * u1) + u2), .ref 131]) (I' := fun y30 => I) (L' := fun y30 => L) (R' := fun y30 => R) (fun j24 hj24 => ?_) (fun y30 => ?_)
        · refine PWk.icmp_ge 198 dX12_begin_160 (by decide) (fun h29 => ?_) (fun h29 => ?_)
          · exact hj24 ()
          · refine PWk.iload_n 2 dX12_begin_163 rfl ?_
            refine PWk.aload_n 0 dX12_begin_164 rfl ?_
            refine PWk.gets dX12_begin_165 rg_100 lc_100 fl_X12_63 rfl st_100_17 ?_
            refine PWk.aload_n 0 dX12_begin_168 rfl ?_
            refine PWk.geti dX12_begin_169 rg_100 lc_100 fl_X12_51 rfl ?_
            refine PWk.iald dX12_begin_172 rg_105 ly_105 (fun v26 => ?_)
            refine PWk.icmp_ge 198 dX12_begin_173 (by decide) (fun h28 => ?_) (fun h28 => ?_)
            · exact hj24 ()
            · refine PWk.aload_n 0 dX12_begin_176 rfl ?_
              refine PWk.gets dX12_begin_177 rg_100 lc_100 fl_X12_78 rfl st_100_22 ?_
              refine PWk.bipush (v := 6) dX12_begin_180 bp_6 ?_
              refine PWk.bipush (v := 6) dX12_begin_182 bp_6 ?_
              refine PWk.aload_n 0 dX12_begin_184 rfl ?_
              refine PWk.geti dX12_begin_185 rg_100 lc_100 fl_X12_51 rfl ?_
              refine PWk.imul dX12_begin_188 ?_
              refine PWk.iload_n 1 dX12_begin_189 rfl ?_
              refine PWk.iadd dX12_begin_190 ?_
              refine PWk.imul dX12_begin_191 ?_
              refine PWk.iload_n 2 dX12_begin_192 rfl ?_
              refine PWk.iadd dX12_begin_193 ?_
              refine PWk.iald dX12_begin_194 rg_110 ly_110 (fun v27 => ?_)
              refine PWk.goto 199 dX12_begin_195 (by decide) ?_
              exact hj25 v27
        · refine PWk.iconst (v := 0) dX12_begin_198 ic_0 ?_
          exact hj25 0
      · refine PWk.iast dX12_begin_199 rg_131 ly_131 ?_
        refine PWk.bI (fun I32 => ?_)
        refine PWk.iinc (v := (u2 + 1)) 2 [(2, .int (u2 + 1)), (0, .ref 100), (1, .int u1)] dX12_begin_200 rfl (by rw [ic_1]) (by decide) rfl ?_
        refine PWk.goto 134 dX12_begin_203 (by decide) ?_
        refine PWk.sub [1, 2, 0] rfl ?_
        exact ih (u2 + 1) I32 N F hx
set_option maxRecDepth 20000 in
theorem lp_X12_begin_126 (fu : Nat) (L : HL) (R : HR) : ∀ (n : Nat) (u1 : Int32) (I : HI) (N : (HI) → Prop) (F : HF), (∀ v : HI, N v → PW 100 147 0 RX12 cX12_begin 3 none 212 [(0, .ref 100)] [] v L R F) → PWk 100 147 0 RX12 cX12_begin 3 none 126 [(0, .ref 100), (1, .int u1)] [] I L R (f_X12_begin_L126 fu n I u1) N F := by
  intro n
  induction n with
  | zero => intro u1 I N F hx; exact PWk.none'
  | succ n ih =>
    intro u1 I N F hx
    unfold f_X12_begin_L126
    refine PWk.iload_n 1 dX12_begin_126 rfl ?_
    refine PWk.bipush (v := 6) dX12_begin_127 bp_6 ?_
    refine PWk.icmp_ge 212 dX12_begin_129 (by decide) (fun h35 => ?_) (fun h35 => ?_)
    · refine PWk.sub [0] rfl ?_
      exact PWk.done (fun h => hx _ h)
    · refine PWk.iconst (v := 0) dX12_begin_132 ic_0 ?_
      refine PWk.istore_n [(2, .int 0), (0, .ref 100), (1, .int u1)] dX12_begin_133 (by decide) rfl ?_
      refine PWk.sub [1, 2, 0] rfl ?_
      refine PWk.loopV (fun N' hx' => lp_X12_begin_134 fu u1 L R fu 0 I N' F hx') (fun x34 => ?_)
      refine PWk.iinc (v := (u1 + 1)) 1 [(1, .int (u1 + 1)), (0, .ref 100)] dX12_begin_206 rfl (by rw [ic_1]) (by decide) rfl ?_
      refine PWk.goto 126 dX12_begin_209 (by decide) ?_
      refine PWk.sub [1, 0] rfl ?_
      exact ih (u1 + 1) x34 N F hx
set_option maxRecDepth 20000 in
theorem lp_X12_begin_9 (fu : Nat) (L : HL) (R : HR) : ∀ (n : Nat) (u1 : Int32) (I : HI) (N : (HI) → Prop) (F : HF), (∀ v : HI, N v → PW 100 147 0 RX12 cX12_begin 3 none 124 [(0, .ref 100)] [] v L R F) → PWk 100 147 0 RX12 cX12_begin 3 none 9 [(0, .ref 100), (1, .int u1)] [] I L R (f_X12_begin_L9 n I u1) N F := by
  intro n
  induction n with
  | zero => intro u1 I N F hx; exact PWk.none'
  | succ n ih =>
    intro u1 I N F hx
    unfold f_X12_begin_L9
    refine PWk.iload_n 1 dX12_begin_9 rfl ?_
    refine PWk.bipush (v := 8) dX12_begin_10 bp_8 ?_
    refine PWk.icmp_ge 124 dX12_begin_12 (by decide) (fun h21 => ?_) (fun h21 => ?_)
    · refine PWk.sub [0] rfl ?_
      exact PWk.done (fun h => hx _ h)
    · refine PWk.iload_n 1 dX12_begin_15 rfl ?_
      refine PWk.aload_n 0 dX12_begin_16 rfl ?_
      refine PWk.gets dX12_begin_17 rg_100 lc_100 fl_X12_66 rfl st_100_18 ?_
      refine PWk.aload_n 0 dX12_begin_20 rfl ?_
      refine PWk.geti dX12_begin_21 rg_100 lc_100 fl_X12_51 rfl ?_
      refine PWk.iald dX12_begin_24 rg_106 ly_106 (fun v2 => ?_)
      refine PWk.jn (pc' := 33) (lv' := fun y5 => [(0, .ref 100), (1, .int u1)]) (st' := fun y5 => [.int y5]) (I' := fun y5 => I) (L' := fun y5 => L) (R' := fun y5 => R) (fun j3 hj3 => ?_) (fun y5 => ?_)
      · refine PWk.icmp_ge 32 dX12_begin_25 (by decide) (fun h4 => ?_) (fun h4 => ?_)
        · refine PWk.iconst (v := 0) dX12_begin_32 ic_0 ?_
          exact hj3 0
        · refine PWk.iconst (v := 1) dX12_begin_28 ic_1 ?_
          refine PWk.goto 33 dX12_begin_29 (by decide) ?_
          exact hj3 1
      · refine PWk.istore_n [(2, .int y5), (0, .ref 100), (1, .int u1)] dX12_begin_33 (by decide) rfl ?_
        refine PWk.aload_n 1 dX12_begin_34 rfl ?_
        refine PWk.gets dX12_begin_35 rg_100 lc_100 fl_X12_156 rfl st_100_47 ?_
        refine PWk.iload_n 2 dX12_begin_38 rfl ?_
        refine PWk.iload_n 0 dX12_begin_39 rfl ?_
        refine PWk.jn (pc' := 61) (lv' := fun y9 => [(0, .ref 100), (1, .int u1), (2, .int y5)]) (st' := fun y9 => [.int y9, .int u1, .ref 128]) (I' := fun y9 => I) (L' := fun y9 => L) (R' := fun y9 => R) (fun j6 hj6 => ?_) (fun y9 => ?_)
        · refine PWk.if_eq 60 dX12_begin_40 (by decide) (fun h8 => ?_) (fun h8 => ?_)
          · refine PWk.iconst (v := 0) dX12_begin_60 ic_0 ?_
            refine PWk.sub [1, 2, 0] rfl ?_
            exact hj6 0
          · refine PWk.aload_n 1 dX12_begin_43 rfl ?_
            refine PWk.gets dX12_begin_44 rg_100 lc_100 fl_X12_69 rfl st_100_19 ?_
            refine PWk.bipush (v := 8) dX12_begin_47 bp_8 ?_
            refine PWk.aload_n 1 dX12_begin_49 rfl ?_
            refine PWk.geti dX12_begin_50 rg_100 lc_100 fl_X12_51 rfl ?_
            refine PWk.imul dX12_begin_53 ?_
            refine PWk.iload_n 2 dX12_begin_54 rfl ?_
            refine PWk.iadd dX12_begin_55 ?_
            refine PWk.iald dX12_begin_56 rg_107 ly_107 (fun v7 => ?_)
            refine PWk.goto 61 dX12_begin_57 (by decide) ?_
            refine PWk.sub [1, 2, 0] rfl ?_
            exact hj6 v7
        · refine PWk.iast dX12_begin_61 rg_128 ly_128 ?_
          refine PWk.bI (fun I10 => ?_)
          refine PWk.aload_n 0 dX12_begin_62 rfl ?_
          refine PWk.gets dX12_begin_63 rg_100 lc_100 fl_X12_159 rfl st_100_48 ?_
          refine PWk.iload_n 1 dX12_begin_66 rfl ?_
          refine PWk.iload_n 2 dX12_begin_67 rfl ?_
          refine PWk.jn (pc' := 89) (lv' := fun y14 => [(0, .ref 100), (1, .int u1), (2, .int y5)]) (st' := fun y14 => [.int y14, .int u1, .ref 129]) (I' := fun y14 => I10) (L' := fun y14 => L) (R' := fun y14 => R) (fun j11 hj11 => ?_) (fun y14 => ?_)
          · refine PWk.if_eq 88 dX12_begin_68 (by decide) (fun h13 => ?_) (fun h13 => ?_)
            · refine PWk.iconst (v := (-1)) dX12_begin_88 ic_m1 ?_
              exact hj11 (-1)
            · refine PWk.aload_n 0 dX12_begin_71 rfl ?_
              refine PWk.gets dX12_begin_72 rg_100 lc_100 fl_X12_72 rfl st_100_20 ?_
              refine PWk.bipush (v := 8) dX12_begin_75 bp_8 ?_
              refine PWk.aload_n 0 dX12_begin_77 rfl ?_
              refine PWk.geti dX12_begin_78 rg_100 lc_100 fl_X12_51 rfl ?_
              refine PWk.imul dX12_begin_81 ?_
              refine PWk.iload_n 1 dX12_begin_82 rfl ?_
              refine PWk.iadd dX12_begin_83 ?_
              refine PWk.iald dX12_begin_84 rg_108 ly_108 (fun v12 => ?_)
              refine PWk.goto 89 dX12_begin_85 (by decide) ?_
              exact hj11 v12
          · refine PWk.iast dX12_begin_89 rg_129 ly_129 ?_
            refine PWk.bI (fun I15 => ?_)
            refine PWk.aload_n 0 dX12_begin_90 rfl ?_
            refine PWk.gets dX12_begin_91 rg_100 lc_100 fl_X12_162 rfl st_100_49 ?_
            refine PWk.iload_n 1 dX12_begin_94 rfl ?_
            refine PWk.iload_n 2 dX12_begin_95 rfl ?_
            refine PWk.jn (pc' := 117) (lv' := fun y19 => [(0, .ref 100), (1, .int u1)]) (st' := fun y19 => [.int y19, .int u1, .ref 130]) (I' := fun y19 => I15) (L' := fun y19 => L) (R' := fun y19 => R) (fun j16 hj16 => ?_) (fun y19 => ?_)
            · refine PWk.if_eq 116 dX12_begin_96 (by decide) (fun h18 => ?_) (fun h18 => ?_)
              · refine PWk.iconst (v := (-1)) dX12_begin_116 ic_m1 ?_
                refine PWk.sub [0, 1] rfl ?_
                exact hj16 (-1)
              · refine PWk.aload_n 0 dX12_begin_99 rfl ?_
                refine PWk.gets dX12_begin_100 rg_100 lc_100 fl_X12_75 rfl st_100_21 ?_
                refine PWk.bipush (v := 8) dX12_begin_103 bp_8 ?_
                refine PWk.aload_n 0 dX12_begin_105 rfl ?_
                refine PWk.geti dX12_begin_106 rg_100 lc_100 fl_X12_51 rfl ?_
                refine PWk.imul dX12_begin_109 ?_
                refine PWk.iload_n 1 dX12_begin_110 rfl ?_
                refine PWk.iadd dX12_begin_111 ?_
                refine PWk.iald dX12_begin_112 rg_109 ly_109 (fun v17 => ?_)
                refine PWk.goto 117 dX12_begin_113 (by decide) ?_
                refine PWk.sub [0, 1] rfl ?_
                exact hj16 v17
            · refine PWk.iast dX12_begin_117 rg_130 ly_130 ?_
              refine PWk.bI (fun I20 => ?_)
              refine PWk.iinc (v := (u1 + 1)) 1 [(1, .int (u1 + 1)), (0, .ref 100)] dX12_begin_118 rfl (by rw [ic_1]) (by decide) rfl ?_
              refine PWk.goto 9 dX12_begin_121 (by decide) ?_
              refine PWk.sub [1, 0] rfl ?_
              exact ih (u1 + 1) I20 N F hx
set_option maxRecDepth 20000 in
theorem pc_X12_begin (fu : Nat) (I : HI) (L : HL) (R : HR) : PCo 100 147 0 yX12_begin cX12_begin 3 none [.ref 100] I L R (f_X12_begin fu I) (fun x : HI => ((none, x, L, R) : HF)) := by
  refine PCo.of (own := RX12) (by decide +kernel) (Nat.le_of_ble_eq_true rfl) rfl rfl (fun F => ?_)
  unfold f_X12_begin
  refine PWk.aload_n 0 dX12_begin_0 rfl ?_
  refine PWk.gets dX12_begin_1 rg_100 lc_100 fl_X12_153 rfl st_100_46 ?_
  refine PWk.iconst (v := 0) dX12_begin_4 ic_0 ?_
  refine PWk.iconst (v := 0) dX12_begin_5 ic_0 ?_
  refine PWk.iast dX12_begin_6 rg_127 ly_127 ?_
  refine PWk.bI (fun I1 => ?_)
  refine PWk.iconst (v := 0) dX12_begin_7 ic_0 ?_
  refine PWk.istore_n [(1, .int 0), (0, .ref 100)] dX12_begin_8 (by decide) rfl ?_
  refine PWk.sub [1, 0] rfl ?_
  refine PWk.loopV (fun N' hx' => lp_X12_begin_9 fu L R fu 0 I1 N' F hx') (fun x22 => ?_)
  refine PWk.iconst (v := 0) dX12_begin_124 ic_0 ?_
  refine PWk.istore_n [(1, .int 0), (0, .ref 100)] dX12_begin_125 (by decide) rfl ?_
  refine PWk.sub [1, 0] rfl ?_
  refine PWk.loopV (fun N' hx' => lp_X12_begin_126 fu L R fu 0 x22 N' F hx') (fun x36 => ?_)
  refine PWk.aload_n 0 dX12_begin_212 rfl ?_
  refine PWk.gets dX12_begin_213 rg_100 lc_100 fl_X12_168 rfl st_100_51 ?_
  refine PWk.iconst (v := 0) dX12_begin_216 ic_0 ?_
  refine PWk.iconst (v := 0) dX12_begin_217 ic_0 ?_
  refine PWk.iast dX12_begin_218 rg_132 ly_132 ?_
  refine PWk.bI (fun I37 => ?_)
  refine PWk.aload_n 0 dX12_begin_219 rfl ?_
  refine PWk.iconst (v := 0) dX12_begin_220 ic_0 ?_
  refine PWk.puti dX12_begin_221 rg_100 lc_100 fl_X12_177 fp_12_54 rfl ?_
  refine PWk.bI (fun I38 => ?_)
  refine PWk.aload_n 0 dX12_begin_224 rfl ?_
  refine PWk.iconst (v := 0) dX12_begin_225 ic_0 ?_
  refine PWk.puti dX12_begin_226 rg_100 lc_100 fl_X12_214 fp_12_66 rfl ?_
  refine PWk.bI (fun I39 => ?_)
  exact PWk.vret dX12_begin_229 rfl (fun h => h)
/-! LakeMarketModel.slot(I)I -/
def f_X12_slot (I : HI) (p1 : Int32) : Option (Int32) :=
  dvI 20 <|
  some (6 + (((I 100 53) + p1) - ((I 100 53) + p1) / 20 * 20))
set_option maxRecDepth 20000 in
theorem pc_X12_slot (I : HI) (L : HL) (R : HR) (p1 : Int32) : PCo 100 147 0 yX12_slot cX12_slot 2 (some .int) [.ref 100, .int p1] I L R (f_X12_slot I p1) (fun x : Int32 => ((some (.int x), I, L, R) : HF)) := by
  refine PCo.of (own := RX12) (by decide +kernel) (Nat.le_of_ble_eq_true rfl) rfl rfl (fun F => ?_)
  unfold f_X12_slot
  refine PWk.bipush (v := 6) dX12_slot_0 bp_6 ?_
  refine PWk.aload_n 0 dX12_slot_2 rfl ?_
  refine PWk.geti dX12_slot_3 rg_100 lc_100 fl_X12_174 rfl ?_
  refine PWk.iload_n 1 dX12_slot_6 rfl ?_
  refine PWk.iadd dX12_slot_7 ?_
  refine PWk.bipush (v := 20) dX12_slot_8 bp_20 ?_
  refine PWk.irem dX12_slot_10 ?_
  refine PWk.iadd dX12_slot_11 ?_
  exact PWk.iret dX12_slot_12 rfl (fun h => h)
/-! LakeMarketModel.keeps()V -/
def f_X12_keeps (fu : Nat) (I : HI) : Option (HI) :=
  jnt (β := HI) (fun y5 =>
    (f_X12_slot y5 (y5 100 54)).bind fun x6 =>
    (f_X12_copies fu y5 x6 0).bind fun x7 =>
    bnd (sI x7 100 54 ((x7 100 54) + 1)) fun I8 =>
    some I8) fun j1 =>
  if (I 100 54) = 20 then
    dvI 20 <|
    bnd (sI I 100 53 (((I 100 53) + 1) - ((I 100 53) + 1) / 20 * 20)) fun I2 =>
    bnd (sI I2 100 54 ((I2 100 54) - 1)) fun I3 =>
    j1 I3
  else
    j1 I
set_option maxRecDepth 20000 in
theorem pc_X12_keeps (fu : Nat) (I : HI) (L : HL) (R : HR) : PCo 100 147 1 yX12_keeps cX12_keeps 1 none [.ref 100] I L R (f_X12_keeps fu I) (fun x : HI => ((none, x, L, R) : HF)) := by
  refine PCo.of (own := RX12) (by decide +kernel) (Nat.le_of_ble_eq_true rfl) rfl rfl (fun F => ?_)
  unfold f_X12_keeps
  refine PWk.aload_n 0 dX12_keeps_0 rfl ?_
  refine PWk.geti dX12_keeps_1 rg_100 lc_100 fl_X12_177 rfl ?_
  refine PWk.bipush (v := 20) dX12_keeps_4 bp_20 ?_
  refine PWk.jn (pc' := 32) (lv' := fun y5 => [(0, .ref 100)]) (st' := fun y5 => []) (I' := fun y5 => y5) (L' := fun y5 => L) (R' := fun y5 => R) (fun j1 hj1 => ?_) (fun y5 => ?_)
  · refine PWk.icmp_ne 32 dX12_keeps_6 (by decide) (fun h4 => ?_) (fun h4 => ?_)
    · refine PWk.aload_n 0 dX12_keeps_9 rfl ?_
      refine PWk.aload_n 0 dX12_keeps_10 rfl ?_
      refine PWk.geti dX12_keeps_11 rg_100 lc_100 fl_X12_174 rfl ?_
      refine PWk.iconst (v := 1) dX12_keeps_14 ic_1 ?_
      refine PWk.iadd dX12_keeps_15 ?_
      refine PWk.bipush (v := 20) dX12_keeps_16 bp_20 ?_
      refine PWk.irem dX12_keeps_18 ?_
      refine PWk.puti dX12_keeps_19 rg_100 lc_100 fl_X12_174 fp_12_53 rfl ?_
      refine PWk.bI (fun I2 => ?_)
      refine PWk.aload_n 0 dX12_keeps_22 rfl ?_
      refine PWk.dup dX12_keeps_23 rfl ?_
      refine PWk.geti dX12_keeps_24 rg_100 lc_100 fl_X12_177 rfl ?_
      refine PWk.iconst (v := 1) dX12_keeps_27 ic_1 ?_
      refine PWk.isub dX12_keeps_28 ?_
      refine PWk.puti dX12_keeps_29 rg_100 lc_100 fl_X12_177 fp_12_54 rfl ?_
      refine PWk.bI (fun I3 => ?_)
      exact hj1 I3
    · exact hj1 I
  · refine PWk.aload_n 0 dX12_keeps_32 rfl ?_
    refine PWk.aload_n 0 dX12_keeps_33 rfl ?_
    refine PWk.aload_n 0 dX12_keeps_34 rfl ?_
    refine PWk.geti dX12_keeps_35 rg_100 lc_100 fl_X12_177 rfl ?_
    refine PWk.callVi (pc_X12_slot y5 L R (y5 100 54)) dX12_keeps_38 ml_X12_415 rfl rg_100 lc_100 vq_12 (by decide) rfl (Nat.le_of_ble_eq_true rfl) (fun x6 => ?_)
    refine PWk.iconst (v := 0) dX12_keeps_41 ic_0 ?_
    refine PWk.callVvI (pc_X12_copies fu y5 L R x6 0) dX12_keeps_42 ml_X12_418 rfl rg_100 lc_100 vq_12 (by decide) rfl (Nat.le_of_ble_eq_true rfl) (fun x7 => ?_)
    refine PWk.aload_n 0 dX12_keeps_45 rfl ?_
    refine PWk.dup dX12_keeps_46 rfl ?_
    refine PWk.geti dX12_keeps_47 rg_100 lc_100 fl_X12_177 rfl ?_
    refine PWk.iconst (v := 1) dX12_keeps_50 ic_1 ?_
    refine PWk.iadd dX12_keeps_51 ?_
    refine PWk.puti dX12_keeps_52 rg_100 lc_100 fl_X12_177 fp_12_54 rfl ?_
    refine PWk.bI (fun I8 => ?_)
    exact PWk.vret dX12_keeps_55 rfl (fun h => h)
/-! LakeMarketModel.undo()Z -/
def f_X12_undo (fu : Nat) (I : HI) : Option (Int32 × HI) :=
  if (I 100 54) = 0 then
    (f_X12_refuses I 4).bind fun x1 =>
    if x1.1 < 0 then
      gz 0 (some (0, x1.2))
    else
      gz 1 (some (1, x1.2))
  else
    bnd (sI I 100 54 ((I 100 54) - 1)) fun I3 =>
    (f_X12_slot I3 (I3 100 54)).bind fun x4 =>
    (f_X12_copies fu I3 0 x4).bind fun x5 =>
    gz 1 (some (1, x5))
set_option maxRecDepth 20000 in
theorem pc_X12_undo (fu : Nat) (I : HI) (L : HL) (R : HR) : PCo 100 147 1 yX12_undo cX12_undo 1 (some .boolean) [.ref 100] I L R (f_X12_undo fu I) (fun x : Int32 × HI => ((some (.int x.1), x.2, L, R) : HF)) := by
  refine PCo.of (own := RX12) (by decide +kernel) (Nat.le_of_ble_eq_true rfl) rfl rfl (fun F => ?_)
  unfold f_X12_undo
  refine PWk.aload_n 0 dX12_undo_0 rfl ?_
  refine PWk.geti dX12_undo_1 rg_100 lc_100 fl_X12_177 rfl ?_
  refine PWk.if_ne 21 dX12_undo_4 (by decide) (fun h6 => ?_) (fun h6 => ?_)
  · refine PWk.aload_n 0 dX12_undo_7 rfl ?_
    refine PWk.iconst (v := 4) dX12_undo_8 ic_4 ?_
    refine PWk.callViI (pc_X12_refuses I L R 4) dX12_undo_9 ml_X12_229 rfl rg_100 lc_100 vq_12 (by decide) rfl (Nat.le_of_ble_eq_true rfl) (fun x1 => ?_)
    refine PWk.if_lt 19 dX12_undo_12 (by decide) (fun h2 => ?_) (fun h2 => ?_)
    · refine PWk.iconst (v := 0) dX12_undo_19 ic_0 ?_
      exact PWk.zret dX12_undo_20 rfl (fun h => h)
    · refine PWk.iconst (v := 1) dX12_undo_15 ic_1 ?_
      refine PWk.goto 20 dX12_undo_16 (by decide) ?_
      exact PWk.zret dX12_undo_20 rfl (fun h => h)
  · refine PWk.aload_n 0 dX12_undo_21 rfl ?_
    refine PWk.dup dX12_undo_22 rfl ?_
    refine PWk.geti dX12_undo_23 rg_100 lc_100 fl_X12_177 rfl ?_
    refine PWk.iconst (v := 1) dX12_undo_26 ic_1 ?_
    refine PWk.isub dX12_undo_27 ?_
    refine PWk.puti dX12_undo_28 rg_100 lc_100 fl_X12_177 fp_12_54 rfl ?_
    refine PWk.bI (fun I3 => ?_)
    refine PWk.aload_n 0 dX12_undo_31 rfl ?_
    refine PWk.iconst (v := 0) dX12_undo_32 ic_0 ?_
    refine PWk.aload_n 0 dX12_undo_33 rfl ?_
    refine PWk.aload_n 0 dX12_undo_34 rfl ?_
    refine PWk.geti dX12_undo_35 rg_100 lc_100 fl_X12_177 rfl ?_
    refine PWk.callVi (pc_X12_slot I3 L R (I3 100 54)) dX12_undo_38 ml_X12_415 rfl rg_100 lc_100 vq_12 (by decide) rfl (Nat.le_of_ble_eq_true rfl) (fun x4 => ?_)
    refine PWk.callVvI (pc_X12_copies fu I3 L R 0 x4) dX12_undo_41 ml_X12_418 rfl rg_100 lc_100 vq_12 (by decide) rfl (Nat.le_of_ble_eq_true rfl) (fun x5 => ?_)
    refine PWk.iconst (v := 1) dX12_undo_44 ic_1 ?_
    exact PWk.zret dX12_undo_45 rfl (fun h => h)
/-! LakeMarketModel.held(J)J -/
def f_X12_held (p0 : Int64) : Option (Int64) :=
  if (lg_cmp p0 1000000) ≤ 0 then
    if 0 ≤ (lg_cmp p0 (-1000000)) then
      some p0
    else
      some (-1000000)
  else
    some 1000000
set_option maxRecDepth 20000 in
theorem pc_X12_held (I : HI) (L : HL) (R : HR) (p0 : Int64) : PCo 100 147 0 yX12_held cX12_held 2 (some .long) [.long p0] I L R (f_X12_held p0) (fun x : Int64 => ((some (.long x), I, L, R) : HF)) := by
  refine PCo.of (own := RX12) (by decide +kernel) (Nat.le_of_ble_eq_true rfl) rfl rfl (fun F => ?_)
  unfold f_X12_held
  refine PWk.lload_n 0 dX12_held_0 rfl ?_
  refine PWk.ldc2 (v := 1000000) dX12_held_1 kc_X12_421 ?_
  refine PWk.lcmp dX12_held_4 ?_
  refine PWk.if_le 14 dX12_held_5 (by decide) (fun h2 => ?_) (fun h2 => ?_)
  · refine PWk.lload_n 0 dX12_held_14 rfl ?_
    refine PWk.ldc2 (v := (-1000000)) dX12_held_15 kc_X12_423 ?_
    refine PWk.lcmp dX12_held_18 ?_
    refine PWk.if_ge 28 dX12_held_19 (by decide) (fun h1 => ?_) (fun h1 => ?_)
    · refine PWk.lload_n 0 dX12_held_28 rfl ?_
      exact PWk.lret dX12_held_29 rfl (fun h => h)
    · refine PWk.ldc2 (v := (-1000000)) dX12_held_22 kc_X12_423 ?_
      refine PWk.goto 29 dX12_held_25 (by decide) ?_
      exact PWk.lret dX12_held_29 rfl (fun h => h)
  · refine PWk.ldc2 (v := 1000000) dX12_held_8 kc_X12_421 ?_
    refine PWk.goto 29 dX12_held_11 (by decide) ?_
    exact PWk.lret dX12_held_29 rfl (fun h => h)
/-! LakeMarketModel.floor(JJ)J -/
def f_X12_floor (p0 : Int64) (p1 : Int64) : Option (Int64) :=
  if (lg_cmp p1 0) = 0 then
    some 0
  else
    dvL p1 <|
    bnd ((p0 / p1)) fun v1 =>
    dvL p1 <|
    if (lg_cmp (p0 - p0 / p1 * p1) 0) = 0 then
      some v1
    else
      jnt (β := Int32) (fun y4 =>
        jnt (β := Int32) (fun y7 =>
          if y4 = y7 then
            some v1
          else
            some (v1 - 1)) fun j5 =>
        if 0 ≤ (lg_cmp p1 0) then
          j5 0
        else
          j5 1) fun j2 =>
      if 0 ≤ (lg_cmp p0 0) then
        j2 0
      else
        j2 1
set_option maxRecDepth 20000 in
theorem pc_X12_floor (I : HI) (L : HL) (R : HR) (p0 : Int64) (p1 : Int64) : PCo 100 147 0 yX12_floor cX12_floor 6 (some .long) [.long p0, .long p1] I L R (f_X12_floor p0 p1) (fun x : Int64 => ((some (.long x), I, L, R) : HF)) := by
  refine PCo.of (own := RX12) (by decide +kernel) (Nat.le_of_ble_eq_true rfl) rfl rfl (fun F => ?_)
  unfold f_X12_floor
  refine PWk.lload_n 1 dX12_floor_0 rfl ?_
  refine PWk.lconst (v := 0) dX12_floor_1 rfl ?_
  refine PWk.lcmp dX12_floor_2 ?_
  refine PWk.if_ne 8 dX12_floor_3 (by decide) (fun h10 => ?_) (fun h10 => ?_)
  · refine PWk.lconst (v := 0) dX12_floor_6 rfl ?_
    exact PWk.lret dX12_floor_7 rfl (fun h => h)
  · refine PWk.lload_n 0 dX12_floor_8 rfl ?_
    refine PWk.lload_n 1 dX12_floor_9 rfl ?_
    refine PWk.ldiv dX12_floor_10 ?_
    refine PWk.bl (fun v1 => ?_)
    refine PWk.lstore [(4, .long v1), (0, .long p0), (2, .long p1)] dX12_floor_11 (by decide) rfl ?_
    refine PWk.lload_n 1 dX12_floor_13 rfl ?_
    refine PWk.lload_n 2 dX12_floor_14 rfl ?_
    refine PWk.lrem dX12_floor_15 ?_
    refine PWk.lconst (v := 0) dX12_floor_16 rfl ?_
    refine PWk.lcmp dX12_floor_17 ?_
    refine PWk.if_eq 53 dX12_floor_18 (by decide) (fun h9 => ?_) (fun h9 => ?_)
    · refine PWk.lload 0 dX12_floor_53 rfl ?_
      exact PWk.lret dX12_floor_55 rfl (fun h => h)
    · refine PWk.lload_n 1 dX12_floor_21 rfl ?_
      refine PWk.lconst (v := 0) dX12_floor_22 rfl ?_
      refine PWk.lcmp dX12_floor_23 ?_
      refine PWk.jn (pc' := 32) (lv' := fun y4 => [(2, .long p1), (4, .long v1)]) (st' := fun y4 => [.int y4]) (I' := fun y4 => I) (L' := fun y4 => L) (R' := fun y4 => R) (fun j2 hj2 => ?_) (fun y4 => ?_)
      · refine PWk.if_ge 31 dX12_floor_24 (by decide) (fun h3 => ?_) (fun h3 => ?_)
        · refine PWk.iconst (v := 0) dX12_floor_31 ic_0 ?_
          refine PWk.sub [2, 0] rfl ?_
          exact hj2 0
        · refine PWk.iconst (v := 1) dX12_floor_27 ic_1 ?_
          refine PWk.goto 32 dX12_floor_28 (by decide) ?_
          refine PWk.sub [2, 0] rfl ?_
          exact hj2 1
      · refine PWk.lload_n 0 dX12_floor_32 rfl ?_
        refine PWk.lconst (v := 0) dX12_floor_33 rfl ?_
        refine PWk.lcmp dX12_floor_34 ?_
        refine PWk.jn (pc' := 43) (lv' := fun y7 => [(4, .long v1)]) (st' := fun y7 => [.int y7, .int y4]) (I' := fun y7 => I) (L' := fun y7 => L) (R' := fun y7 => R) (fun j5 hj5 => ?_) (fun y7 => ?_)
        · refine PWk.if_ge 42 dX12_floor_35 (by decide) (fun h6 => ?_) (fun h6 => ?_)
          · refine PWk.iconst (v := 0) dX12_floor_42 ic_0 ?_
            refine PWk.sub [1] rfl ?_
            exact hj5 0
          · refine PWk.iconst (v := 1) dX12_floor_38 ic_1 ?_
            refine PWk.goto 43 dX12_floor_39 (by decide) ?_
            refine PWk.sub [1] rfl ?_
            exact hj5 1
        · refine PWk.icmp_eq 53 dX12_floor_43 (by decide) (fun h8 => ?_) (fun h8 => ?_)
          · refine PWk.lload 0 dX12_floor_53 rfl ?_
            exact PWk.lret dX12_floor_55 rfl (fun h => h)
          · refine PWk.lload 0 dX12_floor_46 rfl ?_
            refine PWk.lconst (v := 1) dX12_floor_48 rfl ?_
            refine PWk.lsub dX12_floor_49 ?_
            refine PWk.goto 55 dX12_floor_50 (by decide) ?_
            exact PWk.lret dX12_floor_55 rfl (fun h => h)
/-! LakeMarketModel.two(IJJ)J -/
def f_X12_two (p0 : Int32) (p1 : Int64) (p2 : Int64) : Option (Int64) :=
  if p0 = 31 then
    (f_X12_held (p1 + p2)).bind fun x1 =>
    some x1
  else
  if p0 = 32 then
    (f_X12_held (p1 - p2)).bind fun x2 =>
    some x2
  else
  if p0 = 33 then
    (f_X12_held (p1 * p2)).bind fun x3 =>
    some x3
  else
  if p0 = 34 then
    (f_X12_floor p1 p2).bind fun x4 =>
    (f_X12_held x4).bind fun x5 =>
    some x5
  else
  if p0 = 35 then
    if (lg_cmp p2 0) = 0 then
      some 0
    else
      (f_X12_floor p1 p2).bind fun x6 =>
      (f_X12_held (p1 - (p2 * x6))).bind fun x7 =>
      some x7
  else
  if p0 = 36 then
    if 0 ≤ (lg_cmp p1 p2) then
      some p2
    else
      some p1
  else
  if p0 = 37 then
    if (lg_cmp p1 p2) ≤ 0 then
      some p2
    else
      some p1
  else
  if p0 = 38 then
    if 0 ≤ (lg_cmp p1 p2) then
      some 0
    else
      some 1
  else
  if p0 = 39 then
    if (lg_cmp p1 p2) ≤ 0 then
      some 0
    else
      some 1
  else
  if p0 = 40 then
    if (lg_cmp p1 p2) = 0 then
      some 1
    else
      some 0
  else
  if p0 = 41 then
    some (p1 &&& p2)
  else
    some (p1 ||| p2)
set_option maxRecDepth 20000 in
theorem pc_X12_two (I : HI) (L : HL) (R : HR) (p0 : Int32) (p1 : Int64) (p2 : Int64) : PCo 100 147 1 yX12_two cX12_two 5 (some .long) [.int p0, .long p1, .long p2] I L R (f_X12_two p0 p1 p2) (fun x : Int64 => ((some (.long x), I, L, R) : HF)) := by
  refine PCo.of (own := RX12) (by decide +kernel) (Nat.le_of_ble_eq_true rfl) rfl rfl (fun F => ?_)
  unfold f_X12_two
  refine PWk.iload_n 0 dX12_two_0 rfl ?_
  refine PWk.ite (fun h14 => ?_) (fun h14 => ?_)
  · refine PWk.tIn 60 (off := 59) (v := 31) dX12_two_1 (by rw [h14]; decide) (by decide) (by decide) (by decide +kernel) (by decide) ?_
    refine PWk.lload_n 1 dX12_two_60 rfl ?_
    refine PWk.lload_n 2 dX12_two_61 rfl ?_
    refine PWk.ladd dX12_two_62 ?_
    refine PWk.callSl (pc_X12_held I L R (p1 + p2)) dX12_two_63 ml_X12_425 rfl (by decide) rfl (Nat.le_of_ble_eq_true rfl) (fun x1 => ?_)
    exact PWk.lret dX12_two_66 rfl (fun h => h)
  · skip
    refine PWk.ite (fun h15 => ?_) (fun h15 => ?_)
    · refine PWk.tIn 67 (off := 66) (v := 32) dX12_two_1 (by rw [h15]; decide) (by decide) (by decide) (by decide +kernel) (by decide) ?_
      refine PWk.lload_n 1 dX12_two_67 rfl ?_
      refine PWk.lload_n 2 dX12_two_68 rfl ?_
      refine PWk.lsub dX12_two_69 ?_
      refine PWk.callSl (pc_X12_held I L R (p1 - p2)) dX12_two_70 ml_X12_425 rfl (by decide) rfl (Nat.le_of_ble_eq_true rfl) (fun x2 => ?_)
      exact PWk.lret dX12_two_73 rfl (fun h => h)
    · skip
      refine PWk.ite (fun h16 => ?_) (fun h16 => ?_)
      · refine PWk.tIn 74 (off := 73) (v := 33) dX12_two_1 (by rw [h16]; decide) (by decide) (by decide) (by decide +kernel) (by decide) ?_
        refine PWk.lload_n 1 dX12_two_74 rfl ?_
        refine PWk.lload_n 2 dX12_two_75 rfl ?_
        refine PWk.lmul dX12_two_76 ?_
        refine PWk.callSl (pc_X12_held I L R (p1 * p2)) dX12_two_77 ml_X12_425 rfl (by decide) rfl (Nat.le_of_ble_eq_true rfl) (fun x3 => ?_)
        exact PWk.lret dX12_two_80 rfl (fun h => h)
      · skip
        refine PWk.ite (fun h17 => ?_) (fun h17 => ?_)
        · refine PWk.tIn 81 (off := 80) (v := 34) dX12_two_1 (by rw [h17]; decide) (by decide) (by decide) (by decide +kernel) (by decide) ?_
          refine PWk.lload_n 1 dX12_two_81 rfl ?_
          refine PWk.lload_n 2 dX12_two_82 rfl ?_
          refine PWk.callSl (pc_X12_floor I L R p1 p2) dX12_two_83 ml_X12_429 rfl (by decide) rfl (Nat.le_of_ble_eq_true rfl) (fun x4 => ?_)
          refine PWk.callSl (pc_X12_held I L R x4) dX12_two_86 ml_X12_425 rfl (by decide) rfl (Nat.le_of_ble_eq_true rfl) (fun x5 => ?_)
          exact PWk.lret dX12_two_89 rfl (fun h => h)
        · skip
          refine PWk.ite (fun h18 => ?_) (fun h18 => ?_)
          · refine PWk.tIn 90 (off := 89) (v := 35) dX12_two_1 (by rw [h18]; decide) (by decide) (by decide) (by decide +kernel) (by decide) ?_
            refine PWk.lload_n 2 dX12_two_90 rfl ?_
            refine PWk.lconst (v := 0) dX12_two_91 rfl ?_
            refine PWk.lcmp dX12_two_92 ?_
            refine PWk.if_ne 100 dX12_two_93 (by decide) (fun h8 => ?_) (fun h8 => ?_)
            · refine PWk.lconst (v := 0) dX12_two_96 rfl ?_
              refine PWk.goto 112 dX12_two_97 (by decide) ?_
              exact PWk.lret dX12_two_112 rfl (fun h => h)
            · refine PWk.lload_n 1 dX12_two_100 rfl ?_
              refine PWk.lload_n 2 dX12_two_101 rfl ?_
              refine PWk.lload_n 1 dX12_two_102 rfl ?_
              refine PWk.lload_n 2 dX12_two_103 rfl ?_
              refine PWk.callSl (pc_X12_floor I L R p1 p2) dX12_two_104 ml_X12_429 rfl (by decide) rfl (Nat.le_of_ble_eq_true rfl) (fun x6 => ?_)
              refine PWk.lmul dX12_two_107 ?_
              refine PWk.lsub dX12_two_108 ?_
              refine PWk.callSl (pc_X12_held I L R (p1 - (p2 * x6))) dX12_two_109 ml_X12_425 rfl (by decide) rfl (Nat.le_of_ble_eq_true rfl) (fun x7 => ?_)
              exact PWk.lret dX12_two_112 rfl (fun h => h)
          · skip
            refine PWk.ite (fun h19 => ?_) (fun h19 => ?_)
            · refine PWk.tIn 113 (off := 112) (v := 36) dX12_two_1 (by rw [h19]; decide) (by decide) (by decide) (by decide +kernel) (by decide) ?_
              refine PWk.lload_n 1 dX12_two_113 rfl ?_
              refine PWk.lload_n 2 dX12_two_114 rfl ?_
              refine PWk.lcmp dX12_two_115 ?_
              refine PWk.if_ge 123 dX12_two_116 (by decide) (fun h9 => ?_) (fun h9 => ?_)
              · refine PWk.lload_n 2 dX12_two_123 rfl ?_
                exact PWk.lret dX12_two_124 rfl (fun h => h)
              · refine PWk.lload_n 1 dX12_two_119 rfl ?_
                refine PWk.goto 124 dX12_two_120 (by decide) ?_
                exact PWk.lret dX12_two_124 rfl (fun h => h)
            · skip
              refine PWk.ite (fun h20 => ?_) (fun h20 => ?_)
              · refine PWk.tIn 125 (off := 124) (v := 37) dX12_two_1 (by rw [h20]; decide) (by decide) (by decide) (by decide +kernel) (by decide) ?_
                refine PWk.lload_n 1 dX12_two_125 rfl ?_
                refine PWk.lload_n 2 dX12_two_126 rfl ?_
                refine PWk.lcmp dX12_two_127 ?_
                refine PWk.if_le 135 dX12_two_128 (by decide) (fun h10 => ?_) (fun h10 => ?_)
                · refine PWk.lload_n 2 dX12_two_135 rfl ?_
                  exact PWk.lret dX12_two_136 rfl (fun h => h)
                · refine PWk.lload_n 1 dX12_two_131 rfl ?_
                  refine PWk.goto 136 dX12_two_132 (by decide) ?_
                  exact PWk.lret dX12_two_136 rfl (fun h => h)
              · skip
                refine PWk.ite (fun h21 => ?_) (fun h21 => ?_)
                · refine PWk.tIn 137 (off := 136) (v := 38) dX12_two_1 (by rw [h21]; decide) (by decide) (by decide) (by decide +kernel) (by decide) ?_
                  refine PWk.lload_n 1 dX12_two_137 rfl ?_
                  refine PWk.lload_n 2 dX12_two_138 rfl ?_
                  refine PWk.lcmp dX12_two_139 ?_
                  refine PWk.if_ge 147 dX12_two_140 (by decide) (fun h11 => ?_) (fun h11 => ?_)
                  · refine PWk.lconst (v := 0) dX12_two_147 rfl ?_
                    exact PWk.lret dX12_two_148 rfl (fun h => h)
                  · refine PWk.lconst (v := 1) dX12_two_143 rfl ?_
                    refine PWk.goto 148 dX12_two_144 (by decide) ?_
                    exact PWk.lret dX12_two_148 rfl (fun h => h)
                · skip
                  refine PWk.ite (fun h22 => ?_) (fun h22 => ?_)
                  · refine PWk.tIn 149 (off := 148) (v := 39) dX12_two_1 (by rw [h22]; decide) (by decide) (by decide) (by decide +kernel) (by decide) ?_
                    refine PWk.lload_n 1 dX12_two_149 rfl ?_
                    refine PWk.lload_n 2 dX12_two_150 rfl ?_
                    refine PWk.lcmp dX12_two_151 ?_
                    refine PWk.if_le 159 dX12_two_152 (by decide) (fun h12 => ?_) (fun h12 => ?_)
                    · refine PWk.lconst (v := 0) dX12_two_159 rfl ?_
                      exact PWk.lret dX12_two_160 rfl (fun h => h)
                    · refine PWk.lconst (v := 1) dX12_two_155 rfl ?_
                      refine PWk.goto 160 dX12_two_156 (by decide) ?_
                      exact PWk.lret dX12_two_160 rfl (fun h => h)
                  · skip
                    refine PWk.ite (fun h23 => ?_) (fun h23 => ?_)
                    · refine PWk.tIn 161 (off := 160) (v := 40) dX12_two_1 (by rw [h23]; decide) (by decide) (by decide) (by decide +kernel) (by decide) ?_
                      refine PWk.lload_n 1 dX12_two_161 rfl ?_
                      refine PWk.lload_n 2 dX12_two_162 rfl ?_
                      refine PWk.lcmp dX12_two_163 ?_
                      refine PWk.if_ne 171 dX12_two_164 (by decide) (fun h13 => ?_) (fun h13 => ?_)
                      · refine PWk.lconst (v := 1) dX12_two_167 rfl ?_
                        refine PWk.goto 172 dX12_two_168 (by decide) ?_
                        exact PWk.lret dX12_two_172 rfl (fun h => h)
                      · refine PWk.lconst (v := 0) dX12_two_171 rfl ?_
                        exact PWk.lret dX12_two_172 rfl (fun h => h)
                    · skip
                      refine PWk.ite (fun h24 => ?_) (fun h24 => ?_)
                      · refine PWk.tIn 173 (off := 172) (v := 41) dX12_two_1 (by rw [h24]; decide) (by decide) (by decide) (by decide +kernel) (by decide) ?_
                        refine PWk.lload_n 1 dX12_two_173 rfl ?_
                        refine PWk.lload_n 2 dX12_two_174 rfl ?_
                        refine PWk.land dX12_two_175 ?_
                        exact PWk.lret dX12_two_176 rfl (fun h => h)
                      · skip
                        have q_0 : (p0).toInt ≠ 31 := fun e => h14 (Int32.toInt_inj.mp (e.trans (by decide)))
                        have q_1 : (p0).toInt ≠ 32 := fun e => h15 (Int32.toInt_inj.mp (e.trans (by decide)))
                        have q_2 : (p0).toInt ≠ 33 := fun e => h16 (Int32.toInt_inj.mp (e.trans (by decide)))
                        have q_3 : (p0).toInt ≠ 34 := fun e => h17 (Int32.toInt_inj.mp (e.trans (by decide)))
                        have q_4 : (p0).toInt ≠ 35 := fun e => h18 (Int32.toInt_inj.mp (e.trans (by decide)))
                        have q_5 : (p0).toInt ≠ 36 := fun e => h19 (Int32.toInt_inj.mp (e.trans (by decide)))
                        have q_6 : (p0).toInt ≠ 37 := fun e => h20 (Int32.toInt_inj.mp (e.trans (by decide)))
                        have q_7 : (p0).toInt ≠ 38 := fun e => h21 (Int32.toInt_inj.mp (e.trans (by decide)))
                        have q_8 : (p0).toInt ≠ 39 := fun e => h22 (Int32.toInt_inj.mp (e.trans (by decide)))
                        have q_9 : (p0).toInt ≠ 40 := fun e => h23 (Int32.toInt_inj.mp (e.trans (by decide)))
                        have q_10 : (p0).toInt ≠ 41 := fun e => h24 (Int32.toInt_inj.mp (e.trans (by decide)))
                        refine PWk.tOut 177 dX12_two_1 (by omega) (by decide) ?_
                        refine PWk.lload_n 1 dX12_two_177 rfl ?_
                        refine PWk.lload_n 2 dX12_two_178 rfl ?_
                        refine PWk.lor dX12_two_179 ?_
                        exact PWk.lret dX12_two_180 rfl (fun h => h)
/-! LakeMarketModel.reckons(I)J -/
def f_X12_reckons_L25 : Nat → HI → HL → Int32 → Int32 → Int32 → Option (HL)
  | 0, _, _, _, _, _ => none
  | n + 1, I, L, u1, u2, u3 =>
    ldI (I 114) 6 ((3 * (I 100 13)) + u1) fun v3 =>
    if ((1600 * (I 100 13)) + v3) ≤ u3 then
      some L
    else
      ldI (I 115) 3200 u3 fun v4 =>
      jnt (β := Int32 × HL) (fun y29 =>
        f_X12_reckons_L25 n I y29.2 u1 y29.1 (u3 + 1)) fun j5 =>
      if 30 < v4 then
        if v4 = 43 then
          ldL (L 134) 500 (u2 - 1) fun v6 =>
          inb 500 (u2 - 1) <|
          bnd (sL L 134 ((u2 - 1) : Int32).toNatClampNeg (1 - v6)) fun L7 =>
          j5 (u2, L7)
        else
          if v4 = 44 then
            ldL (L 134) 500 ((u2 + (-2)) - 1) fun v8 =>
            jnt (β := Int64) (fun y13 =>
              inb 500 ((u2 + (-2)) - 1) <|
              bnd (sL L 134 (((u2 + (-2)) - 1) : Int32).toNatClampNeg y13) fun L14 =>
              j5 ((u2 + (-2)), L14)) fun j9 =>
            if (lg_cmp v8 1) = 0 then
              ldL (L 134) 500 (u2 + (-2)) fun v10 =>
              j9 v10
            else
              ldL (L 134) 500 ((u2 + (-2)) + 1) fun v11 =>
              j9 v11
          else
            ldL (L 134) 500 ((u2 + (-1)) - 1) fun v15 =>
            ldL (L 134) 500 (u2 + (-1)) fun v16 =>
            (f_X12_two v4 v15 v16).bind fun x17 =>
            inb 500 ((u2 + (-1)) - 1) <|
            bnd (sL L 134 (((u2 + (-1)) - 1) : Int32).toNatClampNeg x17) fun L18 =>
            j5 ((u2 + (-1)), L18)
      else
        jnt (β := Int64) (fun y26 =>
          inb 500 u2 <|
          bnd (sL L 134 (u2 : Int32).toNatClampNeg y26) fun L27 =>
          j5 ((u2 + 1), L27)) fun j21 =>
        if v4 = 0 then
          ldI (I 116) 3200 u3 fun v22 =>
          j21 (Int32.toInt64 v22)
        else
          if v4 = 30 then
            j21 1
          else
            ldI (I 135) 10 v4 fun v23 =>
            j21 (Int32.toInt64 v23)
def f_X12_reckons (fu : Nat) (I : HI) (L : HL) (p1 : Int32) : Option (Int64 × HL) :=
  ldI (I 113) 6 ((3 * (I 100 13)) + p1) fun v1 =>
  bnd (((1600 * (I 100 13)) + v1)) fun v2 =>
  (f_X12_reckons_L25 fu I L p1 0 v2).bind fun x31 =>
  ldL (x31 134) 500 0 fun v32 =>
  some (v32, x31)
set_option maxRecDepth 20000 in
theorem lp_X12_reckons_25 (fu : Nat) (u1 : Int32) (I : HI) (R : HR) : ∀ (n : Nat) (u2 : Int32) (u3 : Int32) (L : HL) (N : (HL) → Prop) (F : HF), (∀ v : HL, N v → PW 100 147 2 RX12 cX12_reckons 5 (some .long) 227 [(0, .ref 100)] [] I v R F) → PWk 100 147 2 RX12 cX12_reckons 5 (some .long) 25 [(0, .ref 100), (1, .int u1), (2, .int u2), (3, .int u3)] [] I L R (f_X12_reckons_L25 n I L u1 u2 u3) N F := by
  intro n
  induction n with
  | zero => intro u2 u3 L N F hx; exact PWk.none'
  | succ n ih =>
    intro u2 u3 L N F hx
    unfold f_X12_reckons_L25
    refine PWk.iload_n 3 dX12_reckons_25 rfl ?_
    refine PWk.sipush (v := 1600) dX12_reckons_26 sp_1600 ?_
    refine PWk.aload_n 0 dX12_reckons_29 rfl ?_
    refine PWk.geti dX12_reckons_30 rg_100 lc_100 fl_X12_51 rfl ?_
    refine PWk.imul dX12_reckons_33 ?_
    refine PWk.aload_n 0 dX12_reckons_34 rfl ?_
    refine PWk.gets dX12_reckons_35 rg_100 lc_100 fl_X12_90 rfl st_100_26 ?_
    refine PWk.iconst (v := 3) dX12_reckons_38 ic_3 ?_
    refine PWk.aload_n 0 dX12_reckons_39 rfl ?_
    refine PWk.geti dX12_reckons_40 rg_100 lc_100 fl_X12_51 rfl ?_
    refine PWk.imul dX12_reckons_43 ?_
    refine PWk.iload_n 1 dX12_reckons_44 rfl ?_
    refine PWk.iadd dX12_reckons_45 ?_
    refine PWk.iald dX12_reckons_46 rg_114 ly_114 (fun v3 => ?_)
    refine PWk.iadd dX12_reckons_47 ?_
    refine PWk.icmp_ge 227 dX12_reckons_48 (by decide) (fun h30 => ?_) (fun h30 => ?_)
    · refine PWk.sub [0] rfl ?_
      exact PWk.done (fun h => hx _ h)
    · refine PWk.aload_n 0 dX12_reckons_51 rfl ?_
      refine PWk.gets dX12_reckons_52 rg_100 lc_100 fl_X12_93 rfl st_100_27 ?_
      refine PWk.iload_n 3 dX12_reckons_55 rfl ?_
      refine PWk.iald dX12_reckons_56 rg_115 ly_115 (fun v4 => ?_)
      refine PWk.istore [(4, .int v4), (0, .ref 100), (1, .int u1), (2, .int u2), (3, .int u3)] dX12_reckons_57 (by decide) rfl ?_
      refine PWk.iload 0 dX12_reckons_59 rfl ?_
      refine PWk.bipush (v := 30) dX12_reckons_61 bp_30 ?_
      refine PWk.jn (pc' := 221) (lv' := fun y29 => [(0, .ref 100), (1, .int u1), (2, .int y29.1), (3, .int u3)]) (st' := fun y29 => []) (I' := fun y29 => I) (L' := fun y29 => y29.2) (R' := fun y29 => R) (fun j5 hj5 => ?_) (fun y29 => ?_)
      · refine PWk.icmp_gt 112 dX12_reckons_63 (by decide) (fun h28 => ?_) (fun h28 => ?_)
        · refine PWk.iload 0 dX12_reckons_112 rfl ?_
          refine PWk.bipush (v := 43) dX12_reckons_114 bp_43 ?_
          refine PWk.icmp_ne 140 dX12_reckons_116 (by decide) (fun h20 => ?_) (fun h20 => ?_)
          · refine PWk.aload_n 1 dX12_reckons_119 rfl ?_
            refine PWk.gets dX12_reckons_120 rg_100 lc_100 fl_X12_183 rfl st_100_56 ?_
            refine PWk.iload_n 3 dX12_reckons_123 rfl ?_
            refine PWk.iconst (v := 1) dX12_reckons_124 ic_1 ?_
            refine PWk.isub dX12_reckons_125 ?_
            refine PWk.lconst (v := 1) dX12_reckons_126 rfl ?_
            refine PWk.aload_n 1 dX12_reckons_127 rfl ?_
            refine PWk.gets dX12_reckons_128 rg_100 lc_100 fl_X12_183 rfl st_100_56 ?_
            refine PWk.iload_n 3 dX12_reckons_131 rfl ?_
            refine PWk.iconst (v := 1) dX12_reckons_132 ic_1 ?_
            refine PWk.isub dX12_reckons_133 ?_
            refine PWk.lald dX12_reckons_134 rg_134 ly_134 (fun v6 => ?_)
            refine PWk.lsub dX12_reckons_135 ?_
            refine PWk.last dX12_reckons_136 rg_134 ly_134 ?_
            refine PWk.bL (fun L7 => ?_)
            refine PWk.goto 221 dX12_reckons_137 (by decide) ?_
            refine PWk.sub [1, 2, 3, 4] rfl ?_
            exact hj5 (u2, L7)
          · refine PWk.iload 0 dX12_reckons_140 rfl ?_
            refine PWk.bipush (v := 44) dX12_reckons_142 bp_44 ?_
            refine PWk.icmp_ne 191 dX12_reckons_144 (by decide) (fun h19 => ?_) (fun h19 => ?_)
            · refine PWk.iinc (v := (u2 + (-2))) 3 [(2, .int (u2 + (-2))), (4, .int v4), (0, .ref 100), (1, .int u1), (3, .int u3)] dX12_reckons_147 rfl (by rw [ic_m2]) (by decide) rfl ?_
              refine PWk.aload_n 2 dX12_reckons_150 rfl ?_
              refine PWk.gets dX12_reckons_151 rg_100 lc_100 fl_X12_183 rfl st_100_56 ?_
              refine PWk.iload_n 0 dX12_reckons_154 rfl ?_
              refine PWk.iconst (v := 1) dX12_reckons_155 ic_1 ?_
              refine PWk.isub dX12_reckons_156 ?_
              refine PWk.aload_n 2 dX12_reckons_157 rfl ?_
              refine PWk.gets dX12_reckons_158 rg_100 lc_100 fl_X12_183 rfl st_100_56 ?_
              refine PWk.iload_n 0 dX12_reckons_161 rfl ?_
              refine PWk.iconst (v := 1) dX12_reckons_162 ic_1 ?_
              refine PWk.isub dX12_reckons_163 ?_
              refine PWk.lald dX12_reckons_164 rg_134 ly_134 (fun v8 => ?_)
              refine PWk.lconst (v := 1) dX12_reckons_165 rfl ?_
              refine PWk.lcmp dX12_reckons_166 ?_
              refine PWk.jn (pc' := 187) (lv' := fun y13 => [(0, .ref 100), (1, .int u1), (2, .int (u2 + (-2))), (3, .int u3)]) (st' := fun y13 => [.long y13, .int ((u2 + (-2)) - 1), .ref 134]) (I' := fun y13 => I) (L' := fun y13 => L) (R' := fun y13 => R) (fun j9 hj9 => ?_) (fun y13 => ?_)
              · refine PWk.if_ne 179 dX12_reckons_167 (by decide) (fun h12 => ?_) (fun h12 => ?_)
                · refine PWk.aload_n 2 dX12_reckons_170 rfl ?_
                  refine PWk.gets dX12_reckons_171 rg_100 lc_100 fl_X12_183 rfl st_100_56 ?_
                  refine PWk.iload_n 0 dX12_reckons_174 rfl ?_
                  refine PWk.lald dX12_reckons_175 rg_134 ly_134 (fun v10 => ?_)
                  refine PWk.goto 187 dX12_reckons_176 (by decide) ?_
                  refine PWk.sub [2, 3, 0, 4] rfl ?_
                  exact hj9 v10
                · refine PWk.aload_n 2 dX12_reckons_179 rfl ?_
                  refine PWk.gets dX12_reckons_180 rg_100 lc_100 fl_X12_183 rfl st_100_56 ?_
                  refine PWk.iload_n 0 dX12_reckons_183 rfl ?_
                  refine PWk.iconst (v := 1) dX12_reckons_184 ic_1 ?_
                  refine PWk.iadd dX12_reckons_185 ?_
                  refine PWk.lald dX12_reckons_186 rg_134 ly_134 (fun v11 => ?_)
                  refine PWk.sub [2, 3, 0, 4] rfl ?_
                  exact hj9 v11
              · refine PWk.last dX12_reckons_187 rg_134 ly_134 ?_
                refine PWk.bL (fun L14 => ?_)
                refine PWk.goto 221 dX12_reckons_188 (by decide) ?_
                exact hj5 ((u2 + (-2)), L14)
            · refine PWk.iinc (v := (u2 + (-1))) 3 [(2, .int (u2 + (-1))), (4, .int v4), (0, .ref 100), (1, .int u1), (3, .int u3)] dX12_reckons_191 rfl (by rw [ic_m1]) (by decide) rfl ?_
              refine PWk.aload_n 2 dX12_reckons_194 rfl ?_
              refine PWk.gets dX12_reckons_195 rg_100 lc_100 fl_X12_183 rfl st_100_56 ?_
              refine PWk.iload_n 0 dX12_reckons_198 rfl ?_
              refine PWk.iconst (v := 1) dX12_reckons_199 ic_1 ?_
              refine PWk.isub dX12_reckons_200 ?_
              refine PWk.iload 1 dX12_reckons_201 rfl ?_
              refine PWk.aload_n 2 dX12_reckons_203 rfl ?_
              refine PWk.gets dX12_reckons_204 rg_100 lc_100 fl_X12_183 rfl st_100_56 ?_
              refine PWk.iload_n 0 dX12_reckons_207 rfl ?_
              refine PWk.iconst (v := 1) dX12_reckons_208 ic_1 ?_
              refine PWk.isub dX12_reckons_209 ?_
              refine PWk.lald dX12_reckons_210 rg_134 ly_134 (fun v15 => ?_)
              refine PWk.aload_n 2 dX12_reckons_211 rfl ?_
              refine PWk.gets dX12_reckons_212 rg_100 lc_100 fl_X12_183 rfl st_100_56 ?_
              refine PWk.iload_n 0 dX12_reckons_215 rfl ?_
              refine PWk.lald dX12_reckons_216 rg_134 ly_134 (fun v16 => ?_)
              refine PWk.callSl (pc_X12_two I L R v4 v15 v16) dX12_reckons_217 ml_X12_433 rfl (by decide) rfl (Nat.le_of_ble_eq_true rfl) (fun x17 => ?_)
              refine PWk.last dX12_reckons_220 rg_134 ly_134 ?_
              refine PWk.bL (fun L18 => ?_)
              refine PWk.sub [2, 3, 0, 4] rfl ?_
              exact hj5 ((u2 + (-1)), L18)
        · refine PWk.aload_n 1 dX12_reckons_66 rfl ?_
          refine PWk.gets dX12_reckons_67 rg_100 lc_100 fl_X12_183 rfl st_100_56 ?_
          refine PWk.iload_n 3 dX12_reckons_70 rfl ?_
          refine PWk.iload 0 dX12_reckons_71 rfl ?_
          refine PWk.jn (pc' := 105) (lv' := fun y26 => [(0, .ref 100), (1, .int u1), (2, .int u2), (3, .int u3)]) (st' := fun y26 => [.long y26, .int u2, .ref 134]) (I' := fun y26 => I) (L' := fun y26 => L) (R' := fun y26 => R) (fun j21 hj21 => ?_) (fun y26 => ?_)
          · refine PWk.if_ne 86 dX12_reckons_73 (by decide) (fun h25 => ?_) (fun h25 => ?_)
            · refine PWk.aload_n 1 dX12_reckons_76 rfl ?_
              refine PWk.gets dX12_reckons_77 rg_100 lc_100 fl_X12_96 rfl st_100_28 ?_
              refine PWk.iload_n 4 dX12_reckons_80 rfl ?_
              refine PWk.iald dX12_reckons_81 rg_116 ly_116 (fun v22 => ?_)
              refine PWk.i2l dX12_reckons_82 ?_
              refine PWk.goto 105 dX12_reckons_83 (by decide) ?_
              refine PWk.sub [1, 2, 3, 4] rfl ?_
              exact hj21 (Int32.toInt64 v22)
            · refine PWk.iload 0 dX12_reckons_86 rfl ?_
              refine PWk.bipush (v := 30) dX12_reckons_88 bp_30 ?_
              refine PWk.icmp_ne 97 dX12_reckons_90 (by decide) (fun h24 => ?_) (fun h24 => ?_)
              · refine PWk.lconst (v := 1) dX12_reckons_93 rfl ?_
                refine PWk.goto 105 dX12_reckons_94 (by decide) ?_
                refine PWk.sub [1, 2, 3, 4] rfl ?_
                exact hj21 1
              · refine PWk.aload_n 1 dX12_reckons_97 rfl ?_
                refine PWk.gets dX12_reckons_98 rg_100 lc_100 fl_X12_186 rfl st_100_57 ?_
                refine PWk.iload 0 dX12_reckons_101 rfl ?_
                refine PWk.iald dX12_reckons_103 rg_135 ly_135 (fun v23 => ?_)
                refine PWk.i2l dX12_reckons_104 ?_
                refine PWk.sub [1, 2, 3, 4] rfl ?_
                exact hj21 (Int32.toInt64 v23)
          · refine PWk.last dX12_reckons_105 rg_134 ly_134 ?_
            refine PWk.bL (fun L27 => ?_)
            refine PWk.iinc (v := (u2 + 1)) 2 [(2, .int (u2 + 1)), (0, .ref 100), (1, .int u1), (3, .int u3)] dX12_reckons_106 rfl (by rw [ic_1]) (by decide) rfl ?_
            refine PWk.goto 221 dX12_reckons_109 (by decide) ?_
            refine PWk.sub [1, 2, 0, 3] rfl ?_
            exact hj5 ((u2 + 1), L27)
      · refine PWk.iinc (v := (u3 + 1)) 3 [(3, .int (u3 + 1)), (0, .ref 100), (1, .int u1), (2, .int y29.1)] dX12_reckons_221 rfl (by rw [ic_1]) (by decide) rfl ?_
        refine PWk.goto 25 dX12_reckons_224 (by decide) ?_
        refine PWk.sub [1, 2, 3, 0] rfl ?_
        exact ih y29.1 (u3 + 1) y29.2 N F hx
set_option maxRecDepth 20000 in
theorem pc_X12_reckons (fu : Nat) (I : HI) (L : HL) (R : HR) (p1 : Int32) : PCo 100 147 2 yX12_reckons cX12_reckons 5 (some .long) [.ref 100, .int p1] I L R (f_X12_reckons fu I L p1) (fun x : Int64 × HL => ((some (.long x.1), I, x.2, R) : HF)) := by
  refine PCo.of (own := RX12) (by decide +kernel) (Nat.le_of_ble_eq_true rfl) rfl rfl (fun F => ?_)
  unfold f_X12_reckons
  refine PWk.iconst (v := 0) dX12_reckons_0 ic_0 ?_
  refine PWk.istore_n [(2, .int 0), (0, .ref 100), (1, .int p1)] dX12_reckons_1 (by decide) rfl ?_
  refine PWk.sipush (v := 1600) dX12_reckons_2 sp_1600 ?_
  refine PWk.aload_n 1 dX12_reckons_5 rfl ?_
  refine PWk.geti dX12_reckons_6 rg_100 lc_100 fl_X12_51 rfl ?_
  refine PWk.imul dX12_reckons_9 ?_
  refine PWk.aload_n 1 dX12_reckons_10 rfl ?_
  refine PWk.gets dX12_reckons_11 rg_100 lc_100 fl_X12_87 rfl st_100_25 ?_
  refine PWk.iconst (v := 3) dX12_reckons_14 ic_3 ?_
  refine PWk.aload_n 1 dX12_reckons_15 rfl ?_
  refine PWk.geti dX12_reckons_16 rg_100 lc_100 fl_X12_51 rfl ?_
  refine PWk.imul dX12_reckons_19 ?_
  refine PWk.iload_n 2 dX12_reckons_20 rfl ?_
  refine PWk.iadd dX12_reckons_21 ?_
  refine PWk.iald dX12_reckons_22 rg_113 ly_113 (fun v1 => ?_)
  refine PWk.iadd dX12_reckons_23 ?_
  refine PWk.bi (fun v2 => ?_)
  refine PWk.istore_n [(3, .int v2), (2, .int 0), (0, .ref 100), (1, .int p1)] dX12_reckons_24 (by decide) rfl ?_
  refine PWk.sub [2, 3, 1, 0] rfl ?_
  refine PWk.loopV (fun N' hx' => lp_X12_reckons_25 fu p1 I R fu 0 v2 L N' F hx') (fun x31 => ?_)
  refine PWk.aload_n 0 dX12_reckons_227 rfl ?_
  refine PWk.gets dX12_reckons_228 rg_100 lc_100 fl_X12_183 rfl st_100_56 ?_
  refine PWk.iconst (v := 0) dX12_reckons_231 ic_0 ?_
  refine PWk.lald dX12_reckons_232 rg_134 ly_134 (fun v32 => ?_)
  exact PWk.lret dX12_reckons_233 rfl (fun h => h)
/-! LakeMarketModel.isTold(I)Z -/
def f_X12_isTold (I : HI) (p1 : Int32) : Option (Int32) :=
  ldI (I 113) 6 ((3 * (I 100 13)) + p1) fun v1 =>
  if v1 = (-1) then
    gz 0 (some 0)
  else
    gz 1 (some 1)
set_option maxRecDepth 20000 in
theorem pc_X12_isTold (I : HI) (L : HL) (R : HR) (p1 : Int32) : PCo 100 147 0 yX12_isTold cX12_isTold 2 (some .boolean) [.ref 100, .int p1] I L R (f_X12_isTold I p1) (fun x : Int32 => ((some (.int x), I, L, R) : HF)) := by
  refine PCo.of (own := RX12) (by decide +kernel) (Nat.le_of_ble_eq_true rfl) rfl rfl (fun F => ?_)
  unfold f_X12_isTold
  refine PWk.aload_n 0 dX12_isTold_0 rfl ?_
  refine PWk.gets dX12_isTold_1 rg_100 lc_100 fl_X12_87 rfl st_100_25 ?_
  refine PWk.iconst (v := 3) dX12_isTold_4 ic_3 ?_
  refine PWk.aload_n 0 dX12_isTold_5 rfl ?_
  refine PWk.geti dX12_isTold_6 rg_100 lc_100 fl_X12_51 rfl ?_
  refine PWk.imul dX12_isTold_9 ?_
  refine PWk.iload_n 1 dX12_isTold_10 rfl ?_
  refine PWk.iadd dX12_isTold_11 ?_
  refine PWk.iald dX12_isTold_12 rg_113 ly_113 (fun v1 => ?_)
  refine PWk.iconst (v := (-1)) dX12_isTold_13 ic_m1 ?_
  refine PWk.icmp_eq 21 dX12_isTold_14 (by decide) (fun h2 => ?_) (fun h2 => ?_)
  · refine PWk.iconst (v := 0) dX12_isTold_21 ic_0 ?_
    exact PWk.zret dX12_isTold_22 rfl (fun h => h)
  · refine PWk.iconst (v := 1) dX12_isTold_17 ic_1 ?_
    refine PWk.goto 22 dX12_isTold_18 (by decide) ?_
    exact PWk.zret dX12_isTold_22 rfl (fun h => h)
/-! LakeMarketModel.fill(II)I -/
def f_X12_fill (I : HI) (p1 : Int32) (p2 : Int32) : Option (Int32) :=
  ldI (I 128) 208 ((8 * p1) + p2) fun v1 =>
  some v1
set_option maxRecDepth 20000 in
theorem pc_X12_fill (I : HI) (L : HL) (R : HR) (p1 : Int32) (p2 : Int32) : PCo 100 147 0 yX12_fill cX12_fill 3 (some .int) [.ref 100, .int p1, .int p2] I L R (f_X12_fill I p1 p2) (fun x : Int32 => ((some (.int x), I, L, R) : HF)) := by
  refine PCo.of (own := RX12) (by decide +kernel) (Nat.le_of_ble_eq_true rfl) rfl rfl (fun F => ?_)
  unfold f_X12_fill
  refine PWk.aload_n 0 dX12_fill_0 rfl ?_
  refine PWk.gets dX12_fill_1 rg_100 lc_100 fl_X12_156 rfl st_100_47 ?_
  refine PWk.bipush (v := 8) dX12_fill_4 bp_8 ?_
  refine PWk.iload_n 1 dX12_fill_6 rfl ?_
  refine PWk.imul dX12_fill_7 ?_
  refine PWk.iload_n 2 dX12_fill_8 rfl ?_
  refine PWk.iadd dX12_fill_9 ?_
  refine PWk.iald dX12_fill_10 rg_128 ly_128 (fun v1 => ?_)
  exact PWk.iret dX12_fill_11 rfl (fun h => h)
/-! LakeMarketModel.liesIn(II)I -/
def f_X12_liesIn (I : HI) (p1 : Int32) (p2 : Int32) : Option (Int32) :=
  ldI (I 129) 208 ((8 * p1) + p2) fun v1 =>
  some v1
set_option maxRecDepth 20000 in
theorem pc_X12_liesIn (I : HI) (L : HL) (R : HR) (p1 : Int32) (p2 : Int32) : PCo 100 147 0 yX12_liesIn cX12_liesIn 3 (some .int) [.ref 100, .int p1, .int p2] I L R (f_X12_liesIn I p1 p2) (fun x : Int32 => ((some (.int x), I, L, R) : HF)) := by
  refine PCo.of (own := RX12) (by decide +kernel) (Nat.le_of_ble_eq_true rfl) rfl rfl (fun F => ?_)
  unfold f_X12_liesIn
  refine PWk.aload_n 0 dX12_liesIn_0 rfl ?_
  refine PWk.gets dX12_liesIn_1 rg_100 lc_100 fl_X12_159 rfl st_100_48 ?_
  refine PWk.bipush (v := 8) dX12_liesIn_4 bp_8 ?_
  refine PWk.iload_n 1 dX12_liesIn_6 rfl ?_
  refine PWk.imul dX12_liesIn_7 ?_
  refine PWk.iload_n 2 dX12_liesIn_8 rfl ?_
  refine PWk.iadd dX12_liesIn_9 ?_
  refine PWk.iald dX12_liesIn_10 rg_129 ly_129 (fun v1 => ?_)
  exact PWk.iret dX12_liesIn_11 rfl (fun h => h)
/-! LakeMarketModel.ownerOf(II)I -/
def f_X12_ownerOf (I : HI) (p1 : Int32) (p2 : Int32) : Option (Int32) :=
  ldI (I 130) 208 ((8 * p1) + p2) fun v1 =>
  some v1
set_option maxRecDepth 20000 in
theorem pc_X12_ownerOf (I : HI) (L : HL) (R : HR) (p1 : Int32) (p2 : Int32) : PCo 100 147 0 yX12_ownerOf cX12_ownerOf 3 (some .int) [.ref 100, .int p1, .int p2] I L R (f_X12_ownerOf I p1 p2) (fun x : Int32 => ((some (.int x), I, L, R) : HF)) := by
  refine PCo.of (own := RX12) (by decide +kernel) (Nat.le_of_ble_eq_true rfl) rfl rfl (fun F => ?_)
  unfold f_X12_ownerOf
  refine PWk.aload_n 0 dX12_ownerOf_0 rfl ?_
  refine PWk.gets dX12_ownerOf_1 rg_100 lc_100 fl_X12_162 rfl st_100_49 ?_
  refine PWk.bipush (v := 8) dX12_ownerOf_4 bp_8 ?_
  refine PWk.iload_n 1 dX12_ownerOf_6 rfl ?_
  refine PWk.imul dX12_ownerOf_7 ?_
  refine PWk.iload_n 2 dX12_ownerOf_8 rfl ?_
  refine PWk.iadd dX12_ownerOf_9 ?_
  refine PWk.iald dX12_ownerOf_10 rg_130 ly_130 (fun v1 => ?_)
  exact PWk.iret dX12_ownerOf_11 rfl (fun h => h)
/-! LakeMarketModel.beside(III)I -/
def f_X12_beside_L6 : Nat → HI → Int32 → Int32 → Int32 → Int32 → Int32 → Option (Int32)
  | 0, _, _, _, _, _, _ => none
  | n + 1, I, u1, u2, u3, u4, u5 =>
    ldI (I 106) 2 (I 100 13) fun v1 =>
    if v1 ≤ u5 then
      some u4
    else
      jnt (β := Int32) (fun y8 =>
        bnd ((u4 + y8)) fun v9 =>
        f_X12_beside_L6 n I u1 u2 u3 v9 (u5 + 1)) fun j3 =>
      jnt (β := Unit) (fun y7 =>
        j3 0) fun j2 =>
      if u5 = u3 then
        j2 ()
      else
        (f_X12_liesIn I u1 u5).bind fun x4 =>
        if x4 = u2 then
          j3 1
        else
          j2 ()
def f_X12_beside (fu : Nat) (I : HI) (p1 : Int32) (p2 : Int32) (p3 : Int32) : Option (Int32) :=
  (f_X12_beside_L6 fu I p1 p2 p3 0 0).bind fun x11 =>
  some x11
set_option maxRecDepth 20000 in
theorem lp_X12_beside_6 (fu : Nat) (u1 : Int32) (u2 : Int32) (u3 : Int32) (I : HI) (L : HL) (R : HR) : ∀ (n : Nat) (u4 : Int32) (u5 : Int32) (N : (Int32) → Prop) (F : HF), (∀ v : Int32, N v → PW 100 147 1 RX12 cX12_beside 6 (some .int) 53 [(4, .int v)] [] I L R F) → PWk 100 147 1 RX12 cX12_beside 6 (some .int) 6 [(0, .ref 100), (1, .int u1), (2, .int u2), (3, .int u3), (4, .int u4), (5, .int u5)] [] I L R (f_X12_beside_L6 n I u1 u2 u3 u4 u5) N F := by
  intro n
  induction n with
  | zero => intro u4 u5 N F hx; exact PWk.none'
  | succ n ih =>
    intro u4 u5 N F hx
    unfold f_X12_beside_L6
    refine PWk.iload 5 dX12_beside_6 rfl ?_
    refine PWk.aload_n 0 dX12_beside_8 rfl ?_
    refine PWk.gets dX12_beside_9 rg_100 lc_100 fl_X12_66 rfl st_100_18 ?_
    refine PWk.aload_n 0 dX12_beside_12 rfl ?_
    refine PWk.geti dX12_beside_13 rg_100 lc_100 fl_X12_51 rfl ?_
    refine PWk.iald dX12_beside_16 rg_106 ly_106 (fun v1 => ?_)
    refine PWk.icmp_ge 53 dX12_beside_17 (by decide) (fun h10 => ?_) (fun h10 => ?_)
    · refine PWk.sub [4] rfl ?_
      exact PWk.done (fun h => hx _ h)
    · refine PWk.iload 4 dX12_beside_20 rfl ?_
      refine PWk.iload 5 dX12_beside_22 rfl ?_
      refine PWk.iload_n 3 dX12_beside_24 rfl ?_
      refine PWk.jn (pc' := 44) (lv' := fun y8 => [(0, .ref 100), (1, .int u1), (2, .int u2), (3, .int u3), (5, .int u5)]) (st' := fun y8 => [.int y8, .int u4]) (I' := fun y8 => I) (L' := fun y8 => L) (R' := fun y8 => R) (fun j3 hj3 => ?_) (fun y8 => ?_)
      · refine PWk.jn (pc' := 43) (lv' := fun y7 => [(0, .ref 100), (1, .int u1), (2, .int u2), (3, .int u3), (5, .int u5)]) (st' := fun y7 => [.int u4]) (I' := fun y7 => I) (L' := fun y7 => L) (R' := fun y7 => R) (fun j2 hj2 => ?_) (fun y7 => ?_)
        · refine PWk.icmp_eq 43 dX12_beside_25 (by decide) (fun h6 => ?_) (fun h6 => ?_)
          · refine PWk.sub [0, 1, 2, 3, 5] rfl ?_
            exact hj2 ()
          · refine PWk.aload_n 0 dX12_beside_28 rfl ?_
            refine PWk.iload_n 1 dX12_beside_29 rfl ?_
            refine PWk.iload 5 dX12_beside_30 rfl ?_
            refine PWk.callVi (pc_X12_liesIn I L R u1 u5) dX12_beside_32 ml_X12_437 rfl rg_100 lc_100 vq_12 (by decide) rfl (Nat.le_of_ble_eq_true rfl) (fun x4 => ?_)
            refine PWk.iload_n 2 dX12_beside_35 rfl ?_
            refine PWk.icmp_ne 43 dX12_beside_36 (by decide) (fun h5 => ?_) (fun h5 => ?_)
            · refine PWk.iconst (v := 1) dX12_beside_39 ic_1 ?_
              refine PWk.goto 44 dX12_beside_40 (by decide) ?_
              refine PWk.sub [0, 1, 2, 3, 5] rfl ?_
              exact hj3 1
            · refine PWk.sub [0, 1, 2, 3, 5] rfl ?_
              exact hj2 ()
        · refine PWk.iconst (v := 0) dX12_beside_43 ic_0 ?_
          exact hj3 0
      · refine PWk.iadd dX12_beside_44 ?_
        refine PWk.bi (fun v9 => ?_)
        refine PWk.istore [(4, .int v9), (0, .ref 100), (1, .int u1), (2, .int u2), (3, .int u3), (5, .int u5)] dX12_beside_45 (by decide) rfl ?_
        refine PWk.iinc (v := (u5 + 1)) 5 [(5, .int (u5 + 1)), (4, .int v9), (0, .ref 100), (1, .int u1), (2, .int u2), (3, .int u3)] dX12_beside_47 rfl (by rw [ic_1]) (by decide) rfl ?_
        refine PWk.goto 6 dX12_beside_50 (by decide) ?_
        refine PWk.sub [2, 3, 4, 5, 1, 0] rfl ?_
        exact ih v9 (u5 + 1) N F hx
set_option maxRecDepth 20000 in
theorem pc_X12_beside (fu : Nat) (I : HI) (L : HL) (R : HR) (p1 : Int32) (p2 : Int32) (p3 : Int32) : PCo 100 147 1 yX12_beside cX12_beside 6 (some .int) [.ref 100, .int p1, .int p2, .int p3] I L R (f_X12_beside fu I p1 p2 p3) (fun x : Int32 => ((some (.int x), I, L, R) : HF)) := by
  refine PCo.of (own := RX12) (by decide +kernel) (Nat.le_of_ble_eq_true rfl) rfl rfl (fun F => ?_)
  unfold f_X12_beside
  refine PWk.iconst (v := 0) dX12_beside_0 ic_0 ?_
  refine PWk.istore [(4, .int 0), (0, .ref 100), (1, .int p1), (2, .int p2), (3, .int p3)] dX12_beside_1 (by decide) rfl ?_
  refine PWk.iconst (v := 0) dX12_beside_3 ic_0 ?_
  refine PWk.istore [(5, .int 0), (4, .int 0), (0, .ref 100), (1, .int p1), (2, .int p2), (3, .int p3)] dX12_beside_4 (by decide) rfl ?_
  refine PWk.sub [2, 3, 4, 5, 1, 0] rfl ?_
  refine PWk.loopV (fun N' hx' => lp_X12_beside_6 fu p1 p2 p3 I L R fu 0 0 N' F hx') (fun x11 => ?_)
  refine PWk.iload 0 dX12_beside_53 rfl ?_
  exact PWk.iret dX12_beside_55 rfl (fun h => h)
/-! LakeMarketModel.room(II)I -/
def f_X12_room_L18 : Nat → HI → Int32 → Int32 → Int32 → Int32 → Option (Int32)
  | 0, _, _, _, _, _ => none
  | n + 1, I, u1, u2, u3, u4 =>
    ldI (I 106) 2 (I 100 13) fun v2 =>
    if v2 ≤ u4 then
      some u3
    else
      (f_X12_liesIn I u1 u4).bind fun x3 =>
      jnt (β := Int32) (fun y7 =>
        bnd ((u3 - y7)) fun v8 =>
        f_X12_room_L18 n I u1 u2 v8 (u4 + 1)) fun j4 =>
      if x3 = u2 then
        (f_X12_fill I u1 u4).bind fun x5 =>
        j4 x5
      else
        j4 0
def f_X12_room (fu : Nat) (I : HI) (p1 : Int32) (p2 : Int32) : Option (Int32) :=
  ldI (I 103) 16 ((8 * (I 100 13)) + p2) fun v1 =>
  (f_X12_room_L18 fu I p1 p2 v1 0).bind fun x10 =>
  some x10
set_option maxRecDepth 20000 in
theorem lp_X12_room_18 (fu : Nat) (u1 : Int32) (u2 : Int32) (I : HI) (L : HL) (R : HR) : ∀ (n : Nat) (u3 : Int32) (u4 : Int32) (N : (Int32) → Prop) (F : HF), (∀ v : Int32, N v → PW 100 147 1 RX12 cX12_room 5 (some .int) 63 [(3, .int v)] [] I L R F) → PWk 100 147 1 RX12 cX12_room 5 (some .int) 18 [(0, .ref 100), (1, .int u1), (2, .int u2), (3, .int u3), (4, .int u4)] [] I L R (f_X12_room_L18 n I u1 u2 u3 u4) N F := by
  intro n
  induction n with
  | zero => intro u3 u4 N F hx; exact PWk.none'
  | succ n ih =>
    intro u3 u4 N F hx
    unfold f_X12_room_L18
    refine PWk.iload 4 dX12_room_18 rfl ?_
    refine PWk.aload_n 0 dX12_room_20 rfl ?_
    refine PWk.gets dX12_room_21 rg_100 lc_100 fl_X12_66 rfl st_100_18 ?_
    refine PWk.aload_n 0 dX12_room_24 rfl ?_
    refine PWk.geti dX12_room_25 rg_100 lc_100 fl_X12_51 rfl ?_
    refine PWk.iald dX12_room_28 rg_106 ly_106 (fun v2 => ?_)
    refine PWk.icmp_ge 63 dX12_room_29 (by decide) (fun h9 => ?_) (fun h9 => ?_)
    · refine PWk.sub [3] rfl ?_
      exact PWk.done (fun h => hx _ h)
    · refine PWk.iload_n 3 dX12_room_32 rfl ?_
      refine PWk.aload_n 0 dX12_room_33 rfl ?_
      refine PWk.iload_n 1 dX12_room_34 rfl ?_
      refine PWk.iload 4 dX12_room_35 rfl ?_
      refine PWk.callVi (pc_X12_liesIn I L R u1 u4) dX12_room_37 ml_X12_437 rfl rg_100 lc_100 vq_12 (by decide) rfl (Nat.le_of_ble_eq_true rfl) (fun x3 => ?_)
      refine PWk.iload_n 2 dX12_room_40 rfl ?_
      refine PWk.jn (pc' := 55) (lv' := fun y7 => [(0, .ref 100), (1, .int u1), (2, .int u2), (4, .int u4)]) (st' := fun y7 => [.int y7, .int u3]) (I' := fun y7 => I) (L' := fun y7 => L) (R' := fun y7 => R) (fun j4 hj4 => ?_) (fun y7 => ?_)
      · refine PWk.icmp_ne 54 dX12_room_41 (by decide) (fun h6 => ?_) (fun h6 => ?_)
        · refine PWk.aload_n 0 dX12_room_44 rfl ?_
          refine PWk.iload_n 1 dX12_room_45 rfl ?_
          refine PWk.iload 4 dX12_room_46 rfl ?_
          refine PWk.callVi (pc_X12_fill I L R u1 u4) dX12_room_48 ml_X12_440 rfl rg_100 lc_100 vq_12 (by decide) rfl (Nat.le_of_ble_eq_true rfl) (fun x5 => ?_)
          refine PWk.goto 55 dX12_room_51 (by decide) ?_
          refine PWk.sub [0, 1, 2, 4] rfl ?_
          exact hj4 x5
        · refine PWk.iconst (v := 0) dX12_room_54 ic_0 ?_
          refine PWk.sub [0, 1, 2, 4] rfl ?_
          exact hj4 0
      · refine PWk.isub dX12_room_55 ?_
        refine PWk.bi (fun v8 => ?_)
        refine PWk.istore_n [(3, .int v8), (0, .ref 100), (1, .int u1), (2, .int u2), (4, .int u4)] dX12_room_56 (by decide) rfl ?_
        refine PWk.iinc (v := (u4 + 1)) 4 [(4, .int (u4 + 1)), (3, .int v8), (0, .ref 100), (1, .int u1), (2, .int u2)] dX12_room_57 rfl (by rw [ic_1]) (by decide) rfl ?_
        refine PWk.goto 18 dX12_room_60 (by decide) ?_
        refine PWk.sub [2, 3, 4, 1, 0] rfl ?_
        exact ih v8 (u4 + 1) N F hx
set_option maxRecDepth 20000 in
theorem pc_X12_room (fu : Nat) (I : HI) (L : HL) (R : HR) (p1 : Int32) (p2 : Int32) : PCo 100 147 1 yX12_room cX12_room 5 (some .int) [.ref 100, .int p1, .int p2] I L R (f_X12_room fu I p1 p2) (fun x : Int32 => ((some (.int x), I, L, R) : HF)) := by
  refine PCo.of (own := RX12) (by decide +kernel) (Nat.le_of_ble_eq_true rfl) rfl rfl (fun F => ?_)
  unfold f_X12_room
  refine PWk.aload_n 0 dX12_room_0 rfl ?_
  refine PWk.gets dX12_room_1 rg_100 lc_100 fl_X12_57 rfl st_100_15 ?_
  refine PWk.bipush (v := 8) dX12_room_4 bp_8 ?_
  refine PWk.aload_n 0 dX12_room_6 rfl ?_
  refine PWk.geti dX12_room_7 rg_100 lc_100 fl_X12_51 rfl ?_
  refine PWk.imul dX12_room_10 ?_
  refine PWk.iload_n 2 dX12_room_11 rfl ?_
  refine PWk.iadd dX12_room_12 ?_
  refine PWk.iald dX12_room_13 rg_103 ly_103 (fun v1 => ?_)
  refine PWk.istore_n [(3, .int v1), (0, .ref 100), (1, .int p1), (2, .int p2)] dX12_room_14 (by decide) rfl ?_
  refine PWk.iconst (v := 0) dX12_room_15 ic_0 ?_
  refine PWk.istore [(4, .int 0), (3, .int v1), (0, .ref 100), (1, .int p1), (2, .int p2)] dX12_room_16 (by decide) rfl ?_
  refine PWk.sub [2, 3, 4, 1, 0] rfl ?_
  refine PWk.loopV (fun N' hx' => lp_X12_room_18 fu p1 p2 I L R fu v1 0 N' F hx') (fun x10 => ?_)
  refine PWk.iload_n 0 dX12_room_63 rfl ?_
  exact PWk.iret dX12_room_64 rfl (fun h => h)
/-! LakeMarketModel.asks(III)V -/
def f_X12_asks (fu : Nat) (I : HI) (p1 : Int32) (p2 : Int32) (p3 : Int32) : Option (HI) :=
  (f_X12_fill I p1 p2).bind fun x1 =>
  inb 10 1 <|
  bnd (sI I 135 (1 : Int32).toNatClampNeg x1) fun I2 =>
  ldI (I2 127) 26 p1 fun v3 =>
  inb 10 2 <|
  bnd (sI I2 135 (2 : Int32).toNatClampNeg v3) fun I4 =>
  (f_X12_beside fu I4 p1 p3 p2).bind fun x5 =>
  inb 10 3 <|
  bnd (sI I4 135 (3 : Int32).toNatClampNeg x5) fun I6 =>
  some I6
set_option maxRecDepth 20000 in
theorem pc_X12_asks (fu : Nat) (I : HI) (L : HL) (R : HR) (p1 : Int32) (p2 : Int32) (p3 : Int32) : PCo 100 147 2 yX12_asks cX12_asks 4 none [.ref 100, .int p1, .int p2, .int p3] I L R (f_X12_asks fu I p1 p2 p3) (fun x : HI => ((none, x, L, R) : HF)) := by
  refine PCo.of (own := RX12) (by decide +kernel) (Nat.le_of_ble_eq_true rfl) rfl rfl (fun F => ?_)
  unfold f_X12_asks
  refine PWk.aload_n 0 dX12_asks_0 rfl ?_
  refine PWk.gets dX12_asks_1 rg_100 lc_100 fl_X12_186 rfl st_100_57 ?_
  refine PWk.iconst (v := 1) dX12_asks_4 ic_1 ?_
  refine PWk.aload_n 0 dX12_asks_5 rfl ?_
  refine PWk.iload_n 1 dX12_asks_6 rfl ?_
  refine PWk.iload_n 2 dX12_asks_7 rfl ?_
  refine PWk.callVi (pc_X12_fill I L R p1 p2) dX12_asks_8 ml_X12_440 rfl rg_100 lc_100 vq_12 (by decide) rfl (Nat.le_of_ble_eq_true rfl) (fun x1 => ?_)
  refine PWk.iast dX12_asks_11 rg_135 ly_135 ?_
  refine PWk.bI (fun I2 => ?_)
  refine PWk.aload_n 0 dX12_asks_12 rfl ?_
  refine PWk.gets dX12_asks_13 rg_100 lc_100 fl_X12_186 rfl st_100_57 ?_
  refine PWk.iconst (v := 2) dX12_asks_16 ic_2 ?_
  refine PWk.aload_n 0 dX12_asks_17 rfl ?_
  refine PWk.gets dX12_asks_18 rg_100 lc_100 fl_X12_153 rfl st_100_46 ?_
  refine PWk.iload_n 1 dX12_asks_21 rfl ?_
  refine PWk.iald dX12_asks_22 rg_127 ly_127 (fun v3 => ?_)
  refine PWk.iast dX12_asks_23 rg_135 ly_135 ?_
  refine PWk.bI (fun I4 => ?_)
  refine PWk.aload_n 0 dX12_asks_24 rfl ?_
  refine PWk.gets dX12_asks_25 rg_100 lc_100 fl_X12_186 rfl st_100_57 ?_
  refine PWk.iconst (v := 3) dX12_asks_28 ic_3 ?_
  refine PWk.aload_n 0 dX12_asks_29 rfl ?_
  refine PWk.iload_n 1 dX12_asks_30 rfl ?_
  refine PWk.iload_n 3 dX12_asks_31 rfl ?_
  refine PWk.iload_n 2 dX12_asks_32 rfl ?_
  refine PWk.callVi (pc_X12_beside fu I4 L R p1 p3 p2) dX12_asks_33 ml_X12_443 rfl rg_100 lc_100 vq_12 (by decide) rfl (Nat.le_of_ble_eq_true rfl) (fun x5 => ?_)
  refine PWk.iast dX12_asks_36 rg_135 ly_135 ?_
  refine PWk.bI (fun I6 => ?_)
  exact PWk.vret dX12_asks_37 rfl (fun h => h)
/-! LakeMarketModel.leaking(IIZ)I -/
def f_X12_leaking (fu : Nat) (I : HI) (L : HL) (p1 : Int32) (p2 : Int32) (p3 : Int32) : Option (Int32 × HI × HL) :=
  (f_X12_fill I p1 p2).bind fun x1 =>
  if x1 = 0 then
    some (0, I, L)
  else
    (f_X12_isTold I 0).bind fun x2 =>
    if x2 = 0 then
      some (0, I, L)
    else
      (f_X12_liesIn I p1 p2).bind fun x3 =>
      (f_X12_asks fu I p1 p2 x3).bind fun x4 =>
      jnt (β := Int32) (fun y7 =>
        inb 10 4 <|
        bnd (sI x4 135 (4 : Int32).toNatClampNeg y7) fun I8 =>
        (f_X12_reckons fu I8 L 0).bind fun x9 =>
        if 0 ≤ (lg_cmp x9.1 0) then
          (f_X12_fill I8 p1 p2).bind fun x10 =>
          if (lg_cmp x9.1 (Int32.toInt64 x10)) ≤ 0 then
            some ((Int64.toInt32 x9.1), I8, x9.2)
          else
            (f_X12_fill I8 p1 p2).bind fun x11 =>
            some (x11, I8, x9.2)
        else
          some (0, I8, x9.2)) fun j5 =>
      if p3 = 0 then
        j5 0
      else
        j5 1
set_option maxRecDepth 20000 in
theorem pc_X12_leaking (fu : Nat) (I : HI) (L : HL) (R : HR) (p1 : Int32) (p2 : Int32) (p3 : Int32) : PCo 100 147 3 yX12_leaking cX12_leaking 6 (some .int) [.ref 100, .int p1, .int p2, .int p3] I L R (f_X12_leaking fu I L p1 p2 p3) (fun x : Int32 × HI × HL => ((some (.int x.1), x.2.1, x.2.2, R) : HF)) := by
  refine PCo.of (own := RX12) (by decide +kernel) (Nat.le_of_ble_eq_true rfl) rfl rfl (fun F => ?_)
  unfold f_X12_leaking
  refine PWk.aload_n 0 dX12_leaking_0 rfl ?_
  refine PWk.iload_n 1 dX12_leaking_1 rfl ?_
  refine PWk.iload_n 2 dX12_leaking_2 rfl ?_
  refine PWk.callVi (pc_X12_fill I L R p1 p2) dX12_leaking_3 ml_X12_440 rfl rg_100 lc_100 vq_12 (by decide) rfl (Nat.le_of_ble_eq_true rfl) (fun x1 => ?_)
  refine PWk.if_eq 17 dX12_leaking_6 (by decide) (fun h15 => ?_) (fun h15 => ?_)
  · refine PWk.iconst (v := 0) dX12_leaking_17 ic_0 ?_
    exact PWk.iret dX12_leaking_18 rfl (fun h => h)
  · refine PWk.aload_n 0 dX12_leaking_9 rfl ?_
    refine PWk.iconst (v := 0) dX12_leaking_10 ic_0 ?_
    refine PWk.callVi (pc_X12_isTold I L R 0) dX12_leaking_11 ml_X12_447 rfl rg_100 lc_100 vq_12 (by decide) rfl (Nat.le_of_ble_eq_true rfl) (fun x2 => ?_)
    refine PWk.if_ne 19 dX12_leaking_14 (by decide) (fun h14 => ?_) (fun h14 => ?_)
    · refine PWk.iconst (v := 0) dX12_leaking_17 ic_0 ?_
      exact PWk.iret dX12_leaking_18 rfl (fun h => h)
    · refine PWk.aload_n 0 dX12_leaking_19 rfl ?_
      refine PWk.iload_n 1 dX12_leaking_20 rfl ?_
      refine PWk.iload_n 2 dX12_leaking_21 rfl ?_
      refine PWk.aload_n 0 dX12_leaking_22 rfl ?_
      refine PWk.iload_n 1 dX12_leaking_23 rfl ?_
      refine PWk.iload_n 2 dX12_leaking_24 rfl ?_
      refine PWk.callVi (pc_X12_liesIn I L R p1 p2) dX12_leaking_25 ml_X12_437 rfl rg_100 lc_100 vq_12 (by decide) rfl (Nat.le_of_ble_eq_true rfl) (fun x3 => ?_)
      refine PWk.callVvI (pc_X12_asks fu I L R p1 p2 x3) dX12_leaking_28 ml_X12_450 rfl rg_100 lc_100 vq_12 (by decide) rfl (Nat.le_of_ble_eq_true rfl) (fun x4 => ?_)
      refine PWk.aload_n 0 dX12_leaking_31 rfl ?_
      refine PWk.gets dX12_leaking_32 rg_100 lc_100 fl_X12_186 rfl st_100_57 ?_
      refine PWk.iconst (v := 4) dX12_leaking_35 ic_4 ?_
      refine PWk.iload_n 3 dX12_leaking_36 rfl ?_
      refine PWk.jn (pc' := 45) (lv' := fun y7 => [(0, .ref 100), (1, .int p1), (2, .int p2)]) (st' := fun y7 => [.int y7, .int 4, .ref 135]) (I' := fun y7 => x4) (L' := fun y7 => L) (R' := fun y7 => R) (fun j5 hj5 => ?_) (fun y7 => ?_)
      · refine PWk.if_eq 44 dX12_leaking_37 (by decide) (fun h6 => ?_) (fun h6 => ?_)
        · refine PWk.iconst (v := 0) dX12_leaking_44 ic_0 ?_
          refine PWk.sub [0, 1, 2] rfl ?_
          exact hj5 0
        · refine PWk.iconst (v := 1) dX12_leaking_40 ic_1 ?_
          refine PWk.goto 45 dX12_leaking_41 (by decide) ?_
          refine PWk.sub [0, 1, 2] rfl ?_
          exact hj5 1
      · refine PWk.iast dX12_leaking_45 rg_135 ly_135 ?_
        refine PWk.bI (fun I8 => ?_)
        refine PWk.aload_n 0 dX12_leaking_46 rfl ?_
        refine PWk.iconst (v := 0) dX12_leaking_47 ic_0 ?_
        refine PWk.callVlL (pc_X12_reckons fu I8 L R 0) dX12_leaking_48 ml_X12_454 rfl rg_100 lc_100 vq_12 (by decide) rfl (Nat.le_of_ble_eq_true rfl) (fun x9 => ?_)
        refine PWk.lstore [(4, .long x9.1), (0, .ref 100), (1, .int p1), (2, .int p2)] dX12_leaking_51 (by decide) rfl ?_
        refine PWk.lload 0 dX12_leaking_53 rfl ?_
        refine PWk.lconst (v := 0) dX12_leaking_55 rfl ?_
        refine PWk.lcmp dX12_leaking_56 ?_
        refine PWk.if_ge 64 dX12_leaking_57 (by decide) (fun h13 => ?_) (fun h13 => ?_)
        · refine PWk.lload 0 dX12_leaking_64 rfl ?_
          refine PWk.aload_n 1 dX12_leaking_66 rfl ?_
          refine PWk.iload_n 2 dX12_leaking_67 rfl ?_
          refine PWk.iload_n 3 dX12_leaking_68 rfl ?_
          refine PWk.callVi (pc_X12_fill I8 x9.2 R p1 p2) dX12_leaking_69 ml_X12_440 rfl rg_100 lc_100 vq_12 (by decide) rfl (Nat.le_of_ble_eq_true rfl) (fun x10 => ?_)
          refine PWk.i2l dX12_leaking_72 ?_
          refine PWk.lcmp dX12_leaking_73 ?_
          refine PWk.if_le 86 dX12_leaking_74 (by decide) (fun h12 => ?_) (fun h12 => ?_)
          · refine PWk.lload 0 dX12_leaking_86 rfl ?_
            refine PWk.l2i dX12_leaking_88 ?_
            exact PWk.iret dX12_leaking_89 rfl (fun h => h)
          · refine PWk.aload_n 1 dX12_leaking_77 rfl ?_
            refine PWk.iload_n 2 dX12_leaking_78 rfl ?_
            refine PWk.iload_n 3 dX12_leaking_79 rfl ?_
            refine PWk.callVi (pc_X12_fill I8 x9.2 R p1 p2) dX12_leaking_80 ml_X12_440 rfl rg_100 lc_100 vq_12 (by decide) rfl (Nat.le_of_ble_eq_true rfl) (fun x11 => ?_)
            refine PWk.goto 89 dX12_leaking_83 (by decide) ?_
            exact PWk.iret dX12_leaking_89 rfl (fun h => h)
        · refine PWk.iconst (v := 0) dX12_leaking_60 ic_0 ?_
          refine PWk.goto 89 dX12_leaking_61 (by decide) ?_
          exact PWk.iret dX12_leaking_89 rfl (fun h => h)
