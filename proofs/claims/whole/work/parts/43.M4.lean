/-! LakeMarketModel.strike()I -/
def f_X12_strike_L181 : Nat → HI → Int32 → Int32 → Int32 → Option (HI)
  | 0, _, _, _, _ => none
  | n + 1, I, u1, u4, u5 =>
    if u1 ≤ u5 then
      some I
    else
      ldI (I 101) 1800 u5 fun v32 =>
      dvI u1 <|
      ldI (I 101) 1800 ((u5 + 1) - (u5 + 1) / u1 * u1) fun v33 =>
      ldI (I 131) 936 ((6 * v32) + v33) fun v34 =>
      inb 936 ((6 * v32) + v33) <|
      bnd (sI I 131 (((6 * v32) + v33) : Int32).toNatClampNeg (v34 - u4)) fun I35 =>
      f_X12_strike_L181 n I35 u1 u4 (u5 + 1)
def f_X12_strike_L103 : Nat → HI → Int32 → Int32 → Int32 → Int32 → Option (Int32)
  | 0, _, _, _, _, _ => none
  | n + 1, I, u1, u2, u4, u5 =>
    if u1 ≤ u5 then
      some u4
    else
      if u2 = 0 then
        some u4
      else
        ldI (I 101) 1800 u5 fun v21 =>
        dvI u1 <|
        ldI (I 101) 1800 ((u5 + 1) - (u5 + 1) / u1 * u1) fun v22 =>
        (f_X12_debt I v21 v22).bind fun x23 =>
        jnt (β := Int32) (fun y26 =>
          f_X12_strike_L103 n I u1 u2 y26 (u5 + 1)) fun j24 =>
        if u4 ≤ x23 then
          j24 u4
        else
          j24 x23
def f_X12_strike_L23 : Nat → HI → Int32 → Int32 → Int32 → Int32 → Option (Int32)
  | 0, _, _, _, _, _ => none
  | n + 1, I, u1, u2, u3, u4 =>
    if u1 ≤ u4 then
      some u2
    else
      if u2 = 0 then
        some u2
      else
        ldI (I 101) 1800 u4 fun v3 =>
        (f_X12_isOwner I v3).bind fun x4 =>
        jnt (β := Int32) (fun y12 =>
          jnt (β := Int32) (fun y16 =>
            bnd ((u3 ||| y16)) fun v17 =>
            f_X12_strike_L23 n I u1 y12 v17 (u4 + 1)) fun j13 =>
          if y12 = 0 then
            j13 0
          else
            ldI (I 101) 1800 u4 fun v14 =>
            j13 ((1 : Int32) <<< (v14 &&& 31))) fun j6 =>
        jnt (β := Unit) (fun y11 =>
          j6 0) fun j5 =>
        if x4 = 0 then
          j5 ()
        else
          ldI (I 101) 1800 u4 fun v7 =>
          (f_X12_has2 u3 v7).bind fun x8 =>
          if x8 = 0 then
            j6 1
          else
            j5 ()
def f_X12_strike (fu : Nat) (I : HI) : Option (Int32 × HI) :=
  bnd (sI I 100 1 0) fun I1 =>
  (f_X12_is (I 100 1) 2 6).bind fun x2 =>
  (f_X12_strike_L23 fu I1 (I 100 1) x2 0 0).bind fun x20 =>
  (f_X12_strike_L103 fu I1 (I 100 1) x20 100000000 0).bind fun x29 =>
  jnt (β := Unit) (fun y40 =>
    (f_X12_refuses I1 3).bind fun x41 =>
    some (x41.1, x41.2)) fun j30 =>
  if x20 = 0 then
    j30 ()
  else
    if x29 = 0 then
      j30 ()
    else
      (f_X12_keeps fu I1).bind fun x31 =>
      (f_X12_strike_L181 fu x31 (I 100 1) x29 0).bind fun x37 =>
      some (x29, x37)
set_option maxRecDepth 20000 in
theorem lp_X12_strike_181 (fu : Nat) (u1 : Int32) (u4 : Int32) (L : HL) (R : HR) : ∀ (n : Nat) (u5 : Int32) (I : HI) (N : (HI) → Prop) (F : HF), (∀ v : HI, N v → PW 100 147 2 RX12 cX12_strike 7 (some .int) 225 [(4, .int u4)] [] v L R F) → PWk 100 147 2 RX12 cX12_strike 7 (some .int) 181 [(0, .ref 100), (1, .int u1), (4, .int u4), (5, .int u5)] [] I L R (f_X12_strike_L181 n I u1 u4 u5) N F := by
  intro n
  induction n with
  | zero => intro u5 I N F hx; exact PWk.none'
  | succ n ih =>
    intro u5 I N F hx
    unfold f_X12_strike_L181
    refine PWk.iload 3 dX12_strike_181 rfl ?_
    refine PWk.iload_n 1 dX12_strike_183 rfl ?_
    refine PWk.icmp_ge 225 dX12_strike_184 (by decide) (fun h36 => ?_) (fun h36 => ?_)
    · refine PWk.sub [2] rfl ?_
      exact PWk.done (fun h => hx _ h)
    · refine PWk.aload_n 0 dX12_strike_187 rfl ?_
      refine PWk.gets dX12_strike_188 rg_100 lc_100 fl_X12_165 rfl st_100_50 ?_
      refine PWk.bipush (v := 6) dX12_strike_191 bp_6 ?_
      refine PWk.aload_n 0 dX12_strike_193 rfl ?_
      refine PWk.gets dX12_strike_194 rg_100 lc_100 fl_X12_7 rfl st_100_0 ?_
      refine PWk.iload 3 dX12_strike_197 rfl ?_
      refine PWk.iald dX12_strike_199 rg_101 ly_101 (fun v32 => ?_)
      refine PWk.imul dX12_strike_200 ?_
      refine PWk.aload_n 0 dX12_strike_201 rfl ?_
      refine PWk.gets dX12_strike_202 rg_100 lc_100 fl_X12_7 rfl st_100_0 ?_
      refine PWk.iload 3 dX12_strike_205 rfl ?_
      refine PWk.iconst (v := 1) dX12_strike_207 ic_1 ?_
      refine PWk.iadd dX12_strike_208 ?_
      refine PWk.iload_n 1 dX12_strike_209 rfl ?_
      refine PWk.irem dX12_strike_210 ?_
      refine PWk.iald dX12_strike_211 rg_101 ly_101 (fun v33 => ?_)
      refine PWk.iadd dX12_strike_212 ?_
      refine PWk.dup2 dX12_strike_213 rfl rfl ?_
      refine PWk.iald dX12_strike_214 rg_131 ly_131 (fun v34 => ?_)
      refine PWk.iload 2 dX12_strike_215 rfl ?_
      refine PWk.isub dX12_strike_217 ?_
      refine PWk.iast dX12_strike_218 rg_131 ly_131 ?_
      refine PWk.bI (fun I35 => ?_)
      refine PWk.iinc (v := (u5 + 1)) 3 [(5, .int (u5 + 1)), (0, .ref 100), (1, .int u1), (4, .int u4)] dX12_strike_219 rfl (by rw [ic_1]) (by decide) rfl ?_
      refine PWk.goto 181 dX12_strike_222 (by decide) ?_
      refine PWk.sub [1, 2, 3, 0] rfl ?_
      exact ih (u5 + 1) I35 N F hx
set_option maxRecDepth 20000 in
theorem lp_X12_strike_103 (fu : Nat) (u1 : Int32) (u2 : Int32) (I : HI) (L : HL) (R : HR) : ∀ (n : Nat) (u4 : Int32) (u5 : Int32) (N : (Int32) → Prop) (F : HF), (∀ v : Int32, N v → PW 100 147 2 RX12 cX12_strike 7 (some .int) 159 [(0, .ref 100), (1, .int u1), (2, .int u2), (4, .int v)] [] I L R F) → PWk 100 147 2 RX12 cX12_strike 7 (some .int) 103 [(0, .ref 100), (1, .int u1), (2, .int u2), (4, .int u4), (5, .int u5)] [] I L R (f_X12_strike_L103 n I u1 u2 u4 u5) N F := by
  intro n
  induction n with
  | zero => intro u4 u5 N F hx; exact PWk.none'
  | succ n ih =>
    intro u4 u5 N F hx
    unfold f_X12_strike_L103
    refine PWk.iload 4 dX12_strike_103 rfl ?_
    refine PWk.iload_n 1 dX12_strike_105 rfl ?_
    refine PWk.icmp_ge 159 dX12_strike_106 (by decide) (fun h28 => ?_) (fun h28 => ?_)
    · refine PWk.sub [0, 1, 2, 3] rfl ?_
      exact PWk.done (fun h => hx _ h)
    · refine PWk.iload_n 2 dX12_strike_109 rfl ?_
      refine PWk.if_eq 159 dX12_strike_110 (by decide) (fun h27 => ?_) (fun h27 => ?_)
      · refine PWk.sub [0, 1, 2, 3] rfl ?_
        exact PWk.done (fun h => hx _ h)
      · refine PWk.aload_n 0 dX12_strike_113 rfl ?_
        refine PWk.aload_n 0 dX12_strike_114 rfl ?_
        refine PWk.gets dX12_strike_115 rg_100 lc_100 fl_X12_7 rfl st_100_0 ?_
        refine PWk.iload 4 dX12_strike_118 rfl ?_
        refine PWk.iald dX12_strike_120 rg_101 ly_101 (fun v21 => ?_)
        refine PWk.aload_n 0 dX12_strike_121 rfl ?_
        refine PWk.gets dX12_strike_122 rg_100 lc_100 fl_X12_7 rfl st_100_0 ?_
        refine PWk.iload 4 dX12_strike_125 rfl ?_
        refine PWk.iconst (v := 1) dX12_strike_127 ic_1 ?_
        refine PWk.iadd dX12_strike_128 ?_
        refine PWk.iload_n 1 dX12_strike_129 rfl ?_
        refine PWk.irem dX12_strike_130 ?_
        refine PWk.iald dX12_strike_131 rg_101 ly_101 (fun v22 => ?_)
        refine PWk.callVi (pc_X12_debt I L R v21 v22) dX12_strike_132 ml_X12_479 rfl rg_100 lc_100 vq_12 (by decide) rfl (Nat.le_of_ble_eq_true rfl) (fun x23 => ?_)
        refine PWk.istore [(6, .int x23), (0, .ref 100), (1, .int u1), (2, .int u2), (4, .int u4), (5, .int u5)] dX12_strike_135 (by decide) rfl ?_
        refine PWk.iload 0 dX12_strike_137 rfl ?_
        refine PWk.iload 4 dX12_strike_139 rfl ?_
        refine PWk.jn (pc' := 151) (lv' := fun y26 => [(0, .ref 100), (1, .int u1), (2, .int u2), (5, .int u5)]) (st' := fun y26 => [.int y26]) (I' := fun y26 => I) (L' := fun y26 => L) (R' := fun y26 => R) (fun j24 hj24 => ?_) (fun y26 => ?_)
        · refine PWk.icmp_ge 149 dX12_strike_141 (by decide) (fun h25 => ?_) (fun h25 => ?_)
          · refine PWk.iload 4 dX12_strike_149 rfl ?_
            refine PWk.sub [1, 2, 3, 5] rfl ?_
            exact hj24 u4
          · refine PWk.iload 0 dX12_strike_144 rfl ?_
            refine PWk.goto 151 dX12_strike_146 (by decide) ?_
            refine PWk.sub [1, 2, 3, 5] rfl ?_
            exact hj24 x23
        · refine PWk.istore [(4, .int y26), (0, .ref 100), (1, .int u1), (2, .int u2), (5, .int u5)] dX12_strike_151 (by decide) rfl ?_
          refine PWk.iinc (v := (u5 + 1)) 4 [(5, .int (u5 + 1)), (4, .int y26), (0, .ref 100), (1, .int u1), (2, .int u2)] dX12_strike_153 rfl (by rw [ic_1]) (by decide) rfl ?_
          refine PWk.goto 103 dX12_strike_156 (by decide) ?_
          refine PWk.sub [2, 3, 4, 1, 0] rfl ?_
          exact ih y26 (u5 + 1) N F hx
set_option maxRecDepth 20000 in
theorem lp_X12_strike_23 (fu : Nat) (u1 : Int32) (I : HI) (L : HL) (R : HR) : ∀ (n : Nat) (u2 : Int32) (u3 : Int32) (u4 : Int32) (N : (Int32) → Prop) (F : HF), (∀ v : Int32, N v → PW 100 147 2 RX12 cX12_strike 7 (some .int) 95 [(0, .ref 100), (1, .int u1), (2, .int v)] [] I L R F) → PWk 100 147 2 RX12 cX12_strike 7 (some .int) 23 [(0, .ref 100), (1, .int u1), (2, .int u2), (3, .int u3), (4, .int u4)] [] I L R (f_X12_strike_L23 n I u1 u2 u3 u4) N F := by
  intro n
  induction n with
  | zero => intro u2 u3 u4 N F hx; exact PWk.none'
  | succ n ih =>
    intro u2 u3 u4 N F hx
    unfold f_X12_strike_L23
    refine PWk.iload 4 dX12_strike_23 rfl ?_
    refine PWk.iload_n 1 dX12_strike_25 rfl ?_
    refine PWk.icmp_ge 95 dX12_strike_26 (by decide) (fun h19 => ?_) (fun h19 => ?_)
    · refine PWk.sub [0, 1, 2] rfl ?_
      exact PWk.done (fun h => hx _ h)
    · refine PWk.iload_n 2 dX12_strike_29 rfl ?_
      refine PWk.if_eq 95 dX12_strike_30 (by decide) (fun h18 => ?_) (fun h18 => ?_)
      · refine PWk.sub [0, 1, 2] rfl ?_
        exact PWk.done (fun h => hx _ h)
      · refine PWk.aload_n 0 dX12_strike_33 rfl ?_
        refine PWk.aload_n 0 dX12_strike_34 rfl ?_
        refine PWk.gets dX12_strike_35 rg_100 lc_100 fl_X12_7 rfl st_100_0 ?_
        refine PWk.iload 4 dX12_strike_38 rfl ?_
        refine PWk.iald dX12_strike_40 rg_101 ly_101 (fun v3 => ?_)
        refine PWk.callVi (pc_X12_isOwner I L R v3) dX12_strike_41 ml_X12_504 rfl rg_100 lc_100 vq_12 (by decide) rfl (Nat.le_of_ble_eq_true rfl) (fun x4 => ?_)
        refine PWk.istore_n [(2, .int x4), (0, .ref 100), (1, .int u1), (3, .int u3), (4, .int u4)] dX12_strike_44 (by decide) rfl ?_
        refine PWk.iload_n 0 dX12_strike_45 rfl ?_
        refine PWk.jn (pc' := 68) (lv' := fun y12 => [(0, .ref 100), (1, .int u1), (3, .int u3), (4, .int u4)]) (st' := fun y12 => [.int y12]) (I' := fun y12 => I) (L' := fun y12 => L) (R' := fun y12 => R) (fun j6 hj6 => ?_) (fun y12 => ?_)
        · refine PWk.jn (pc' := 67) (lv' := fun y11 => [(0, .ref 100), (1, .int u1), (3, .int u3), (4, .int u4)]) (st' := fun y11 => []) (I' := fun y11 => I) (L' := fun y11 => L) (R' := fun y11 => R) (fun j5 hj5 => ?_) (fun y11 => ?_)
          · refine PWk.if_eq 67 dX12_strike_46 (by decide) (fun h10 => ?_) (fun h10 => ?_)
            · refine PWk.sub [1, 2, 3, 4] rfl ?_
              exact hj5 ()
            · refine PWk.iload_n 3 dX12_strike_49 rfl ?_
              refine PWk.aload_n 1 dX12_strike_50 rfl ?_
              refine PWk.gets dX12_strike_51 rg_100 lc_100 fl_X12_7 rfl st_100_0 ?_
              refine PWk.iload 4 dX12_strike_54 rfl ?_
              refine PWk.iald dX12_strike_56 rg_101 ly_101 (fun v7 => ?_)
              refine PWk.callSi (pc_X12_has2 I L R u3 v7) dX12_strike_57 ml_X12_357 rfl (by decide) rfl (Nat.le_of_ble_eq_true rfl) (fun x8 => ?_)
              refine PWk.if_ne 67 dX12_strike_60 (by decide) (fun h9 => ?_) (fun h9 => ?_)
              · refine PWk.iconst (v := 1) dX12_strike_63 ic_1 ?_
                refine PWk.goto 68 dX12_strike_64 (by decide) ?_
                refine PWk.sub [1, 2, 3, 4] rfl ?_
                exact hj6 1
              · refine PWk.sub [1, 2, 3, 4] rfl ?_
                exact hj5 ()
          · refine PWk.iconst (v := 0) dX12_strike_67 ic_0 ?_
            exact hj6 0
        · refine PWk.istore_n [(2, .int y12), (0, .ref 100), (1, .int u1), (3, .int u3), (4, .int u4)] dX12_strike_68 (by decide) rfl ?_
          refine PWk.iload_n 3 dX12_strike_69 rfl ?_
          refine PWk.iload_n 0 dX12_strike_70 rfl ?_
          refine PWk.jn (pc' := 87) (lv' := fun y16 => [(0, .ref 100), (1, .int u1), (2, .int y12), (4, .int u4)]) (st' := fun y16 => [.int y16, .int u3]) (I' := fun y16 => I) (L' := fun y16 => L) (R' := fun y16 => R) (fun j13 hj13 => ?_) (fun y16 => ?_)
          · refine PWk.if_eq 86 dX12_strike_71 (by decide) (fun h15 => ?_) (fun h15 => ?_)
            · refine PWk.iconst (v := 0) dX12_strike_86 ic_0 ?_
              refine PWk.sub [1, 2, 0, 4] rfl ?_
              exact hj13 0
            · refine PWk.iconst (v := 1) dX12_strike_74 ic_1 ?_
              refine PWk.aload_n 1 dX12_strike_75 rfl ?_
              refine PWk.gets dX12_strike_76 rg_100 lc_100 fl_X12_7 rfl st_100_0 ?_
              refine PWk.iload 4 dX12_strike_79 rfl ?_
              refine PWk.iald dX12_strike_81 rg_101 ly_101 (fun v14 => ?_)
              refine PWk.ishl dX12_strike_82 ?_
              refine PWk.goto 87 dX12_strike_83 (by decide) ?_
              refine PWk.sub [1, 2, 0, 4] rfl ?_
              exact hj13 ((1 : Int32) <<< (v14 &&& 31))
          · refine PWk.ior dX12_strike_87 ?_
            refine PWk.bi (fun v17 => ?_)
            refine PWk.istore_n [(3, .int v17), (0, .ref 100), (1, .int u1), (2, .int y12), (4, .int u4)] dX12_strike_88 (by decide) rfl ?_
            refine PWk.iinc (v := (u4 + 1)) 4 [(4, .int (u4 + 1)), (3, .int v17), (0, .ref 100), (1, .int u1), (2, .int y12)] dX12_strike_89 rfl (by rw [ic_1]) (by decide) rfl ?_
            refine PWk.goto 23 dX12_strike_92 (by decide) ?_
            refine PWk.sub [2, 3, 4, 1, 0] rfl ?_
            exact ih y12 v17 (u4 + 1) N F hx
set_option maxRecDepth 20000 in
theorem pc_X12_strike (fu : Nat) (I : HI) (L : HL) (R : HR) : PCo 100 147 2 yX12_strike cX12_strike 7 (some .int) [.ref 100] I L R (f_X12_strike fu I) (fun x : Int32 × HI => ((some (.int x.1), x.2, L, R) : HF)) := by
  refine PCo.of (own := RX12) (by decide +kernel) (Nat.le_of_ble_eq_true rfl) rfl rfl (fun F => ?_)
  unfold f_X12_strike
  refine PWk.aload_n 0 dX12_strike_0 rfl ?_
  refine PWk.geti dX12_strike_1 rg_100 lc_100 fl_X12_13 rfl ?_
  refine PWk.istore_n [(1, .int (I 100 1)), (0, .ref 100)] dX12_strike_4 (by decide) rfl ?_
  refine PWk.aload_n 1 dX12_strike_5 rfl ?_
  refine PWk.iconst (v := 0) dX12_strike_6 ic_0 ?_
  refine PWk.puti dX12_strike_7 rg_100 lc_100 fl_X12_13 fp_12_1 rfl ?_
  refine PWk.bI (fun I1 => ?_)
  refine PWk.iload_n 0 dX12_strike_10 rfl ?_
  refine PWk.iconst (v := 2) dX12_strike_11 ic_2 ?_
  refine PWk.bipush (v := 6) dX12_strike_12 bp_6 ?_
  refine PWk.callSi (pc_X12_is I1 L R (I 100 1) 2 6) dX12_strike_14 ml_X12_319 rfl (by decide) rfl (Nat.le_of_ble_eq_true rfl) (fun x2 => ?_)
  refine PWk.istore_n [(2, .int x2), (1, .int (I 100 1)), (0, .ref 100)] dX12_strike_17 (by decide) rfl ?_
  refine PWk.iconst (v := 0) dX12_strike_18 ic_0 ?_
  refine PWk.istore_n [(3, .int 0), (2, .int x2), (1, .int (I 100 1)), (0, .ref 100)] dX12_strike_19 (by decide) rfl ?_
  refine PWk.iconst (v := 0) dX12_strike_20 ic_0 ?_
  refine PWk.istore [(4, .int 0), (3, .int 0), (2, .int x2), (1, .int (I 100 1)), (0, .ref 100)] dX12_strike_21 (by decide) rfl ?_
  refine PWk.sub [4, 3, 2, 1, 0] rfl ?_
  refine PWk.loopV (fun N' hx' => lp_X12_strike_23 fu (I 100 1) I1 L R fu x2 0 0 N' F hx') (fun x20 => ?_)
  refine PWk.ldcw (v := 100000000) dX12_strike_95 kc_X12_516 ?_
  refine PWk.istore [(4, .int 100000000), (0, .ref 100), (1, .int (I 100 1)), (2, .int x20)] dX12_strike_98 (by decide) rfl ?_
  refine PWk.iconst (v := 0) dX12_strike_100 ic_0 ?_
  refine PWk.istore [(5, .int 0), (4, .int 100000000), (0, .ref 100), (1, .int (I 100 1)), (2, .int x20)] dX12_strike_101 (by decide) rfl ?_
  refine PWk.sub [2, 3, 4, 1, 0] rfl ?_
  refine PWk.loopV (fun N' hx' => lp_X12_strike_103 fu (I 100 1) x20 I1 L R fu 100000000 0 N' F hx') (fun x29 => ?_)
  refine PWk.iload_n 2 dX12_strike_159 rfl ?_
  refine PWk.jn (pc' := 168) (lv' := fun y40 => [(0, .ref 100)]) (st' := fun y40 => []) (I' := fun y40 => I1) (L' := fun y40 => L) (R' := fun y40 => R) (fun j30 hj30 => ?_) (fun y40 => ?_)
  · refine PWk.if_eq 168 dX12_strike_160 (by decide) (fun h39 => ?_) (fun h39 => ?_)
    · refine PWk.sub [0] rfl ?_
      exact hj30 ()
    · refine PWk.iload 3 dX12_strike_163 rfl ?_
      refine PWk.if_ne 174 dX12_strike_165 (by decide) (fun h38 => ?_) (fun h38 => ?_)
      · refine PWk.sub [0] rfl ?_
        exact hj30 ()
      · refine PWk.aload_n 0 dX12_strike_174 rfl ?_
        refine PWk.callVvI (pc_X12_keeps fu I1 L R) dX12_strike_175 ml_X12_548 rfl rg_100 lc_100 vq_12 (by decide) rfl (Nat.le_of_ble_eq_true rfl) (fun x31 => ?_)
        refine PWk.iconst (v := 0) dX12_strike_178 ic_0 ?_
        refine PWk.istore [(5, .int 0), (0, .ref 100), (1, .int (I 100 1)), (2, .int x20), (4, .int x29)] dX12_strike_179 (by decide) rfl ?_
        refine PWk.sub [1, 2, 4, 0] rfl ?_
        refine PWk.loopV (fun N' hx' => lp_X12_strike_181 fu (I 100 1) x29 L R fu 0 x31 N' F hx') (fun x37 => ?_)
        refine PWk.iload 0 dX12_strike_225 rfl ?_
        exact PWk.iret dX12_strike_227 rfl (fun h => h)
  · refine PWk.aload_n 0 dX12_strike_168 rfl ?_
    refine PWk.iconst (v := 3) dX12_strike_169 ic_3 ?_
    refine PWk.callViI (pc_X12_refuses I1 L R 3) dX12_strike_170 ml_X12_229 rfl rg_100 lc_100 vq_12 (by decide) rfl (Nat.le_of_ble_eq_true rfl) (fun x41 => ?_)
    exact PWk.iret dX12_strike_173 rfl (fun h => h)
/-! LakeMarketModel.seed(I)Z -/
def f_X12_seed (I : HI) (L : HL) (p1 : Int32) : Option (Int32 × HI × HL) :=
  if 0 ≤ p1 then
    bnd (sL L 100 55 (Int32.toInt64 p1)) fun L1 =>
    gz 1 (some (1, I, L1))
  else
    (f_X12_refuses I 5).bind fun x2 =>
    if x2.1 < 0 then
      gz 0 (some (0, x2.2, L))
    else
      gz 1 (some (1, x2.2, L))
set_option maxRecDepth 20000 in
theorem pc_X12_seed (I : HI) (L : HL) (R : HR) (p1 : Int32) : PCo 100 147 1 yX12_seed cX12_seed 2 (some .boolean) [.ref 100, .int p1] I L R (f_X12_seed I L p1) (fun x : Int32 × HI × HL => ((some (.int x.1), x.2.1, x.2.2, R) : HF)) := by
  refine PCo.of (own := RX12) (by decide +kernel) (Nat.le_of_ble_eq_true rfl) rfl rfl (fun F => ?_)
  unfold f_X12_seed
  refine PWk.iload_n 1 dX12_seed_0 rfl ?_
  refine PWk.if_ge 18 dX12_seed_1 (by decide) (fun h4 => ?_) (fun h4 => ?_)
  · refine PWk.aload_n 0 dX12_seed_18 rfl ?_
    refine PWk.iload_n 1 dX12_seed_19 rfl ?_
    refine PWk.i2l dX12_seed_20 ?_
    refine PWk.putl dX12_seed_21 rg_100 lc_100 fl_X12_180 fp_12_55 rfl ?_
    refine PWk.bL (fun L1 => ?_)
    refine PWk.iconst (v := 1) dX12_seed_24 ic_1 ?_
    exact PWk.zret dX12_seed_25 rfl (fun h => h)
  · refine PWk.aload_n 0 dX12_seed_4 rfl ?_
    refine PWk.iconst (v := 5) dX12_seed_5 ic_5 ?_
    refine PWk.callViI (pc_X12_refuses I L R 5) dX12_seed_6 ml_X12_229 rfl rg_100 lc_100 vq_12 (by decide) rfl (Nat.le_of_ble_eq_true rfl) (fun x2 => ?_)
    refine PWk.if_lt 16 dX12_seed_9 (by decide) (fun h3 => ?_) (fun h3 => ?_)
    · refine PWk.iconst (v := 0) dX12_seed_16 ic_0 ?_
      exact PWk.zret dX12_seed_17 rfl (fun h => h)
    · refine PWk.iconst (v := 1) dX12_seed_12 ic_1 ?_
      refine PWk.goto 17 dX12_seed_13 (by decide) ?_
      exact PWk.zret dX12_seed_17 rfl (fun h => h)
/-! LakeMarketModel.kept(II)I -/
def f_X12_kept (I : HI) (p1 : Int32) (p2 : Int32) : Option (Int32) :=
  ldI (I 132) 26 0 fun v1 =>
  (f_X12_is p1 0 (v1 - 1)).bind fun x2 =>
  if x2 = 0 then
    some (-1)
  else
    (f_X12_is p2 0 3).bind fun x3 =>
    if x3 = 0 then
      some (-1)
    else
      ldI (I 133) 4160 ((4 * p1) + p2) fun v4 =>
      some v4
set_option maxRecDepth 20000 in
theorem pc_X12_kept (I : HI) (L : HL) (R : HR) (p1 : Int32) (p2 : Int32) : PCo 100 147 1 yX12_kept cX12_kept 3 (some .int) [.ref 100, .int p1, .int p2] I L R (f_X12_kept I p1 p2) (fun x : Int32 => ((some (.int x), I, L, R) : HF)) := by
  refine PCo.of (own := RX12) (by decide +kernel) (Nat.le_of_ble_eq_true rfl) rfl rfl (fun F => ?_)
  unfold f_X12_kept
  refine PWk.iload_n 1 dX12_kept_0 rfl ?_
  refine PWk.iconst (v := 0) dX12_kept_1 ic_0 ?_
  refine PWk.aload_n 0 dX12_kept_2 rfl ?_
  refine PWk.gets dX12_kept_3 rg_100 lc_100 fl_X12_168 rfl st_100_51 ?_
  refine PWk.iconst (v := 0) dX12_kept_6 ic_0 ?_
  refine PWk.iald dX12_kept_7 rg_132 ly_132 (fun v1 => ?_)
  refine PWk.iconst (v := 1) dX12_kept_8 ic_1 ?_
  refine PWk.isub dX12_kept_9 ?_
  refine PWk.callSi (pc_X12_is I L R p1 0 (v1 - 1)) dX12_kept_10 ml_X12_319 rfl (by decide) rfl (Nat.le_of_ble_eq_true rfl) (fun x2 => ?_)
  refine PWk.if_eq 38 dX12_kept_13 (by decide) (fun h6 => ?_) (fun h6 => ?_)
  · refine PWk.iconst (v := (-1)) dX12_kept_38 ic_m1 ?_
    exact PWk.iret dX12_kept_39 rfl (fun h => h)
  · refine PWk.iload_n 2 dX12_kept_16 rfl ?_
    refine PWk.iconst (v := 0) dX12_kept_17 ic_0 ?_
    refine PWk.iconst (v := 3) dX12_kept_18 ic_3 ?_
    refine PWk.callSi (pc_X12_is I L R p2 0 3) dX12_kept_19 ml_X12_319 rfl (by decide) rfl (Nat.le_of_ble_eq_true rfl) (fun x3 => ?_)
    refine PWk.if_eq 38 dX12_kept_22 (by decide) (fun h5 => ?_) (fun h5 => ?_)
    · refine PWk.iconst (v := (-1)) dX12_kept_38 ic_m1 ?_
      exact PWk.iret dX12_kept_39 rfl (fun h => h)
    · refine PWk.aload_n 0 dX12_kept_25 rfl ?_
      refine PWk.gets dX12_kept_26 rg_100 lc_100 fl_X12_171 rfl st_100_52 ?_
      refine PWk.iconst (v := 4) dX12_kept_29 ic_4 ?_
      refine PWk.iload_n 1 dX12_kept_30 rfl ?_
      refine PWk.imul dX12_kept_31 ?_
      refine PWk.iload_n 2 dX12_kept_32 rfl ?_
      refine PWk.iadd dX12_kept_33 ?_
      refine PWk.iald dX12_kept_34 rg_133 ly_133 (fun v4 => ?_)
      refine PWk.goto 39 dX12_kept_35 (by decide) ?_
      exact PWk.iret dX12_kept_39 rfl (fun h => h)
/-! LakeMarketModel.writes(I)V -/
def f_X12_writes (I : HI) (p1 : Int32) : Option (HI) :=
  inb 120 (I 100 70) <|
  bnd (sI I 146 ((I 100 70) : Int32).toNatClampNeg (p1 &&& 255)) fun I1 =>
  bnd (sI I1 100 70 ((I1 100 70) + 1)) fun I2 =>
  some I2
set_option maxRecDepth 20000 in
theorem pc_X12_writes (I : HI) (L : HL) (R : HR) (p1 : Int32) : PCo 100 147 0 yX12_writes cX12_writes 2 none [.ref 100, .int p1] I L R (f_X12_writes I p1) (fun x : HI => ((none, x, L, R) : HF)) := by
  refine PCo.of (own := RX12) (by decide +kernel) (Nat.le_of_ble_eq_true rfl) rfl rfl (fun F => ?_)
  unfold f_X12_writes
  refine PWk.aload_n 0 dX12_writes_0 rfl ?_
  refine PWk.gets dX12_writes_1 rg_100 lc_100 fl_X12_223 rfl st_100_69 ?_
  refine PWk.aload_n 0 dX12_writes_4 rfl ?_
  refine PWk.geti dX12_writes_5 rg_100 lc_100 fl_X12_226 rfl ?_
  refine PWk.iload_n 1 dX12_writes_8 rfl ?_
  refine PWk.sipush (v := 255) dX12_writes_9 sp_255 ?_
  refine PWk.iand dX12_writes_12 ?_
  refine PWk.iast dX12_writes_13 rg_146 ly_146 ?_
  refine PWk.bI (fun I1 => ?_)
  refine PWk.aload_n 0 dX12_writes_14 rfl ?_
  refine PWk.dup dX12_writes_15 rfl ?_
  refine PWk.geti dX12_writes_16 rg_100 lc_100 fl_X12_226 rfl ?_
  refine PWk.iconst (v := 1) dX12_writes_19 ic_1 ?_
  refine PWk.iadd dX12_writes_20 ?_
  refine PWk.puti dX12_writes_21 rg_100 lc_100 fl_X12_226 fp_12_70 rfl ?_
  refine PWk.bI (fun I2 => ?_)
  exact PWk.vret dX12_writes_24 rfl (fun h => h)
/-! LakeMarketModel.writesTwo(I)V -/
def f_X12_writesTwo (I : HI) (p1 : Int32) : Option (HI) :=
  (f_X12_writes I (p1 >>> ((8 : Int32) &&& 31))).bind fun x1 =>
  (f_X12_writes x1 p1).bind fun x2 =>
  some x2
set_option maxRecDepth 20000 in
theorem pc_X12_writesTwo (I : HI) (L : HL) (R : HR) (p1 : Int32) : PCo 100 147 1 yX12_writesTwo cX12_writesTwo 2 none [.ref 100, .int p1] I L R (f_X12_writesTwo I p1) (fun x : HI => ((none, x, L, R) : HF)) := by
  refine PCo.of (own := RX12) (by decide +kernel) (Nat.le_of_ble_eq_true rfl) rfl rfl (fun F => ?_)
  unfold f_X12_writesTwo
  refine PWk.aload_n 0 dX12_writesTwo_0 rfl ?_
  refine PWk.iload_n 1 dX12_writesTwo_1 rfl ?_
  refine PWk.bipush (v := 8) dX12_writesTwo_2 bp_8 ?_
  refine PWk.ishr dX12_writesTwo_4 ?_
  refine PWk.callVvI (pc_X12_writes I L R (p1 >>> ((8 : Int32) &&& 31))) dX12_writesTwo_5 ml_X12_565 rfl rg_100 lc_100 vq_12 (by decide) rfl (Nat.le_of_ble_eq_true rfl) (fun x1 => ?_)
  refine PWk.aload_n 0 dX12_writesTwo_8 rfl ?_
  refine PWk.iload_n 1 dX12_writesTwo_9 rfl ?_
  refine PWk.callVvI (pc_X12_writes x1 L R p1) dX12_writesTwo_10 ml_X12_565 rfl rg_100 lc_100 vq_12 (by decide) rfl (Nat.le_of_ble_eq_true rfl) (fun x2 => ?_)
  exact PWk.vret dX12_writesTwo_13 rfl (fun h => h)
/-! LakeMarketModel.image()I -/
def f_X12_image_L83 : Nat → HI → Int32 → Int32 → Option (HI)
  | 0, _, _, _ => none
  | n + 1, I, u1, u2 =>
    ldI (I 105) 2 (I 100 13) fun v14 =>
    if v14 ≤ u2 then
      some I
    else
      (f_X12_debt I u1 u2).bind fun x15 =>
      (f_X12_writesTwo I x15).bind fun x16 =>
      f_X12_image_L83 n x16 u1 (u2 + 1)
def f_X12_image_L124 : Nat → HI → Int32 → Int32 → Option (Int32)
  | 0, _, _, _ => none
  | n + 1, I, u1, u2 =>
    if (I 100 70) ≤ u2 then
      some u1
    else
      ldI (I 146) 120 u2 fun v21 =>
      dvI 251 <|
      bnd ((((5 * u1) + v21) - ((5 * u1) + v21) / 251 * 251)) fun v22 =>
      f_X12_image_L124 n I v22 (u2 + 1)
def f_X12_image_L68 (fu : Nat) : Nat → HI → Int32 → Option (HI)
  | 0, _, _ => none
  | n + 1, I, u1 =>
    ldI (I 105) 2 (I 100 13) fun v13 =>
    if v13 ≤ u1 then
      some I
    else
      (f_X12_image_L83 fu I u1 0).bind fun x18 =>
      f_X12_image_L68 fu n x18 (u1 + 1)
def f_X12_image_L17 : Nat → HI → Int32 → Option (HI)
  | 0, _, _ => none
  | n + 1, I, u1 =>
    ldI (I 106) 2 (I 100 13) fun v4 =>
    if v4 ≤ u1 then
      some I
    else
      (f_X12_fill I 0 u1).bind fun x5 =>
      (f_X12_writesTwo I x5).bind fun x6 =>
      (f_X12_liesIn x6 0 u1).bind fun x7 =>
      (f_X12_writes x6 x7).bind fun x8 =>
      (f_X12_ownerOf x8 0 u1).bind fun x9 =>
      (f_X12_writes x8 x9).bind fun x10 =>
      f_X12_image_L17 n x10 (u1 + 1)
def f_X12_image (fu : Nat) (I : HI) : Option (Int32 × HI) :=
  bnd (sI I 100 70 0) fun I1 =>
  ldI (I1 127) 26 0 fun v2 =>
  (f_X12_writesTwo I1 v2).bind fun x3 =>
  (f_X12_image_L17 fu x3 0).bind fun x12 =>
  (f_X12_image_L68 fu fu x12 0).bind fun x20 =>
  (f_X12_image_L124 fu x20 149 0).bind fun x24 =>
  (f_X12_writes x20 x24).bind fun x25 =>
  some ((x25 100 70), x25)
set_option maxRecDepth 20000 in
theorem lp_X12_image_83 (fu : Nat) (u1 : Int32) (L : HL) (R : HR) : ∀ (n : Nat) (u2 : Int32) (I : HI) (N : (HI) → Prop) (F : HF), (∀ v : HI, N v → PW 100 147 2 RX12 cX12_image 3 (some .int) 112 [(0, .ref 100), (1, .int u1)] [] v L R F) → PWk 100 147 2 RX12 cX12_image 3 (some .int) 83 [(0, .ref 100), (1, .int u1), (2, .int u2)] [] I L R (f_X12_image_L83 n I u1 u2) N F := by
  intro n
  induction n with
  | zero => intro u2 I N F hx; exact PWk.none'
  | succ n ih =>
    intro u2 I N F hx
    unfold f_X12_image_L83
    refine PWk.iload_n 2 dX12_image_83 rfl ?_
    refine PWk.aload_n 0 dX12_image_84 rfl ?_
    refine PWk.gets dX12_image_85 rg_100 lc_100 fl_X12_63 rfl st_100_17 ?_
    refine PWk.aload_n 0 dX12_image_88 rfl ?_
    refine PWk.geti dX12_image_89 rg_100 lc_100 fl_X12_51 rfl ?_
    refine PWk.iald dX12_image_92 rg_105 ly_105 (fun v14 => ?_)
    refine PWk.icmp_ge 112 dX12_image_93 (by decide) (fun h17 => ?_) (fun h17 => ?_)
    · refine PWk.sub [0, 1] rfl ?_
      exact PWk.done (fun h => hx _ h)
    · refine PWk.aload_n 0 dX12_image_96 rfl ?_
      refine PWk.aload_n 0 dX12_image_97 rfl ?_
      refine PWk.iload_n 1 dX12_image_98 rfl ?_
      refine PWk.iload_n 2 dX12_image_99 rfl ?_
      refine PWk.callVi (pc_X12_debt I L R u1 u2) dX12_image_100 ml_X12_479 rfl rg_100 lc_100 vq_12 (by decide) rfl (Nat.le_of_ble_eq_true rfl) (fun x15 => ?_)
      refine PWk.callVvI (pc_X12_writesTwo I L R x15) dX12_image_103 ml_X12_568 rfl rg_100 lc_100 vq_12 (by decide) rfl (Nat.le_of_ble_eq_true rfl) (fun x16 => ?_)
      refine PWk.iinc (v := (u2 + 1)) 2 [(2, .int (u2 + 1)), (0, .ref 100), (1, .int u1)] dX12_image_106 rfl (by rw [ic_1]) (by decide) rfl ?_
      refine PWk.goto 83 dX12_image_109 (by decide) ?_
      refine PWk.sub [1, 2, 0] rfl ?_
      exact ih (u2 + 1) x16 N F hx
set_option maxRecDepth 20000 in
theorem lp_X12_image_124 (fu : Nat) (I : HI) (L : HL) (R : HR) : ∀ (n : Nat) (u1 : Int32) (u2 : Int32) (N : (Int32) → Prop) (F : HF), (∀ v : Int32, N v → PW 100 147 2 RX12 cX12_image 3 (some .int) 153 [(0, .ref 100), (1, .int v)] [] I L R F) → PWk 100 147 2 RX12 cX12_image 3 (some .int) 124 [(0, .ref 100), (1, .int u1), (2, .int u2)] [] I L R (f_X12_image_L124 n I u1 u2) N F := by
  intro n
  induction n with
  | zero => intro u1 u2 N F hx; exact PWk.none'
  | succ n ih =>
    intro u1 u2 N F hx
    unfold f_X12_image_L124
    refine PWk.iload_n 2 dX12_image_124 rfl ?_
    refine PWk.aload_n 0 dX12_image_125 rfl ?_
    refine PWk.geti dX12_image_126 rg_100 lc_100 fl_X12_226 rfl ?_
    refine PWk.icmp_ge 153 dX12_image_129 (by decide) (fun h23 => ?_) (fun h23 => ?_)
    · refine PWk.sub [0, 1] rfl ?_
      exact PWk.done (fun h => hx _ h)
    · refine PWk.iconst (v := 5) dX12_image_132 ic_5 ?_
      refine PWk.iload_n 1 dX12_image_133 rfl ?_
      refine PWk.imul dX12_image_134 ?_
      refine PWk.aload_n 0 dX12_image_135 rfl ?_
      refine PWk.gets dX12_image_136 rg_100 lc_100 fl_X12_223 rfl st_100_69 ?_
      refine PWk.iload_n 2 dX12_image_139 rfl ?_
      refine PWk.iald dX12_image_140 rg_146 ly_146 (fun v21 => ?_)
      refine PWk.iadd dX12_image_141 ?_
      refine PWk.sipush (v := 251) dX12_image_142 sp_251 ?_
      refine PWk.irem dX12_image_145 ?_
      refine PWk.bi (fun v22 => ?_)
      refine PWk.istore_n [(1, .int v22), (0, .ref 100), (2, .int u2)] dX12_image_146 (by decide) rfl ?_
      refine PWk.iinc (v := (u2 + 1)) 2 [(2, .int (u2 + 1)), (1, .int v22), (0, .ref 100)] dX12_image_147 rfl (by rw [ic_1]) (by decide) rfl ?_
      refine PWk.goto 124 dX12_image_150 (by decide) ?_
      refine PWk.sub [2, 1, 0] rfl ?_
      exact ih v22 (u2 + 1) N F hx
set_option maxRecDepth 20000 in
theorem lp_X12_image_68 (fu : Nat) (L : HL) (R : HR) : ∀ (n : Nat) (u1 : Int32) (I : HI) (N : (HI) → Prop) (F : HF), (∀ v : HI, N v → PW 100 147 2 RX12 cX12_image 3 (some .int) 118 [(0, .ref 100)] [] v L R F) → PWk 100 147 2 RX12 cX12_image 3 (some .int) 68 [(0, .ref 100), (1, .int u1)] [] I L R (f_X12_image_L68 fu n I u1) N F := by
  intro n
  induction n with
  | zero => intro u1 I N F hx; exact PWk.none'
  | succ n ih =>
    intro u1 I N F hx
    unfold f_X12_image_L68
    refine PWk.iload_n 1 dX12_image_68 rfl ?_
    refine PWk.aload_n 0 dX12_image_69 rfl ?_
    refine PWk.gets dX12_image_70 rg_100 lc_100 fl_X12_63 rfl st_100_17 ?_
    refine PWk.aload_n 0 dX12_image_73 rfl ?_
    refine PWk.geti dX12_image_74 rg_100 lc_100 fl_X12_51 rfl ?_
    refine PWk.iald dX12_image_77 rg_105 ly_105 (fun v13 => ?_)
    refine PWk.icmp_ge 118 dX12_image_78 (by decide) (fun h19 => ?_) (fun h19 => ?_)
    · refine PWk.sub [0] rfl ?_
      exact PWk.done (fun h => hx _ h)
    · refine PWk.iconst (v := 0) dX12_image_81 ic_0 ?_
      refine PWk.istore_n [(2, .int 0), (0, .ref 100), (1, .int u1)] dX12_image_82 (by decide) rfl ?_
      refine PWk.sub [1, 2, 0] rfl ?_
      refine PWk.loopV (fun N' hx' => lp_X12_image_83 fu u1 L R fu 0 I N' F hx') (fun x18 => ?_)
      refine PWk.iinc (v := (u1 + 1)) 1 [(1, .int (u1 + 1)), (0, .ref 100)] dX12_image_112 rfl (by rw [ic_1]) (by decide) rfl ?_
      refine PWk.goto 68 dX12_image_115 (by decide) ?_
      refine PWk.sub [1, 0] rfl ?_
      exact ih (u1 + 1) x18 N F hx
set_option maxRecDepth 20000 in
theorem lp_X12_image_17 (fu : Nat) (L : HL) (R : HR) : ∀ (n : Nat) (u1 : Int32) (I : HI) (N : (HI) → Prop) (F : HF), (∀ v : HI, N v → PW 100 147 2 RX12 cX12_image 3 (some .int) 66 [(0, .ref 100)] [] v L R F) → PWk 100 147 2 RX12 cX12_image 3 (some .int) 17 [(0, .ref 100), (1, .int u1)] [] I L R (f_X12_image_L17 n I u1) N F := by
  intro n
  induction n with
  | zero => intro u1 I N F hx; exact PWk.none'
  | succ n ih =>
    intro u1 I N F hx
    unfold f_X12_image_L17
    refine PWk.iload_n 1 dX12_image_17 rfl ?_
    refine PWk.aload_n 0 dX12_image_18 rfl ?_
    refine PWk.gets dX12_image_19 rg_100 lc_100 fl_X12_66 rfl st_100_18 ?_
    refine PWk.aload_n 0 dX12_image_22 rfl ?_
    refine PWk.geti dX12_image_23 rg_100 lc_100 fl_X12_51 rfl ?_
    refine PWk.iald dX12_image_26 rg_106 ly_106 (fun v4 => ?_)
    refine PWk.icmp_ge 66 dX12_image_27 (by decide) (fun h11 => ?_) (fun h11 => ?_)
    · refine PWk.sub [0] rfl ?_
      exact PWk.done (fun h => hx _ h)
    · refine PWk.aload_n 0 dX12_image_30 rfl ?_
      refine PWk.aload_n 0 dX12_image_31 rfl ?_
      refine PWk.iconst (v := 0) dX12_image_32 ic_0 ?_
      refine PWk.iload_n 1 dX12_image_33 rfl ?_
      refine PWk.callVi (pc_X12_fill I L R 0 u1) dX12_image_34 ml_X12_440 rfl rg_100 lc_100 vq_12 (by decide) rfl (Nat.le_of_ble_eq_true rfl) (fun x5 => ?_)
      refine PWk.callVvI (pc_X12_writesTwo I L R x5) dX12_image_37 ml_X12_568 rfl rg_100 lc_100 vq_12 (by decide) rfl (Nat.le_of_ble_eq_true rfl) (fun x6 => ?_)
      refine PWk.aload_n 0 dX12_image_40 rfl ?_
      refine PWk.aload_n 0 dX12_image_41 rfl ?_
      refine PWk.iconst (v := 0) dX12_image_42 ic_0 ?_
      refine PWk.iload_n 1 dX12_image_43 rfl ?_
      refine PWk.callVi (pc_X12_liesIn x6 L R 0 u1) dX12_image_44 ml_X12_437 rfl rg_100 lc_100 vq_12 (by decide) rfl (Nat.le_of_ble_eq_true rfl) (fun x7 => ?_)
      refine PWk.callVvI (pc_X12_writes x6 L R x7) dX12_image_47 ml_X12_565 rfl rg_100 lc_100 vq_12 (by decide) rfl (Nat.le_of_ble_eq_true rfl) (fun x8 => ?_)
      refine PWk.aload_n 0 dX12_image_50 rfl ?_
      refine PWk.aload_n 0 dX12_image_51 rfl ?_
      refine PWk.iconst (v := 0) dX12_image_52 ic_0 ?_
      refine PWk.iload_n 1 dX12_image_53 rfl ?_
      refine PWk.callVi (pc_X12_ownerOf x8 L R 0 u1) dX12_image_54 ml_X12_473 rfl rg_100 lc_100 vq_12 (by decide) rfl (Nat.le_of_ble_eq_true rfl) (fun x9 => ?_)
      refine PWk.callVvI (pc_X12_writes x8 L R x9) dX12_image_57 ml_X12_565 rfl rg_100 lc_100 vq_12 (by decide) rfl (Nat.le_of_ble_eq_true rfl) (fun x10 => ?_)
      refine PWk.iinc (v := (u1 + 1)) 1 [(1, .int (u1 + 1)), (0, .ref 100)] dX12_image_60 rfl (by rw [ic_1]) (by decide) rfl ?_
      refine PWk.goto 17 dX12_image_63 (by decide) ?_
      refine PWk.sub [1, 0] rfl ?_
      exact ih (u1 + 1) x10 N F hx
set_option maxRecDepth 20000 in
theorem pc_X12_image (fu : Nat) (I : HI) (L : HL) (R : HR) : PCo 100 147 2 yX12_image cX12_image 3 (some .int) [.ref 100] I L R (f_X12_image fu I) (fun x : Int32 × HI => ((some (.int x.1), x.2, L, R) : HF)) := by
  refine PCo.of (own := RX12) (by decide +kernel) (Nat.le_of_ble_eq_true rfl) rfl rfl (fun F => ?_)
  unfold f_X12_image
  refine PWk.aload_n 0 dX12_image_0 rfl ?_
  refine PWk.iconst (v := 0) dX12_image_1 ic_0 ?_
  refine PWk.puti dX12_image_2 rg_100 lc_100 fl_X12_226 fp_12_70 rfl ?_
  refine PWk.bI (fun I1 => ?_)
  refine PWk.aload_n 0 dX12_image_5 rfl ?_
  refine PWk.aload_n 0 dX12_image_6 rfl ?_
  refine PWk.gets dX12_image_7 rg_100 lc_100 fl_X12_153 rfl st_100_46 ?_
  refine PWk.iconst (v := 0) dX12_image_10 ic_0 ?_
  refine PWk.iald dX12_image_11 rg_127 ly_127 (fun v2 => ?_)
  refine PWk.callVvI (pc_X12_writesTwo I1 L R v2) dX12_image_12 ml_X12_568 rfl rg_100 lc_100 vq_12 (by decide) rfl (Nat.le_of_ble_eq_true rfl) (fun x3 => ?_)
  refine PWk.iconst (v := 0) dX12_image_15 ic_0 ?_
  refine PWk.istore_n [(1, .int 0), (0, .ref 100)] dX12_image_16 (by decide) rfl ?_
  refine PWk.sub [1, 0] rfl ?_
  refine PWk.loopV (fun N' hx' => lp_X12_image_17 fu L R fu 0 x3 N' F hx') (fun x12 => ?_)
  refine PWk.iconst (v := 0) dX12_image_66 ic_0 ?_
  refine PWk.istore_n [(1, .int 0), (0, .ref 100)] dX12_image_67 (by decide) rfl ?_
  refine PWk.sub [1, 0] rfl ?_
  refine PWk.loopV (fun N' hx' => lp_X12_image_68 fu L R fu 0 x12 N' F hx') (fun x20 => ?_)
  refine PWk.sipush (v := 149) dX12_image_118 sp_149 ?_
  refine PWk.istore_n [(1, .int 149), (0, .ref 100)] dX12_image_121 (by decide) rfl ?_
  refine PWk.iconst (v := 0) dX12_image_122 ic_0 ?_
  refine PWk.istore_n [(2, .int 0), (1, .int 149), (0, .ref 100)] dX12_image_123 (by decide) rfl ?_
  refine PWk.sub [2, 1, 0] rfl ?_
  refine PWk.loopV (fun N' hx' => lp_X12_image_124 fu x20 L R fu 149 0 N' F hx') (fun x24 => ?_)
  refine PWk.aload_n 0 dX12_image_153 rfl ?_
  refine PWk.iload_n 1 dX12_image_154 rfl ?_
  refine PWk.callVvI (pc_X12_writes x20 L R x24) dX12_image_155 ml_X12_565 rfl rg_100 lc_100 vq_12 (by decide) rfl (Nat.le_of_ble_eq_true rfl) (fun x25 => ?_)
  refine PWk.aload_n 0 dX12_image_158 rfl ?_
  refine PWk.geti dX12_image_159 rg_100 lc_100 fl_X12_226 rfl ?_
  exact PWk.iret dX12_image_162 rfl (fun h => h)
/-! LakeMarketModel.octet(I)I -/
def f_X12_octet (I : HI) (p1 : Int32) : Option (Int32) :=
  (f_X12_is p1 0 ((I 100 70) - 1)).bind fun x1 =>
  if x1 = 0 then
    some (-1)
  else
    ldI (I 146) 120 p1 fun v2 =>
    some v2
set_option maxRecDepth 20000 in
theorem pc_X12_octet (I : HI) (L : HL) (R : HR) (p1 : Int32) : PCo 100 147 1 yX12_octet cX12_octet 2 (some .int) [.ref 100, .int p1] I L R (f_X12_octet I p1) (fun x : Int32 => ((some (.int x), I, L, R) : HF)) := by
  refine PCo.of (own := RX12) (by decide +kernel) (Nat.le_of_ble_eq_true rfl) rfl rfl (fun F => ?_)
  unfold f_X12_octet
  refine PWk.iload_n 1 dX12_octet_0 rfl ?_
  refine PWk.iconst (v := 0) dX12_octet_1 ic_0 ?_
  refine PWk.aload_n 0 dX12_octet_2 rfl ?_
  refine PWk.geti dX12_octet_3 rg_100 lc_100 fl_X12_226 rfl ?_
  refine PWk.iconst (v := 1) dX12_octet_6 ic_1 ?_
  refine PWk.isub dX12_octet_7 ?_
  refine PWk.callSi (pc_X12_is I L R p1 0 ((I 100 70) - 1)) dX12_octet_8 ml_X12_319 rfl (by decide) rfl (Nat.le_of_ble_eq_true rfl) (fun x1 => ?_)
  refine PWk.if_eq 23 dX12_octet_11 (by decide) (fun h3 => ?_) (fun h3 => ?_)
  · refine PWk.iconst (v := (-1)) dX12_octet_23 ic_m1 ?_
    exact PWk.iret dX12_octet_24 rfl (fun h => h)
  · refine PWk.aload_n 0 dX12_octet_14 rfl ?_
    refine PWk.gets dX12_octet_15 rg_100 lc_100 fl_X12_223 rfl st_100_69 ?_
    refine PWk.iload_n 1 dX12_octet_18 rfl ?_
    refine PWk.iald dX12_octet_19 rg_146 ly_146 (fun v2 => ?_)
    refine PWk.goto 24 dX12_octet_20 (by decide) ?_
    exact PWk.iret dX12_octet_24 rfl (fun h => h)
/-! LakeMarketModel.twoBytes(I)I -/
def f_X12_twoBytes (I : HI) (p1 : Int32) : Option (Int32) :=
  ldI (I 101) 1800 p1 fun v1 =>
  ldI (I 101) 1800 (p1 + 1) fun v2 =>
  some ((v1 <<< ((8 : Int32) &&& 31)) ||| v2)
set_option maxRecDepth 20000 in
theorem pc_X12_twoBytes (I : HI) (L : HL) (R : HR) (p1 : Int32) : PCo 100 147 0 yX12_twoBytes cX12_twoBytes 2 (some .int) [.ref 100, .int p1] I L R (f_X12_twoBytes I p1) (fun x : Int32 => ((some (.int x), I, L, R) : HF)) := by
  refine PCo.of (own := RX12) (by decide +kernel) (Nat.le_of_ble_eq_true rfl) rfl rfl (fun F => ?_)
  unfold f_X12_twoBytes
  refine PWk.aload_n 0 dX12_twoBytes_0 rfl ?_
  refine PWk.gets dX12_twoBytes_1 rg_100 lc_100 fl_X12_7 rfl st_100_0 ?_
  refine PWk.iload_n 1 dX12_twoBytes_4 rfl ?_
  refine PWk.iald dX12_twoBytes_5 rg_101 ly_101 (fun v1 => ?_)
  refine PWk.bipush (v := 8) dX12_twoBytes_6 bp_8 ?_
  refine PWk.ishl dX12_twoBytes_8 ?_
  refine PWk.aload_n 0 dX12_twoBytes_9 rfl ?_
  refine PWk.gets dX12_twoBytes_10 rg_100 lc_100 fl_X12_7 rfl st_100_0 ?_
  refine PWk.iload_n 1 dX12_twoBytes_13 rfl ?_
  refine PWk.iconst (v := 1) dX12_twoBytes_14 ic_1 ?_
  refine PWk.iadd dX12_twoBytes_15 ?_
  refine PWk.iald dX12_twoBytes_16 rg_101 ly_101 (fun v2 => ?_)
  refine PWk.ior dX12_twoBytes_17 ?_
  exact PWk.iret dX12_twoBytes_18 rfl (fun h => h)
/-! LakeMarketModel.lakeOn(II)Z -/
def f_X12_lakeOn (I : HI) (p1 : Int32) (p2 : Int32) : Option (Int32 × HI) :=
  (f_X12_twoBytes I p2).bind fun x1 =>
  ldI (I 101) 1800 (p2 + 2) fun v2 =>
  jnt (β := Int32) (fun y9 =>
    bnd ((8 + p1)) fun v10 =>
    inb 208 v10 <|
    bnd (sI I 128 (v10 : Int32).toNatClampNeg x1) fun I11 =>
    jnt (β := Int32) (fun y15 =>
      inb 208 v10 <|
      bnd (sI I11 129 (v10 : Int32).toNatClampNeg y15) fun I16 =>
      jnt (β := Int32) (fun y20 =>
        inb 208 v10 <|
        bnd (sI I16 130 (v10 : Int32).toNatClampNeg y20) fun I21 =>
        if x1 = 0 then
          gz y9 (some (y9, I21))
        else
          if 999 < x1 then
            gz 0 (some (0, I21))
          else
            ldI (I21 101) 1800 (p2 + 2) fun v22 =>
            (f_X12_isHollow I21 v22).bind fun x23 =>
            if x23 = 0 then
              gz 0 (some (0, I21))
            else
              ldI (I21 101) 1800 (p2 + 3) fun v24 =>
              (f_X12_isOwner I21 v24).bind fun x25 =>
              if x25 = 0 then
                gz 0 (some (0, I21))
              else
                gz 1 (some (1, I21))) fun j17 =>
      if y9 = 0 then
        ldI (I16 101) 1800 (p2 + 3) fun v18 =>
        j17 v18
      else
        j17 (-1)) fun j12 =>
    if y9 = 0 then
      ldI (I11 101) 1800 (p2 + 2) fun v13 =>
      j12 v13
    else
      j12 (-1)) fun j4 =>
  jnt (β := Unit) (fun y8 =>
    j4 0) fun j3 =>
  if v2 = 255 then
    ldI (I 101) 1800 (p2 + 3) fun v5 =>
    if v5 = 255 then
      j4 1
    else
      j3 ()
  else
    j3 ()
set_option maxRecDepth 20000 in
theorem pc_X12_lakeOn (I : HI) (L : HL) (R : HR) (p1 : Int32) (p2 : Int32) : PCo 100 147 1 yX12_lakeOn cX12_lakeOn 6 (some .boolean) [.ref 100, .int p1, .int p2] I L R (f_X12_lakeOn I p1 p2) (fun x : Int32 × HI => ((some (.int x.1), x.2, L, R) : HF)) := by
  refine PCo.of (own := RX12) (by decide +kernel) (Nat.le_of_ble_eq_true rfl) rfl rfl (fun F => ?_)
  unfold f_X12_lakeOn
  refine PWk.aload_n 0 dX12_lakeOn_0 rfl ?_
  refine PWk.iload_n 2 dX12_lakeOn_1 rfl ?_
  refine PWk.callVi (pc_X12_twoBytes I L R p2) dX12_lakeOn_2 ml_X12_542 rfl rg_100 lc_100 vq_12 (by decide) rfl (Nat.le_of_ble_eq_true rfl) (fun x1 => ?_)
  refine PWk.istore_n [(3, .int x1), (0, .ref 100), (1, .int p1), (2, .int p2)] dX12_lakeOn_5 (by decide) rfl ?_
  refine PWk.aload_n 1 dX12_lakeOn_6 rfl ?_
  refine PWk.gets dX12_lakeOn_7 rg_100 lc_100 fl_X12_7 rfl st_100_0 ?_
  refine PWk.iload_n 3 dX12_lakeOn_10 rfl ?_
  refine PWk.iconst (v := 2) dX12_lakeOn_11 ic_2 ?_
  refine PWk.iadd dX12_lakeOn_12 ?_
  refine PWk.iald dX12_lakeOn_13 rg_101 ly_101 (fun v2 => ?_)
  refine PWk.sipush (v := 255) dX12_lakeOn_14 sp_255 ?_
  refine PWk.jn (pc' := 39) (lv' := fun y9 => [(0, .ref 100), (1, .int p1), (2, .int p2), (3, .int x1)]) (st' := fun y9 => [.int y9]) (I' := fun y9 => I) (L' := fun y9 => L) (R' := fun y9 => R) (fun j4 hj4 => ?_) (fun y9 => ?_)
  · refine PWk.jn (pc' := 38) (lv' := fun y8 => [(0, .ref 100), (1, .int p1), (2, .int p2), (3, .int x1)]) (st' := fun y8 => []) (I' := fun y8 => I) (L' := fun y8 => L) (R' := fun y8 => R) (fun j3 hj3 => ?_) (fun y8 => ?_)
    · refine PWk.icmp_ne 38 dX12_lakeOn_17 (by decide) (fun h7 => ?_) (fun h7 => ?_)
      · refine PWk.aload_n 1 dX12_lakeOn_20 rfl ?_
        refine PWk.gets dX12_lakeOn_21 rg_100 lc_100 fl_X12_7 rfl st_100_0 ?_
        refine PWk.iload_n 3 dX12_lakeOn_24 rfl ?_
        refine PWk.iconst (v := 3) dX12_lakeOn_25 ic_3 ?_
        refine PWk.iadd dX12_lakeOn_26 ?_
        refine PWk.iald dX12_lakeOn_27 rg_101 ly_101 (fun v5 => ?_)
        refine PWk.sipush (v := 255) dX12_lakeOn_28 sp_255 ?_
        refine PWk.icmp_ne 38 dX12_lakeOn_31 (by decide) (fun h6 => ?_) (fun h6 => ?_)
        · refine PWk.iconst (v := 1) dX12_lakeOn_34 ic_1 ?_
          refine PWk.goto 39 dX12_lakeOn_35 (by decide) ?_
          refine PWk.sub [1, 2, 3, 0] rfl ?_
          exact hj4 1
        · refine PWk.sub [1, 2, 3, 0] rfl ?_
          exact hj3 ()
      · refine PWk.sub [1, 2, 3, 0] rfl ?_
        exact hj3 ()
    · refine PWk.iconst (v := 0) dX12_lakeOn_38 ic_0 ?_
      exact hj4 0
  · refine PWk.istore [(4, .int y9), (0, .ref 100), (1, .int p1), (2, .int p2), (3, .int x1)] dX12_lakeOn_39 (by decide) rfl ?_
    refine PWk.bipush (v := 8) dX12_lakeOn_41 bp_8 ?_
    refine PWk.iload_n 2 dX12_lakeOn_43 rfl ?_
    refine PWk.iadd dX12_lakeOn_44 ?_
    refine PWk.bi (fun v10 => ?_)
    refine PWk.istore [(5, .int v10), (4, .int y9), (0, .ref 100), (1, .int p1), (2, .int p2), (3, .int x1)] dX12_lakeOn_45 (by decide) rfl ?_
    refine PWk.aload_n 2 dX12_lakeOn_47 rfl ?_
    refine PWk.gets dX12_lakeOn_48 rg_100 lc_100 fl_X12_156 rfl st_100_47 ?_
    refine PWk.iload 0 dX12_lakeOn_51 rfl ?_
    refine PWk.iload_n 5 dX12_lakeOn_53 rfl ?_
    refine PWk.iast dX12_lakeOn_54 rg_128 ly_128 ?_
    refine PWk.bI (fun I11 => ?_)
    refine PWk.aload_n 2 dX12_lakeOn_55 rfl ?_
    refine PWk.gets dX12_lakeOn_56 rg_100 lc_100 fl_X12_159 rfl st_100_48 ?_
    refine PWk.iload 0 dX12_lakeOn_59 rfl ?_
    refine PWk.iload 1 dX12_lakeOn_61 rfl ?_
    refine PWk.jn (pc' := 78) (lv' := fun y15 => [(0, .ref 100), (2, .int p2), (3, .int x1), (4, .int y9), (5, .int v10)]) (st' := fun y15 => [.int y15, .int v10, .ref 129]) (I' := fun y15 => I11) (L' := fun y15 => L) (R' := fun y15 => R) (fun j12 hj12 => ?_) (fun y15 => ?_)
    · refine PWk.if_eq 70 dX12_lakeOn_63 (by decide) (fun h14 => ?_) (fun h14 => ?_)
      · refine PWk.aload_n 2 dX12_lakeOn_70 rfl ?_
        refine PWk.gets dX12_lakeOn_71 rg_100 lc_100 fl_X12_7 rfl st_100_0 ?_
        refine PWk.iload_n 4 dX12_lakeOn_74 rfl ?_
        refine PWk.iconst (v := 2) dX12_lakeOn_75 ic_2 ?_
        refine PWk.iadd dX12_lakeOn_76 ?_
        refine PWk.iald dX12_lakeOn_77 rg_101 ly_101 (fun v13 => ?_)
        refine PWk.sub [2, 4, 5, 1, 0] rfl ?_
        exact hj12 v13
      · refine PWk.iconst (v := (-1)) dX12_lakeOn_66 ic_m1 ?_
        refine PWk.goto 78 dX12_lakeOn_67 (by decide) ?_
        refine PWk.sub [2, 4, 5, 1, 0] rfl ?_
        exact hj12 (-1)
    · refine PWk.iast dX12_lakeOn_78 rg_129 ly_129 ?_
      refine PWk.bI (fun I16 => ?_)
      refine PWk.aload_n 0 dX12_lakeOn_79 rfl ?_
      refine PWk.gets dX12_lakeOn_80 rg_100 lc_100 fl_X12_162 rfl st_100_49 ?_
      refine PWk.iload 4 dX12_lakeOn_83 rfl ?_
      refine PWk.iload 3 dX12_lakeOn_85 rfl ?_
      refine PWk.jn (pc' := 102) (lv' := fun y20 => [(0, .ref 100), (2, .int p2), (3, .int x1), (4, .int y9)]) (st' := fun y20 => [.int y20, .int v10, .ref 130]) (I' := fun y20 => I16) (L' := fun y20 => L) (R' := fun y20 => R) (fun j17 hj17 => ?_) (fun y20 => ?_)
      · refine PWk.if_eq 94 dX12_lakeOn_87 (by decide) (fun h19 => ?_) (fun h19 => ?_)
        · refine PWk.aload_n 0 dX12_lakeOn_94 rfl ?_
          refine PWk.gets dX12_lakeOn_95 rg_100 lc_100 fl_X12_7 rfl st_100_0 ?_
          refine PWk.iload_n 1 dX12_lakeOn_98 rfl ?_
          refine PWk.iconst (v := 3) dX12_lakeOn_99 ic_3 ?_
          refine PWk.iadd dX12_lakeOn_100 ?_
          refine PWk.iald dX12_lakeOn_101 rg_101 ly_101 (fun v18 => ?_)
          refine PWk.sub [0, 1, 2, 3] rfl ?_
          exact hj17 v18
        · refine PWk.iconst (v := (-1)) dX12_lakeOn_90 ic_m1 ?_
          refine PWk.goto 102 dX12_lakeOn_91 (by decide) ?_
          refine PWk.sub [0, 1, 2, 3] rfl ?_
          exact hj17 (-1)
      · refine PWk.iast dX12_lakeOn_102 rg_130 ly_130 ?_
        refine PWk.bI (fun I21 => ?_)
        refine PWk.iload_n 2 dX12_lakeOn_103 rfl ?_
        refine PWk.if_ne 112 dX12_lakeOn_104 (by decide) (fun h29 => ?_) (fun h29 => ?_)
        · refine PWk.iload 3 dX12_lakeOn_107 rfl ?_
          refine PWk.goto 154 dX12_lakeOn_109 (by decide) ?_
          exact PWk.zret dX12_lakeOn_154 rfl (fun h => h)
        · refine PWk.iload_n 2 dX12_lakeOn_112 rfl ?_
          refine PWk.sipush (v := 999) dX12_lakeOn_113 sp_999 ?_
          refine PWk.icmp_gt 153 dX12_lakeOn_116 (by decide) (fun h28 => ?_) (fun h28 => ?_)
          · refine PWk.iconst (v := 0) dX12_lakeOn_153 ic_0 ?_
            exact PWk.zret dX12_lakeOn_154 rfl (fun h => h)
          · refine PWk.aload_n 0 dX12_lakeOn_119 rfl ?_
            refine PWk.aload_n 0 dX12_lakeOn_120 rfl ?_
            refine PWk.gets dX12_lakeOn_121 rg_100 lc_100 fl_X12_7 rfl st_100_0 ?_
            refine PWk.iload_n 1 dX12_lakeOn_124 rfl ?_
            refine PWk.iconst (v := 2) dX12_lakeOn_125 ic_2 ?_
            refine PWk.iadd dX12_lakeOn_126 ?_
            refine PWk.iald dX12_lakeOn_127 rg_101 ly_101 (fun v22 => ?_)
            refine PWk.callVi (pc_X12_isHollow I21 L R v22) dX12_lakeOn_128 ml_X12_498 rfl rg_100 lc_100 vq_12 (by decide) rfl (Nat.le_of_ble_eq_true rfl) (fun x23 => ?_)
            refine PWk.if_eq 153 dX12_lakeOn_131 (by decide) (fun h27 => ?_) (fun h27 => ?_)
            · refine PWk.iconst (v := 0) dX12_lakeOn_153 ic_0 ?_
              exact PWk.zret dX12_lakeOn_154 rfl (fun h => h)
            · refine PWk.aload_n 0 dX12_lakeOn_134 rfl ?_
              refine PWk.aload_n 0 dX12_lakeOn_135 rfl ?_
              refine PWk.gets dX12_lakeOn_136 rg_100 lc_100 fl_X12_7 rfl st_100_0 ?_
              refine PWk.iload_n 1 dX12_lakeOn_139 rfl ?_
              refine PWk.iconst (v := 3) dX12_lakeOn_140 ic_3 ?_
              refine PWk.iadd dX12_lakeOn_141 ?_
              refine PWk.iald dX12_lakeOn_142 rg_101 ly_101 (fun v24 => ?_)
              refine PWk.callVi (pc_X12_isOwner I21 L R v24) dX12_lakeOn_143 ml_X12_504 rfl rg_100 lc_100 vq_12 (by decide) rfl (Nat.le_of_ble_eq_true rfl) (fun x25 => ?_)
              refine PWk.if_eq 153 dX12_lakeOn_146 (by decide) (fun h26 => ?_) (fun h26 => ?_)
              · refine PWk.iconst (v := 0) dX12_lakeOn_153 ic_0 ?_
                exact PWk.zret dX12_lakeOn_154 rfl (fun h => h)
              · refine PWk.iconst (v := 1) dX12_lakeOn_149 ic_1 ?_
                refine PWk.goto 154 dX12_lakeOn_150 (by decide) ?_
                exact PWk.zret dX12_lakeOn_154 rfl (fun h => h)
/-! LakeMarketModel.comesOn(I)Z -/
def f_X12_comesOn_L216 : Nat → HI → Int32 → Int32 → Int32 → Int32 → Option ((Int32 × HI) ⊕ (HI))
  | 0, _, _, _, _, _ => none
  | n + 1, I, u2, u3, u5, u6 =>
    if u3 ≤ u6 then
      some (.inr I)
    else
      (f_X12_twoBytes I (u2 + (2 * ((u3 * u5) + u6)))).bind fun x24 =>
      if 9999 < x24 then
        gz 0 (some (.inl (0, I)))
      else
        jnt (β := Unit) (fun y28 =>
          inb 936 ((36 + (6 * u5)) + u6) <|
          bnd (sI I 131 (((36 + (6 * u5)) + u6) : Int32).toNatClampNeg x24) fun I29 =>
          f_X12_comesOn_L216 n I29 u2 u3 u5 (u6 + 1)) fun j25 =>
        if u5 = u6 then
          if x24 ≤ 0 then
            j25 ()
          else
            gz 0 (some (.inl (0, I)))
        else
          j25 ()
def f_X12_comesOn_L207 (fu : Nat) : Nat → HI → Int32 → Int32 → Int32 → Option ((Int32 × HI) ⊕ (HI))
  | 0, _, _, _, _ => none
  | n + 1, I, u2, u3, u5 =>
    if u3 ≤ u5 then
      some (.inr I)
    else
      (f_X12_comesOn_L216 fu I u2 u3 u5 0).bind (Sum.elim (fun r => some (.inl r)) fun x32 =>
      f_X12_comesOn_L207 fu n x32 u2 u3 (u5 + 1))
def f_X12_comesOn_L172 (fu : Nat) : Nat → HI → Int32 → Option ((Int32 × HI) ⊕ (Unit))
  | 0, _, _ => none
  | n + 1, I, u5 =>
    ldI (I 102) 2 (I 100 13) fun v19 =>
    if v19 ≤ u5 then
      some (.inr ())
    else
      (f_X12_room fu I 1 u5).bind fun x20 =>
      if 0 ≤ x20 then
        f_X12_comesOn_L172 fu n I (u5 + 1)
      else
        gz 0 (some (.inl (0, I)))
def f_X12_comesOn_L132 : Nat → HI → Int32 → Option ((Int32 × HI) ⊕ (HI))
  | 0, _, _ => none
  | n + 1, I, u5 =>
    ldI (I 106) 2 (I 100 13) fun v14 =>
    if v14 ≤ u5 then
      some (.inr I)
    else
      (f_X12_lakeOn I u5 (2 + (4 * u5))).bind fun x15 =>
      if x15.1 = 0 then
        gz 0 (some (.inl (0, x15.2)))
      else
        f_X12_comesOn_L132 n x15.2 (u5 + 1)
def f_X12_comesOn_L58 : Nat → HI → Int32 → Int32 → Int32 → Option (Int32)
  | 0, _, _, _, _ => none
  | n + 1, I, u1, u4, u5 =>
    if (u1 - 1) ≤ u5 then
      some u4
    else
      ldI (I 101) 1800 u5 fun v5 =>
      dvI 251 <|
      bnd ((((5 * u4) + v5) - ((5 * u4) + v5) / 251 * 251)) fun v6 =>
      f_X12_comesOn_L58 n I u1 v6 (u5 + 1)
def f_X12_comesOn (fu : Nat) (I : HI) (p1 : Int32) : Option (Int32 × HI) :=
  ldI (I 106) 2 (I 100 13) fun v1 =>
  bnd ((2 + (4 * v1))) fun v2 =>
  ldI (I 105) 2 (I 100 13) fun v3 =>
  if p1 = ((v2 + ((2 * v3) * v3)) + 1) then
    (f_X12_twoBytes I 0).bind fun x4 =>
    if x4 ≤ 9999 then
      (f_X12_comesOn_L58 fu I p1 149 0).bind fun x8 =>
      ldI (I 101) 1800 (p1 - 1) fun v9 =>
      if v9 = x8 then
        (f_X12_copies fu I 1 0).bind fun x10 =>
        (f_X12_twoBytes x10 0).bind fun x11 =>
        inb 26 1 <|
        bnd (sI x10 127 (1 : Int32).toNatClampNeg x11) fun I12 =>
        inb 26 1 <|
        bnd (sI I12 132 (1 : Int32).toNatClampNeg 0) fun I13 =>
        (f_X12_comesOn_L132 fu I13 0).bind (Sum.elim (fun r => some r) fun x18 =>
        (f_X12_comesOn_L172 fu fu x18 0).bind (Sum.elim (fun r => some r) fun x23 =>
        (f_X12_comesOn_L207 fu fu x18 v2 v3 0).bind (Sum.elim (fun r => some r) fun x34 =>
        gz 1 (some (1, x34)))))
      else
        gz 0 (some (0, I))
    else
      gz 0 (some (0, I))
  else
    gz 0 (some (0, I))
set_option maxRecDepth 20000 in
theorem lp_X12_comesOn_216 (fu : Nat) (u2 : Int32) (u3 : Int32) (u5 : Int32) (L : HL) (R : HR) : ∀ (n : Nat) (u6 : Int32) (I : HI) (N : ((Int32 × HI) ⊕ (HI)) → Prop) (F : HF), (∀ v : HI, N (.inr v) → PW 100 147 2 RX12 cX12_comesOn 8 (some .boolean) 285 [(0, .ref 100), (2, .int u2), (3, .int u3), (5, .int u5)] [] v L R F) → (∀ r : Int32 × HI, N (.inl r) → F = (fun x : Int32 × HI => ((some (.int x.1), x.2, L, R) : HF)) r) → PWk 100 147 2 RX12 cX12_comesOn 8 (some .boolean) 216 [(0, .ref 100), (2, .int u2), (3, .int u3), (5, .int u5), (6, .int u6)] [] I L R (f_X12_comesOn_L216 n I u2 u3 u5 u6) N F := by
  intro n
  induction n with
  | zero => intro u6 I N F hx hr; exact PWk.none'
  | succ n ih =>
    intro u6 I N F hx hr
    unfold f_X12_comesOn_L216
    refine PWk.iload 4 dX12_comesOn_216 rfl ?_
    refine PWk.iload_n 2 dX12_comesOn_218 rfl ?_
    refine PWk.icmp_ge 285 dX12_comesOn_219 (by decide) (fun h31 => ?_) (fun h31 => ?_)
    · refine PWk.sub [0, 1, 2, 3] rfl ?_
      exact PWk.done (fun h => hx _ h)
    · refine PWk.aload_n 0 dX12_comesOn_222 rfl ?_
      refine PWk.iload_n 1 dX12_comesOn_223 rfl ?_
      refine PWk.iconst (v := 2) dX12_comesOn_224 ic_2 ?_
      refine PWk.iload_n 2 dX12_comesOn_225 rfl ?_
      refine PWk.iload 3 dX12_comesOn_226 rfl ?_
      refine PWk.imul dX12_comesOn_228 ?_
      refine PWk.iload 4 dX12_comesOn_229 rfl ?_
      refine PWk.iadd dX12_comesOn_231 ?_
      refine PWk.imul dX12_comesOn_232 ?_
      refine PWk.iadd dX12_comesOn_233 ?_
      refine PWk.callVi (pc_X12_twoBytes I L R (u2 + (2 * ((u3 * u5) + u6)))) dX12_comesOn_234 ml_X12_542 rfl rg_100 lc_100 vq_12 (by decide) rfl (Nat.le_of_ble_eq_true rfl) (fun x24 => ?_)
      refine PWk.istore [(7, .int x24), (0, .ref 100), (2, .int u2), (3, .int u3), (5, .int u5), (6, .int u6)] dX12_comesOn_237 (by decide) rfl ?_
      refine PWk.iload 0 dX12_comesOn_239 rfl ?_
      refine PWk.sipush (v := 9999) dX12_comesOn_241 sp_9999 ?_
      refine PWk.icmp_gt 259 dX12_comesOn_244 (by decide) (fun h30 => ?_) (fun h30 => ?_)
      · refine PWk.iconst (v := 0) dX12_comesOn_259 ic_0 ?_
        exact PWk.zret dX12_comesOn_260 rfl (hr _)
      · refine PWk.iload 4 dX12_comesOn_247 rfl ?_
        refine PWk.iload 5 dX12_comesOn_249 rfl ?_
        refine PWk.jn (pc' := 261) (lv' := fun y28 => [(0, .ref 100), (2, .int u2), (3, .int u3), (5, .int u5), (6, .int u6), (7, .int x24)]) (st' := fun y28 => []) (I' := fun y28 => I) (L' := fun y28 => L) (R' := fun y28 => R) (fun j25 hj25 => ?_) (fun y28 => ?_)
        · refine PWk.icmp_ne 261 dX12_comesOn_251 (by decide) (fun h27 => ?_) (fun h27 => ?_)
          · refine PWk.iload 0 dX12_comesOn_254 rfl ?_
            refine PWk.if_le 261 dX12_comesOn_256 (by decide) (fun h26 => ?_) (fun h26 => ?_)
            · refine PWk.sub [1, 2, 3, 4, 5, 0] rfl ?_
              exact hj25 ()
            · refine PWk.iconst (v := 0) dX12_comesOn_259 ic_0 ?_
              exact PWk.zret dX12_comesOn_260 rfl (hr _)
          · refine PWk.sub [1, 2, 3, 4, 5, 0] rfl ?_
            exact hj25 ()
        · refine PWk.aload_n 0 dX12_comesOn_261 rfl ?_
          refine PWk.gets dX12_comesOn_262 rg_100 lc_100 fl_X12_165 rfl st_100_50 ?_
          refine PWk.bipush (v := 36) dX12_comesOn_265 bp_36 ?_
          refine PWk.bipush (v := 6) dX12_comesOn_267 bp_6 ?_
          refine PWk.iload 3 dX12_comesOn_269 rfl ?_
          refine PWk.imul dX12_comesOn_271 ?_
          refine PWk.iadd dX12_comesOn_272 ?_
          refine PWk.iload 4 dX12_comesOn_273 rfl ?_
          refine PWk.iadd dX12_comesOn_275 ?_
          refine PWk.iload 5 dX12_comesOn_276 rfl ?_
          refine PWk.iast dX12_comesOn_278 rg_131 ly_131 ?_
          refine PWk.bI (fun I29 => ?_)
          refine PWk.iinc (v := (u6 + 1)) 4 [(6, .int (u6 + 1)), (0, .ref 100), (2, .int u2), (3, .int u3), (5, .int u5), (7, .int x24)] dX12_comesOn_279 rfl (by rw [ic_1]) (by decide) rfl ?_
          refine PWk.goto 216 dX12_comesOn_282 (by decide) ?_
          refine PWk.sub [1, 2, 3, 4, 0] rfl ?_
          exact ih (u6 + 1) I29 N F hx hr
set_option maxRecDepth 20000 in
theorem lp_X12_comesOn_207 (fu : Nat) (u2 : Int32) (u3 : Int32) (L : HL) (R : HR) : ∀ (n : Nat) (u5 : Int32) (I : HI) (N : ((Int32 × HI) ⊕ (HI)) → Prop) (F : HF), (∀ v : HI, N (.inr v) → PW 100 147 2 RX12 cX12_comesOn 8 (some .boolean) 291 [] [] v L R F) → (∀ r : Int32 × HI, N (.inl r) → F = (fun x : Int32 × HI => ((some (.int x.1), x.2, L, R) : HF)) r) → PWk 100 147 2 RX12 cX12_comesOn 8 (some .boolean) 207 [(0, .ref 100), (2, .int u2), (3, .int u3), (5, .int u5)] [] I L R (f_X12_comesOn_L207 fu n I u2 u3 u5) N F := by
  intro n
  induction n with
  | zero => intro u5 I N F hx hr; exact PWk.none'
  | succ n ih =>
    intro u5 I N F hx hr
    unfold f_X12_comesOn_L207
    refine PWk.iload 3 dX12_comesOn_207 rfl ?_
    refine PWk.iload_n 2 dX12_comesOn_209 rfl ?_
    refine PWk.icmp_ge 291 dX12_comesOn_210 (by decide) (fun h33 => ?_) (fun h33 => ?_)
    · refine PWk.sub [] rfl ?_
      exact PWk.done (fun h => hx _ h)
    · refine PWk.iconst (v := 0) dX12_comesOn_213 ic_0 ?_
      refine PWk.istore [(6, .int 0), (0, .ref 100), (2, .int u2), (3, .int u3), (5, .int u5)] dX12_comesOn_214 (by decide) rfl ?_
      refine PWk.sub [1, 2, 3, 4, 0] rfl ?_
      refine PWk.loopS (fun N' hx' hr' => lp_X12_comesOn_216 fu u2 u3 u5 L R fu 0 I N' F hx' hr') (fun r a e h => by cases e; exact hr _ h) (fun x32 => ?_)
      refine PWk.iinc (v := (u5 + 1)) 3 [(5, .int (u5 + 1)), (0, .ref 100), (2, .int u2), (3, .int u3)] dX12_comesOn_285 rfl (by rw [ic_1]) (by decide) rfl ?_
      refine PWk.goto 207 dX12_comesOn_288 (by decide) ?_
      refine PWk.sub [1, 2, 3, 0] rfl ?_
      exact ih (u5 + 1) x32 N F hx hr
set_option maxRecDepth 20000 in
theorem lp_X12_comesOn_172 (fu : Nat) (u2 : Int32) (u3 : Int32) (I : HI) (L : HL) (R : HR) : ∀ (n : Nat) (u5 : Int32) (N : ((Int32 × HI) ⊕ (Unit)) → Prop) (F : HF), (∀ v : Unit, N (.inr v) → PW 100 147 2 RX12 cX12_comesOn 8 (some .boolean) 204 [(0, .ref 100), (2, .int u2), (3, .int u3)] [] I L R F) → (∀ r : Int32 × HI, N (.inl r) → F = (fun x : Int32 × HI => ((some (.int x.1), x.2, L, R) : HF)) r) → PWk 100 147 2 RX12 cX12_comesOn 8 (some .boolean) 172 [(0, .ref 100), (2, .int u2), (3, .int u3), (5, .int u5)] [] I L R (f_X12_comesOn_L172 fu n I u5) N F := by
  intro n
  induction n with
  | zero => intro u5 N F hx hr; exact PWk.none'
  | succ n ih =>
    intro u5 N F hx hr
    unfold f_X12_comesOn_L172
    refine PWk.iload 3 dX12_comesOn_172 rfl ?_
    refine PWk.aload_n 0 dX12_comesOn_174 rfl ?_
    refine PWk.gets dX12_comesOn_175 rg_100 lc_100 fl_X12_54 rfl st_100_14 ?_
    refine PWk.aload_n 0 dX12_comesOn_178 rfl ?_
    refine PWk.geti dX12_comesOn_179 rg_100 lc_100 fl_X12_51 rfl ?_
    refine PWk.iald dX12_comesOn_182 rg_102 ly_102 (fun v19 => ?_)
    refine PWk.icmp_ge 204 dX12_comesOn_183 (by decide) (fun h22 => ?_) (fun h22 => ?_)
    · refine PWk.sub [0, 1, 2] rfl ?_
      exact PWk.done (fun h => hx _ h)
    · refine PWk.aload_n 0 dX12_comesOn_186 rfl ?_
      refine PWk.iconst (v := 1) dX12_comesOn_187 ic_1 ?_
      refine PWk.iload 3 dX12_comesOn_188 rfl ?_
      refine PWk.callVi (pc_X12_room fu I L R 1 u5) dX12_comesOn_190 ml_X12_460 rfl rg_100 lc_100 vq_12 (by decide) rfl (Nat.le_of_ble_eq_true rfl) (fun x20 => ?_)
      refine PWk.if_ge 198 dX12_comesOn_193 (by decide) (fun h21 => ?_) (fun h21 => ?_)
      · refine PWk.iinc (v := (u5 + 1)) 3 [(5, .int (u5 + 1)), (0, .ref 100), (2, .int u2), (3, .int u3)] dX12_comesOn_198 rfl (by rw [ic_1]) (by decide) rfl ?_
        refine PWk.goto 172 dX12_comesOn_201 (by decide) ?_
        refine PWk.sub [1, 2, 3, 0] rfl ?_
        exact ih (u5 + 1) N F hx hr
      · refine PWk.iconst (v := 0) dX12_comesOn_196 ic_0 ?_
        exact PWk.zret dX12_comesOn_197 rfl (hr _)
set_option maxRecDepth 20000 in
theorem lp_X12_comesOn_132 (fu : Nat) (u2 : Int32) (u3 : Int32) (L : HL) (R : HR) : ∀ (n : Nat) (u5 : Int32) (I : HI) (N : ((Int32 × HI) ⊕ (HI)) → Prop) (F : HF), (∀ v : HI, N (.inr v) → PW 100 147 2 RX12 cX12_comesOn 8 (some .boolean) 169 [(0, .ref 100), (2, .int u2), (3, .int u3)] [] v L R F) → (∀ r : Int32 × HI, N (.inl r) → F = (fun x : Int32 × HI => ((some (.int x.1), x.2, L, R) : HF)) r) → PWk 100 147 2 RX12 cX12_comesOn 8 (some .boolean) 132 [(0, .ref 100), (2, .int u2), (3, .int u3), (5, .int u5)] [] I L R (f_X12_comesOn_L132 n I u5) N F := by
  intro n
  induction n with
  | zero => intro u5 I N F hx hr; exact PWk.none'
  | succ n ih =>
    intro u5 I N F hx hr
    unfold f_X12_comesOn_L132
    refine PWk.iload 3 dX12_comesOn_132 rfl ?_
    refine PWk.aload_n 0 dX12_comesOn_134 rfl ?_
    refine PWk.gets dX12_comesOn_135 rg_100 lc_100 fl_X12_66 rfl st_100_18 ?_
    refine PWk.aload_n 0 dX12_comesOn_138 rfl ?_
    refine PWk.geti dX12_comesOn_139 rg_100 lc_100 fl_X12_51 rfl ?_
    refine PWk.iald dX12_comesOn_142 rg_106 ly_106 (fun v14 => ?_)
    refine PWk.icmp_ge 169 dX12_comesOn_143 (by decide) (fun h17 => ?_) (fun h17 => ?_)
    · refine PWk.sub [0, 1, 2] rfl ?_
      exact PWk.done (fun h => hx _ h)
    · refine PWk.aload_n 0 dX12_comesOn_146 rfl ?_
      refine PWk.iload 3 dX12_comesOn_147 rfl ?_
      refine PWk.iconst (v := 2) dX12_comesOn_149 ic_2 ?_
      refine PWk.iconst (v := 4) dX12_comesOn_150 ic_4 ?_
      refine PWk.iload 3 dX12_comesOn_151 rfl ?_
      refine PWk.imul dX12_comesOn_153 ?_
      refine PWk.iadd dX12_comesOn_154 ?_
      refine PWk.callViI (pc_X12_lakeOn I L R u5 (2 + (4 * u5))) dX12_comesOn_155 ml_X12_571 rfl rg_100 lc_100 vq_12 (by decide) rfl (Nat.le_of_ble_eq_true rfl) (fun x15 => ?_)
      refine PWk.if_ne 163 dX12_comesOn_158 (by decide) (fun h16 => ?_) (fun h16 => ?_)
      · refine PWk.iconst (v := 0) dX12_comesOn_161 ic_0 ?_
        exact PWk.zret dX12_comesOn_162 rfl (hr _)
      · refine PWk.iinc (v := (u5 + 1)) 3 [(5, .int (u5 + 1)), (0, .ref 100), (2, .int u2), (3, .int u3)] dX12_comesOn_163 rfl (by rw [ic_1]) (by decide) rfl ?_
        refine PWk.goto 132 dX12_comesOn_166 (by decide) ?_
        refine PWk.sub [1, 2, 3, 0] rfl ?_
        exact ih (u5 + 1) x15.2 N F hx hr
set_option maxRecDepth 20000 in
theorem lp_X12_comesOn_58 (fu : Nat) (u1 : Int32) (u2 : Int32) (u3 : Int32) (I : HI) (L : HL) (R : HR) : ∀ (n : Nat) (u4 : Int32) (u5 : Int32) (N : (Int32) → Prop) (F : HF), (∀ v : Int32, N v → PW 100 147 2 RX12 cX12_comesOn 8 (some .boolean) 90 [(0, .ref 100), (1, .int u1), (2, .int u2), (3, .int u3), (4, .int v)] [] I L R F) → PWk 100 147 2 RX12 cX12_comesOn 8 (some .boolean) 58 [(0, .ref 100), (1, .int u1), (2, .int u2), (3, .int u3), (4, .int u4), (5, .int u5)] [] I L R (f_X12_comesOn_L58 n I u1 u4 u5) N F := by
  intro n
  induction n with
  | zero => intro u4 u5 N F hx; exact PWk.none'
  | succ n ih =>
    intro u4 u5 N F hx
    unfold f_X12_comesOn_L58
    refine PWk.iload 5 dX12_comesOn_58 rfl ?_
    refine PWk.iload_n 1 dX12_comesOn_60 rfl ?_
    refine PWk.iconst (v := 1) dX12_comesOn_61 ic_1 ?_
    refine PWk.isub dX12_comesOn_62 ?_
    refine PWk.icmp_ge 90 dX12_comesOn_63 (by decide) (fun h7 => ?_) (fun h7 => ?_)
    · refine PWk.sub [0, 1, 2, 3, 4] rfl ?_
      exact PWk.done (fun h => hx _ h)
    · refine PWk.iconst (v := 5) dX12_comesOn_66 ic_5 ?_
      refine PWk.iload 4 dX12_comesOn_67 rfl ?_
      refine PWk.imul dX12_comesOn_69 ?_
      refine PWk.aload_n 0 dX12_comesOn_70 rfl ?_
      refine PWk.gets dX12_comesOn_71 rg_100 lc_100 fl_X12_7 rfl st_100_0 ?_
      refine PWk.iload 5 dX12_comesOn_74 rfl ?_
      refine PWk.iald dX12_comesOn_76 rg_101 ly_101 (fun v5 => ?_)
      refine PWk.iadd dX12_comesOn_77 ?_
      refine PWk.sipush (v := 251) dX12_comesOn_78 sp_251 ?_
      refine PWk.irem dX12_comesOn_81 ?_
      refine PWk.bi (fun v6 => ?_)
      refine PWk.istore [(4, .int v6), (0, .ref 100), (1, .int u1), (2, .int u2), (3, .int u3), (5, .int u5)] dX12_comesOn_82 (by decide) rfl ?_
      refine PWk.iinc (v := (u5 + 1)) 5 [(5, .int (u5 + 1)), (4, .int v6), (0, .ref 100), (1, .int u1), (2, .int u2), (3, .int u3)] dX12_comesOn_84 rfl (by rw [ic_1]) (by decide) rfl ?_
      refine PWk.goto 58 dX12_comesOn_87 (by decide) ?_
      refine PWk.sub [2, 3, 4, 5, 1, 0] rfl ?_
      exact ih v6 (u5 + 1) N F hx
set_option maxRecDepth 20000 in
theorem pc_X12_comesOn (fu : Nat) (I : HI) (L : HL) (R : HR) (p1 : Int32) : PCo 100 147 2 yX12_comesOn cX12_comesOn 8 (some .boolean) [.ref 100, .int p1] I L R (f_X12_comesOn fu I p1) (fun x : Int32 × HI => ((some (.int x.1), x.2, L, R) : HF)) := by
  refine PCo.of (own := RX12) (by decide +kernel) (Nat.le_of_ble_eq_true rfl) rfl rfl (fun F => ?_)
  unfold f_X12_comesOn
  refine PWk.iconst (v := 2) dX12_comesOn_0 ic_2 ?_
  refine PWk.iconst (v := 4) dX12_comesOn_1 ic_4 ?_
  refine PWk.aload_n 0 dX12_comesOn_2 rfl ?_
  refine PWk.gets dX12_comesOn_3 rg_100 lc_100 fl_X12_66 rfl st_100_18 ?_
  refine PWk.aload_n 0 dX12_comesOn_6 rfl ?_
  refine PWk.geti dX12_comesOn_7 rg_100 lc_100 fl_X12_51 rfl ?_
  refine PWk.iald dX12_comesOn_10 rg_106 ly_106 (fun v1 => ?_)
  refine PWk.imul dX12_comesOn_11 ?_
  refine PWk.iadd dX12_comesOn_12 ?_
  refine PWk.bi (fun v2 => ?_)
  refine PWk.istore_n [(2, .int v2), (0, .ref 100), (1, .int p1)] dX12_comesOn_13 (by decide) rfl ?_
  refine PWk.aload_n 1 dX12_comesOn_14 rfl ?_
  refine PWk.gets dX12_comesOn_15 rg_100 lc_100 fl_X12_63 rfl st_100_17 ?_
  refine PWk.aload_n 1 dX12_comesOn_18 rfl ?_
  refine PWk.geti dX12_comesOn_19 rg_100 lc_100 fl_X12_51 rfl ?_
  refine PWk.iald dX12_comesOn_22 rg_105 ly_105 (fun v3 => ?_)
  refine PWk.istore_n [(3, .int v3), (2, .int v2), (0, .ref 100), (1, .int p1)] dX12_comesOn_23 (by decide) rfl ?_
  refine PWk.iload_n 3 dX12_comesOn_24 rfl ?_
  refine PWk.iload_n 1 dX12_comesOn_25 rfl ?_
  refine PWk.iconst (v := 2) dX12_comesOn_26 ic_2 ?_
  refine PWk.iload_n 0 dX12_comesOn_27 rfl ?_
  refine PWk.imul dX12_comesOn_28 ?_
  refine PWk.iload_n 0 dX12_comesOn_29 rfl ?_
  refine PWk.imul dX12_comesOn_30 ?_
  refine PWk.iadd dX12_comesOn_31 ?_
  refine PWk.iconst (v := 1) dX12_comesOn_32 ic_1 ?_
  refine PWk.iadd dX12_comesOn_33 ?_
  refine PWk.icmp_ne 48 dX12_comesOn_34 (by decide) (fun h37 => ?_) (fun h37 => ?_)
  · refine PWk.aload_n 2 dX12_comesOn_37 rfl ?_
    refine PWk.iconst (v := 0) dX12_comesOn_38 ic_0 ?_
    refine PWk.callVi (pc_X12_twoBytes I L R 0) dX12_comesOn_39 ml_X12_542 rfl rg_100 lc_100 vq_12 (by decide) rfl (Nat.le_of_ble_eq_true rfl) (fun x4 => ?_)
    refine PWk.sipush (v := 9999) dX12_comesOn_42 sp_9999 ?_
    refine PWk.icmp_le 50 dX12_comesOn_45 (by decide) (fun h36 => ?_) (fun h36 => ?_)
    · refine PWk.sipush (v := 149) dX12_comesOn_50 sp_149 ?_
      refine PWk.istore [(4, .int 149), (3, .int v3), (2, .int v2), (0, .ref 100), (1, .int p1)] dX12_comesOn_53 (by decide) rfl ?_
      refine PWk.iconst (v := 0) dX12_comesOn_55 ic_0 ?_
      refine PWk.istore [(5, .int 0), (4, .int 149), (3, .int v3), (2, .int v2), (0, .ref 100), (1, .int p1)] dX12_comesOn_56 (by decide) rfl ?_
      refine PWk.sub [4, 5, 3, 2, 1, 0] rfl ?_
      refine PWk.loopV (fun N' hx' => lp_X12_comesOn_58 fu p1 v2 v3 I L R fu 149 0 N' F hx') (fun x8 => ?_)
      refine PWk.aload_n 0 dX12_comesOn_90 rfl ?_
      refine PWk.gets dX12_comesOn_91 rg_100 lc_100 fl_X12_7 rfl st_100_0 ?_
      refine PWk.iload_n 1 dX12_comesOn_94 rfl ?_
      refine PWk.iconst (v := 1) dX12_comesOn_95 ic_1 ?_
      refine PWk.isub dX12_comesOn_96 ?_
      refine PWk.iald dX12_comesOn_97 rg_101 ly_101 (fun v9 => ?_)
      refine PWk.iload 4 dX12_comesOn_98 rfl ?_
      refine PWk.icmp_eq 105 dX12_comesOn_100 (by decide) (fun h35 => ?_) (fun h35 => ?_)
      · refine PWk.aload_n 0 dX12_comesOn_105 rfl ?_
        refine PWk.iconst (v := 1) dX12_comesOn_106 ic_1 ?_
        refine PWk.iconst (v := 0) dX12_comesOn_107 ic_0 ?_
        refine PWk.callVvI (pc_X12_copies fu I L R 1 0) dX12_comesOn_108 ml_X12_418 rfl rg_100 lc_100 vq_12 (by decide) rfl (Nat.le_of_ble_eq_true rfl) (fun x10 => ?_)
        refine PWk.aload_n 0 dX12_comesOn_111 rfl ?_
        refine PWk.gets dX12_comesOn_112 rg_100 lc_100 fl_X12_153 rfl st_100_46 ?_
        refine PWk.iconst (v := 1) dX12_comesOn_115 ic_1 ?_
        refine PWk.aload_n 0 dX12_comesOn_116 rfl ?_
        refine PWk.iconst (v := 0) dX12_comesOn_117 ic_0 ?_
        refine PWk.callVi (pc_X12_twoBytes x10 L R 0) dX12_comesOn_118 ml_X12_542 rfl rg_100 lc_100 vq_12 (by decide) rfl (Nat.le_of_ble_eq_true rfl) (fun x11 => ?_)
        refine PWk.iast dX12_comesOn_121 rg_127 ly_127 ?_
        refine PWk.bI (fun I12 => ?_)
        refine PWk.aload_n 0 dX12_comesOn_122 rfl ?_
        refine PWk.gets dX12_comesOn_123 rg_100 lc_100 fl_X12_168 rfl st_100_51 ?_
        refine PWk.iconst (v := 1) dX12_comesOn_126 ic_1 ?_
        refine PWk.iconst (v := 0) dX12_comesOn_127 ic_0 ?_
        refine PWk.iast dX12_comesOn_128 rg_132 ly_132 ?_
        refine PWk.bI (fun I13 => ?_)
        refine PWk.iconst (v := 0) dX12_comesOn_129 ic_0 ?_
        refine PWk.istore [(5, .int 0), (0, .ref 100), (1, .int p1), (2, .int v2), (3, .int v3), (4, .int x8)] dX12_comesOn_130 (by decide) rfl ?_
        refine PWk.sub [1, 3, 4, 0] rfl ?_
        refine PWk.loopS (fun N' hx' hr' => lp_X12_comesOn_132 fu v2 v3 L R fu 0 I13 N' F hx' hr') (fun r a e h => by cases e; exact h) (fun x18 => ?_)
        refine PWk.iconst (v := 0) dX12_comesOn_169 ic_0 ?_
        refine PWk.istore [(5, .int 0), (0, .ref 100), (2, .int v2), (3, .int v3)] dX12_comesOn_170 (by decide) rfl ?_
        refine PWk.sub [1, 2, 3, 0] rfl ?_
        refine PWk.loopS (fun N' hx' hr' => lp_X12_comesOn_172 fu v2 v3 x18 L R fu 0 N' F hx' hr') (fun r a e h => by cases e; exact h) (fun x23 => ?_)
        refine PWk.iconst (v := 0) dX12_comesOn_204 ic_0 ?_
        refine PWk.istore [(5, .int 0), (0, .ref 100), (2, .int v2), (3, .int v3)] dX12_comesOn_205 (by decide) rfl ?_
        refine PWk.sub [1, 2, 3, 0] rfl ?_
        refine PWk.loopS (fun N' hx' hr' => lp_X12_comesOn_207 fu v2 v3 L R fu 0 x18 N' F hx' hr') (fun r a e h => by cases e; exact h) (fun x34 => ?_)
        refine PWk.iconst (v := 1) dX12_comesOn_291 ic_1 ?_
        exact PWk.zret dX12_comesOn_292 rfl (fun h => h)
      · refine PWk.iconst (v := 0) dX12_comesOn_103 ic_0 ?_
        exact PWk.zret dX12_comesOn_104 rfl (fun h => h)
    · refine PWk.iconst (v := 0) dX12_comesOn_48 ic_0 ?_
      exact PWk.zret dX12_comesOn_49 rfl (fun h => h)
  · refine PWk.iconst (v := 0) dX12_comesOn_48 ic_0 ?_
    exact PWk.zret dX12_comesOn_49 rfl (fun h => h)
/-! LakeMarketModel.on()Z -/
def f_X12_on (fu : Nat) (I : HI) : Option (Int32 × HI) :=
  bnd (sI I 100 1 0) fun I1 =>
  (f_X12_comesOn fu I1 (I 100 1)).bind fun x2 =>
  if x2.1 = 0 then
    (f_X12_refuses x2.2 5).bind fun x3 =>
    if x3.1 < 0 then
      gz 0 (some (0, x3.2))
    else
      gz 1 (some (1, x3.2))
  else
    (f_X12_copies fu x2.2 0 1).bind fun x5 =>
    bnd (sI x5 100 54 0) fun I6 =>
    gz 1 (some (1, I6))
set_option maxRecDepth 20000 in
theorem pc_X12_on (fu : Nat) (I : HI) (L : HL) (R : HR) : PCo 100 147 3 yX12_on cX12_on 2 (some .boolean) [.ref 100] I L R (f_X12_on fu I) (fun x : Int32 × HI => ((some (.int x.1), x.2, L, R) : HF)) := by
  refine PCo.of (own := RX12) (by decide +kernel) (Nat.le_of_ble_eq_true rfl) rfl rfl (fun F => ?_)
  unfold f_X12_on
  refine PWk.aload_n 0 dX12_on_0 rfl ?_
  refine PWk.geti dX12_on_1 rg_100 lc_100 fl_X12_13 rfl ?_
  refine PWk.istore_n [(1, .int (I 100 1)), (0, .ref 100)] dX12_on_4 (by decide) rfl ?_
  refine PWk.aload_n 1 dX12_on_5 rfl ?_
  refine PWk.iconst (v := 0) dX12_on_6 ic_0 ?_
  refine PWk.puti dX12_on_7 rg_100 lc_100 fl_X12_13 fp_12_1 rfl ?_
  refine PWk.bI (fun I1 => ?_)
  refine PWk.aload_n 1 dX12_on_10 rfl ?_
  refine PWk.iload_n 0 dX12_on_11 rfl ?_
  refine PWk.callViI (pc_X12_comesOn fu I1 L R (I 100 1)) dX12_on_12 ml_X12_574 rfl rg_100 lc_100 vq_12 (by decide) rfl (Nat.le_of_ble_eq_true rfl) (fun x2 => ?_)
  refine PWk.if_ne 32 dX12_on_15 (by decide) (fun h7 => ?_) (fun h7 => ?_)
  · refine PWk.aload_n 1 dX12_on_18 rfl ?_
    refine PWk.iconst (v := 5) dX12_on_19 ic_5 ?_
    refine PWk.callViI (pc_X12_refuses x2.2 L R 5) dX12_on_20 ml_X12_229 rfl rg_100 lc_100 vq_12 (by decide) rfl (Nat.le_of_ble_eq_true rfl) (fun x3 => ?_)
    refine PWk.if_lt 30 dX12_on_23 (by decide) (fun h4 => ?_) (fun h4 => ?_)
    · refine PWk.iconst (v := 0) dX12_on_30 ic_0 ?_
      exact PWk.zret dX12_on_31 rfl (fun h => h)
    · refine PWk.iconst (v := 1) dX12_on_26 ic_1 ?_
      refine PWk.goto 31 dX12_on_27 (by decide) ?_
      exact PWk.zret dX12_on_31 rfl (fun h => h)
  · refine PWk.aload_n 1 dX12_on_32 rfl ?_
    refine PWk.iconst (v := 0) dX12_on_33 ic_0 ?_
    refine PWk.iconst (v := 1) dX12_on_34 ic_1 ?_
    refine PWk.callVvI (pc_X12_copies fu x2.2 L R 0 1) dX12_on_35 ml_X12_418 rfl rg_100 lc_100 vq_12 (by decide) rfl (Nat.le_of_ble_eq_true rfl) (fun x5 => ?_)
    refine PWk.aload_n 1 dX12_on_38 rfl ?_
    refine PWk.iconst (v := 0) dX12_on_39 ic_0 ?_
    refine PWk.puti dX12_on_40 rg_100 lc_100 fl_X12_177 fp_12_54 rfl ?_
    refine PWk.bI (fun I6 => ?_)
    refine PWk.iconst (v := 1) dX12_on_43 ic_1 ?_
    exact PWk.zret dX12_on_44 rfl (fun h => h)
/-! LakeMarketModel.feed(IIIII)I -/
def f_X12_feed (fu : Nat) (I : HI) (p1 : Int32) (p2 : Int32) (p3 : Int32) (p4 : Int32) (p5 : Int32) : Option (Int32 × HI) :=
  if ((I 100 1) + 20) ≤ 1600 then
    (f_X12_put fu I p1).bind fun x1 =>
    (f_X12_put fu x1 p2).bind fun x2 =>
    (f_X12_put fu x2 p3).bind fun x3 =>
    (f_X12_put fu x3 p4).bind fun x4 =>
    (f_X12_put fu x4 p5).bind fun x5 =>
    some ((x5 100 1), x5)
  else
    (f_X12_refuses I 0).bind fun x6 =>
    some (x6.1, x6.2)
set_option maxRecDepth 20000 in
theorem pc_X12_feed (fu : Nat) (I : HI) (L : HL) (R : HR) (p1 : Int32) (p2 : Int32) (p3 : Int32) (p4 : Int32) (p5 : Int32) : PCo 100 147 1 yX12_feed cX12_feed 6 (some .int) [.ref 100, .int p1, .int p2, .int p3, .int p4, .int p5] I L R (f_X12_feed fu I p1 p2 p3 p4 p5) (fun x : Int32 × HI => ((some (.int x.1), x.2, L, R) : HF)) := by
  refine PCo.of (own := RX12) (by decide +kernel) (Nat.le_of_ble_eq_true rfl) rfl rfl (fun F => ?_)
  unfold f_X12_feed
  refine PWk.aload_n 0 dX12_feed_0 rfl ?_
  refine PWk.geti dX12_feed_1 rg_100 lc_100 fl_X12_13 rfl ?_
  refine PWk.bipush (v := 20) dX12_feed_4 bp_20 ?_
  refine PWk.iadd dX12_feed_6 ?_
  refine PWk.sipush (v := 1600) dX12_feed_7 sp_1600 ?_
  refine PWk.icmp_le 19 dX12_feed_10 (by decide) (fun h7 => ?_) (fun h7 => ?_)
  · refine PWk.aload_n 0 dX12_feed_19 rfl ?_
    refine PWk.iload_n 1 dX12_feed_20 rfl ?_
    refine PWk.callVvI (pc_X12_put fu I L R p1) dX12_feed_21 ml_X12_233 rfl rg_100 lc_100 vq_12 (by decide) rfl (Nat.le_of_ble_eq_true rfl) (fun x1 => ?_)
    refine PWk.aload_n 0 dX12_feed_24 rfl ?_
    refine PWk.iload_n 2 dX12_feed_25 rfl ?_
    refine PWk.callVvI (pc_X12_put fu x1 L R p2) dX12_feed_26 ml_X12_233 rfl rg_100 lc_100 vq_12 (by decide) rfl (Nat.le_of_ble_eq_true rfl) (fun x2 => ?_)
    refine PWk.aload_n 0 dX12_feed_29 rfl ?_
    refine PWk.iload_n 3 dX12_feed_30 rfl ?_
    refine PWk.callVvI (pc_X12_put fu x2 L R p3) dX12_feed_31 ml_X12_233 rfl rg_100 lc_100 vq_12 (by decide) rfl (Nat.le_of_ble_eq_true rfl) (fun x3 => ?_)
    refine PWk.aload_n 0 dX12_feed_34 rfl ?_
    refine PWk.iload 4 dX12_feed_35 rfl ?_
    refine PWk.callVvI (pc_X12_put fu x3 L R p4) dX12_feed_37 ml_X12_233 rfl rg_100 lc_100 vq_12 (by decide) rfl (Nat.le_of_ble_eq_true rfl) (fun x4 => ?_)
    refine PWk.aload_n 0 dX12_feed_40 rfl ?_
    refine PWk.iload 5 dX12_feed_41 rfl ?_
    refine PWk.callVvI (pc_X12_put fu x4 L R p5) dX12_feed_43 ml_X12_233 rfl rg_100 lc_100 vq_12 (by decide) rfl (Nat.le_of_ble_eq_true rfl) (fun x5 => ?_)
    refine PWk.aload_n 0 dX12_feed_46 rfl ?_
    refine PWk.geti dX12_feed_47 rg_100 lc_100 fl_X12_13 rfl ?_
    exact PWk.iret dX12_feed_50 rfl (fun h => h)
  · refine PWk.aload_n 0 dX12_feed_13 rfl ?_
    refine PWk.iconst (v := 0) dX12_feed_14 ic_0 ?_
    refine PWk.callViI (pc_X12_refuses I L R 0) dX12_feed_15 ml_X12_229 rfl rg_100 lc_100 vq_12 (by decide) rfl (Nat.le_of_ble_eq_true rfl) (fun x6 => ?_)
    exact PWk.iret dX12_feed_18 rfl (fun h => h)
/-! LakeMarketModel.end(I)Z -/
def f_X12_end (I : HI) (p1 : Int32) : Option (Int32 × HI) :=
  jnt (β := Unit) (fun y5 =>
    (f_X12_refuses I 0).bind fun x6 =>
    if x6.1 < 0 then
      gz 0 (some (0, x6.2))
    else
      gz 1 (some (1, x6.2))) fun j1 =>
  if p1 < 0 then
    j1 ()
  else
    if p1 ≤ (I 100 1) then
      bnd (sI I 100 1 p1) fun I2 =>
      gz 1 (some (1, I2))
    else
      j1 ()
set_option maxRecDepth 20000 in
theorem pc_X12_end (I : HI) (L : HL) (R : HR) (p1 : Int32) : PCo 100 147 1 yX12_end cX12_end 2 (some .boolean) [.ref 100, .int p1] I L R (f_X12_end I p1) (fun x : Int32 × HI => ((some (.int x.1), x.2, L, R) : HF)) := by
  refine PCo.of (own := RX12) (by decide +kernel) (Nat.le_of_ble_eq_true rfl) rfl rfl (fun F => ?_)
  unfold f_X12_end
  refine PWk.iload_n 1 dX12_end_0 rfl ?_
  refine PWk.jn (pc' := 12) (lv' := fun y5 => [(0, .ref 100)]) (st' := fun y5 => []) (I' := fun y5 => I) (L' := fun y5 => L) (R' := fun y5 => R) (fun j1 hj1 => ?_) (fun y5 => ?_)
  · refine PWk.if_lt 12 dX12_end_1 (by decide) (fun h4 => ?_) (fun h4 => ?_)
    · refine PWk.sub [0] rfl ?_
      exact hj1 ()
    · refine PWk.iload_n 1 dX12_end_4 rfl ?_
      refine PWk.aload_n 0 dX12_end_5 rfl ?_
      refine PWk.geti dX12_end_6 rg_100 lc_100 fl_X12_13 rfl ?_
      refine PWk.icmp_le 26 dX12_end_9 (by decide) (fun h3 => ?_) (fun h3 => ?_)
      · refine PWk.aload_n 0 dX12_end_26 rfl ?_
        refine PWk.iload_n 1 dX12_end_27 rfl ?_
        refine PWk.puti dX12_end_28 rg_100 lc_100 fl_X12_13 fp_12_1 rfl ?_
        refine PWk.bI (fun I2 => ?_)
        refine PWk.iconst (v := 1) dX12_end_31 ic_1 ?_
        exact PWk.zret dX12_end_32 rfl (fun h => h)
      · refine PWk.sub [0] rfl ?_
        exact hj1 ()
  · refine PWk.aload_n 0 dX12_end_12 rfl ?_
    refine PWk.iconst (v := 0) dX12_end_13 ic_0 ?_
    refine PWk.callViI (pc_X12_refuses I L R 0) dX12_end_14 ml_X12_229 rfl rg_100 lc_100 vq_12 (by decide) rfl (Nat.le_of_ble_eq_true rfl) (fun x6 => ?_)
    refine PWk.if_lt 24 dX12_end_17 (by decide) (fun h7 => ?_) (fun h7 => ?_)
    · refine PWk.iconst (v := 0) dX12_end_24 ic_0 ?_
      exact PWk.zret dX12_end_25 rfl (fun h => h)
    · refine PWk.iconst (v := 1) dX12_end_20 ic_1 ?_
      refine PWk.goto 25 dX12_end_21 (by decide) ?_
      exact PWk.zret dX12_end_25 rfl (fun h => h)
/-! LakeMarketModel.ahead()V -/
def f_X12_ahead_L204 : Nat → HI → HL → Int32 → Int32 → Int32 → Int32 → Int32 → Option (Int32 × Int32 × HI × HL)
  | 0, _, _, _, _, _, _, _ => none
  | n + 1, I, L, u1, u2, u3, u4, u5 =>
    if (I 100 2) ≤ u1 then
      some (u1, u5, I, L)
    else
      jnt (β := Unit) (fun y58 =>
        jnt (β := HI) (fun y63 =>
          jnt (β := HL) (fun y69 =>
            jnt (β := HI) (fun y75 =>
              f_X12_ahead_L204 n y75 y69 (u1 + 1) u2 u3 u4 (u5 + 1)) fun j70 =>
            if u4 ≤ u5 then
              j70 y63
            else
              if u3 = 0 then
                j70 y63
              else
                ldI (y63 101) 1800 u1 fun v71 =>
                bnd (sI y63 100 6 (((10 * (y63 100 6)) + v71) - 48)) fun I72 =>
                j70 I72) fun j64 =>
          if 8 ≤ u5 then
            j64 L
          else
            if u2 = 0 then
              j64 L
            else
              ldI (y63 101) 1800 u1 fun v65 =>
              bnd (sL L 100 7 (((L 100 7) <<< ((8 : Int32).toInt64 &&& 63)) ||| (Int32.toInt64 v65))) fun L66 =>
              j64 L66) fun j59 =>
        if u5 = u4 then
          if (I 100 12) = (-1) then
            bnd (sI I 100 12 u1) fun I60 =>
            j59 I60
          else
            j59 I
        else
          j59 I) fun j50 =>
      if u2 = 0 then
        ldI (I 101) 1800 u1 fun v51 =>
        (f_X12_isDigit v51).bind fun x52 =>
        if x52 = 0 then
          some (u1, u5, I, L)
        else
          j50 ()
      else
        ldI (I 101) 1800 u1 fun v54 =>
        (f_X12_isLetter v54).bind fun x55 =>
        if x55 = 0 then
          some (u1, u5, I, L)
        else
          j50 ()
def f_X12_ahead_L5 : Nat → HI → Int32 → Option (Int32)
  | 0, _, _ => none
  | n + 1, I, u1 =>
    if (I 100 2) ≤ u1 then
      some u1
    else
      ldI (I 101) 1800 u1 fun v1 =>
      jnt (β := Unit) (fun y6 =>
        f_X12_ahead_L5 n I (u1 + 1)) fun j2 =>
      if v1 = 32 then
        j2 ()
      else
        ldI (I 101) 1800 u1 fun v3 =>
        if v3 = 10 then
          j2 ()
        else
          some u1
def f_X12_ahead (fu : Nat) (I : HI) (L : HL) : Option (HI × HL) :=
  (f_X12_ahead_L5 fu I (I 100 5)).bind fun x8 =>
  bnd (sI I 100 4 x8) fun I9 =>
  bnd (sI I9 100 5 x8) fun I10 =>
  bnd (sI I10 100 3 0) fun I11 =>
  bnd (sI I11 100 12 (-1)) fun I12 =>
  if x8 < (I12 100 2) then
    ldI (I12 101) 1800 x8 fun v13 =>
    (f_X12_isLetter v13).bind fun x14 =>
    ldI (I12 101) 1800 x8 fun v15 =>
    (f_X12_isDigit v15).bind fun x16 =>
    jnt (β := HI) (fun y32 =>
      bnd (sI y32 100 6 0) fun I33 =>
      bnd (sL L 100 7 0) fun L34 =>
      bnd (sI I33 100 3 3) fun I35 =>
      bnd (sI I35 100 5 (x8 + 1)) fun I36 =>
      jnt (β := Unit) (fun y42 =>
        jnt (β := Int32) (fun y45 =>
          bnd (sI I36 100 3 y45) fun I46 =>
          jnt (β := Int32) (fun y49 =>
            (f_X12_ahead_L204 fu I46 L34 x8 x14 x16 y49 0).bind fun x77 =>
            bnd (sI x77.2.2.1 100 5 x77.1) fun I78 =>
            if x14 = 0 then
              some (I78, x77.2.2.2)
            else
              if 8 < x77.2.1 then
                some (I78, x77.2.2.2)
              else
                if (I78 100 12) = ((I78 100 4) + y49) then
                  (f_X12_isOwn (x77.2.2.2 100 7)).bind fun x79 =>
                  if x79 = 0 then
                    some (I78, x77.2.2.2)
                  else
                    bnd (sI I78 100 12 (-1)) fun I80 =>
                    some (I80, x77.2.2.2)
                else
                  some (I78, x77.2.2.2)) fun j47 =>
          if x14 = 0 then
            j47 4
          else
            j47 6) fun j43 =>
        if x14 = 0 then
          j43 2
        else
          j43 1) fun j37 =>
      if x14 = 0 then
        if x16 = 0 then
          ldI (I36 101) 1800 x8 fun v38 =>
          bnd (sI I36 100 6 v38) fun I39 =>
          some (I39, L34)
        else
          j37 ()
      else
        j37 ()) fun j18 =>
    jnt (β := Unit) (fun y21 =>
      if x8 ≤ 0 then
        j18 I12
      else
        ldI (I12 101) 1800 (x8 - 1) fun v22 =>
        (f_X12_isLetter v22).bind fun x23 =>
        jnt (β := Unit) (fun y29 =>
          bnd (sI I12 100 12 x8) fun I30 =>
          j18 I30) fun j24 =>
        if x23 = 0 then
          ldI (I12 101) 1800 (x8 - 1) fun v25 =>
          (f_X12_isDigit v25).bind fun x26 =>
          if x26 = 0 then
            j18 I12
          else
            j24 ()
        else
          j24 ()) fun j17 =>
    if x14 = 0 then
      if x16 = 0 then
        j18 I12
      else
        j17 ()
    else
      j17 ()
  else
    some (I12, L)
set_option maxRecDepth 20000 in
theorem lp_X12_ahead_204 (fu : Nat) (u2 : Int32) (u3 : Int32) (u4 : Int32) (R : HR) : ∀ (n : Nat) (u1 : Int32) (u5 : Int32) (I : HI) (L : HL) (N : (Int32 × Int32 × HI × HL) → Prop) (F : HF), (∀ v : Int32 × Int32 × HI × HL, N v → PW 100 147 1 RX12 cX12_ahead 6 none 334 [(0, .ref 100), (1, .int v.1), (2, .int u2), (4, .int u4), (5, .int v.2.1)] [] v.2.2.1 v.2.2.2 R F) → PWk 100 147 1 RX12 cX12_ahead 6 none 204 [(0, .ref 100), (1, .int u1), (2, .int u2), (3, .int u3), (4, .int u4), (5, .int u5)] [] I L R (f_X12_ahead_L204 n I L u1 u2 u3 u4 u5) N F := by
  intro n
  induction n with
  | zero => intro u1 u5 I L N F hx; exact PWk.none'
  | succ n ih =>
    intro u1 u5 I L N F hx
    unfold f_X12_ahead_L204
    refine PWk.iload_n 1 dX12_ahead_204 rfl ?_
    refine PWk.aload_n 0 dX12_ahead_205 rfl ?_
    refine PWk.geti dX12_ahead_206 rg_100 lc_100 fl_X12_17 rfl ?_
    refine PWk.icmp_ge 334 dX12_ahead_209 (by decide) (fun h76 => ?_) (fun h76 => ?_)
    · refine PWk.sub [0, 1, 2, 4, 5] rfl ?_
      exact PWk.done (fun h => hx _ h)
    · refine PWk.iload_n 2 dX12_ahead_212 rfl ?_
      refine PWk.jn (pc' := 243) (lv' := fun y58 => [(0, .ref 100), (1, .int u1), (2, .int u2), (3, .int u3), (4, .int u4), (5, .int u5)]) (st' := fun y58 => []) (I' := fun y58 => I) (L' := fun y58 => L) (R' := fun y58 => R) (fun j50 hj50 => ?_) (fun y58 => ?_)
      · refine PWk.if_eq 231 dX12_ahead_213 (by decide) (fun h57 => ?_) (fun h57 => ?_)
        · refine PWk.aload_n 0 dX12_ahead_231 rfl ?_
          refine PWk.gets dX12_ahead_232 rg_100 lc_100 fl_X12_7 rfl st_100_0 ?_
          refine PWk.iload_n 1 dX12_ahead_235 rfl ?_
          refine PWk.iald dX12_ahead_236 rg_101 ly_101 (fun v51 => ?_)
          refine PWk.callSi (pc_X12_isDigit I L R v51) dX12_ahead_237 ml_X12_245 rfl (by decide) rfl (Nat.le_of_ble_eq_true rfl) (fun x52 => ?_)
          refine PWk.if_eq 334 dX12_ahead_240 (by decide) (fun h53 => ?_) (fun h53 => ?_)
          · refine PWk.sub [0, 1, 2, 4, 5] rfl ?_
            exact PWk.done (fun h => hx _ h)
          · exact hj50 ()
        · refine PWk.aload_n 0 dX12_ahead_216 rfl ?_
          refine PWk.gets dX12_ahead_217 rg_100 lc_100 fl_X12_7 rfl st_100_0 ?_
          refine PWk.iload_n 1 dX12_ahead_220 rfl ?_
          refine PWk.iald dX12_ahead_221 rg_101 ly_101 (fun v54 => ?_)
          refine PWk.callSi (pc_X12_isLetter I L R v54) dX12_ahead_222 ml_X12_241 rfl (by decide) rfl (Nat.le_of_ble_eq_true rfl) (fun x55 => ?_)
          refine PWk.if_eq 334 dX12_ahead_225 (by decide) (fun h56 => ?_) (fun h56 => ?_)
          · refine PWk.sub [0, 1, 2, 4, 5] rfl ?_
            exact PWk.done (fun h => hx _ h)
          · refine PWk.goto 243 dX12_ahead_228 (by decide) ?_
            exact hj50 ()
      · refine PWk.iload 5 dX12_ahead_243 rfl ?_
        refine PWk.iload 4 dX12_ahead_245 rfl ?_
        refine PWk.jn (pc' := 263) (lv' := fun y63 => [(0, .ref 100), (1, .int u1), (2, .int u2), (3, .int u3), (4, .int u4), (5, .int u5)]) (st' := fun y63 => []) (I' := fun y63 => y63) (L' := fun y63 => L) (R' := fun y63 => R) (fun j59 hj59 => ?_) (fun y63 => ?_)
        · refine PWk.icmp_ne 263 dX12_ahead_247 (by decide) (fun h62 => ?_) (fun h62 => ?_)
          · refine PWk.aload_n 0 dX12_ahead_250 rfl ?_
            refine PWk.geti dX12_ahead_251 rg_100 lc_100 fl_X12_48 rfl ?_
            refine PWk.iconst (v := (-1)) dX12_ahead_254 ic_m1 ?_
            refine PWk.icmp_ne 263 dX12_ahead_255 (by decide) (fun h61 => ?_) (fun h61 => ?_)
            · refine PWk.aload_n 0 dX12_ahead_258 rfl ?_
              refine PWk.iload_n 1 dX12_ahead_259 rfl ?_
              refine PWk.puti dX12_ahead_260 rg_100 lc_100 fl_X12_48 fp_12_12 rfl ?_
              refine PWk.bI (fun I60 => ?_)
              exact hj59 I60
            · exact hj59 I
          · exact hj59 I
        · refine PWk.iload 5 dX12_ahead_263 rfl ?_
          refine PWk.bipush (v := 8) dX12_ahead_265 bp_8 ?_
          refine PWk.jn (pc' := 293) (lv' := fun y69 => [(0, .ref 100), (1, .int u1), (2, .int u2), (3, .int u3), (4, .int u4), (5, .int u5)]) (st' := fun y69 => []) (I' := fun y69 => y63) (L' := fun y69 => y69) (R' := fun y69 => R) (fun j64 hj64 => ?_) (fun y69 => ?_)
          · refine PWk.icmp_ge 293 dX12_ahead_267 (by decide) (fun h68 => ?_) (fun h68 => ?_)
            · exact hj64 L
            · refine PWk.iload_n 2 dX12_ahead_270 rfl ?_
              refine PWk.if_eq 293 dX12_ahead_271 (by decide) (fun h67 => ?_) (fun h67 => ?_)
              · exact hj64 L
              · refine PWk.aload_n 0 dX12_ahead_274 rfl ?_
                refine PWk.aload_n 0 dX12_ahead_275 rfl ?_
                refine PWk.getl dX12_ahead_276 rg_100 lc_100 fl_X12_32 rfl ?_
                refine PWk.bipush (v := 8) dX12_ahead_279 bp_8 ?_
                refine PWk.lshl dX12_ahead_281 ?_
                refine PWk.aload_n 0 dX12_ahead_282 rfl ?_
                refine PWk.gets dX12_ahead_283 rg_100 lc_100 fl_X12_7 rfl st_100_0 ?_
                refine PWk.iload_n 1 dX12_ahead_286 rfl ?_
                refine PWk.iald dX12_ahead_287 rg_101 ly_101 (fun v65 => ?_)
                refine PWk.i2l dX12_ahead_288 ?_
                refine PWk.lor dX12_ahead_289 ?_
                refine PWk.putl dX12_ahead_290 rg_100 lc_100 fl_X12_32 fp_12_7 rfl ?_
                refine PWk.bL (fun L66 => ?_)
                exact hj64 L66
          · refine PWk.iload 5 dX12_ahead_293 rfl ?_
            refine PWk.iload 4 dX12_ahead_295 rfl ?_
            refine PWk.jn (pc' := 325) (lv' := fun y75 => [(0, .ref 100), (1, .int u1), (2, .int u2), (3, .int u3), (4, .int u4), (5, .int u5)]) (st' := fun y75 => []) (I' := fun y75 => y75) (L' := fun y75 => y69) (R' := fun y75 => R) (fun j70 hj70 => ?_) (fun y75 => ?_)
            · refine PWk.icmp_ge 325 dX12_ahead_297 (by decide) (fun h74 => ?_) (fun h74 => ?_)
              · exact hj70 y63
              · refine PWk.iload_n 3 dX12_ahead_300 rfl ?_
                refine PWk.if_eq 325 dX12_ahead_301 (by decide) (fun h73 => ?_) (fun h73 => ?_)
                · exact hj70 y63
                · refine PWk.aload_n 0 dX12_ahead_304 rfl ?_
                  refine PWk.bipush (v := 10) dX12_ahead_305 bp_10 ?_
                  refine PWk.aload_n 0 dX12_ahead_307 rfl ?_
                  refine PWk.geti dX12_ahead_308 rg_100 lc_100 fl_X12_29 rfl ?_
                  refine PWk.imul dX12_ahead_311 ?_
                  refine PWk.aload_n 0 dX12_ahead_312 rfl ?_
                  refine PWk.gets dX12_ahead_313 rg_100 lc_100 fl_X12_7 rfl st_100_0 ?_
                  refine PWk.iload_n 1 dX12_ahead_316 rfl ?_
                  refine PWk.iald dX12_ahead_317 rg_101 ly_101 (fun v71 => ?_)
                  refine PWk.iadd dX12_ahead_318 ?_
                  refine PWk.bipush (v := 48) dX12_ahead_319 bp_48 ?_
                  refine PWk.isub dX12_ahead_321 ?_
                  refine PWk.puti dX12_ahead_322 rg_100 lc_100 fl_X12_29 fp_12_6 rfl ?_
                  refine PWk.bI (fun I72 => ?_)
                  exact hj70 I72
            · refine PWk.iinc (v := (u5 + 1)) 5 [(5, .int (u5 + 1)), (0, .ref 100), (1, .int u1), (2, .int u2), (3, .int u3), (4, .int u4)] dX12_ahead_325 rfl (by rw [ic_1]) (by decide) rfl ?_
              refine PWk.iinc (v := (u1 + 1)) 2 [(1, .int (u1 + 1)), (5, .int (u5 + 1)), (0, .ref 100), (2, .int u2), (3, .int u3), (4, .int u4)] dX12_ahead_328 rfl (by rw [ic_1]) (by decide) rfl ?_
              refine PWk.goto 204 dX12_ahead_331 (by decide) ?_
              refine PWk.sub [2, 0, 3, 4, 5, 1] rfl ?_
              exact ih (u1 + 1) (u5 + 1) y75 y69 N F hx
set_option maxRecDepth 20000 in
theorem lp_X12_ahead_5 (fu : Nat) (I : HI) (L : HL) (R : HR) : ∀ (n : Nat) (u1 : Int32) (N : (Int32) → Prop) (F : HF), (∀ v : Int32, N v → PW 100 147 1 RX12 cX12_ahead 6 none 41 [(0, .ref 100), (1, .int v)] [] I L R F) → PWk 100 147 1 RX12 cX12_ahead 6 none 5 [(0, .ref 100), (1, .int u1)] [] I L R (f_X12_ahead_L5 n I u1) N F := by
  intro n
  induction n with
  | zero => intro u1 N F hx; exact PWk.none'
  | succ n ih =>
    intro u1 N F hx
    unfold f_X12_ahead_L5
    refine PWk.iload_n 1 dX12_ahead_5 rfl ?_
    refine PWk.aload_n 0 dX12_ahead_6 rfl ?_
    refine PWk.geti dX12_ahead_7 rg_100 lc_100 fl_X12_17 rfl ?_
    refine PWk.icmp_ge 41 dX12_ahead_10 (by decide) (fun h7 => ?_) (fun h7 => ?_)
    · exact PWk.done (fun h => hx _ h)
    · refine PWk.aload_n 0 dX12_ahead_13 rfl ?_
      refine PWk.gets dX12_ahead_14 rg_100 lc_100 fl_X12_7 rfl st_100_0 ?_
      refine PWk.iload_n 1 dX12_ahead_17 rfl ?_
      refine PWk.iald dX12_ahead_18 rg_101 ly_101 (fun v1 => ?_)
      refine PWk.bipush (v := 32) dX12_ahead_19 bp_32 ?_
      refine PWk.jn (pc' := 35) (lv' := fun y6 => [(0, .ref 100), (1, .int u1)]) (st' := fun y6 => []) (I' := fun y6 => I) (L' := fun y6 => L) (R' := fun y6 => R) (fun j2 hj2 => ?_) (fun y6 => ?_)
      · refine PWk.icmp_eq 35 dX12_ahead_21 (by decide) (fun h5 => ?_) (fun h5 => ?_)
        · exact hj2 ()
        · refine PWk.aload_n 0 dX12_ahead_24 rfl ?_
          refine PWk.gets dX12_ahead_25 rg_100 lc_100 fl_X12_7 rfl st_100_0 ?_
          refine PWk.iload_n 1 dX12_ahead_28 rfl ?_
          refine PWk.iald dX12_ahead_29 rg_101 ly_101 (fun v3 => ?_)
          refine PWk.bipush (v := 10) dX12_ahead_30 bp_10 ?_
          refine PWk.icmp_ne 41 dX12_ahead_32 (by decide) (fun h4 => ?_) (fun h4 => ?_)
          · exact hj2 ()
          · exact PWk.done (fun h => hx _ h)
      · refine PWk.iinc (v := (u1 + 1)) 1 [(1, .int (u1 + 1)), (0, .ref 100)] dX12_ahead_35 rfl (by rw [ic_1]) (by decide) rfl ?_
        refine PWk.goto 5 dX12_ahead_38 (by decide) ?_
        refine PWk.sub [1, 0] rfl ?_
        exact ih (u1 + 1) N F hx
set_option maxRecDepth 20000 in
theorem pc_X12_ahead (fu : Nat) (I : HI) (L : HL) (R : HR) : PCo 100 147 1 yX12_ahead cX12_ahead 6 none [.ref 100] I L R (f_X12_ahead fu I L) (fun x : HI × HL => ((none, x.1, x.2, R) : HF)) := by
  refine PCo.of (own := RX12) (by decide +kernel) (Nat.le_of_ble_eq_true rfl) rfl rfl (fun F => ?_)
  unfold f_X12_ahead
  refine PWk.aload_n 0 dX12_ahead_0 rfl ?_
  refine PWk.geti dX12_ahead_1 rg_100 lc_100 fl_X12_26 rfl ?_
  refine PWk.istore_n [(1, .int (I 100 5)), (0, .ref 100)] dX12_ahead_4 (by decide) rfl ?_
  refine PWk.sub [1, 0] rfl ?_
  refine PWk.loopV (fun N' hx' => lp_X12_ahead_5 fu I L R fu (I 100 5) N' F hx') (fun x8 => ?_)
  refine PWk.aload_n 0 dX12_ahead_41 rfl ?_
  refine PWk.iload_n 1 dX12_ahead_42 rfl ?_
  refine PWk.puti dX12_ahead_43 rg_100 lc_100 fl_X12_23 fp_12_4 rfl ?_
  refine PWk.bI (fun I9 => ?_)
  refine PWk.aload_n 0 dX12_ahead_46 rfl ?_
  refine PWk.iload_n 1 dX12_ahead_47 rfl ?_
  refine PWk.puti dX12_ahead_48 rg_100 lc_100 fl_X12_26 fp_12_5 rfl ?_
  refine PWk.bI (fun I10 => ?_)
  refine PWk.aload_n 0 dX12_ahead_51 rfl ?_
  refine PWk.iconst (v := 0) dX12_ahead_52 ic_0 ?_
  refine PWk.puti dX12_ahead_53 rg_100 lc_100 fl_X12_20 fp_12_3 rfl ?_
  refine PWk.bI (fun I11 => ?_)
  refine PWk.aload_n 0 dX12_ahead_56 rfl ?_
  refine PWk.iconst (v := (-1)) dX12_ahead_57 ic_m1 ?_
  refine PWk.puti dX12_ahead_58 rg_100 lc_100 fl_X12_48 fp_12_12 rfl ?_
  refine PWk.bI (fun I12 => ?_)
  refine PWk.iload_n 1 dX12_ahead_61 rfl ?_
  refine PWk.aload_n 0 dX12_ahead_62 rfl ?_
  refine PWk.geti dX12_ahead_63 rg_100 lc_100 fl_X12_17 rfl ?_
  refine PWk.icmp_lt 70 dX12_ahead_66 (by decide) (fun h85 => ?_) (fun h85 => ?_)
  · refine PWk.aload_n 0 dX12_ahead_70 rfl ?_
    refine PWk.gets dX12_ahead_71 rg_100 lc_100 fl_X12_7 rfl st_100_0 ?_
    refine PWk.iload_n 1 dX12_ahead_74 rfl ?_
    refine PWk.iald dX12_ahead_75 rg_101 ly_101 (fun v13 => ?_)
    refine PWk.callSi (pc_X12_isLetter I12 L R v13) dX12_ahead_76 ml_X12_241 rfl (by decide) rfl (Nat.le_of_ble_eq_true rfl) (fun x14 => ?_)
    refine PWk.istore_n [(2, .int x14), (0, .ref 100), (1, .int x8)] dX12_ahead_79 (by decide) rfl ?_
    refine PWk.aload_n 1 dX12_ahead_80 rfl ?_
    refine PWk.gets dX12_ahead_81 rg_100 lc_100 fl_X12_7 rfl st_100_0 ?_
    refine PWk.iload_n 2 dX12_ahead_84 rfl ?_
    refine PWk.iald dX12_ahead_85 rg_101 ly_101 (fun v15 => ?_)
    refine PWk.callSi (pc_X12_isDigit I12 L R v15) dX12_ahead_86 ml_X12_245 rfl (by decide) rfl (Nat.le_of_ble_eq_true rfl) (fun x16 => ?_)
    refine PWk.istore_n [(3, .int x16), (2, .int x14), (0, .ref 100), (1, .int x8)] dX12_ahead_89 (by decide) rfl ?_
    refine PWk.iload_n 1 dX12_ahead_90 rfl ?_
    refine PWk.jn (pc' := 135) (lv' := fun y32 => [(0, .ref 100), (1, .int x8), (2, .int x14), (3, .int x16)]) (st' := fun y32 => []) (I' := fun y32 => y32) (L' := fun y32 => L) (R' := fun y32 => R) (fun j18 hj18 => ?_) (fun y32 => ?_)
    · refine PWk.jn (pc' := 98) (lv' := fun y21 => [(0, .ref 100), (1, .int x8), (2, .int x14), (3, .int x16)]) (st' := fun y21 => []) (I' := fun y21 => I12) (L' := fun y21 => L) (R' := fun y21 => R) (fun j17 hj17 => ?_) (fun y21 => ?_)
      · refine PWk.if_ne 98 dX12_ahead_91 (by decide) (fun h20 => ?_) (fun h20 => ?_)
        · refine PWk.iload_n 0 dX12_ahead_94 rfl ?_
          refine PWk.if_eq 135 dX12_ahead_95 (by decide) (fun h19 => ?_) (fun h19 => ?_)
          · refine PWk.sub [2, 3, 1, 0] rfl ?_
            exact hj18 I12
          · refine PWk.sub [2, 3, 1, 0] rfl ?_
            exact hj17 ()
        · refine PWk.sub [2, 3, 1, 0] rfl ?_
          exact hj17 ()
      · refine PWk.iload_n 1 dX12_ahead_98 rfl ?_
        refine PWk.if_le 135 dX12_ahead_99 (by decide) (fun h31 => ?_) (fun h31 => ?_)
        · exact hj18 I12
        · refine PWk.aload_n 0 dX12_ahead_102 rfl ?_
          refine PWk.gets dX12_ahead_103 rg_100 lc_100 fl_X12_7 rfl st_100_0 ?_
          refine PWk.iload_n 1 dX12_ahead_106 rfl ?_
          refine PWk.iconst (v := 1) dX12_ahead_107 ic_1 ?_
          refine PWk.isub dX12_ahead_108 ?_
          refine PWk.iald dX12_ahead_109 rg_101 ly_101 (fun v22 => ?_)
          refine PWk.callSi (pc_X12_isLetter I12 L R v22) dX12_ahead_110 ml_X12_241 rfl (by decide) rfl (Nat.le_of_ble_eq_true rfl) (fun x23 => ?_)
          refine PWk.jn (pc' := 130) (lv' := fun y29 => [(0, .ref 100), (1, .int x8), (2, .int x14), (3, .int x16)]) (st' := fun y29 => []) (I' := fun y29 => I12) (L' := fun y29 => L) (R' := fun y29 => R) (fun j24 hj24 => ?_) (fun y29 => ?_)
          · refine PWk.if_ne 130 dX12_ahead_113 (by decide) (fun h28 => ?_) (fun h28 => ?_)
            · refine PWk.aload_n 0 dX12_ahead_116 rfl ?_
              refine PWk.gets dX12_ahead_117 rg_100 lc_100 fl_X12_7 rfl st_100_0 ?_
              refine PWk.iload_n 1 dX12_ahead_120 rfl ?_
              refine PWk.iconst (v := 1) dX12_ahead_121 ic_1 ?_
              refine PWk.isub dX12_ahead_122 ?_
              refine PWk.iald dX12_ahead_123 rg_101 ly_101 (fun v25 => ?_)
              refine PWk.callSi (pc_X12_isDigit I12 L R v25) dX12_ahead_124 ml_X12_245 rfl (by decide) rfl (Nat.le_of_ble_eq_true rfl) (fun x26 => ?_)
              refine PWk.if_eq 135 dX12_ahead_127 (by decide) (fun h27 => ?_) (fun h27 => ?_)
              · exact hj18 I12
              · exact hj24 ()
            · exact hj24 ()
          · refine PWk.aload_n 0 dX12_ahead_130 rfl ?_
            refine PWk.iload_n 1 dX12_ahead_131 rfl ?_
            refine PWk.puti dX12_ahead_132 rg_100 lc_100 fl_X12_48 fp_12_12 rfl ?_
            refine PWk.bI (fun I30 => ?_)
            exact hj18 I30
    · refine PWk.aload_n 0 dX12_ahead_135 rfl ?_
      refine PWk.iconst (v := 0) dX12_ahead_136 ic_0 ?_
      refine PWk.puti dX12_ahead_137 rg_100 lc_100 fl_X12_29 fp_12_6 rfl ?_
      refine PWk.bI (fun I33 => ?_)
      refine PWk.aload_n 0 dX12_ahead_140 rfl ?_
      refine PWk.lconst (v := 0) dX12_ahead_141 rfl ?_
      refine PWk.putl dX12_ahead_142 rg_100 lc_100 fl_X12_32 fp_12_7 rfl ?_
      refine PWk.bL (fun L34 => ?_)
      refine PWk.aload_n 0 dX12_ahead_145 rfl ?_
      refine PWk.iconst (v := 3) dX12_ahead_146 ic_3 ?_
      refine PWk.puti dX12_ahead_147 rg_100 lc_100 fl_X12_20 fp_12_3 rfl ?_
      refine PWk.bI (fun I35 => ?_)
      refine PWk.aload_n 0 dX12_ahead_150 rfl ?_
      refine PWk.iload_n 1 dX12_ahead_151 rfl ?_
      refine PWk.iconst (v := 1) dX12_ahead_152 ic_1 ?_
      refine PWk.iadd dX12_ahead_153 ?_
      refine PWk.puti dX12_ahead_154 rg_100 lc_100 fl_X12_26 fp_12_5 rfl ?_
      refine PWk.bI (fun I36 => ?_)
      refine PWk.iload_n 2 dX12_ahead_157 rfl ?_
      refine PWk.jn (pc' := 176) (lv' := fun y42 => [(0, .ref 100), (1, .int x8), (2, .int x14), (3, .int x16)]) (st' := fun y42 => []) (I' := fun y42 => I36) (L' := fun y42 => L34) (R' := fun y42 => R) (fun j37 hj37 => ?_) (fun y42 => ?_)
      · refine PWk.if_ne 176 dX12_ahead_158 (by decide) (fun h41 => ?_) (fun h41 => ?_)
        · refine PWk.iload_n 3 dX12_ahead_161 rfl ?_
          refine PWk.if_ne 176 dX12_ahead_162 (by decide) (fun h40 => ?_) (fun h40 => ?_)
          · refine PWk.aload_n 0 dX12_ahead_165 rfl ?_
            refine PWk.aload_n 0 dX12_ahead_166 rfl ?_
            refine PWk.gets dX12_ahead_167 rg_100 lc_100 fl_X12_7 rfl st_100_0 ?_
            refine PWk.iload_n 1 dX12_ahead_170 rfl ?_
            refine PWk.iald dX12_ahead_171 rg_101 ly_101 (fun v38 => ?_)
            refine PWk.puti dX12_ahead_172 rg_100 lc_100 fl_X12_29 fp_12_6 rfl ?_
            refine PWk.bI (fun I39 => ?_)
            exact PWk.vret dX12_ahead_175 rfl (fun h => h)
          · exact hj37 ()
        · exact hj37 ()
      · refine PWk.aload_n 0 dX12_ahead_176 rfl ?_
        refine PWk.iload_n 2 dX12_ahead_177 rfl ?_
        refine PWk.jn (pc' := 186) (lv' := fun y45 => [(0, .ref 100), (1, .int x8), (2, .int x14), (3, .int x16)]) (st' := fun y45 => [.int y45, .ref 100]) (I' := fun y45 => I36) (L' := fun y45 => L34) (R' := fun y45 => R) (fun j43 hj43 => ?_) (fun y45 => ?_)
        · refine PWk.if_eq 185 dX12_ahead_178 (by decide) (fun h44 => ?_) (fun h44 => ?_)
          · refine PWk.iconst (v := 2) dX12_ahead_185 ic_2 ?_
            exact hj43 2
          · refine PWk.iconst (v := 1) dX12_ahead_181 ic_1 ?_
            refine PWk.goto 186 dX12_ahead_182 (by decide) ?_
            exact hj43 1
        · refine PWk.puti dX12_ahead_186 rg_100 lc_100 fl_X12_20 fp_12_3 rfl ?_
          refine PWk.bI (fun I46 => ?_)
          refine PWk.iload_n 2 dX12_ahead_189 rfl ?_
          refine PWk.jn (pc' := 199) (lv' := fun y49 => [(0, .ref 100), (1, .int x8), (2, .int x14), (3, .int x16)]) (st' := fun y49 => [.int y49]) (I' := fun y49 => I46) (L' := fun y49 => L34) (R' := fun y49 => R) (fun j47 hj47 => ?_) (fun y49 => ?_)
          · refine PWk.if_eq 198 dX12_ahead_190 (by decide) (fun h48 => ?_) (fun h48 => ?_)
            · refine PWk.iconst (v := 4) dX12_ahead_198 ic_4 ?_
              exact hj47 4
            · refine PWk.bipush (v := 6) dX12_ahead_193 bp_6 ?_
              refine PWk.goto 199 dX12_ahead_195 (by decide) ?_
              exact hj47 6
          · refine PWk.istore [(4, .int y49), (0, .ref 100), (1, .int x8), (2, .int x14), (3, .int x16)] dX12_ahead_199 (by decide) rfl ?_
            refine PWk.iconst (v := 0) dX12_ahead_201 ic_0 ?_
            refine PWk.istore [(5, .int 0), (4, .int y49), (0, .ref 100), (1, .int x8), (2, .int x14), (3, .int x16)] dX12_ahead_202 (by decide) rfl ?_
            refine PWk.sub [2, 3, 4, 5, 1, 0] rfl ?_
            refine PWk.loopV (fun N' hx' => lp_X12_ahead_204 fu x14 x16 y49 R fu x8 0 I46 L34 N' F hx') (fun x77 => ?_)
            refine PWk.aload_n 0 dX12_ahead_334 rfl ?_
            refine PWk.iload_n 1 dX12_ahead_335 rfl ?_
            refine PWk.puti dX12_ahead_336 rg_100 lc_100 fl_X12_26 fp_12_5 rfl ?_
            refine PWk.bI (fun I78 => ?_)
            refine PWk.iload_n 2 dX12_ahead_339 rfl ?_
            refine PWk.if_eq 380 dX12_ahead_340 (by decide) (fun h84 => ?_) (fun h84 => ?_)
            · exact PWk.vret dX12_ahead_380 rfl (fun h => h)
            · refine PWk.iload 4 dX12_ahead_343 rfl ?_
              refine PWk.bipush (v := 8) dX12_ahead_345 bp_8 ?_
              refine PWk.icmp_gt 380 dX12_ahead_347 (by decide) (fun h83 => ?_) (fun h83 => ?_)
              · exact PWk.vret dX12_ahead_380 rfl (fun h => h)
              · refine PWk.aload_n 0 dX12_ahead_350 rfl ?_
                refine PWk.geti dX12_ahead_351 rg_100 lc_100 fl_X12_48 rfl ?_
                refine PWk.aload_n 0 dX12_ahead_354 rfl ?_
                refine PWk.geti dX12_ahead_355 rg_100 lc_100 fl_X12_23 rfl ?_
                refine PWk.iload 3 dX12_ahead_358 rfl ?_
                refine PWk.iadd dX12_ahead_360 ?_
                refine PWk.icmp_ne 380 dX12_ahead_361 (by decide) (fun h82 => ?_) (fun h82 => ?_)
                · refine PWk.aload_n 0 dX12_ahead_364 rfl ?_
                  refine PWk.aload_n 0 dX12_ahead_365 rfl ?_
                  refine PWk.getl dX12_ahead_366 rg_100 lc_100 fl_X12_32 rfl ?_
                  refine PWk.callVi (pc_X12_isOwn I78 x77.2.2.2 R (x77.2.2.2 100 7)) dX12_ahead_369 ml_X12_248 rfl rg_100 lc_100 vq_12 (by decide) rfl (Nat.le_of_ble_eq_true rfl) (fun x79 => ?_)
                  refine PWk.if_eq 380 dX12_ahead_372 (by decide) (fun h81 => ?_) (fun h81 => ?_)
                  · exact PWk.vret dX12_ahead_380 rfl (fun h => h)
                  · refine PWk.aload_n 0 dX12_ahead_375 rfl ?_
                    refine PWk.iconst (v := (-1)) dX12_ahead_376 ic_m1 ?_
                    refine PWk.puti dX12_ahead_377 rg_100 lc_100 fl_X12_48 fp_12_12 rfl ?_
                    refine PWk.bI (fun I80 => ?_)
                    exact PWk.vret dX12_ahead_380 rfl (fun h => h)
                · exact PWk.vret dX12_ahead_380 rfl (fun h => h)
  · exact PWk.vret dX12_ahead_69 rfl (fun h => h)
/-! LakeMarketModel.must(I)V -/
def f_X12_must (fu : Nat) (I : HI) (L : HL) (p1 : Int32) : Option (HI × HL) :=
  (f_X12_lex I).bind fun x1 =>
  (f_X12_isSign x1 p1).bind fun x2 =>
  jnt (β := HI) (fun y6 =>
    if (y6 100 8) = 0 then
      (f_X12_ahead fu y6 L).bind fun x7 =>
      some (x7.1, x7.2)
    else
      some (y6, L)) fun j3 =>
  if x2 = 0 then
    (f_X12_blame x1 1 (x1 100 4)).bind fun x4 =>
    j3 x4
  else
    j3 x1
set_option maxRecDepth 20000 in
theorem pc_X12_must (fu : Nat) (I : HI) (L : HL) (R : HR) (p1 : Int32) : PCo 100 147 2 yX12_must cX12_must 2 none [.ref 100, .int p1] I L R (f_X12_must fu I L p1) (fun x : HI × HL => ((none, x.1, x.2, R) : HF)) := by
  refine PCo.of (own := RX12) (by decide +kernel) (Nat.le_of_ble_eq_true rfl) rfl rfl (fun F => ?_)
  unfold f_X12_must
  refine PWk.aload_n 0 dX12_must_0 rfl ?_
  refine PWk.callVvI (pc_X12_lex I L R) dX12_must_1 ml_X12_252 rfl rg_100 lc_100 vq_12 (by decide) rfl (Nat.le_of_ble_eq_true rfl) (fun x1 => ?_)
  refine PWk.aload_n 0 dX12_must_4 rfl ?_
  refine PWk.iload_n 1 dX12_must_5 rfl ?_
  refine PWk.callVi (pc_X12_isSign x1 L R p1) dX12_must_6 ml_X12_255 rfl rg_100 lc_100 vq_12 (by decide) rfl (Nat.le_of_ble_eq_true rfl) (fun x2 => ?_)
  refine PWk.jn (pc' := 21) (lv' := fun y6 => [(0, .ref 100)]) (st' := fun y6 => []) (I' := fun y6 => y6) (L' := fun y6 => L) (R' := fun y6 => R) (fun j3 hj3 => ?_) (fun y6 => ?_)
  · refine PWk.if_ne 21 dX12_must_9 (by decide) (fun h5 => ?_) (fun h5 => ?_)
    · refine PWk.aload_n 0 dX12_must_12 rfl ?_
      refine PWk.iconst (v := 1) dX12_must_13 ic_1 ?_
      refine PWk.aload_n 0 dX12_must_14 rfl ?_
      refine PWk.geti dX12_must_15 rg_100 lc_100 fl_X12_23 rfl ?_
      refine PWk.callVvI (pc_X12_blame x1 L R 1 (x1 100 4)) dX12_must_18 ml_X12_237 rfl rg_100 lc_100 vq_12 (by decide) rfl (Nat.le_of_ble_eq_true rfl) (fun x4 => ?_)
      refine PWk.sub [0] rfl ?_
      exact hj3 x4
    · refine PWk.sub [0] rfl ?_
      exact hj3 x1
  · refine PWk.aload_n 0 dX12_must_21 rfl ?_
    refine PWk.geti dX12_must_22 rg_100 lc_100 fl_X12_36 rfl ?_
    refine PWk.if_ne 32 dX12_must_25 (by decide) (fun h8 => ?_) (fun h8 => ?_)
    · refine PWk.aload_n 0 dX12_must_28 rfl ?_
      refine PWk.callVvIL (pc_X12_ahead fu y6 L R) dX12_must_29 ml_X12_258 rfl rg_100 lc_100 vq_12 (by decide) rfl (Nat.le_of_ble_eq_true rfl) (fun x7 => ?_)
      exact PWk.vret dX12_must_32 rfl (fun h => h)
    · exact PWk.vret dX12_must_32 rfl (fun h => h)
/-! LakeMarketModel.number(II)I -/
def f_X12_number (fu : Nat) (I : HI) (L : HL) (p1 : Int32) (p2 : Int32) : Option (Int32 × HI × HL) :=
  (f_X12_lex I).bind fun x1 =>
  if (x1 100 8) ≤ 0 then
    jnt (β := HI) (fun y5 =>
      jnt (β := HI) (fun y11 =>
        bnd ((y11 100 6)) fun v12 =>
        if (y11 100 8) = 0 then
          (f_X12_ahead fu y11 L).bind fun x13 =>
          some (v12, x13.1, x13.2)
        else
          some (v12, y11, L)) fun j6 =>
      if (y5 100 8) = 0 then
        (f_X12_is (y5 100 6) p1 p2).bind fun x7 =>
        if x7 = 0 then
          (f_X12_blame y5 4 (y5 100 4)).bind fun x8 =>
          j6 x8
        else
          j6 y5
      else
        j6 y5) fun j2 =>
    if (x1 100 3) = 2 then
      j2 x1
    else
      (f_X12_blame x1 1 (x1 100 4)).bind fun x3 =>
      j2 x3
  else
    some (0, x1, L)
set_option maxRecDepth 20000 in
theorem pc_X12_number (fu : Nat) (I : HI) (L : HL) (R : HR) (p1 : Int32) (p2 : Int32) : PCo 100 147 2 yX12_number cX12_number 4 (some .int) [.ref 100, .int p1, .int p2] I L R (f_X12_number fu I L p1 p2) (fun x : Int32 × HI × HL => ((some (.int x.1), x.2.1, x.2.2, R) : HF)) := by
  refine PCo.of (own := RX12) (by decide +kernel) (Nat.le_of_ble_eq_true rfl) rfl rfl (fun F => ?_)
  unfold f_X12_number
  refine PWk.aload_n 0 dX12_number_0 rfl ?_
  refine PWk.callVvI (pc_X12_lex I L R) dX12_number_1 ml_X12_252 rfl rg_100 lc_100 vq_12 (by decide) rfl (Nat.le_of_ble_eq_true rfl) (fun x1 => ?_)
  refine PWk.aload_n 0 dX12_number_4 rfl ?_
  refine PWk.geti dX12_number_5 rg_100 lc_100 fl_X12_36 rfl ?_
  refine PWk.if_le 13 dX12_number_8 (by decide) (fun h15 => ?_) (fun h15 => ?_)
  · refine PWk.aload_n 0 dX12_number_13 rfl ?_
    refine PWk.geti dX12_number_14 rg_100 lc_100 fl_X12_20 rfl ?_
    refine PWk.iconst (v := 2) dX12_number_17 ic_2 ?_
    refine PWk.jn (pc' := 30) (lv' := fun y5 => [(0, .ref 100), (1, .int p1), (2, .int p2)]) (st' := fun y5 => []) (I' := fun y5 => y5) (L' := fun y5 => L) (R' := fun y5 => R) (fun j2 hj2 => ?_) (fun y5 => ?_)
    · refine PWk.icmp_eq 30 dX12_number_18 (by decide) (fun h4 => ?_) (fun h4 => ?_)
      · exact hj2 x1
      · refine PWk.aload_n 0 dX12_number_21 rfl ?_
        refine PWk.iconst (v := 1) dX12_number_22 ic_1 ?_
        refine PWk.aload_n 0 dX12_number_23 rfl ?_
        refine PWk.geti dX12_number_24 rg_100 lc_100 fl_X12_23 rfl ?_
        refine PWk.callVvI (pc_X12_blame x1 L R 1 (x1 100 4)) dX12_number_27 ml_X12_237 rfl rg_100 lc_100 vq_12 (by decide) rfl (Nat.le_of_ble_eq_true rfl) (fun x3 => ?_)
        exact hj2 x3
    · refine PWk.aload_n 0 dX12_number_30 rfl ?_
      refine PWk.geti dX12_number_31 rg_100 lc_100 fl_X12_36 rfl ?_
      refine PWk.jn (pc' := 58) (lv' := fun y11 => [(0, .ref 100)]) (st' := fun y11 => []) (I' := fun y11 => y11) (L' := fun y11 => L) (R' := fun y11 => R) (fun j6 hj6 => ?_) (fun y11 => ?_)
      · refine PWk.if_ne 58 dX12_number_34 (by decide) (fun h10 => ?_) (fun h10 => ?_)
        · refine PWk.aload_n 0 dX12_number_37 rfl ?_
          refine PWk.geti dX12_number_38 rg_100 lc_100 fl_X12_29 rfl ?_
          refine PWk.iload_n 1 dX12_number_41 rfl ?_
          refine PWk.iload_n 2 dX12_number_42 rfl ?_
          refine PWk.callSi (pc_X12_is y5 L R (y5 100 6) p1 p2) dX12_number_43 ml_X12_319 rfl (by decide) rfl (Nat.le_of_ble_eq_true rfl) (fun x7 => ?_)
          refine PWk.if_ne 58 dX12_number_46 (by decide) (fun h9 => ?_) (fun h9 => ?_)
          · refine PWk.aload_n 0 dX12_number_49 rfl ?_
            refine PWk.iconst (v := 4) dX12_number_50 ic_4 ?_
            refine PWk.aload_n 0 dX12_number_51 rfl ?_
            refine PWk.geti dX12_number_52 rg_100 lc_100 fl_X12_23 rfl ?_
            refine PWk.callVvI (pc_X12_blame y5 L R 4 (y5 100 4)) dX12_number_55 ml_X12_237 rfl rg_100 lc_100 vq_12 (by decide) rfl (Nat.le_of_ble_eq_true rfl) (fun x8 => ?_)
            refine PWk.sub [0] rfl ?_
            exact hj6 x8
          · refine PWk.sub [0] rfl ?_
            exact hj6 y5
        · refine PWk.sub [0] rfl ?_
          exact hj6 y5
      · refine PWk.aload_n 0 dX12_number_58 rfl ?_
        refine PWk.geti dX12_number_59 rg_100 lc_100 fl_X12_29 rfl ?_
        refine PWk.bi (fun v12 => ?_)
        refine PWk.istore_n [(3, .int v12), (0, .ref 100)] dX12_number_62 (by decide) rfl ?_
        refine PWk.aload_n 1 dX12_number_63 rfl ?_
        refine PWk.geti dX12_number_64 rg_100 lc_100 fl_X12_36 rfl ?_
        refine PWk.if_ne 74 dX12_number_67 (by decide) (fun h14 => ?_) (fun h14 => ?_)
        · refine PWk.aload_n 1 dX12_number_70 rfl ?_
          refine PWk.callVvIL (pc_X12_ahead fu y11 L R) dX12_number_71 ml_X12_258 rfl rg_100 lc_100 vq_12 (by decide) rfl (Nat.le_of_ble_eq_true rfl) (fun x13 => ?_)
          refine PWk.iload_n 0 dX12_number_74 rfl ?_
          exact PWk.iret dX12_number_75 rfl (fun h => h)
        · refine PWk.iload_n 0 dX12_number_74 rfl ?_
          exact PWk.iret dX12_number_75 rfl (fun h => h)
  · refine PWk.iconst (v := 0) dX12_number_11 ic_0 ?_
    exact PWk.iret dX12_number_12 rfl (fun h => h)
/-! LakeMarketModel.opens(I)V -/
def f_X12_opens (fu : Nat) (I : HI) (L : HL) (p1 : Int32) : Option (HI × HL) :=
  jnt (β := HI) (fun y4 =>
    if (y4 100 8) ≤ 0 then
      bnd (sI y4 100 41 ((y4 100 41) + 1)) fun I5 =>
      (f_X12_ahead fu I5 L).bind fun x6 =>
      (f_X12_pushes x6.1 p1).bind fun x7 =>
      some (x7, x6.2)
    else
      some (y4, L)) fun j1 =>
  if (I 100 41) = 7 then
    (f_X12_blame I 5 (I 100 4)).bind fun x2 =>
    j1 x2
  else
    j1 I
set_option maxRecDepth 20000 in
theorem pc_X12_opens (fu : Nat) (I : HI) (L : HL) (R : HR) (p1 : Int32) : PCo 100 147 2 yX12_opens cX12_opens 2 none [.ref 100, .int p1] I L R (f_X12_opens fu I L p1) (fun x : HI × HL => ((none, x.1, x.2, R) : HF)) := by
  refine PCo.of (own := RX12) (by decide +kernel) (Nat.le_of_ble_eq_true rfl) rfl rfl (fun F => ?_)
  unfold f_X12_opens
  refine PWk.aload_n 0 dX12_opens_0 rfl ?_
  refine PWk.geti dX12_opens_1 rg_100 lc_100 fl_X12_137 rfl ?_
  refine PWk.bipush (v := 7) dX12_opens_4 bp_7 ?_
  refine PWk.jn (pc' := 18) (lv' := fun y4 => [(0, .ref 100), (1, .int p1)]) (st' := fun y4 => []) (I' := fun y4 => y4) (L' := fun y4 => L) (R' := fun y4 => R) (fun j1 hj1 => ?_) (fun y4 => ?_)
  · refine PWk.icmp_ne 18 dX12_opens_6 (by decide) (fun h3 => ?_) (fun h3 => ?_)
    · refine PWk.aload_n 0 dX12_opens_9 rfl ?_
      refine PWk.iconst (v := 5) dX12_opens_10 ic_5 ?_
      refine PWk.aload_n 0 dX12_opens_11 rfl ?_
      refine PWk.geti dX12_opens_12 rg_100 lc_100 fl_X12_23 rfl ?_
      refine PWk.callVvI (pc_X12_blame I L R 5 (I 100 4)) dX12_opens_15 ml_X12_237 rfl rg_100 lc_100 vq_12 (by decide) rfl (Nat.le_of_ble_eq_true rfl) (fun x2 => ?_)
      exact hj1 x2
    · exact hj1 I
  · refine PWk.aload_n 0 dX12_opens_18 rfl ?_
    refine PWk.geti dX12_opens_19 rg_100 lc_100 fl_X12_36 rfl ?_
    refine PWk.if_le 26 dX12_opens_22 (by decide) (fun h8 => ?_) (fun h8 => ?_)
    · refine PWk.aload_n 0 dX12_opens_26 rfl ?_
      refine PWk.dup dX12_opens_27 rfl ?_
      refine PWk.geti dX12_opens_28 rg_100 lc_100 fl_X12_137 rfl ?_
      refine PWk.iconst (v := 1) dX12_opens_31 ic_1 ?_
      refine PWk.iadd dX12_opens_32 ?_
      refine PWk.puti dX12_opens_33 rg_100 lc_100 fl_X12_137 fp_12_41 rfl ?_
      refine PWk.bI (fun I5 => ?_)
      refine PWk.aload_n 0 dX12_opens_36 rfl ?_
      refine PWk.callVvIL (pc_X12_ahead fu I5 L R) dX12_opens_37 ml_X12_258 rfl rg_100 lc_100 vq_12 (by decide) rfl (Nat.le_of_ble_eq_true rfl) (fun x6 => ?_)
      refine PWk.aload_n 0 dX12_opens_40 rfl ?_
      refine PWk.iload_n 1 dX12_opens_41 rfl ?_
      refine PWk.callVvI (pc_X12_pushes x6.1 x6.2 R p1) dX12_opens_42 ml_X12_329 rfl rg_100 lc_100 vq_12 (by decide) rfl (Nat.le_of_ble_eq_true rfl) (fun x7 => ?_)
      exact PWk.vret dX12_opens_45 rfl (fun h => h)
    · exact PWk.vret dX12_opens_25 rfl (fun h => h)
/-! LakeMarketModel.operand()Z -/
def f_X12_operand (fu : Nat) (I : HI) (L : HL) : Option (Int32 × HI × HL) :=
  (f_X12_lex I).bind fun x1 =>
  if (x1 100 8) ≤ 0 then
    bnd (((x1 100 40) - 1)) fun v2 =>
    ldI (x1 120) 20 v2 fun v3 =>
    (f_X12_isTest v3).bind fun x4 =>
    jnt (β := Int32) (fun y11 =>
      jnt (β := Unit) (fun y24 =>
        inb 20 v2 <|
        bnd (sI x1 122 (v2 : Int32).toNatClampNeg (nz 0)) fun I25 =>
        jnt (β := Unit) (fun y31 =>
          jnt (β := Unit) (fun y39 =>
            (f_X12_isSign I25 40).bind fun x40 =>
            if x40 = 0 then
              (f_X12_isWord I25 L 7170414).bind fun x41 =>
              jnt (β := Unit) (fun y74 =>
                (f_X12_isWord I25 L 7170414).bind fun x75 =>
                jnt (β := Int32) (fun y80 =>
                  (f_X12_ahead fu I25 L).bind fun x81 =>
                  (f_X12_lex x81.1).bind fun x82 =>
                  (f_X12_isSign x82 40).bind fun x83 =>
                  jnt (β := HI) (fun y87 =>
                    jnt (β := Int32) (fun y90 =>
                      (f_X12_opens fu y87 x81.2 y90).bind fun x91 =>
                      if (x91.1 100 8) = 0 then
                        inb 20 ((x91.1 100 40) - 1) <|
                        bnd (sI x91.1 123 (((x91.1 100 40) - 1) : Int32).toNatClampNeg y80) fun I92 =>
                        gz 0 (some (0, I92, x91.2))
                      else
                        gz 0 (some (0, x91.1, x91.2))) fun j88 =>
                    if y80 = 44 then
                      j88 6
                    else
                      j88 3) fun j84 =>
                  if x83 = 0 then
                    (f_X12_blame x82 1 (x82 100 4)).bind fun x85 =>
                    j84 x85
                  else
                    j84 x82) fun j76 =>
                if x75 = 0 then
                  (f_X12_isWord I25 L 7168376).bind fun x77 =>
                  if x77 = 0 then
                    j76 44
                  else
                    j76 37
                else
                  j76 36) fun j42 =>
              if x41 = 0 then
                (f_X12_isWord I25 L 7168376).bind fun x43 =>
                if x43 = 0 then
                  (f_X12_isWord I25 L 26982).bind fun x44 =>
                  if x44 = 0 then
                    jnt (β := Int32) (fun y59 =>
                      jnt (β := Int32) (fun y63 =>
                        jnt (β := HI) (fun y67 =>
                          if (y67 100 8) ≤ 0 then
                            (f_X12_add y67 y63 (y67 100 6)).bind fun x68 =>
                            (f_X12_ahead fu x68 L).bind fun x69 =>
                            gz 1 (some (1, x69.1, x69.2))
                          else
                            gz 1 (some (1, y67, L))) fun j64 =>
                        if y63 = (-1) then
                          (f_X12_blame I25 1 (I25 100 4)).bind fun x65 =>
                          j64 x65
                        else
                          j64 I25) fun j60 =>
                      if y59 ≤ 0 then
                        j60 y59
                      else
                        if (((I25 100 34) >>> (y59 &&& 31)) &&& 1) = 0 then
                          j60 (-1)
                        else
                          j60 y59) fun j45 =>
                    if (I25 100 3) = 2 then
                      j45 0
                    else
                      (f_X12_isWord I25 L 6840691).bind fun x46 =>
                      if x46 = 0 then
                        (f_X12_isWord I25 L 474214787188).bind fun x47 =>
                        if x47 = 0 then
                          (f_X12_isWord I25 L 108187867505765).bind fun x48 =>
                          if x48 = 0 then
                            (f_X12_isWord I25 L 28273320707713140).bind fun x49 =>
                            if x49 = 0 then
                              (f_X12_isWord I25 L 495874044019).bind fun x50 =>
                              if x50 = 0 then
                                (f_X12_isWord I25 L 1718773093).bind fun x51 =>
                                if x51 = 0 then
                                  j45 (-1)
                                else
                                  j45 6
                              else
                                j45 5
                            else
                              j45 4
                          else
                            j45 3
                        else
                          j45 2
                      else
                        j45 1
                  else
                    j42 ()
                else
                  j42 ()
              else
                j42 ()
            else
              (f_X12_opens fu I25 L 2).bind fun x94 =>
              gz 0 (some (0, x94.1, x94.2))) fun j32 =>
          if y11 = 0 then
            j32 ()
          else
            (f_X12_isWord I25 L 6384748).bind fun x33 =>
            if x33 = 0 then
              j32 ()
            else
              (f_X12_add I25 30 0).bind fun x34 =>
              inb 20 v2 <|
              bnd (sI x34 121 (v2 : Int32).toNatClampNeg 2) fun I35 =>
              (f_X12_ahead fu I35 L).bind fun x36 =>
              gz 1 (some (1, x36.1, x36.2))) fun j26 =>
        if y11 = 0 then
          j26 ()
        else
          (f_X12_isSign I25 91).bind fun x27 =>
          if x27 = 0 then
            j26 ()
          else
            (f_X12_opens fu I25 L 5).bind fun x28 =>
            gz 0 (some (0, x28.1, x28.2))) fun j12 =>
      if y11 = 0 then
        j12 ()
      else
        (f_X12_isWord x1 L 7237492).bind fun x13 =>
        if x13 = 0 then
          j12 ()
        else
          jnt (β := HI) (fun y17 =>
            if (y17 100 8) ≤ 0 then
              bnd (sI y17 100 41 ((y17 100 41) + 1)) fun I18 =>
              (f_X12_holdsBack I18 43).bind fun x19 =>
              (f_X12_ahead fu x19 L).bind fun x20 =>
              gz 0 (some (0, x20.1, x20.2))
            else
              gz 1 (some (1, y17, L))) fun j14 =>
          if (x1 100 41) = 7 then
            (f_X12_blame x1 5 (x1 100 4)).bind fun x15 =>
            j14 x15
          else
            j14 x1) fun j6 =>
    jnt (β := Unit) (fun y10 =>
      j6 0) fun j5 =>
    if x4 = 0 then
      j5 ()
    else
      ldI (x1 122) 20 v2 fun v7 =>
      if v7 = 0 then
        j5 ()
      else
        j6 1
  else
    gz 1 (some (1, x1, L))
set_option maxRecDepth 20000 in
theorem pc_X12_operand (fu : Nat) (I : HI) (L : HL) (R : HR) : PCo 100 147 3 yX12_operand cX12_operand 4 (some .boolean) [.ref 100] I L R (f_X12_operand fu I L) (fun x : Int32 × HI × HL => ((some (.int x.1), x.2.1, x.2.2, R) : HF)) := by
  refine PCo.of (own := RX12) (by decide +kernel) (Nat.le_of_ble_eq_true rfl) rfl rfl (fun F => ?_)
  unfold f_X12_operand
  refine PWk.aload_n 0 dX12_operand_0 rfl ?_
  refine PWk.callVvI (pc_X12_lex I L R) dX12_operand_1 ml_X12_252 rfl rg_100 lc_100 vq_12 (by decide) rfl (Nat.le_of_ble_eq_true rfl) (fun x1 => ?_)
  refine PWk.aload_n 0 dX12_operand_4 rfl ?_
  refine PWk.geti dX12_operand_5 rg_100 lc_100 fl_X12_36 rfl ?_
  refine PWk.if_le 13 dX12_operand_8 (by decide) (fun h96 => ?_) (fun h96 => ?_)
  · refine PWk.aload_n 0 dX12_operand_13 rfl ?_
    refine PWk.geti dX12_operand_14 rg_100 lc_100 fl_X12_134 rfl ?_
    refine PWk.iconst (v := 1) dX12_operand_17 ic_1 ?_
    refine PWk.isub dX12_operand_18 ?_
    refine PWk.bi (fun v2 => ?_)
    refine PWk.istore_n [(1, .int v2), (0, .ref 100)] dX12_operand_19 (by decide) rfl ?_
    refine PWk.aload_n 1 dX12_operand_20 rfl ?_
    refine PWk.gets dX12_operand_21 rg_100 lc_100 fl_X12_118 rfl st_100_35 ?_
    refine PWk.iload_n 0 dX12_operand_24 rfl ?_
    refine PWk.iald dX12_operand_25 rg_120 ly_120 (fun v3 => ?_)
    refine PWk.callSi (pc_X12_isTest x1 L R v3) dX12_operand_26 ml_X12_332 rfl (by decide) rfl (Nat.le_of_ble_eq_true rfl) (fun x4 => ?_)
    refine PWk.jn (pc' := 46) (lv' := fun y11 => [(0, .ref 100), (1, .int v2)]) (st' := fun y11 => [.int y11]) (I' := fun y11 => x1) (L' := fun y11 => L) (R' := fun y11 => R) (fun j6 hj6 => ?_) (fun y11 => ?_)
    · refine PWk.jn (pc' := 45) (lv' := fun y10 => [(0, .ref 100), (1, .int v2)]) (st' := fun y10 => []) (I' := fun y10 => x1) (L' := fun y10 => L) (R' := fun y10 => R) (fun j5 hj5 => ?_) (fun y10 => ?_)
      · refine PWk.if_eq 45 dX12_operand_29 (by decide) (fun h9 => ?_) (fun h9 => ?_)
        · refine PWk.sub [1, 0] rfl ?_
          exact hj5 ()
        · refine PWk.aload_n 1 dX12_operand_32 rfl ?_
          refine PWk.gets dX12_operand_33 rg_100 lc_100 fl_X12_124 rfl st_100_37 ?_
          refine PWk.iload_n 0 dX12_operand_36 rfl ?_
          refine PWk.zald dX12_operand_37 rg_122 ly_122 (fun v7 => ?_)
          refine PWk.if_eq 45 dX12_operand_38 (by decide) (fun h8 => ?_) (fun h8 => ?_)
          · refine PWk.sub [1, 0] rfl ?_
            exact hj5 ()
          · refine PWk.iconst (v := 1) dX12_operand_41 ic_1 ?_
            refine PWk.goto 46 dX12_operand_42 (by decide) ?_
            refine PWk.sub [1, 0] rfl ?_
            exact hj6 1
      · refine PWk.iconst (v := 0) dX12_operand_45 ic_0 ?_
        exact hj6 0
    · refine PWk.istore_n [(2, .int y11), (0, .ref 100), (1, .int v2)] dX12_operand_46 (by decide) rfl ?_
      refine PWk.iload_n 0 dX12_operand_47 rfl ?_
      refine PWk.jn (pc' := 110) (lv' := fun y24 => [(0, .ref 100), (1, .int v2), (2, .int y11)]) (st' := fun y24 => []) (I' := fun y24 => x1) (L' := fun y24 => L) (R' := fun y24 => R) (fun j12 hj12 => ?_) (fun y24 => ?_)
      · refine PWk.if_eq 110 dX12_operand_48 (by decide) (fun h23 => ?_) (fun h23 => ?_)
        · refine PWk.sub [1, 2, 0] rfl ?_
          exact hj12 ()
        · refine PWk.aload_n 1 dX12_operand_51 rfl ?_
          refine PWk.ldc2 (v := 7237492) dX12_operand_52 kc_X12_301 ?_
          refine PWk.callVi (pc_X12_isWord x1 L R 7237492) dX12_operand_55 ml_X12_335 rfl rg_100 lc_100 vq_12 (by decide) rfl (Nat.le_of_ble_eq_true rfl) (fun x13 => ?_)
          refine PWk.if_eq 110 dX12_operand_58 (by decide) (fun h22 => ?_) (fun h22 => ?_)
          · refine PWk.sub [1, 2, 0] rfl ?_
            exact hj12 ()
          · refine PWk.aload_n 1 dX12_operand_61 rfl ?_
            refine PWk.geti dX12_operand_62 rg_100 lc_100 fl_X12_137 rfl ?_
            refine PWk.bipush (v := 7) dX12_operand_65 bp_7 ?_
            refine PWk.jn (pc' := 79) (lv' := fun y17 => [(0, .ref 100)]) (st' := fun y17 => []) (I' := fun y17 => y17) (L' := fun y17 => L) (R' := fun y17 => R) (fun j14 hj14 => ?_) (fun y17 => ?_)
            · refine PWk.icmp_ne 79 dX12_operand_67 (by decide) (fun h16 => ?_) (fun h16 => ?_)
              · refine PWk.aload_n 1 dX12_operand_70 rfl ?_
                refine PWk.iconst (v := 5) dX12_operand_71 ic_5 ?_
                refine PWk.aload_n 1 dX12_operand_72 rfl ?_
                refine PWk.geti dX12_operand_73 rg_100 lc_100 fl_X12_23 rfl ?_
                refine PWk.callVvI (pc_X12_blame x1 L R 5 (x1 100 4)) dX12_operand_76 ml_X12_237 rfl rg_100 lc_100 vq_12 (by decide) rfl (Nat.le_of_ble_eq_true rfl) (fun x15 => ?_)
                refine PWk.sub [1] rfl ?_
                exact hj14 x15
              · refine PWk.sub [1] rfl ?_
                exact hj14 x1
            · refine PWk.aload_n 0 dX12_operand_79 rfl ?_
              refine PWk.geti dX12_operand_80 rg_100 lc_100 fl_X12_36 rfl ?_
              refine PWk.if_le 88 dX12_operand_83 (by decide) (fun h21 => ?_) (fun h21 => ?_)
              · refine PWk.aload_n 0 dX12_operand_88 rfl ?_
                refine PWk.dup dX12_operand_89 rfl ?_
                refine PWk.geti dX12_operand_90 rg_100 lc_100 fl_X12_137 rfl ?_
                refine PWk.iconst (v := 1) dX12_operand_93 ic_1 ?_
                refine PWk.iadd dX12_operand_94 ?_
                refine PWk.puti dX12_operand_95 rg_100 lc_100 fl_X12_137 fp_12_41 rfl ?_
                refine PWk.bI (fun I18 => ?_)
                refine PWk.aload_n 0 dX12_operand_98 rfl ?_
                refine PWk.bipush (v := 43) dX12_operand_99 bp_43 ?_
                refine PWk.callVvI (pc_X12_holdsBack I18 L R 43) dX12_operand_101 ml_X12_338 rfl rg_100 lc_100 vq_12 (by decide) rfl (Nat.le_of_ble_eq_true rfl) (fun x19 => ?_)
                refine PWk.aload_n 0 dX12_operand_104 rfl ?_
                refine PWk.callVvIL (pc_X12_ahead fu x19 L R) dX12_operand_105 ml_X12_258 rfl rg_100 lc_100 vq_12 (by decide) rfl (Nat.le_of_ble_eq_true rfl) (fun x20 => ?_)
                refine PWk.iconst (v := 0) dX12_operand_108 ic_0 ?_
                exact PWk.zret dX12_operand_109 rfl (fun h => h)
              · refine PWk.iconst (v := 1) dX12_operand_86 ic_1 ?_
                exact PWk.zret dX12_operand_87 rfl (fun h => h)
      · refine PWk.aload_n 0 dX12_operand_110 rfl ?_
        refine PWk.gets dX12_operand_111 rg_100 lc_100 fl_X12_124 rfl st_100_37 ?_
        refine PWk.iload_n 1 dX12_operand_114 rfl ?_
        refine PWk.iconst (v := 0) dX12_operand_115 ic_0 ?_
        refine PWk.zast dX12_operand_116 rg_122 ly_122 ?_
        refine PWk.bI (fun I25 => ?_)
        refine PWk.iload_n 2 dX12_operand_117 rfl ?_
        refine PWk.jn (pc' := 137) (lv' := fun y31 => [(0, .ref 100), (1, .int v2), (2, .int y11)]) (st' := fun y31 => []) (I' := fun y31 => I25) (L' := fun y31 => L) (R' := fun y31 => R) (fun j26 hj26 => ?_) (fun y31 => ?_)
        · refine PWk.if_eq 137 dX12_operand_118 (by decide) (fun h30 => ?_) (fun h30 => ?_)
          · exact hj26 ()
          · refine PWk.aload_n 0 dX12_operand_121 rfl ?_
            refine PWk.bipush (v := 91) dX12_operand_122 bp_91 ?_
            refine PWk.callVi (pc_X12_isSign I25 L R 91) dX12_operand_124 ml_X12_255 rfl rg_100 lc_100 vq_12 (by decide) rfl (Nat.le_of_ble_eq_true rfl) (fun x27 => ?_)
            refine PWk.if_eq 137 dX12_operand_127 (by decide) (fun h29 => ?_) (fun h29 => ?_)
            · exact hj26 ()
            · refine PWk.aload_n 0 dX12_operand_130 rfl ?_
              refine PWk.iconst (v := 5) dX12_operand_131 ic_5 ?_
              refine PWk.callVvIL (pc_X12_opens fu I25 L R 5) dX12_operand_132 ml_X12_341 rfl rg_100 lc_100 vq_12 (by decide) rfl (Nat.le_of_ble_eq_true rfl) (fun x28 => ?_)
              refine PWk.iconst (v := 0) dX12_operand_135 ic_0 ?_
              exact PWk.zret dX12_operand_136 rfl (fun h => h)
        · refine PWk.iload_n 2 dX12_operand_137 rfl ?_
          refine PWk.jn (pc' := 171) (lv' := fun y39 => [(0, .ref 100)]) (st' := fun y39 => []) (I' := fun y39 => I25) (L' := fun y39 => L) (R' := fun y39 => R) (fun j32 hj32 => ?_) (fun y39 => ?_)
          · refine PWk.if_eq 171 dX12_operand_138 (by decide) (fun h38 => ?_) (fun h38 => ?_)
            · refine PWk.sub [0] rfl ?_
              exact hj32 ()
            · refine PWk.aload_n 0 dX12_operand_141 rfl ?_
              refine PWk.ldc2 (v := 6384748) dX12_operand_142 kc_X12_303 ?_
              refine PWk.callVi (pc_X12_isWord I25 L R 6384748) dX12_operand_145 ml_X12_335 rfl rg_100 lc_100 vq_12 (by decide) rfl (Nat.le_of_ble_eq_true rfl) (fun x33 => ?_)
              refine PWk.if_eq 171 dX12_operand_148 (by decide) (fun h37 => ?_) (fun h37 => ?_)
              · refine PWk.sub [0] rfl ?_
                exact hj32 ()
              · refine PWk.aload_n 0 dX12_operand_151 rfl ?_
                refine PWk.bipush (v := 30) dX12_operand_152 bp_30 ?_
                refine PWk.iconst (v := 0) dX12_operand_154 ic_0 ?_
                refine PWk.callVvI (pc_X12_add I25 L R 30 0) dX12_operand_155 ml_X12_326 rfl rg_100 lc_100 vq_12 (by decide) rfl (Nat.le_of_ble_eq_true rfl) (fun x34 => ?_)
                refine PWk.aload_n 0 dX12_operand_158 rfl ?_
                refine PWk.gets dX12_operand_159 rg_100 lc_100 fl_X12_121 rfl st_100_36 ?_
                refine PWk.iload_n 1 dX12_operand_162 rfl ?_
                refine PWk.iconst (v := 2) dX12_operand_163 ic_2 ?_
                refine PWk.iast dX12_operand_164 rg_121 ly_121 ?_
                refine PWk.bI (fun I35 => ?_)
                refine PWk.aload_n 0 dX12_operand_165 rfl ?_
                refine PWk.callVvIL (pc_X12_ahead fu I35 L R) dX12_operand_166 ml_X12_258 rfl rg_100 lc_100 vq_12 (by decide) rfl (Nat.le_of_ble_eq_true rfl) (fun x36 => ?_)
                refine PWk.iconst (v := 1) dX12_operand_169 ic_1 ?_
                exact PWk.zret dX12_operand_170 rfl (fun h => h)
          · refine PWk.aload_n 0 dX12_operand_171 rfl ?_
            refine PWk.bipush (v := 40) dX12_operand_172 bp_40 ?_
            refine PWk.callVi (pc_X12_isSign I25 L R 40) dX12_operand_174 ml_X12_255 rfl rg_100 lc_100 vq_12 (by decide) rfl (Nat.le_of_ble_eq_true rfl) (fun x40 => ?_)
            refine PWk.if_eq 187 dX12_operand_177 (by decide) (fun h95 => ?_) (fun h95 => ?_)
            · refine PWk.aload_n 0 dX12_operand_187 rfl ?_
              refine PWk.ldc2 (v := 7170414) dX12_operand_188 kc_X12_305 ?_
              refine PWk.callVi (pc_X12_isWord I25 L R 7170414) dX12_operand_191 ml_X12_335 rfl rg_100 lc_100 vq_12 (by decide) rfl (Nat.le_of_ble_eq_true rfl) (fun x41 => ?_)
              refine PWk.jn (pc' := 217) (lv' := fun y74 => [(0, .ref 100)]) (st' := fun y74 => []) (I' := fun y74 => I25) (L' := fun y74 => L) (R' := fun y74 => R) (fun j42 hj42 => ?_) (fun y74 => ?_)
              · refine PWk.if_ne 217 dX12_operand_194 (by decide) (fun h73 => ?_) (fun h73 => ?_)
                · refine PWk.aload_n 0 dX12_operand_197 rfl ?_
                  refine PWk.ldc2 (v := 7168376) dX12_operand_198 kc_X12_307 ?_
                  refine PWk.callVi (pc_X12_isWord I25 L R 7168376) dX12_operand_201 ml_X12_335 rfl rg_100 lc_100 vq_12 (by decide) rfl (Nat.le_of_ble_eq_true rfl) (fun x43 => ?_)
                  refine PWk.if_ne 217 dX12_operand_204 (by decide) (fun h72 => ?_) (fun h72 => ?_)
                  · refine PWk.aload_n 0 dX12_operand_207 rfl ?_
                    refine PWk.ldc2 (v := 26982) dX12_operand_208 kc_X12_295 ?_
                    refine PWk.callVi (pc_X12_isWord I25 L R 26982) dX12_operand_211 ml_X12_335 rfl rg_100 lc_100 vq_12 (by decide) rfl (Nat.le_of_ble_eq_true rfl) (fun x44 => ?_)
                    refine PWk.if_eq 313 dX12_operand_214 (by decide) (fun h71 => ?_) (fun h71 => ?_)
                    · refine PWk.aload_n 0 dX12_operand_313 rfl ?_
                      refine PWk.geti dX12_operand_314 rg_100 lc_100 fl_X12_20 rfl ?_
                      refine PWk.iconst (v := 2) dX12_operand_317 ic_2 ?_
                      refine PWk.jn (pc' := 411) (lv' := fun y59 => [(0, .ref 100)]) (st' := fun y59 => [.int y59]) (I' := fun y59 => I25) (L' := fun y59 => L) (R' := fun y59 => R) (fun j45 hj45 => ?_) (fun y59 => ?_)
                      · refine PWk.icmp_ne 325 dX12_operand_318 (by decide) (fun h58 => ?_) (fun h58 => ?_)
                        · refine PWk.iconst (v := 0) dX12_operand_321 ic_0 ?_
                          refine PWk.goto 411 dX12_operand_322 (by decide) ?_
                          exact hj45 0
                        · refine PWk.aload_n 0 dX12_operand_325 rfl ?_
                          refine PWk.ldc2 (v := 6840691) dX12_operand_326 kc_X12_271 ?_
                          refine PWk.callVi (pc_X12_isWord I25 L R 6840691) dX12_operand_329 ml_X12_335 rfl rg_100 lc_100 vq_12 (by decide) rfl (Nat.le_of_ble_eq_true rfl) (fun x46 => ?_)
                          refine PWk.if_eq 339 dX12_operand_332 (by decide) (fun h57 => ?_) (fun h57 => ?_)
                          · refine PWk.aload_n 0 dX12_operand_339 rfl ?_
                            refine PWk.ldc2 (v := 474214787188) dX12_operand_340 kc_X12_287 ?_
                            refine PWk.callVi (pc_X12_isWord I25 L R 474214787188) dX12_operand_343 ml_X12_335 rfl rg_100 lc_100 vq_12 (by decide) rfl (Nat.le_of_ble_eq_true rfl) (fun x47 => ?_)
                            refine PWk.if_eq 353 dX12_operand_346 (by decide) (fun h56 => ?_) (fun h56 => ?_)
                            · refine PWk.aload_n 0 dX12_operand_353 rfl ?_
                              refine PWk.ldc2 (v := 108187867505765) dX12_operand_354 kc_X12_289 ?_
                              refine PWk.callVi (pc_X12_isWord I25 L R 108187867505765) dX12_operand_357 ml_X12_335 rfl rg_100 lc_100 vq_12 (by decide) rfl (Nat.le_of_ble_eq_true rfl) (fun x48 => ?_)
                              refine PWk.if_eq 367 dX12_operand_360 (by decide) (fun h55 => ?_) (fun h55 => ?_)
                              · refine PWk.aload_n 0 dX12_operand_367 rfl ?_
                                refine PWk.ldc2 (v := 28273320707713140) dX12_operand_368 kc_X12_309 ?_
                                refine PWk.callVi (pc_X12_isWord I25 L R 28273320707713140) dX12_operand_371 ml_X12_335 rfl rg_100 lc_100 vq_12 (by decide) rfl (Nat.le_of_ble_eq_true rfl) (fun x49 => ?_)
                                refine PWk.if_eq 381 dX12_operand_374 (by decide) (fun h54 => ?_) (fun h54 => ?_)
                                · refine PWk.aload_n 0 dX12_operand_381 rfl ?_
                                  refine PWk.ldc2 (v := 495874044019) dX12_operand_382 kc_X12_291 ?_
                                  refine PWk.callVi (pc_X12_isWord I25 L R 495874044019) dX12_operand_385 ml_X12_335 rfl rg_100 lc_100 vq_12 (by decide) rfl (Nat.le_of_ble_eq_true rfl) (fun x50 => ?_)
                                  refine PWk.if_eq 395 dX12_operand_388 (by decide) (fun h53 => ?_) (fun h53 => ?_)
                                  · refine PWk.aload_n 0 dX12_operand_395 rfl ?_
                                    refine PWk.ldc2 (v := 1718773093) dX12_operand_396 kc_X12_293 ?_
                                    refine PWk.callVi (pc_X12_isWord I25 L R 1718773093) dX12_operand_399 ml_X12_335 rfl rg_100 lc_100 vq_12 (by decide) rfl (Nat.le_of_ble_eq_true rfl) (fun x51 => ?_)
                                    refine PWk.if_eq 410 dX12_operand_402 (by decide) (fun h52 => ?_) (fun h52 => ?_)
                                    · refine PWk.iconst (v := (-1)) dX12_operand_410 ic_m1 ?_
                                      exact hj45 (-1)
                                    · refine PWk.bipush (v := 6) dX12_operand_405 bp_6 ?_
                                      refine PWk.goto 411 dX12_operand_407 (by decide) ?_
                                      exact hj45 6
                                  · refine PWk.iconst (v := 5) dX12_operand_391 ic_5 ?_
                                    refine PWk.goto 411 dX12_operand_392 (by decide) ?_
                                    exact hj45 5
                                · refine PWk.iconst (v := 4) dX12_operand_377 ic_4 ?_
                                  refine PWk.goto 411 dX12_operand_378 (by decide) ?_
                                  exact hj45 4
                              · refine PWk.iconst (v := 3) dX12_operand_363 ic_3 ?_
                                refine PWk.goto 411 dX12_operand_364 (by decide) ?_
                                exact hj45 3
                            · refine PWk.iconst (v := 2) dX12_operand_349 ic_2 ?_
                              refine PWk.goto 411 dX12_operand_350 (by decide) ?_
                              exact hj45 2
                          · refine PWk.iconst (v := 1) dX12_operand_335 ic_1 ?_
                            refine PWk.goto 411 dX12_operand_336 (by decide) ?_
                            exact hj45 1
                      · refine PWk.istore_n [(3, .int y59), (0, .ref 100)] dX12_operand_411 (by decide) rfl ?_
                        refine PWk.iload_n 0 dX12_operand_412 rfl ?_
                        refine PWk.jn (pc' := 429) (lv' := fun y63 => [(0, .ref 100), (3, .int y63)]) (st' := fun y63 => []) (I' := fun y63 => I25) (L' := fun y63 => L) (R' := fun y63 => R) (fun j60 hj60 => ?_) (fun y63 => ?_)
                        · refine PWk.if_le 429 dX12_operand_413 (by decide) (fun h62 => ?_) (fun h62 => ?_)
                          · refine PWk.sub [1, 0] rfl ?_
                            exact hj60 y59
                          · refine PWk.aload_n 1 dX12_operand_416 rfl ?_
                            refine PWk.geti dX12_operand_417 rg_100 lc_100 fl_X12_115 rfl ?_
                            refine PWk.iload_n 0 dX12_operand_420 rfl ?_
                            refine PWk.ishr dX12_operand_421 ?_
                            refine PWk.iconst (v := 1) dX12_operand_422 ic_1 ?_
                            refine PWk.iand dX12_operand_423 ?_
                            refine PWk.if_ne 429 dX12_operand_424 (by decide) (fun h61 => ?_) (fun h61 => ?_)
                            · refine PWk.iconst (v := (-1)) dX12_operand_427 ic_m1 ?_
                              refine PWk.istore_n [(3, .int (-1)), (0, .ref 100)] dX12_operand_428 (by decide) rfl ?_
                              refine PWk.sub [1, 0] rfl ?_
                              exact hj60 (-1)
                            · refine PWk.sub [1, 0] rfl ?_
                              exact hj60 y59
                        · refine PWk.iload_n 1 dX12_operand_429 rfl ?_
                          refine PWk.iconst (v := (-1)) dX12_operand_430 ic_m1 ?_
                          refine PWk.jn (pc' := 443) (lv' := fun y67 => [(0, .ref 100), (3, .int y63)]) (st' := fun y67 => []) (I' := fun y67 => y67) (L' := fun y67 => L) (R' := fun y67 => R) (fun j64 hj64 => ?_) (fun y67 => ?_)
                          · refine PWk.icmp_ne 443 dX12_operand_431 (by decide) (fun h66 => ?_) (fun h66 => ?_)
                            · refine PWk.aload_n 0 dX12_operand_434 rfl ?_
                              refine PWk.iconst (v := 1) dX12_operand_435 ic_1 ?_
                              refine PWk.aload_n 0 dX12_operand_436 rfl ?_
                              refine PWk.geti dX12_operand_437 rg_100 lc_100 fl_X12_23 rfl ?_
                              refine PWk.callVvI (pc_X12_blame I25 L R 1 (I25 100 4)) dX12_operand_440 ml_X12_237 rfl rg_100 lc_100 vq_12 (by decide) rfl (Nat.le_of_ble_eq_true rfl) (fun x65 => ?_)
                              exact hj64 x65
                            · exact hj64 I25
                          · refine PWk.aload_n 0 dX12_operand_443 rfl ?_
                            refine PWk.geti dX12_operand_444 rg_100 lc_100 fl_X12_36 rfl ?_
                            refine PWk.if_le 452 dX12_operand_447 (by decide) (fun h70 => ?_) (fun h70 => ?_)
                            · refine PWk.aload_n 0 dX12_operand_452 rfl ?_
                              refine PWk.iload_n 1 dX12_operand_453 rfl ?_
                              refine PWk.aload_n 0 dX12_operand_454 rfl ?_
                              refine PWk.geti dX12_operand_455 rg_100 lc_100 fl_X12_29 rfl ?_
                              refine PWk.callVvI (pc_X12_add y67 L R y63 (y67 100 6)) dX12_operand_458 ml_X12_326 rfl rg_100 lc_100 vq_12 (by decide) rfl (Nat.le_of_ble_eq_true rfl) (fun x68 => ?_)
                              refine PWk.aload_n 0 dX12_operand_461 rfl ?_
                              refine PWk.callVvIL (pc_X12_ahead fu x68 L R) dX12_operand_462 ml_X12_258 rfl rg_100 lc_100 vq_12 (by decide) rfl (Nat.le_of_ble_eq_true rfl) (fun x69 => ?_)
                              refine PWk.iconst (v := 1) dX12_operand_465 ic_1 ?_
                              exact PWk.zret dX12_operand_466 rfl (fun h => h)
                            · refine PWk.iconst (v := 1) dX12_operand_450 ic_1 ?_
                              exact PWk.zret dX12_operand_451 rfl (fun h => h)
                    · exact hj42 ()
                  · exact hj42 ()
                · exact hj42 ()
              · refine PWk.aload_n 0 dX12_operand_217 rfl ?_
                refine PWk.ldc2 (v := 7170414) dX12_operand_218 kc_X12_305 ?_
                refine PWk.callVi (pc_X12_isWord I25 L R 7170414) dX12_operand_221 ml_X12_335 rfl rg_100 lc_100 vq_12 (by decide) rfl (Nat.le_of_ble_eq_true rfl) (fun x75 => ?_)
                refine PWk.jn (pc' := 249) (lv' := fun y80 => [(0, .ref 100)]) (st' := fun y80 => [.int y80]) (I' := fun y80 => I25) (L' := fun y80 => L) (R' := fun y80 => R) (fun j76 hj76 => ?_) (fun y80 => ?_)
                · refine PWk.if_eq 232 dX12_operand_224 (by decide) (fun h79 => ?_) (fun h79 => ?_)
                  · refine PWk.aload_n 0 dX12_operand_232 rfl ?_
                    refine PWk.ldc2 (v := 7168376) dX12_operand_233 kc_X12_307 ?_
                    refine PWk.callVi (pc_X12_isWord I25 L R 7168376) dX12_operand_236 ml_X12_335 rfl rg_100 lc_100 vq_12 (by decide) rfl (Nat.le_of_ble_eq_true rfl) (fun x77 => ?_)
                    refine PWk.if_eq 247 dX12_operand_239 (by decide) (fun h78 => ?_) (fun h78 => ?_)
                    · refine PWk.bipush (v := 44) dX12_operand_247 bp_44 ?_
                      exact hj76 44
                    · refine PWk.bipush (v := 37) dX12_operand_242 bp_37 ?_
                      refine PWk.goto 249 dX12_operand_244 (by decide) ?_
                      exact hj76 37
                  · refine PWk.bipush (v := 36) dX12_operand_227 bp_36 ?_
                    refine PWk.goto 249 dX12_operand_229 (by decide) ?_
                    exact hj76 36
                · refine PWk.istore_n [(3, .int y80), (0, .ref 100)] dX12_operand_249 (by decide) rfl ?_
                  refine PWk.aload_n 1 dX12_operand_250 rfl ?_
                  refine PWk.callVvIL (pc_X12_ahead fu I25 L R) dX12_operand_251 ml_X12_258 rfl rg_100 lc_100 vq_12 (by decide) rfl (Nat.le_of_ble_eq_true rfl) (fun x81 => ?_)
                  refine PWk.aload_n 1 dX12_operand_254 rfl ?_
                  refine PWk.callVvI (pc_X12_lex x81.1 x81.2 R) dX12_operand_255 ml_X12_252 rfl rg_100 lc_100 vq_12 (by decide) rfl (Nat.le_of_ble_eq_true rfl) (fun x82 => ?_)
                  refine PWk.aload_n 1 dX12_operand_258 rfl ?_
                  refine PWk.bipush (v := 40) dX12_operand_259 bp_40 ?_
                  refine PWk.callVi (pc_X12_isSign x82 x81.2 R 40) dX12_operand_261 ml_X12_255 rfl rg_100 lc_100 vq_12 (by decide) rfl (Nat.le_of_ble_eq_true rfl) (fun x83 => ?_)
                  refine PWk.jn (pc' := 276) (lv' := fun y87 => [(0, .ref 100), (3, .int y80)]) (st' := fun y87 => []) (I' := fun y87 => y87) (L' := fun y87 => x81.2) (R' := fun y87 => R) (fun j84 hj84 => ?_) (fun y87 => ?_)
                  · refine PWk.if_ne 276 dX12_operand_264 (by decide) (fun h86 => ?_) (fun h86 => ?_)
                    · refine PWk.aload_n 1 dX12_operand_267 rfl ?_
                      refine PWk.iconst (v := 1) dX12_operand_268 ic_1 ?_
                      refine PWk.aload_n 1 dX12_operand_269 rfl ?_
                      refine PWk.geti dX12_operand_270 rg_100 lc_100 fl_X12_23 rfl ?_
                      refine PWk.callVvI (pc_X12_blame x82 x81.2 R 1 (x82 100 4)) dX12_operand_273 ml_X12_237 rfl rg_100 lc_100 vq_12 (by decide) rfl (Nat.le_of_ble_eq_true rfl) (fun x85 => ?_)
                      refine PWk.sub [1, 0] rfl ?_
                      exact hj84 x85
                    · refine PWk.sub [1, 0] rfl ?_
                      exact hj84 x82
                  · refine PWk.aload_n 0 dX12_operand_276 rfl ?_
                    refine PWk.iload_n 1 dX12_operand_277 rfl ?_
                    refine PWk.bipush (v := 44) dX12_operand_278 bp_44 ?_
                    refine PWk.jn (pc' := 289) (lv' := fun y90 => [(0, .ref 100), (3, .int y80)]) (st' := fun y90 => [.int y90, .ref 100]) (I' := fun y90 => y87) (L' := fun y90 => x81.2) (R' := fun y90 => R) (fun j88 hj88 => ?_) (fun y90 => ?_)
                    · refine PWk.icmp_ne 288 dX12_operand_280 (by decide) (fun h89 => ?_) (fun h89 => ?_)
                      · refine PWk.bipush (v := 6) dX12_operand_283 bp_6 ?_
                        refine PWk.goto 289 dX12_operand_285 (by decide) ?_
                        exact hj88 6
                      · refine PWk.iconst (v := 3) dX12_operand_288 ic_3 ?_
                        exact hj88 3
                    · refine PWk.callVvIL (pc_X12_opens fu y87 x81.2 R y90) dX12_operand_289 ml_X12_341 rfl rg_100 lc_100 vq_12 (by decide) rfl (Nat.le_of_ble_eq_true rfl) (fun x91 => ?_)
                      refine PWk.aload_n 0 dX12_operand_292 rfl ?_
                      refine PWk.geti dX12_operand_293 rg_100 lc_100 fl_X12_36 rfl ?_
                      refine PWk.if_ne 311 dX12_operand_296 (by decide) (fun h93 => ?_) (fun h93 => ?_)
                      · refine PWk.aload_n 0 dX12_operand_299 rfl ?_
                        refine PWk.gets dX12_operand_300 rg_100 lc_100 fl_X12_128 rfl st_100_38 ?_
                        refine PWk.aload_n 0 dX12_operand_303 rfl ?_
                        refine PWk.geti dX12_operand_304 rg_100 lc_100 fl_X12_134 rfl ?_
                        refine PWk.iconst (v := 1) dX12_operand_307 ic_1 ?_
                        refine PWk.isub dX12_operand_308 ?_
                        refine PWk.iload_n 1 dX12_operand_309 rfl ?_
                        refine PWk.iast dX12_operand_310 rg_123 ly_123 ?_
                        refine PWk.bI (fun I92 => ?_)
                        refine PWk.iconst (v := 0) dX12_operand_311 ic_0 ?_
                        exact PWk.zret dX12_operand_312 rfl (fun h => h)
                      · refine PWk.iconst (v := 0) dX12_operand_311 ic_0 ?_
                        exact PWk.zret dX12_operand_312 rfl (fun h => h)
            · refine PWk.aload_n 0 dX12_operand_180 rfl ?_
              refine PWk.iconst (v := 2) dX12_operand_181 ic_2 ?_
              refine PWk.callVvIL (pc_X12_opens fu I25 L R 2) dX12_operand_182 ml_X12_341 rfl rg_100 lc_100 vq_12 (by decide) rfl (Nat.le_of_ble_eq_true rfl) (fun x94 => ?_)
              refine PWk.iconst (v := 0) dX12_operand_185 ic_0 ?_
              exact PWk.zret dX12_operand_186 rfl (fun h => h)
  · refine PWk.iconst (v := 1) dX12_operand_11 ic_1 ?_
    exact PWk.zret dX12_operand_12 rfl (fun h => h)
