/-! LakeMarketModel.lowest(I)I -/
def f_X12_lowest_L2 : Nat → Int32 → Int32 → Option (Int32)
  | 0, _, _ => none
  | n + 1, u0, u1 =>
    (f_X12_has2 u0 u1).bind fun x1 =>
    if x1 = 0 then
      f_X12_lowest_L2 n u0 (u1 + 1)
    else
      some u1
def f_X12_lowest (fu : Nat) (p0 : Int32) : Option (Int32) :=
  (f_X12_lowest_L2 fu p0 0).bind fun x3 =>
  some x3
set_option maxRecDepth 20000 in
theorem lp_X12_lowest_2 (fu : Nat) (u0 : Int32) (I : HI) (L : HL) (R : HR) : ∀ (n : Nat) (u1 : Int32) (N : (Int32) → Prop) (F : HF), (∀ v : Int32, N v → PW 100 147 1 RX12 cX12_lowest 2 (some .int) 16 [(1, .int v)] [] I L R F) → PWk 100 147 1 RX12 cX12_lowest 2 (some .int) 2 [(0, .int u0), (1, .int u1)] [] I L R (f_X12_lowest_L2 n u0 u1) N F := by
  intro n
  induction n with
  | zero => intro u1 N F hx; exact PWk.none'
  | succ n ih =>
    intro u1 N F hx
    unfold f_X12_lowest_L2
    refine PWk.iload_n 0 dX12_lowest_2 rfl ?_
    refine PWk.iload_n 1 dX12_lowest_3 rfl ?_
    refine PWk.callSi (pc_X12_has2 I L R u0 u1) dX12_lowest_4 ml_X12_357 rfl (by decide) rfl (Nat.le_of_ble_eq_true rfl) (fun x1 => ?_)
    refine PWk.if_ne 16 dX12_lowest_7 (by decide) (fun h2 => ?_) (fun h2 => ?_)
    · refine PWk.iinc (v := (u1 + 1)) 1 [(1, .int (u1 + 1)), (0, .int u0)] dX12_lowest_10 rfl (by rw [ic_1]) (by decide) rfl ?_
      refine PWk.goto 2 dX12_lowest_13 (by decide) ?_
      refine PWk.sub [1, 0] rfl ?_
      exact ih (u1 + 1) N F hx
    · refine PWk.sub [1] rfl ?_
      exact PWk.done (fun h => hx _ h)
set_option maxRecDepth 20000 in
theorem pc_X12_lowest (fu : Nat) (I : HI) (L : HL) (R : HR) (p0 : Int32) : PCo 100 147 1 yX12_lowest cX12_lowest 2 (some .int) [.int p0] I L R (f_X12_lowest fu p0) (fun x : Int32 => ((some (.int x), I, L, R) : HF)) := by
  refine PCo.of (own := RX12) (by decide +kernel) (Nat.le_of_ble_eq_true rfl) rfl rfl (fun F => ?_)
  unfold f_X12_lowest
  refine PWk.iconst (v := 0) dX12_lowest_0 ic_0 ?_
  refine PWk.istore_n [(1, .int 0), (0, .int p0)] dX12_lowest_1 (by decide) rfl ?_
  refine PWk.sub [1, 0] rfl ?_
  refine PWk.loopV (fun N' hx' => lp_X12_lowest_2 fu p0 I L R fu 0 N' F hx') (fun x3 => ?_)
  refine PWk.iload_n 0 dX12_lowest_16 rfl ?_
  exact PWk.iret dX12_lowest_17 rfl (fun h => h)
/-! LakeMarketModel.pack(II)I -/
def f_X12_pack_L48 : Nat → HI → Int32 → Int32 → Option (HI)
  | 0, _, _, _ => none
  | n + 1, I, u4, u5 =>
    ldI (I 106) 2 (I 100 13) fun v5 =>
    if v5 ≤ u5 then
      some I
    else
      ldI (I 140) 256 u4 fun v6 =>
      (f_X12_has2 u4 u5).bind fun x7 =>
      jnt (β := Int32) (fun y11 =>
        inb 256 u4 <|
        bnd (sI I 140 (u4 : Int32).toNatClampNeg (v6 + y11)) fun I12 =>
        f_X12_pack_L48 n I12 u4 (u5 + 1)) fun j8 =>
      if x7 = 0 then
        j8 0
      else
        (f_X12_fill I 0 u5).bind fun x9 =>
        j8 x9
def f_X12_pack_L253 : Nat → HI → Int32 → Int32 → Int32 → Int32 → Int32 → Int32 → Option (Int32)
  | 0, _, _, _, _, _, _, _ => none
  | n + 1, I, u3, u5, u7, u8, u9, u10 =>
    if u9 = 0 then
      if u5 ≤ 0 then
        some u9
      else
        if (u8 &&& (u3 ^^^ (-1))) = 0 then
          ldI (I 140) 256 u10 fun v43 =>
          jnt (β := Int32) (fun y50 =>
            if u10 = 0 then
              some y50
            else
              bnd (((u10 - 1) &&& u8)) fun v51 =>
              f_X12_pack_L253 n I u3 u5 u7 u8 y50 v51) fun j45 =>
          jnt (β := Unit) (fun y49 =>
            j45 0) fun j44 =>
          if u7 < v43 then
            j44 ()
          else
            ldI (I 139) 65536 ((256 * (u5 &&& (u5 - 1))) + (u8 &&& (u10 ^^^ (-1)))) fun v46 =>
            if v46 = 0 then
              j44 ()
            else
              j45 1
        else
          some u9
    else
      some u9
def f_X12_pack_L229 (fu : Nat) : Nat → HI → Int32 → Int32 → Int32 → Int32 → Option (HI)
  | 0, _, _, _, _, _ => none
  | n + 1, I, u3, u5, u7, u8 =>
    if 256 ≤ u8 then
      some I
    else
      jnt (β := Int32) (fun y42 =>
        (f_X12_pack_L253 fu I u3 u5 u7 u8 y42 u8).bind fun x56 =>
        inb 65536 ((256 * u5) + u8) <|
        bnd (sI I 139 (((256 * u5) + u8) : Int32).toNatClampNeg (nz x56)) fun I57 =>
        f_X12_pack_L229 fu n I57 u3 u5 u7 (u8 + 1)) fun j40 =>
      if u8 = 0 then
        j40 1
      else
        j40 0
def f_X12_pack_L164 : Nat → HI → Int32 → Int32 → Int32 → Int32 → Int32 → Option (Int32)
  | 0, _, _, _, _, _, _ => none
  | n + 1, I, u3, u5, u6, u7, u8 =>
    ldI (I 106) 2 (I 100 13) fun v26 =>
    if v26 ≤ u8 then
      some u7
    else
      if u5 ≤ 0 then
        some u7
      else
        (f_X12_has2 u3 u8).bind fun x27 =>
        jnt (β := Int32) (fun y35 =>
          bnd ((u7 + y35)) fun v36 =>
          f_X12_pack_L164 n I u3 u5 u6 v36 (u8 + 1)) fun j29 =>
        jnt (β := Unit) (fun y34 =>
          j29 0) fun j28 =>
        if x27 = 0 then
          j28 ()
        else
          (f_X12_liesIn I 0 u8).bind fun x30 =>
          if x30 = u6 then
            (f_X12_fill I 0 u8).bind fun x31 =>
            j29 x31
          else
            j28 ()
def f_X12_pack_L111 (fu : Nat) : Nat → HI → Int32 → Int32 → Int32 → Option (Int32 × HI)
  | 0, _, _, _, _ => none
  | n + 1, I, u3, u4, u5 =>
    ldI (I 102) 2 (I 100 13) fun v17 =>
    if ((1 : Int32) <<< (v17 &&& 31)) ≤ u5 then
      some (u4, I)
    else
      jnt (β := Int32) (fun y21 =>
        jnt (β := Int32) (fun y25 =>
          (f_X12_pack_L164 fu I u3 u5 y21 y25 0).bind fun x39 =>
          (f_X12_pack_L229 fu fu I u3 u5 x39 0).bind fun x59 =>
          ldI (x59 139) 65536 ((256 * u5) + u3) fun v60 =>
          jnt (β := Int32) (fun y69 =>
            f_X12_pack_L111 fu n x59 u3 y69 (u5 + 1)) fun j61 =>
          if v60 = 0 then
            j61 u4
          else
            jnt (β := Unit) (fun y67 =>
              j61 u5) fun j62 =>
            if u4 = (-1) then
              j62 ()
            else
              (f_X12_bits fu u5).bind fun x63 =>
              (f_X12_bits fu u4).bind fun x64 =>
              if x64 ≤ x63 then
                j61 u4
              else
                j62 ()) fun j22 =>
        if u5 = 0 then
          j22 0
        else
          (f_X12_room fu I 0 y21).bind fun x23 =>
          j22 x23) fun j18 =>
      if u5 = 0 then
        j18 0
      else
        (f_X12_lowest fu u5).bind fun x19 =>
        j18 x19
def f_X12_pack_L29 (fu : Nat) : Nat → HI → Int32 → Option (HI)
  | 0, _, _ => none
  | n + 1, I, u4 =>
    if 256 ≤ u4 then
      some I
    else
      inb 256 u4 <|
      bnd (sI I 140 (u4 : Int32).toNatClampNeg 0) fun I4 =>
      (f_X12_pack_L48 fu I4 u4 0).bind fun x14 =>
      f_X12_pack_L29 fu n x14 (u4 + 1)
def f_X12_pack (fu : Nat) (I : HI) (p1 : Int32) (p2 : Int32) : Option (Int32 × HI) :=
  (f_X12_isOwner I p1).bind fun x1 =>
  if x1 = 0 then
    some ((-1), I)
  else
    (f_X12_is p2 0 1).bind fun x2 =>
    if x2 = 0 then
      some ((-1), I)
    else
      (f_X12_lakesOf fu I 0 p1).bind fun x3 =>
      (f_X12_pack_L29 fu fu I 0).bind fun x16 =>
      (f_X12_pack_L111 fu fu x16 x3 (-1) 0).bind fun x71 =>
      jnt (β := Unit) (fun y76 =>
        some (x71.1, x71.2)) fun j72 =>
      if x71.1 = (-1) then
        j72 ()
      else
        if p2 = 0 then
          j72 ()
        else
          (f_X12_bits fu x71.1).bind fun x73 =>
          some (x73, x71.2)
set_option maxRecDepth 20000 in
theorem lp_X12_pack_48 (fu : Nat) (u2 : Int32) (u3 : Int32) (u4 : Int32) (L : HL) (R : HR) : ∀ (n : Nat) (u5 : Int32) (I : HI) (N : (HI) → Prop) (F : HF), (∀ v : HI, N v → PW 100 147 2 RX12 cX12_pack 11 (some .int) 99 [(0, .ref 100), (2, .int u2), (3, .int u3), (4, .int u4)] [] v L R F) → PWk 100 147 2 RX12 cX12_pack 11 (some .int) 48 [(0, .ref 100), (2, .int u2), (3, .int u3), (4, .int u4), (5, .int u5)] [] I L R (f_X12_pack_L48 n I u4 u5) N F := by
  intro n
  induction n with
  | zero => intro u5 I N F hx; exact PWk.none'
  | succ n ih =>
    intro u5 I N F hx
    unfold f_X12_pack_L48
    refine PWk.iload 4 dX12_pack_48 rfl ?_
    refine PWk.aload_n 0 dX12_pack_50 rfl ?_
    refine PWk.gets dX12_pack_51 rg_100 lc_100 fl_X12_66 rfl st_100_18 ?_
    refine PWk.aload_n 0 dX12_pack_54 rfl ?_
    refine PWk.geti dX12_pack_55 rg_100 lc_100 fl_X12_51 rfl ?_
    refine PWk.iald dX12_pack_58 rg_106 ly_106 (fun v5 => ?_)
    refine PWk.icmp_ge 99 dX12_pack_59 (by decide) (fun h13 => ?_) (fun h13 => ?_)
    · refine PWk.sub [0, 1, 2, 3] rfl ?_
      exact PWk.done (fun h => hx _ h)
    · refine PWk.aload_n 0 dX12_pack_62 rfl ?_
      refine PWk.gets dX12_pack_63 rg_100 lc_100 fl_X12_202 rfl st_100_62 ?_
      refine PWk.iload 3 dX12_pack_66 rfl ?_
      refine PWk.dup2 dX12_pack_68 rfl rfl ?_
      refine PWk.iald dX12_pack_69 rg_140 ly_140 (fun v6 => ?_)
      refine PWk.iload 3 dX12_pack_70 rfl ?_
      refine PWk.iload 4 dX12_pack_72 rfl ?_
      refine PWk.callSi (pc_X12_has2 I L R u4 u5) dX12_pack_74 ml_X12_357 rfl (by decide) rfl (Nat.le_of_ble_eq_true rfl) (fun x7 => ?_)
      refine PWk.jn (pc' := 91) (lv' := fun y11 => [(0, .ref 100), (2, .int u2), (3, .int u3), (4, .int u4), (5, .int u5)]) (st' := fun y11 => [.int y11, .int v6, .int u4, .ref 140]) (I' := fun y11 => I) (L' := fun y11 => L) (R' := fun y11 => R) (fun j8 hj8 => ?_) (fun y11 => ?_)
      · refine PWk.if_eq 90 dX12_pack_77 (by decide) (fun h10 => ?_) (fun h10 => ?_)
        · refine PWk.iconst (v := 0) dX12_pack_90 ic_0 ?_
          exact hj8 0
        · refine PWk.aload_n 0 dX12_pack_80 rfl ?_
          refine PWk.iconst (v := 0) dX12_pack_81 ic_0 ?_
          refine PWk.iload 4 dX12_pack_82 rfl ?_
          refine PWk.callVi (pc_X12_fill I L R 0 u5) dX12_pack_84 ml_X12_440 rfl rg_100 lc_100 vq_12 (by decide) rfl (Nat.le_of_ble_eq_true rfl) (fun x9 => ?_)
          refine PWk.goto 91 dX12_pack_87 (by decide) ?_
          exact hj8 x9
      · refine PWk.iadd dX12_pack_91 ?_
        refine PWk.iast dX12_pack_92 rg_140 ly_140 ?_
        refine PWk.bI (fun I12 => ?_)
        refine PWk.iinc (v := (u5 + 1)) 4 [(5, .int (u5 + 1)), (0, .ref 100), (2, .int u2), (3, .int u3), (4, .int u4)] dX12_pack_93 rfl (by rw [ic_1]) (by decide) rfl ?_
        refine PWk.goto 48 dX12_pack_96 (by decide) ?_
        refine PWk.sub [1, 2, 3, 4, 0] rfl ?_
        exact ih (u5 + 1) I12 N F hx
set_option maxRecDepth 20000 in
theorem lp_X12_pack_253 (fu : Nat) (u2 : Int32) (u3 : Int32) (u4 : Int32) (u5 : Int32) (u7 : Int32) (u8 : Int32) (I : HI) (L : HL) (R : HR) : ∀ (n : Nat) (u9 : Int32) (u10 : Int32) (N : (Int32) → Prop) (F : HF), (∀ v : Int32, N v → PW 100 147 2 RX12 cX12_pack 11 (some .int) 338 [(0, .ref 100), (2, .int u2), (3, .int u3), (4, .int u4), (5, .int u5), (7, .int u7), (8, .int u8), (9, .int v)] [] I L R F) → PWk 100 147 2 RX12 cX12_pack 11 (some .int) 253 [(0, .ref 100), (2, .int u2), (3, .int u3), (4, .int u4), (5, .int u5), (7, .int u7), (8, .int u8), (9, .int u9), (10, .int u10)] [] I L R (f_X12_pack_L253 n I u3 u5 u7 u8 u9 u10) N F := by
  intro n
  induction n with
  | zero => intro u9 u10 N F hx; exact PWk.none'
  | succ n ih =>
    intro u9 u10 N F hx
    unfold f_X12_pack_L253
    refine PWk.iload 7 dX12_pack_253 rfl ?_
    refine PWk.if_ne 338 dX12_pack_255 (by decide) (fun h55 => ?_) (fun h55 => ?_)
    · refine PWk.iload 4 dX12_pack_258 rfl ?_
      refine PWk.if_le 338 dX12_pack_260 (by decide) (fun h54 => ?_) (fun h54 => ?_)
      · refine PWk.sub [0, 1, 2, 3, 4, 5, 6, 7] rfl ?_
        exact PWk.done (fun h => hx _ h)
      · refine PWk.iload 6 dX12_pack_263 rfl ?_
        refine PWk.iload_n 2 dX12_pack_265 rfl ?_
        refine PWk.iconst (v := (-1)) dX12_pack_266 ic_m1 ?_
        refine PWk.ixor dX12_pack_267 ?_
        refine PWk.iand dX12_pack_268 ?_
        refine PWk.if_ne 338 dX12_pack_269 (by decide) (fun h53 => ?_) (fun h53 => ?_)
        · refine PWk.aload_n 0 dX12_pack_272 rfl ?_
          refine PWk.gets dX12_pack_273 rg_100 lc_100 fl_X12_202 rfl st_100_62 ?_
          refine PWk.iload 8 dX12_pack_276 rfl ?_
          refine PWk.iald dX12_pack_278 rg_140 ly_140 (fun v43 => ?_)
          refine PWk.iload 5 dX12_pack_279 rfl ?_
          refine PWk.jn (pc' := 316) (lv' := fun y50 => [(0, .ref 100), (2, .int u2), (3, .int u3), (4, .int u4), (5, .int u5), (7, .int u7), (8, .int u8), (10, .int u10)]) (st' := fun y50 => [.int y50]) (I' := fun y50 => I) (L' := fun y50 => L) (R' := fun y50 => R) (fun j45 hj45 => ?_) (fun y50 => ?_)
          · refine PWk.jn (pc' := 315) (lv' := fun y49 => [(0, .ref 100), (2, .int u2), (3, .int u3), (4, .int u4), (5, .int u5), (7, .int u7), (8, .int u8), (10, .int u10)]) (st' := fun y49 => []) (I' := fun y49 => I) (L' := fun y49 => L) (R' := fun y49 => R) (fun j44 hj44 => ?_) (fun y49 => ?_)
            · refine PWk.icmp_gt 315 dX12_pack_281 (by decide) (fun h48 => ?_) (fun h48 => ?_)
              · refine PWk.sub [0, 1, 2, 3, 4, 5, 6, 8] rfl ?_
                exact hj44 ()
              · refine PWk.aload_n 0 dX12_pack_284 rfl ?_
                refine PWk.gets dX12_pack_285 rg_100 lc_100 fl_X12_199 rfl st_100_61 ?_
                refine PWk.sipush (v := 256) dX12_pack_288 sp_256 ?_
                refine PWk.iload 4 dX12_pack_291 rfl ?_
                refine PWk.iload 4 dX12_pack_293 rfl ?_
                refine PWk.iconst (v := 1) dX12_pack_295 ic_1 ?_
                refine PWk.isub dX12_pack_296 ?_
                refine PWk.iand dX12_pack_297 ?_
                refine PWk.imul dX12_pack_298 ?_
                refine PWk.iload 6 dX12_pack_299 rfl ?_
                refine PWk.iload 8 dX12_pack_301 rfl ?_
                refine PWk.iconst (v := (-1)) dX12_pack_303 ic_m1 ?_
                refine PWk.ixor dX12_pack_304 ?_
                refine PWk.iand dX12_pack_305 ?_
                refine PWk.iadd dX12_pack_306 ?_
                refine PWk.zald dX12_pack_307 rg_139 ly_139 (fun v46 => ?_)
                refine PWk.if_eq 315 dX12_pack_308 (by decide) (fun h47 => ?_) (fun h47 => ?_)
                · refine PWk.sub [0, 1, 2, 3, 4, 5, 6, 8] rfl ?_
                  exact hj44 ()
                · refine PWk.iconst (v := 1) dX12_pack_311 ic_1 ?_
                  refine PWk.goto 316 dX12_pack_312 (by decide) ?_
                  refine PWk.sub [0, 1, 2, 3, 4, 5, 6, 8] rfl ?_
                  exact hj45 1
            · refine PWk.iconst (v := 0) dX12_pack_315 ic_0 ?_
              exact hj45 0
          · refine PWk.istore [(9, .int y50), (0, .ref 100), (2, .int u2), (3, .int u3), (4, .int u4), (5, .int u5), (7, .int u7), (8, .int u8), (10, .int u10)] dX12_pack_316 (by decide) rfl ?_
            refine PWk.iload 8 dX12_pack_318 rfl ?_
            refine PWk.if_ne 326 dX12_pack_320 (by decide) (fun h52 => ?_) (fun h52 => ?_)
            · refine PWk.goto 338 dX12_pack_323 (by decide) ?_
              refine PWk.sub [1, 2, 3, 4, 5, 6, 7, 0] rfl ?_
              exact PWk.done (fun h => hx _ h)
            · refine PWk.iload 8 dX12_pack_326 rfl ?_
              refine PWk.iconst (v := 1) dX12_pack_328 ic_1 ?_
              refine PWk.isub dX12_pack_329 ?_
              refine PWk.iload 7 dX12_pack_330 rfl ?_
              refine PWk.iand dX12_pack_332 ?_
              refine PWk.bi (fun v51 => ?_)
              refine PWk.istore [(10, .int v51), (9, .int y50), (0, .ref 100), (2, .int u2), (3, .int u3), (4, .int u4), (5, .int u5), (7, .int u7), (8, .int u8)] dX12_pack_333 (by decide) rfl ?_
              refine PWk.goto 253 dX12_pack_335 (by decide) ?_
              refine PWk.sub [2, 3, 4, 5, 6, 7, 8, 1, 0] rfl ?_
              exact ih y50 v51 N F hx
        · refine PWk.sub [0, 1, 2, 3, 4, 5, 6, 7] rfl ?_
          exact PWk.done (fun h => hx _ h)
    · refine PWk.sub [0, 1, 2, 3, 4, 5, 6, 7] rfl ?_
      exact PWk.done (fun h => hx _ h)
set_option maxRecDepth 20000 in
theorem lp_X12_pack_229 (fu : Nat) (u2 : Int32) (u3 : Int32) (u4 : Int32) (u5 : Int32) (u7 : Int32) (L : HL) (R : HR) : ∀ (n : Nat) (u8 : Int32) (I : HI) (N : (HI) → Prop) (F : HF), (∀ v : HI, N v → PW 100 147 2 RX12 cX12_pack 11 (some .int) 360 [(0, .ref 100), (2, .int u2), (3, .int u3), (4, .int u4), (5, .int u5)] [] v L R F) → PWk 100 147 2 RX12 cX12_pack 11 (some .int) 229 [(0, .ref 100), (2, .int u2), (3, .int u3), (4, .int u4), (5, .int u5), (7, .int u7), (8, .int u8)] [] I L R (f_X12_pack_L229 fu n I u3 u5 u7 u8) N F := by
  intro n
  induction n with
  | zero => intro u8 I N F hx; exact PWk.none'
  | succ n ih =>
    intro u8 I N F hx
    unfold f_X12_pack_L229
    refine PWk.iload 6 dX12_pack_229 rfl ?_
    refine PWk.sipush (v := 256) dX12_pack_231 sp_256 ?_
    refine PWk.icmp_ge 360 dX12_pack_234 (by decide) (fun h58 => ?_) (fun h58 => ?_)
    · refine PWk.sub [0, 1, 2, 3, 4] rfl ?_
      exact PWk.done (fun h => hx _ h)
    · refine PWk.iload 6 dX12_pack_237 rfl ?_
      refine PWk.jn (pc' := 247) (lv' := fun y42 => [(0, .ref 100), (2, .int u2), (3, .int u3), (4, .int u4), (5, .int u5), (7, .int u7), (8, .int u8)]) (st' := fun y42 => [.int y42]) (I' := fun y42 => I) (L' := fun y42 => L) (R' := fun y42 => R) (fun j40 hj40 => ?_) (fun y42 => ?_)
      · refine PWk.if_ne 246 dX12_pack_239 (by decide) (fun h41 => ?_) (fun h41 => ?_)
        · refine PWk.iconst (v := 1) dX12_pack_242 ic_1 ?_
          refine PWk.goto 247 dX12_pack_243 (by decide) ?_
          exact hj40 1
        · refine PWk.iconst (v := 0) dX12_pack_246 ic_0 ?_
          exact hj40 0
      · refine PWk.istore [(9, .int y42), (0, .ref 100), (2, .int u2), (3, .int u3), (4, .int u4), (5, .int u5), (7, .int u7), (8, .int u8)] dX12_pack_247 (by decide) rfl ?_
        refine PWk.iload 7 dX12_pack_249 rfl ?_
        refine PWk.istore [(10, .int u8), (9, .int y42), (0, .ref 100), (2, .int u2), (3, .int u3), (4, .int u4), (5, .int u5), (7, .int u7), (8, .int u8)] dX12_pack_251 (by decide) rfl ?_
        refine PWk.sub [2, 3, 4, 5, 6, 7, 8, 1, 0] rfl ?_
        refine PWk.loopV (fun N' hx' => lp_X12_pack_253 fu u2 u3 u4 u5 u7 u8 I L R fu y42 u8 N' F hx') (fun x56 => ?_)
        refine PWk.aload_n 0 dX12_pack_338 rfl ?_
        refine PWk.gets dX12_pack_339 rg_100 lc_100 fl_X12_199 rfl st_100_61 ?_
        refine PWk.sipush (v := 256) dX12_pack_342 sp_256 ?_
        refine PWk.iload 4 dX12_pack_345 rfl ?_
        refine PWk.imul dX12_pack_347 ?_
        refine PWk.iload 6 dX12_pack_348 rfl ?_
        refine PWk.iadd dX12_pack_350 ?_
        refine PWk.iload 7 dX12_pack_351 rfl ?_
        refine PWk.zast dX12_pack_353 rg_139 ly_139 ?_
        refine PWk.bI (fun I57 => ?_)
        refine PWk.iinc (v := (u8 + 1)) 6 [(8, .int (u8 + 1)), (0, .ref 100), (2, .int u2), (3, .int u3), (4, .int u4), (5, .int u5), (7, .int u7), (9, .int x56)] dX12_pack_354 rfl (by rw [ic_1]) (by decide) rfl ?_
        refine PWk.goto 229 dX12_pack_357 (by decide) ?_
        refine PWk.sub [1, 2, 3, 4, 5, 6, 0] rfl ?_
        exact ih (u8 + 1) I57 N F hx
set_option maxRecDepth 20000 in
theorem lp_X12_pack_164 (fu : Nat) (u2 : Int32) (u3 : Int32) (u4 : Int32) (u5 : Int32) (u6 : Int32) (I : HI) (L : HL) (R : HR) : ∀ (n : Nat) (u7 : Int32) (u8 : Int32) (N : (Int32) → Prop) (F : HF), (∀ v : Int32, N v → PW 100 147 2 RX12 cX12_pack 11 (some .int) 226 [(0, .ref 100), (2, .int u2), (3, .int u3), (4, .int u4), (5, .int u5), (7, .int v)] [] I L R F) → PWk 100 147 2 RX12 cX12_pack 11 (some .int) 164 [(0, .ref 100), (2, .int u2), (3, .int u3), (4, .int u4), (5, .int u5), (6, .int u6), (7, .int u7), (8, .int u8)] [] I L R (f_X12_pack_L164 n I u3 u5 u6 u7 u8) N F := by
  intro n
  induction n with
  | zero => intro u7 u8 N F hx; exact PWk.none'
  | succ n ih =>
    intro u7 u8 N F hx
    unfold f_X12_pack_L164
    refine PWk.iload 7 dX12_pack_164 rfl ?_
    refine PWk.aload_n 0 dX12_pack_166 rfl ?_
    refine PWk.gets dX12_pack_167 rg_100 lc_100 fl_X12_66 rfl st_100_18 ?_
    refine PWk.aload_n 0 dX12_pack_170 rfl ?_
    refine PWk.geti dX12_pack_171 rg_100 lc_100 fl_X12_51 rfl ?_
    refine PWk.iald dX12_pack_174 rg_106 ly_106 (fun v26 => ?_)
    refine PWk.icmp_ge 226 dX12_pack_175 (by decide) (fun h38 => ?_) (fun h38 => ?_)
    · refine PWk.sub [0, 1, 2, 3, 4, 6] rfl ?_
      exact PWk.done (fun h => hx _ h)
    · refine PWk.iload 4 dX12_pack_178 rfl ?_
      refine PWk.if_le 226 dX12_pack_180 (by decide) (fun h37 => ?_) (fun h37 => ?_)
      · refine PWk.sub [0, 1, 2, 3, 4, 6] rfl ?_
        exact PWk.done (fun h => hx _ h)
      · refine PWk.iload 6 dX12_pack_183 rfl ?_
        refine PWk.iload_n 2 dX12_pack_185 rfl ?_
        refine PWk.iload 7 dX12_pack_186 rfl ?_
        refine PWk.callSi (pc_X12_has2 I L R u3 u8) dX12_pack_188 ml_X12_357 rfl (by decide) rfl (Nat.le_of_ble_eq_true rfl) (fun x27 => ?_)
        refine PWk.jn (pc' := 217) (lv' := fun y35 => [(0, .ref 100), (2, .int u2), (3, .int u3), (4, .int u4), (5, .int u5), (6, .int u6), (8, .int u8)]) (st' := fun y35 => [.int y35, .int u7]) (I' := fun y35 => I) (L' := fun y35 => L) (R' := fun y35 => R) (fun j29 hj29 => ?_) (fun y35 => ?_)
        · refine PWk.jn (pc' := 216) (lv' := fun y34 => [(0, .ref 100), (2, .int u2), (3, .int u3), (4, .int u4), (5, .int u5), (6, .int u6), (8, .int u8)]) (st' := fun y34 => [.int u7]) (I' := fun y34 => I) (L' := fun y34 => L) (R' := fun y34 => R) (fun j28 hj28 => ?_) (fun y34 => ?_)
          · refine PWk.if_eq 216 dX12_pack_191 (by decide) (fun h33 => ?_) (fun h33 => ?_)
            · refine PWk.sub [0, 1, 2, 3, 4, 5, 7] rfl ?_
              exact hj28 ()
            · refine PWk.aload_n 0 dX12_pack_194 rfl ?_
              refine PWk.iconst (v := 0) dX12_pack_195 ic_0 ?_
              refine PWk.iload 7 dX12_pack_196 rfl ?_
              refine PWk.callVi (pc_X12_liesIn I L R 0 u8) dX12_pack_198 ml_X12_437 rfl rg_100 lc_100 vq_12 (by decide) rfl (Nat.le_of_ble_eq_true rfl) (fun x30 => ?_)
              refine PWk.iload 5 dX12_pack_201 rfl ?_
              refine PWk.icmp_ne 216 dX12_pack_203 (by decide) (fun h32 => ?_) (fun h32 => ?_)
              · refine PWk.aload_n 0 dX12_pack_206 rfl ?_
                refine PWk.iconst (v := 0) dX12_pack_207 ic_0 ?_
                refine PWk.iload 7 dX12_pack_208 rfl ?_
                refine PWk.callVi (pc_X12_fill I L R 0 u8) dX12_pack_210 ml_X12_440 rfl rg_100 lc_100 vq_12 (by decide) rfl (Nat.le_of_ble_eq_true rfl) (fun x31 => ?_)
                refine PWk.goto 217 dX12_pack_213 (by decide) ?_
                refine PWk.sub [0, 1, 2, 3, 4, 5, 7] rfl ?_
                exact hj29 x31
              · refine PWk.sub [0, 1, 2, 3, 4, 5, 7] rfl ?_
                exact hj28 ()
          · refine PWk.iconst (v := 0) dX12_pack_216 ic_0 ?_
            exact hj29 0
        · refine PWk.iadd dX12_pack_217 ?_
          refine PWk.bi (fun v36 => ?_)
          refine PWk.istore [(7, .int v36), (0, .ref 100), (2, .int u2), (3, .int u3), (4, .int u4), (5, .int u5), (6, .int u6), (8, .int u8)] dX12_pack_218 (by decide) rfl ?_
          refine PWk.iinc (v := (u8 + 1)) 7 [(8, .int (u8 + 1)), (7, .int v36), (0, .ref 100), (2, .int u2), (3, .int u3), (4, .int u4), (5, .int u5), (6, .int u6)] dX12_pack_220 rfl (by rw [ic_1]) (by decide) rfl ?_
          refine PWk.goto 164 dX12_pack_223 (by decide) ?_
          refine PWk.sub [2, 3, 4, 5, 6, 7, 1, 0] rfl ?_
          exact ih v36 (u8 + 1) N F hx
set_option maxRecDepth 20000 in
theorem lp_X12_pack_111 (fu : Nat) (u2 : Int32) (u3 : Int32) (L : HL) (R : HR) : ∀ (n : Nat) (u4 : Int32) (u5 : Int32) (I : HI) (N : (Int32 × HI) → Prop) (F : HF), (∀ v : Int32 × HI, N v → PW 100 147 2 RX12 cX12_pack 11 (some .int) 405 [(2, .int u2), (4, .int v.1)] [] v.2 L R F) → PWk 100 147 2 RX12 cX12_pack 11 (some .int) 111 [(0, .ref 100), (2, .int u2), (3, .int u3), (4, .int u4), (5, .int u5)] [] I L R (f_X12_pack_L111 fu n I u3 u4 u5) N F := by
  intro n
  induction n with
  | zero => intro u4 u5 I N F hx; exact PWk.none'
  | succ n ih =>
    intro u4 u5 I N F hx
    unfold f_X12_pack_L111
    refine PWk.iload 4 dX12_pack_111 rfl ?_
    refine PWk.iconst (v := 1) dX12_pack_113 ic_1 ?_
    refine PWk.aload_n 0 dX12_pack_114 rfl ?_
    refine PWk.gets dX12_pack_115 rg_100 lc_100 fl_X12_54 rfl st_100_14 ?_
    refine PWk.aload_n 0 dX12_pack_118 rfl ?_
    refine PWk.geti dX12_pack_119 rg_100 lc_100 fl_X12_51 rfl ?_
    refine PWk.iald dX12_pack_122 rg_102 ly_102 (fun v17 => ?_)
    refine PWk.ishl dX12_pack_123 ?_
    refine PWk.icmp_ge 405 dX12_pack_124 (by decide) (fun h70 => ?_) (fun h70 => ?_)
    · refine PWk.sub [1, 3] rfl ?_
      exact PWk.done (fun h => hx _ h)
    · refine PWk.iload 4 dX12_pack_127 rfl ?_
      refine PWk.jn (pc' := 141) (lv' := fun y21 => [(0, .ref 100), (2, .int u2), (3, .int u3), (4, .int u4), (5, .int u5)]) (st' := fun y21 => [.int y21]) (I' := fun y21 => I) (L' := fun y21 => L) (R' := fun y21 => R) (fun j18 hj18 => ?_) (fun y21 => ?_)
      · refine PWk.if_ne 136 dX12_pack_129 (by decide) (fun h20 => ?_) (fun h20 => ?_)
        · refine PWk.iconst (v := 0) dX12_pack_132 ic_0 ?_
          refine PWk.goto 141 dX12_pack_133 (by decide) ?_
          exact hj18 0
        · refine PWk.iload 4 dX12_pack_136 rfl ?_
          refine PWk.callSi (pc_X12_lowest fu I L R u5) dX12_pack_138 ml_X12_532 rfl (by decide) rfl (Nat.le_of_ble_eq_true rfl) (fun x19 => ?_)
          exact hj18 x19
      · refine PWk.istore [(6, .int y21), (0, .ref 100), (2, .int u2), (3, .int u3), (4, .int u4), (5, .int u5)] dX12_pack_141 (by decide) rfl ?_
        refine PWk.iload 5 dX12_pack_143 rfl ?_
        refine PWk.jn (pc' := 159) (lv' := fun y25 => [(0, .ref 100), (2, .int u2), (3, .int u3), (4, .int u4), (5, .int u5), (6, .int y21)]) (st' := fun y25 => [.int y25]) (I' := fun y25 => I) (L' := fun y25 => L) (R' := fun y25 => R) (fun j22 hj22 => ?_) (fun y25 => ?_)
        · refine PWk.if_ne 152 dX12_pack_145 (by decide) (fun h24 => ?_) (fun h24 => ?_)
          · refine PWk.iconst (v := 0) dX12_pack_148 ic_0 ?_
            refine PWk.goto 159 dX12_pack_149 (by decide) ?_
            refine PWk.sub [1, 2, 3, 4, 5, 0] rfl ?_
            exact hj22 0
          · refine PWk.aload_n 1 dX12_pack_152 rfl ?_
            refine PWk.iconst (v := 0) dX12_pack_153 ic_0 ?_
            refine PWk.iload 0 dX12_pack_154 rfl ?_
            refine PWk.callVi (pc_X12_room fu I L R 0 y21) dX12_pack_156 ml_X12_460 rfl rg_100 lc_100 vq_12 (by decide) rfl (Nat.le_of_ble_eq_true rfl) (fun x23 => ?_)
            refine PWk.sub [1, 2, 3, 4, 5, 0] rfl ?_
            exact hj22 x23
        · refine PWk.istore [(7, .int y25), (0, .ref 100), (2, .int u2), (3, .int u3), (4, .int u4), (5, .int u5), (6, .int y21)] dX12_pack_159 (by decide) rfl ?_
          refine PWk.iconst (v := 0) dX12_pack_161 ic_0 ?_
          refine PWk.istore [(8, .int 0), (7, .int y25), (0, .ref 100), (2, .int u2), (3, .int u3), (4, .int u4), (5, .int u5), (6, .int y21)] dX12_pack_162 (by decide) rfl ?_
          refine PWk.sub [2, 3, 4, 5, 6, 7, 1, 0] rfl ?_
          refine PWk.loopV (fun N' hx' => lp_X12_pack_164 fu u2 u3 u4 u5 y21 I L R fu y25 0 N' F hx') (fun x39 => ?_)
          refine PWk.iconst (v := 0) dX12_pack_226 ic_0 ?_
          refine PWk.istore [(8, .int 0), (0, .ref 100), (2, .int u2), (3, .int u3), (4, .int u4), (5, .int u5), (7, .int x39)] dX12_pack_227 (by decide) rfl ?_
          refine PWk.sub [1, 2, 3, 4, 5, 6, 0] rfl ?_
          refine PWk.loopV (fun N' hx' => lp_X12_pack_229 fu u2 u3 u4 u5 x39 L R fu 0 I N' F hx') (fun x59 => ?_)
          refine PWk.aload_n 0 dX12_pack_360 rfl ?_
          refine PWk.gets dX12_pack_361 rg_100 lc_100 fl_X12_199 rfl st_100_61 ?_
          refine PWk.sipush (v := 256) dX12_pack_364 sp_256 ?_
          refine PWk.iload 4 dX12_pack_367 rfl ?_
          refine PWk.imul dX12_pack_369 ?_
          refine PWk.iload_n 2 dX12_pack_370 rfl ?_
          refine PWk.iadd dX12_pack_371 ?_
          refine PWk.zald dX12_pack_372 rg_139 ly_139 (fun v60 => ?_)
          refine PWk.jn (pc' := 399) (lv' := fun y69 => [(0, .ref 100), (2, .int u2), (3, .int u3), (4, .int y69), (5, .int u5)]) (st' := fun y69 => []) (I' := fun y69 => x59) (L' := fun y69 => L) (R' := fun y69 => R) (fun j61 hj61 => ?_) (fun y69 => ?_)
          · refine PWk.if_eq 399 dX12_pack_373 (by decide) (fun h68 => ?_) (fun h68 => ?_)
            · exact hj61 u4
            · refine PWk.iload 3 dX12_pack_376 rfl ?_
              refine PWk.iconst (v := (-1)) dX12_pack_378 ic_m1 ?_
              refine PWk.jn (pc' := 395) (lv' := fun y67 => [(0, .ref 100), (2, .int u2), (3, .int u3), (5, .int u5)]) (st' := fun y67 => []) (I' := fun y67 => x59) (L' := fun y67 => L) (R' := fun y67 => R) (fun j62 hj62 => ?_) (fun y67 => ?_)
              · refine PWk.icmp_eq 395 dX12_pack_379 (by decide) (fun h66 => ?_) (fun h66 => ?_)
                · refine PWk.sub [0, 1, 2, 4] rfl ?_
                  exact hj62 ()
                · refine PWk.iload 4 dX12_pack_382 rfl ?_
                  refine PWk.callSi (pc_X12_bits fu x59 L R u5) dX12_pack_384 ml_X12_517 rfl (by decide) rfl (Nat.le_of_ble_eq_true rfl) (fun x63 => ?_)
                  refine PWk.iload 3 dX12_pack_387 rfl ?_
                  refine PWk.callSi (pc_X12_bits fu x59 L R u4) dX12_pack_389 ml_X12_517 rfl (by decide) rfl (Nat.le_of_ble_eq_true rfl) (fun x64 => ?_)
                  refine PWk.icmp_ge 399 dX12_pack_392 (by decide) (fun h65 => ?_) (fun h65 => ?_)
                  · exact hj61 u4
                  · refine PWk.sub [0, 1, 2, 4] rfl ?_
                    exact hj62 ()
              · refine PWk.iload 3 dX12_pack_395 rfl ?_
                refine PWk.istore [(4, .int u5), (0, .ref 100), (2, .int u2), (3, .int u3), (5, .int u5)] dX12_pack_397 (by decide) rfl ?_
                refine PWk.sub [1, 2, 3, 0, 4] rfl ?_
                exact hj61 u5
          · refine PWk.iinc (v := (u5 + 1)) 4 [(5, .int (u5 + 1)), (0, .ref 100), (2, .int u2), (3, .int u3), (4, .int y69)] dX12_pack_399 rfl (by rw [ic_1]) (by decide) rfl ?_
            refine PWk.goto 111 dX12_pack_402 (by decide) ?_
            refine PWk.sub [1, 2, 3, 4, 0] rfl ?_
            exact ih y69 (u5 + 1) x59 N F hx
set_option maxRecDepth 20000 in
theorem lp_X12_pack_29 (fu : Nat) (u2 : Int32) (u3 : Int32) (L : HL) (R : HR) : ∀ (n : Nat) (u4 : Int32) (I : HI) (N : (HI) → Prop) (F : HF), (∀ v : HI, N v → PW 100 147 2 RX12 cX12_pack 11 (some .int) 105 [(0, .ref 100), (2, .int u2), (3, .int u3)] [] v L R F) → PWk 100 147 2 RX12 cX12_pack 11 (some .int) 29 [(0, .ref 100), (2, .int u2), (3, .int u3), (4, .int u4)] [] I L R (f_X12_pack_L29 fu n I u4) N F := by
  intro n
  induction n with
  | zero => intro u4 I N F hx; exact PWk.none'
  | succ n ih =>
    intro u4 I N F hx
    unfold f_X12_pack_L29
    refine PWk.iload 3 dX12_pack_29 rfl ?_
    refine PWk.sipush (v := 256) dX12_pack_31 sp_256 ?_
    refine PWk.icmp_ge 105 dX12_pack_34 (by decide) (fun h15 => ?_) (fun h15 => ?_)
    · refine PWk.sub [0, 1, 2] rfl ?_
      exact PWk.done (fun h => hx _ h)
    · refine PWk.aload_n 0 dX12_pack_37 rfl ?_
      refine PWk.gets dX12_pack_38 rg_100 lc_100 fl_X12_202 rfl st_100_62 ?_
      refine PWk.iload 3 dX12_pack_41 rfl ?_
      refine PWk.iconst (v := 0) dX12_pack_43 ic_0 ?_
      refine PWk.iast dX12_pack_44 rg_140 ly_140 ?_
      refine PWk.bI (fun I4 => ?_)
      refine PWk.iconst (v := 0) dX12_pack_45 ic_0 ?_
      refine PWk.istore [(5, .int 0), (0, .ref 100), (2, .int u2), (3, .int u3), (4, .int u4)] dX12_pack_46 (by decide) rfl ?_
      refine PWk.sub [1, 2, 3, 4, 0] rfl ?_
      refine PWk.loopV (fun N' hx' => lp_X12_pack_48 fu u2 u3 u4 L R fu 0 I4 N' F hx') (fun x14 => ?_)
      refine PWk.iinc (v := (u4 + 1)) 3 [(4, .int (u4 + 1)), (0, .ref 100), (2, .int u2), (3, .int u3)] dX12_pack_99 rfl (by rw [ic_1]) (by decide) rfl ?_
      refine PWk.goto 29 dX12_pack_102 (by decide) ?_
      refine PWk.sub [1, 2, 3, 0] rfl ?_
      exact ih (u4 + 1) x14 N F hx
set_option maxRecDepth 20000 in
theorem pc_X12_pack (fu : Nat) (I : HI) (L : HL) (R : HR) (p1 : Int32) (p2 : Int32) : PCo 100 147 2 yX12_pack cX12_pack 11 (some .int) [.ref 100, .int p1, .int p2] I L R (f_X12_pack fu I p1 p2) (fun x : Int32 × HI => ((some (.int x.1), x.2, L, R) : HF)) := by
  refine PCo.of (own := RX12) (by decide +kernel) (Nat.le_of_ble_eq_true rfl) rfl rfl (fun F => ?_)
  unfold f_X12_pack
  refine PWk.aload_n 0 dX12_pack_0 rfl ?_
  refine PWk.iload_n 1 dX12_pack_1 rfl ?_
  refine PWk.callVi (pc_X12_isOwner I L R p1) dX12_pack_2 ml_X12_504 rfl rg_100 lc_100 vq_12 (by decide) rfl (Nat.le_of_ble_eq_true rfl) (fun x1 => ?_)
  refine PWk.if_eq 17 dX12_pack_5 (by decide) (fun h78 => ?_) (fun h78 => ?_)
  · refine PWk.iconst (v := (-1)) dX12_pack_17 ic_m1 ?_
    exact PWk.iret dX12_pack_18 rfl (fun h => h)
  · refine PWk.iload_n 2 dX12_pack_8 rfl ?_
    refine PWk.iconst (v := 0) dX12_pack_9 ic_0 ?_
    refine PWk.iconst (v := 1) dX12_pack_10 ic_1 ?_
    refine PWk.callSi (pc_X12_is I L R p2 0 1) dX12_pack_11 ml_X12_319 rfl (by decide) rfl (Nat.le_of_ble_eq_true rfl) (fun x2 => ?_)
    refine PWk.if_ne 19 dX12_pack_14 (by decide) (fun h77 => ?_) (fun h77 => ?_)
    · refine PWk.iconst (v := (-1)) dX12_pack_17 ic_m1 ?_
      exact PWk.iret dX12_pack_18 rfl (fun h => h)
    · refine PWk.aload_n 0 dX12_pack_19 rfl ?_
      refine PWk.iconst (v := 0) dX12_pack_20 ic_0 ?_
      refine PWk.iload_n 1 dX12_pack_21 rfl ?_
      refine PWk.callVi (pc_X12_lakesOf fu I L R 0 p1) dX12_pack_22 ml_X12_486 rfl rg_100 lc_100 vq_12 (by decide) rfl (Nat.le_of_ble_eq_true rfl) (fun x3 => ?_)
      refine PWk.istore_n [(3, .int x3), (0, .ref 100), (1, .int p1), (2, .int p2)] dX12_pack_25 (by decide) rfl ?_
      refine PWk.iconst (v := 0) dX12_pack_26 ic_0 ?_
      refine PWk.istore [(4, .int 0), (3, .int x3), (0, .ref 100), (1, .int p1), (2, .int p2)] dX12_pack_27 (by decide) rfl ?_
      refine PWk.sub [2, 4, 1, 0] rfl ?_
      refine PWk.loopV (fun N' hx' => lp_X12_pack_29 fu p2 x3 L R fu 0 I N' F hx') (fun x16 => ?_)
      refine PWk.iconst (v := (-1)) dX12_pack_105 ic_m1 ?_
      refine PWk.istore [(4, .int (-1)), (0, .ref 100), (2, .int p2), (3, .int x3)] dX12_pack_106 (by decide) rfl ?_
      refine PWk.iconst (v := 0) dX12_pack_108 ic_0 ?_
      refine PWk.istore [(5, .int 0), (4, .int (-1)), (0, .ref 100), (2, .int p2), (3, .int x3)] dX12_pack_109 (by decide) rfl ?_
      refine PWk.sub [2, 3, 4, 1, 0] rfl ?_
      refine PWk.loopV (fun N' hx' => lp_X12_pack_111 fu p2 x3 L R fu (-1) 0 x16 N' F hx') (fun x71 => ?_)
      refine PWk.iload 1 dX12_pack_405 rfl ?_
      refine PWk.iconst (v := (-1)) dX12_pack_407 ic_m1 ?_
      refine PWk.jn (pc' := 415) (lv' := fun y76 => [(4, .int x71.1)]) (st' := fun y76 => []) (I' := fun y76 => x71.2) (L' := fun y76 => L) (R' := fun y76 => R) (fun j72 hj72 => ?_) (fun y76 => ?_)
      · refine PWk.icmp_eq 415 dX12_pack_408 (by decide) (fun h75 => ?_) (fun h75 => ?_)
        · refine PWk.sub [1] rfl ?_
          exact hj72 ()
        · refine PWk.iload_n 0 dX12_pack_411 rfl ?_
          refine PWk.if_ne 420 dX12_pack_412 (by decide) (fun h74 => ?_) (fun h74 => ?_)
          · refine PWk.sub [1] rfl ?_
            exact hj72 ()
          · refine PWk.iload 1 dX12_pack_420 rfl ?_
            refine PWk.callSi (pc_X12_bits fu x71.2 L R x71.1) dX12_pack_422 ml_X12_517 rfl (by decide) rfl (Nat.le_of_ble_eq_true rfl) (fun x73 => ?_)
            exact PWk.iret dX12_pack_425 rfl (fun h => h)
      · refine PWk.iload 0 dX12_pack_415 rfl ?_
        refine PWk.goto 425 dX12_pack_417 (by decide) ?_
        exact PWk.iret dX12_pack_425 rfl (fun h => h)
/-! LakeMarketModel.netOf(I)I -/
def f_X12_netOf (fu : Nat) (I : HI) (p1 : Int32) : Option (Int32) :=
  (f_X12_owed fu I p1 0).bind fun x1 =>
  (f_X12_owed fu I p1 1).bind fun x2 =>
  some (x1 - x2)
set_option maxRecDepth 20000 in
theorem pc_X12_netOf (fu : Nat) (I : HI) (L : HL) (R : HR) (p1 : Int32) : PCo 100 147 2 yX12_netOf cX12_netOf 2 (some .int) [.ref 100, .int p1] I L R (f_X12_netOf fu I p1) (fun x : Int32 => ((some (.int x), I, L, R) : HF)) := by
  refine PCo.of (own := RX12) (by decide +kernel) (Nat.le_of_ble_eq_true rfl) rfl rfl (fun F => ?_)
  unfold f_X12_netOf
  refine PWk.aload_n 0 dX12_netOf_0 rfl ?_
  refine PWk.iload_n 1 dX12_netOf_1 rfl ?_
  refine PWk.iconst (v := 0) dX12_netOf_2 ic_0 ?_
  refine PWk.callVi (pc_X12_owed fu I L R p1 0) dX12_netOf_3 ml_X12_482 rfl rg_100 lc_100 vq_12 (by decide) rfl (Nat.le_of_ble_eq_true rfl) (fun x1 => ?_)
  refine PWk.aload_n 0 dX12_netOf_6 rfl ?_
  refine PWk.iload_n 1 dX12_netOf_7 rfl ?_
  refine PWk.iconst (v := 1) dX12_netOf_8 ic_1 ?_
  refine PWk.callVi (pc_X12_owed fu I L R p1 1) dX12_netOf_9 ml_X12_482 rfl rg_100 lc_100 vq_12 (by decide) rfl (Nat.le_of_ble_eq_true rfl) (fun x2 => ?_)
  refine PWk.isub dX12_netOf_12 ?_
  exact PWk.iret dX12_netOf_13 rfl (fun h => h)
/-! LakeMarketModel.net(I)I -/
def f_X12_net (fu : Nat) (I : HI) (p1 : Int32) : Option (Int32) :=
  (f_X12_isOwner I p1).bind fun x1 =>
  if x1 = 0 then
    some (-1000000000)
  else
    (f_X12_netOf fu I p1).bind fun x2 =>
    some x2
set_option maxRecDepth 20000 in
theorem pc_X12_net (fu : Nat) (I : HI) (L : HL) (R : HR) (p1 : Int32) : PCo 100 147 3 yX12_net cX12_net 2 (some .int) [.ref 100, .int p1] I L R (f_X12_net fu I p1) (fun x : Int32 => ((some (.int x), I, L, R) : HF)) := by
  refine PCo.of (own := RX12) (by decide +kernel) (Nat.le_of_ble_eq_true rfl) rfl rfl (fun F => ?_)
  unfold f_X12_net
  refine PWk.aload_n 0 dX12_net_0 rfl ?_
  refine PWk.iload_n 1 dX12_net_1 rfl ?_
  refine PWk.callVi (pc_X12_isOwner I L R p1) dX12_net_2 ml_X12_504 rfl rg_100 lc_100 vq_12 (by decide) rfl (Nat.le_of_ble_eq_true rfl) (fun x1 => ?_)
  refine PWk.if_eq 16 dX12_net_5 (by decide) (fun h3 => ?_) (fun h3 => ?_)
  · refine PWk.ldcw (v := (-1000000000)) dX12_net_16 kc_X12_538 ?_
    exact PWk.iret dX12_net_19 rfl (fun h => h)
  · refine PWk.aload_n 0 dX12_net_8 rfl ?_
    refine PWk.iload_n 1 dX12_net_9 rfl ?_
    refine PWk.callVi (pc_X12_netOf fu I L R p1) dX12_net_10 ml_X12_535 rfl rg_100 lc_100 vq_12 (by decide) rfl (Nat.le_of_ble_eq_true rfl) (fun x2 => ?_)
    refine PWk.goto 19 dX12_net_13 (by decide) ?_
    exact PWk.iret dX12_net_19 rfl (fun h => h)
/-! LakeMarketModel.settling()I -/
def f_X12_settling_L76 (fu : Nat) : Nat → HI → Int32 → Int32 → Int32 → Option (Int32)
  | 0, _, _, _, _ => none
  | n + 1, I, u3, u4, u5 =>
    ldI (I 105) 2 (I 100 13) fun v13 =>
    if v13 ≤ u5 then
      some u4
    else
      (f_X12_has2 u3 u5).bind fun x14 =>
      jnt (β := Int32) (fun y18 =>
        bnd ((u4 + y18)) fun v19 =>
        f_X12_settling_L76 fu n I u3 v19 (u5 + 1)) fun j15 =>
      if x14 = 0 then
        j15 0
      else
        (f_X12_netOf fu I u5).bind fun x16 =>
        j15 x16
def f_X12_settling_L66 (fu : Nat) : Nat → HI → Int32 → Int32 → Option (HI)
  | 0, _, _, _ => none
  | n + 1, I, u2, u3 =>
    if u3 ≤ 0 then
      some I
    else
      (f_X12_settling_L76 fu fu I u3 0 0).bind fun x21 =>
      jnt (β := HI) (fun y31 =>
        bnd (((u3 - 1) &&& u2)) fun v32 =>
        f_X12_settling_L66 fu n y31 u2 v32) fun j22 =>
      if x21 = 0 then
        ldI (I 141) 64 (u2 &&& (u3 ^^^ (-1))) fun v23 =>
        if v23 < 0 then
          j22 I
        else
          ldI (I 141) 64 (u2 &&& (u3 ^^^ (-1))) fun v24 =>
          ldI (I 141) 64 u2 fun v25 =>
          if (v24 + 1) ≤ v25 then
            j22 I
          else
            ldI (I 141) 64 (u2 &&& (u3 ^^^ (-1))) fun v26 =>
            inb 64 u2 <|
            bnd (sI I 141 (u2 : Int32).toNatClampNeg (v26 + 1)) fun I27 =>
            j22 I27
      else
        j22 I
def f_X12_settling_L43 (fu : Nat) : Nat → HI → Int32 → Option (HI)
  | 0, _, _ => none
  | n + 1, I, u2 =>
    if 64 ≤ u2 then
      some I
    else
      jnt (β := Int32) (fun y11 =>
        inb 64 u2 <|
        bnd (sI I 141 (u2 : Int32).toNatClampNeg y11) fun I12 =>
        (f_X12_settling_L66 fu fu I12 u2 u2).bind fun x34 =>
        f_X12_settling_L43 fu n x34 (u2 + 1)) fun j9 =>
      if u2 = 0 then
        j9 0
      else
        j9 (-1)
def f_X12_settling_L4 (fu : Nat) : Nat → HI → Int32 → Int32 → Option (Int32)
  | 0, _, _, _ => none
  | n + 1, I, u1, u2 =>
    ldI (I 105) 2 (I 100 13) fun v1 =>
    if v1 ≤ u2 then
      some u1
    else
      (f_X12_netOf fu I u2).bind fun x2 =>
      jnt (β := Int32) (fun y5 =>
        bnd ((u1 ||| y5)) fun v6 =>
        f_X12_settling_L4 fu n I v6 (u2 + 1)) fun j3 =>
      if x2 = 0 then
        j3 0
      else
        j3 ((1 : Int32) <<< (u2 &&& 31))
def f_X12_settling (fu : Nat) (I : HI) : Option (Int32 × HI) :=
  (f_X12_settling_L4 fu fu I 0 0).bind fun x8 =>
  (f_X12_settling_L43 fu fu I 0).bind fun x36 =>
  (f_X12_bits fu x8).bind fun x37 =>
  ldI (x36 141) 64 x8 fun v38 =>
  some ((x37 - v38), x36)
set_option maxRecDepth 20000 in
theorem lp_X12_settling_76 (fu : Nat) (u1 : Int32) (u2 : Int32) (u3 : Int32) (I : HI) (L : HL) (R : HR) : ∀ (n : Nat) (u4 : Int32) (u5 : Int32) (N : (Int32) → Prop) (F : HF), (∀ v : Int32, N v → PW 100 147 3 RX12 cX12_settling 6 (some .int) 120 [(0, .ref 100), (1, .int u1), (2, .int u2), (3, .int u3), (4, .int v)] [] I L R F) → PWk 100 147 3 RX12 cX12_settling 6 (some .int) 76 [(0, .ref 100), (1, .int u1), (2, .int u2), (3, .int u3), (4, .int u4), (5, .int u5)] [] I L R (f_X12_settling_L76 fu n I u3 u4 u5) N F := by
  intro n
  induction n with
  | zero => intro u4 u5 N F hx; exact PWk.none'
  | succ n ih =>
    intro u4 u5 N F hx
    unfold f_X12_settling_L76
    refine PWk.iload 5 dX12_settling_76 rfl ?_
    refine PWk.aload_n 0 dX12_settling_78 rfl ?_
    refine PWk.gets dX12_settling_79 rg_100 lc_100 fl_X12_63 rfl st_100_17 ?_
    refine PWk.aload_n 0 dX12_settling_82 rfl ?_
    refine PWk.geti dX12_settling_83 rg_100 lc_100 fl_X12_51 rfl ?_
    refine PWk.iald dX12_settling_86 rg_105 ly_105 (fun v13 => ?_)
    refine PWk.icmp_ge 120 dX12_settling_87 (by decide) (fun h20 => ?_) (fun h20 => ?_)
    · refine PWk.sub [0, 1, 2, 3, 4] rfl ?_
      exact PWk.done (fun h => hx _ h)
    · refine PWk.iload 4 dX12_settling_90 rfl ?_
      refine PWk.iload_n 3 dX12_settling_92 rfl ?_
      refine PWk.iload 5 dX12_settling_93 rfl ?_
      refine PWk.callSi (pc_X12_has2 I L R u3 u5) dX12_settling_95 ml_X12_357 rfl (by decide) rfl (Nat.le_of_ble_eq_true rfl) (fun x14 => ?_)
      refine PWk.jn (pc' := 111) (lv' := fun y18 => [(0, .ref 100), (1, .int u1), (2, .int u2), (3, .int u3), (5, .int u5)]) (st' := fun y18 => [.int y18, .int u4]) (I' := fun y18 => I) (L' := fun y18 => L) (R' := fun y18 => R) (fun j15 hj15 => ?_) (fun y18 => ?_)
      · refine PWk.if_eq 110 dX12_settling_98 (by decide) (fun h17 => ?_) (fun h17 => ?_)
        · refine PWk.iconst (v := 0) dX12_settling_110 ic_0 ?_
          refine PWk.sub [0, 1, 2, 3, 5] rfl ?_
          exact hj15 0
        · refine PWk.aload_n 0 dX12_settling_101 rfl ?_
          refine PWk.iload 5 dX12_settling_102 rfl ?_
          refine PWk.callVi (pc_X12_netOf fu I L R u5) dX12_settling_104 ml_X12_535 rfl rg_100 lc_100 vq_12 (by decide) rfl (Nat.le_of_ble_eq_true rfl) (fun x16 => ?_)
          refine PWk.goto 111 dX12_settling_107 (by decide) ?_
          refine PWk.sub [0, 1, 2, 3, 5] rfl ?_
          exact hj15 x16
      · refine PWk.iadd dX12_settling_111 ?_
        refine PWk.bi (fun v19 => ?_)
        refine PWk.istore [(4, .int v19), (0, .ref 100), (1, .int u1), (2, .int u2), (3, .int u3), (5, .int u5)] dX12_settling_112 (by decide) rfl ?_
        refine PWk.iinc (v := (u5 + 1)) 5 [(5, .int (u5 + 1)), (4, .int v19), (0, .ref 100), (1, .int u1), (2, .int u2), (3, .int u3)] dX12_settling_114 rfl (by rw [ic_1]) (by decide) rfl ?_
        refine PWk.goto 76 dX12_settling_117 (by decide) ?_
        refine PWk.sub [2, 3, 4, 5, 1, 0] rfl ?_
        exact ih v19 (u5 + 1) N F hx
set_option maxRecDepth 20000 in
theorem lp_X12_settling_66 (fu : Nat) (u1 : Int32) (u2 : Int32) (L : HL) (R : HR) : ∀ (n : Nat) (u3 : Int32) (I : HI) (N : (HI) → Prop) (F : HF), (∀ v : HI, N v → PW 100 147 3 RX12 cX12_settling 6 (some .int) 186 [(0, .ref 100), (1, .int u1), (2, .int u2)] [] v L R F) → PWk 100 147 3 RX12 cX12_settling 6 (some .int) 66 [(0, .ref 100), (1, .int u1), (2, .int u2), (3, .int u3)] [] I L R (f_X12_settling_L66 fu n I u2 u3) N F := by
  intro n
  induction n with
  | zero => intro u3 I N F hx; exact PWk.none'
  | succ n ih =>
    intro u3 I N F hx
    unfold f_X12_settling_L66
    refine PWk.iload_n 3 dX12_settling_66 rfl ?_
    refine PWk.if_le 186 dX12_settling_67 (by decide) (fun h33 => ?_) (fun h33 => ?_)
    · refine PWk.sub [0, 1, 2] rfl ?_
      exact PWk.done (fun h => hx _ h)
    · refine PWk.iconst (v := 0) dX12_settling_70 ic_0 ?_
      refine PWk.istore [(4, .int 0), (0, .ref 100), (1, .int u1), (2, .int u2), (3, .int u3)] dX12_settling_71 (by decide) rfl ?_
      refine PWk.iconst (v := 0) dX12_settling_73 ic_0 ?_
      refine PWk.istore [(5, .int 0), (4, .int 0), (0, .ref 100), (1, .int u1), (2, .int u2), (3, .int u3)] dX12_settling_74 (by decide) rfl ?_
      refine PWk.sub [2, 3, 4, 5, 1, 0] rfl ?_
      refine PWk.loopV (fun N' hx' => lp_X12_settling_76 fu u1 u2 u3 I L R fu 0 0 N' F hx') (fun x21 => ?_)
      refine PWk.iload 4 dX12_settling_120 rfl ?_
      refine PWk.jn (pc' := 177) (lv' := fun y31 => [(0, .ref 100), (1, .int u1), (2, .int u2), (3, .int u3)]) (st' := fun y31 => []) (I' := fun y31 => y31) (L' := fun y31 => L) (R' := fun y31 => R) (fun j22 hj22 => ?_) (fun y31 => ?_)
      · refine PWk.if_ne 177 dX12_settling_122 (by decide) (fun h30 => ?_) (fun h30 => ?_)
        · refine PWk.aload_n 0 dX12_settling_125 rfl ?_
          refine PWk.gets dX12_settling_126 rg_100 lc_100 fl_X12_205 rfl st_100_63 ?_
          refine PWk.iload_n 2 dX12_settling_129 rfl ?_
          refine PWk.iload_n 3 dX12_settling_130 rfl ?_
          refine PWk.iconst (v := (-1)) dX12_settling_131 ic_m1 ?_
          refine PWk.ixor dX12_settling_132 ?_
          refine PWk.iand dX12_settling_133 ?_
          refine PWk.iald dX12_settling_134 rg_141 ly_141 (fun v23 => ?_)
          refine PWk.if_lt 177 dX12_settling_135 (by decide) (fun h29 => ?_) (fun h29 => ?_)
          · refine PWk.sub [0, 1, 2, 3] rfl ?_
            exact hj22 I
          · refine PWk.aload_n 0 dX12_settling_138 rfl ?_
            refine PWk.gets dX12_settling_139 rg_100 lc_100 fl_X12_205 rfl st_100_63 ?_
            refine PWk.iload_n 2 dX12_settling_142 rfl ?_
            refine PWk.iload_n 3 dX12_settling_143 rfl ?_
            refine PWk.iconst (v := (-1)) dX12_settling_144 ic_m1 ?_
            refine PWk.ixor dX12_settling_145 ?_
            refine PWk.iand dX12_settling_146 ?_
            refine PWk.iald dX12_settling_147 rg_141 ly_141 (fun v24 => ?_)
            refine PWk.iconst (v := 1) dX12_settling_148 ic_1 ?_
            refine PWk.iadd dX12_settling_149 ?_
            refine PWk.aload_n 0 dX12_settling_150 rfl ?_
            refine PWk.gets dX12_settling_151 rg_100 lc_100 fl_X12_205 rfl st_100_63 ?_
            refine PWk.iload_n 2 dX12_settling_154 rfl ?_
            refine PWk.iald dX12_settling_155 rg_141 ly_141 (fun v25 => ?_)
            refine PWk.icmp_le 177 dX12_settling_156 (by decide) (fun h28 => ?_) (fun h28 => ?_)
            · refine PWk.sub [0, 1, 2, 3] rfl ?_
              exact hj22 I
            · refine PWk.aload_n 0 dX12_settling_159 rfl ?_
              refine PWk.gets dX12_settling_160 rg_100 lc_100 fl_X12_205 rfl st_100_63 ?_
              refine PWk.iload_n 2 dX12_settling_163 rfl ?_
              refine PWk.aload_n 0 dX12_settling_164 rfl ?_
              refine PWk.gets dX12_settling_165 rg_100 lc_100 fl_X12_205 rfl st_100_63 ?_
              refine PWk.iload_n 2 dX12_settling_168 rfl ?_
              refine PWk.iload_n 3 dX12_settling_169 rfl ?_
              refine PWk.iconst (v := (-1)) dX12_settling_170 ic_m1 ?_
              refine PWk.ixor dX12_settling_171 ?_
              refine PWk.iand dX12_settling_172 ?_
              refine PWk.iald dX12_settling_173 rg_141 ly_141 (fun v26 => ?_)
              refine PWk.iconst (v := 1) dX12_settling_174 ic_1 ?_
              refine PWk.iadd dX12_settling_175 ?_
              refine PWk.iast dX12_settling_176 rg_141 ly_141 ?_
              refine PWk.bI (fun I27 => ?_)
              refine PWk.sub [0, 1, 2, 3] rfl ?_
              exact hj22 I27
        · refine PWk.sub [0, 1, 2, 3] rfl ?_
          exact hj22 I
      · refine PWk.iload_n 3 dX12_settling_177 rfl ?_
        refine PWk.iconst (v := 1) dX12_settling_178 ic_1 ?_
        refine PWk.isub dX12_settling_179 ?_
        refine PWk.iload_n 2 dX12_settling_180 rfl ?_
        refine PWk.iand dX12_settling_181 ?_
        refine PWk.bi (fun v32 => ?_)
        refine PWk.istore_n [(3, .int v32), (0, .ref 100), (1, .int u1), (2, .int u2)] dX12_settling_182 (by decide) rfl ?_
        refine PWk.goto 66 dX12_settling_183 (by decide) ?_
        refine PWk.sub [1, 2, 3, 0] rfl ?_
        exact ih v32 y31 N F hx
set_option maxRecDepth 20000 in
theorem lp_X12_settling_43 (fu : Nat) (u1 : Int32) (L : HL) (R : HR) : ∀ (n : Nat) (u2 : Int32) (I : HI) (N : (HI) → Prop) (F : HF), (∀ v : HI, N v → PW 100 147 3 RX12 cX12_settling 6 (some .int) 192 [(0, .ref 100), (1, .int u1)] [] v L R F) → PWk 100 147 3 RX12 cX12_settling 6 (some .int) 43 [(0, .ref 100), (1, .int u1), (2, .int u2)] [] I L R (f_X12_settling_L43 fu n I u2) N F := by
  intro n
  induction n with
  | zero => intro u2 I N F hx; exact PWk.none'
  | succ n ih =>
    intro u2 I N F hx
    unfold f_X12_settling_L43
    refine PWk.iload_n 2 dX12_settling_43 rfl ?_
    refine PWk.bipush (v := 64) dX12_settling_44 bp_64 ?_
    refine PWk.icmp_ge 192 dX12_settling_46 (by decide) (fun h35 => ?_) (fun h35 => ?_)
    · refine PWk.sub [0, 1] rfl ?_
      exact PWk.done (fun h => hx _ h)
    · refine PWk.aload_n 0 dX12_settling_49 rfl ?_
      refine PWk.gets dX12_settling_50 rg_100 lc_100 fl_X12_205 rfl st_100_63 ?_
      refine PWk.iload_n 2 dX12_settling_53 rfl ?_
      refine PWk.iload_n 2 dX12_settling_54 rfl ?_
      refine PWk.jn (pc' := 63) (lv' := fun y11 => [(0, .ref 100), (1, .int u1), (2, .int u2)]) (st' := fun y11 => [.int y11, .int u2, .ref 141]) (I' := fun y11 => I) (L' := fun y11 => L) (R' := fun y11 => R) (fun j9 hj9 => ?_) (fun y11 => ?_)
      · refine PWk.if_ne 62 dX12_settling_55 (by decide) (fun h10 => ?_) (fun h10 => ?_)
        · refine PWk.iconst (v := 0) dX12_settling_58 ic_0 ?_
          refine PWk.goto 63 dX12_settling_59 (by decide) ?_
          exact hj9 0
        · refine PWk.iconst (v := (-1)) dX12_settling_62 ic_m1 ?_
          exact hj9 (-1)
      · refine PWk.iast dX12_settling_63 rg_141 ly_141 ?_
        refine PWk.bI (fun I12 => ?_)
        refine PWk.iload_n 2 dX12_settling_64 rfl ?_
        refine PWk.istore_n [(3, .int u2), (0, .ref 100), (1, .int u1), (2, .int u2)] dX12_settling_65 (by decide) rfl ?_
        refine PWk.sub [1, 2, 3, 0] rfl ?_
        refine PWk.loopV (fun N' hx' => lp_X12_settling_66 fu u1 u2 L R fu u2 I12 N' F hx') (fun x34 => ?_)
        refine PWk.iinc (v := (u2 + 1)) 2 [(2, .int (u2 + 1)), (0, .ref 100), (1, .int u1)] dX12_settling_186 rfl (by rw [ic_1]) (by decide) rfl ?_
        refine PWk.goto 43 dX12_settling_189 (by decide) ?_
        refine PWk.sub [1, 2, 0] rfl ?_
        exact ih (u2 + 1) x34 N F hx
set_option maxRecDepth 20000 in
theorem lp_X12_settling_4 (fu : Nat) (I : HI) (L : HL) (R : HR) : ∀ (n : Nat) (u1 : Int32) (u2 : Int32) (N : (Int32) → Prop) (F : HF), (∀ v : Int32, N v → PW 100 147 3 RX12 cX12_settling 6 (some .int) 41 [(0, .ref 100), (1, .int v)] [] I L R F) → PWk 100 147 3 RX12 cX12_settling 6 (some .int) 4 [(0, .ref 100), (1, .int u1), (2, .int u2)] [] I L R (f_X12_settling_L4 fu n I u1 u2) N F := by
  intro n
  induction n with
  | zero => intro u1 u2 N F hx; exact PWk.none'
  | succ n ih =>
    intro u1 u2 N F hx
    unfold f_X12_settling_L4
    refine PWk.iload_n 2 dX12_settling_4 rfl ?_
    refine PWk.aload_n 0 dX12_settling_5 rfl ?_
    refine PWk.gets dX12_settling_6 rg_100 lc_100 fl_X12_63 rfl st_100_17 ?_
    refine PWk.aload_n 0 dX12_settling_9 rfl ?_
    refine PWk.geti dX12_settling_10 rg_100 lc_100 fl_X12_51 rfl ?_
    refine PWk.iald dX12_settling_13 rg_105 ly_105 (fun v1 => ?_)
    refine PWk.icmp_ge 41 dX12_settling_14 (by decide) (fun h7 => ?_) (fun h7 => ?_)
    · refine PWk.sub [0, 1] rfl ?_
      exact PWk.done (fun h => hx _ h)
    · refine PWk.iload_n 1 dX12_settling_17 rfl ?_
      refine PWk.aload_n 0 dX12_settling_18 rfl ?_
      refine PWk.iload_n 2 dX12_settling_19 rfl ?_
      refine PWk.callVi (pc_X12_netOf fu I L R u2) dX12_settling_20 ml_X12_535 rfl rg_100 lc_100 vq_12 (by decide) rfl (Nat.le_of_ble_eq_true rfl) (fun x2 => ?_)
      refine PWk.jn (pc' := 33) (lv' := fun y5 => [(0, .ref 100), (2, .int u2)]) (st' := fun y5 => [.int y5, .int u1]) (I' := fun y5 => I) (L' := fun y5 => L) (R' := fun y5 => R) (fun j3 hj3 => ?_) (fun y5 => ?_)
      · refine PWk.if_ne 30 dX12_settling_23 (by decide) (fun h4 => ?_) (fun h4 => ?_)
        · refine PWk.iconst (v := 0) dX12_settling_26 ic_0 ?_
          refine PWk.goto 33 dX12_settling_27 (by decide) ?_
          refine PWk.sub [0, 2] rfl ?_
          exact hj3 0
        · refine PWk.iconst (v := 1) dX12_settling_30 ic_1 ?_
          refine PWk.iload_n 2 dX12_settling_31 rfl ?_
          refine PWk.ishl dX12_settling_32 ?_
          refine PWk.sub [0, 2] rfl ?_
          exact hj3 ((1 : Int32) <<< (u2 &&& 31))
      · refine PWk.ior dX12_settling_33 ?_
        refine PWk.bi (fun v6 => ?_)
        refine PWk.istore_n [(1, .int v6), (0, .ref 100), (2, .int u2)] dX12_settling_34 (by decide) rfl ?_
        refine PWk.iinc (v := (u2 + 1)) 2 [(2, .int (u2 + 1)), (1, .int v6), (0, .ref 100)] dX12_settling_35 rfl (by rw [ic_1]) (by decide) rfl ?_
        refine PWk.goto 4 dX12_settling_38 (by decide) ?_
        refine PWk.sub [2, 1, 0] rfl ?_
        exact ih v6 (u2 + 1) N F hx
set_option maxRecDepth 20000 in
theorem pc_X12_settling (fu : Nat) (I : HI) (L : HL) (R : HR) : PCo 100 147 3 yX12_settling cX12_settling 6 (some .int) [.ref 100] I L R (f_X12_settling fu I) (fun x : Int32 × HI => ((some (.int x.1), x.2, L, R) : HF)) := by
  refine PCo.of (own := RX12) (by decide +kernel) (Nat.le_of_ble_eq_true rfl) rfl rfl (fun F => ?_)
  unfold f_X12_settling
  refine PWk.iconst (v := 0) dX12_settling_0 ic_0 ?_
  refine PWk.istore_n [(1, .int 0), (0, .ref 100)] dX12_settling_1 (by decide) rfl ?_
  refine PWk.iconst (v := 0) dX12_settling_2 ic_0 ?_
  refine PWk.istore_n [(2, .int 0), (1, .int 0), (0, .ref 100)] dX12_settling_3 (by decide) rfl ?_
  refine PWk.sub [2, 1, 0] rfl ?_
  refine PWk.loopV (fun N' hx' => lp_X12_settling_4 fu I L R fu 0 0 N' F hx') (fun x8 => ?_)
  refine PWk.iconst (v := 0) dX12_settling_41 ic_0 ?_
  refine PWk.istore_n [(2, .int 0), (0, .ref 100), (1, .int x8)] dX12_settling_42 (by decide) rfl ?_
  refine PWk.sub [1, 2, 0] rfl ?_
  refine PWk.loopV (fun N' hx' => lp_X12_settling_43 fu x8 L R fu 0 I N' F hx') (fun x36 => ?_)
  refine PWk.iload_n 1 dX12_settling_192 rfl ?_
  refine PWk.callSi (pc_X12_bits fu x36 L R x8) dX12_settling_193 ml_X12_517 rfl (by decide) rfl (Nat.le_of_ble_eq_true rfl) (fun x37 => ?_)
  refine PWk.aload_n 0 dX12_settling_196 rfl ?_
  refine PWk.gets dX12_settling_197 rg_100 lc_100 fl_X12_205 rfl st_100_63 ?_
  refine PWk.iload_n 1 dX12_settling_200 rfl ?_
  refine PWk.iald dX12_settling_201 rg_141 ly_141 (fun v38 => ?_)
  refine PWk.isub dX12_settling_202 ?_
  exact PWk.iret dX12_settling_203 rfl (fun h => h)
/-! LakeMarketModel.apart(III)I -/
def f_X12_apart_L98 : Nat → HI → Int32 → Int32 → Int32 → Int32 → Option (Int32 × Int32)
  | 0, _, _, _, _, _ => none
  | n + 1, I, u2, u5, u6, u7 =>
    if u2 ≤ u7 then
      some (u5, u6)
    else
      ldI (I 142) 3 u7 fun v16 =>
      jnt (β := Int32) (fun y20 =>
        ldI (I 142) 3 u7 fun v21 =>
        jnt (β := Int32) (fun y25 =>
          f_X12_apart_L98 n I u2 y20 y25 (u7 + 1)) fun j22 =>
        if u6 ≤ v21 then
          j22 u6
        else
          ldI (I 142) 3 u7 fun v23 =>
          j22 v23) fun j17 =>
      if v16 ≤ u5 then
        j17 u5
      else
        ldI (I 142) 3 u7 fun v18 =>
        j17 v18
def f_X12_apart_L39 : Nat → HI → Int32 → Int32 → Int32 → Int32 → Option (HI)
  | 0, _, _, _, _, _ => none
  | n + 1, I, u1, u2, u4, u5 =>
    if u5 < 0 then
      some I
    else
      (f_X12_has2 u1 u5).bind fun x6 =>
      jnt (β := Int32 × HI) (fun y13 =>
        f_X12_apart_L39 n y13.2 u1 u2 y13.1 (u5 + (-1))) fun j7 =>
      if x6 = 0 then
        j7 (u4, I)
      else
        dvI u2 <|
        ldI (I 142) 3 (u4 - u4 / u2 * u2) fun v8 =>
        ldI (I 143) 8 u5 fun v9 =>
        inb 3 (u4 - u4 / u2 * u2) <|
        bnd (sI I 142 ((u4 - u4 / u2 * u2) : Int32).toNatClampNeg (v8 + v9)) fun I10 =>
        dvI u2 <|
        bnd ((u4 / u2)) fun v11 =>
        j7 (v11, I10)
def f_X12_apart_L3 : Nat → HI → Int32 → Option (HI)
  | 0, _, _ => none
  | n + 1, I, u4 =>
    if 3 ≤ u4 then
      some I
    else
      inb 3 u4 <|
      bnd (sI I 142 (u4 : Int32).toNatClampNeg 0) fun I1 =>
      f_X12_apart_L3 n I1 (u4 + 1)
def f_X12_apart (fu : Nat) (I : HI) (p1 : Int32) (p2 : Int32) (p3 : Int32) : Option (Int32 × HI) :=
  (f_X12_apart_L3 fu I 0).bind fun x3 =>
  ldI (x3 106) 2 (x3 100 13) fun v4 =>
  bnd ((v4 - 1)) fun v5 =>
  (f_X12_apart_L39 fu x3 p1 p2 p3 v5).bind fun x15 =>
  (f_X12_apart_L98 fu x15 p2 0 100000000 0).bind fun x27 =>
  some ((x27.1 - x27.2), x15)
set_option maxRecDepth 20000 in
theorem lp_X12_apart_98 (fu : Nat) (u2 : Int32) (I : HI) (L : HL) (R : HR) : ∀ (n : Nat) (u5 : Int32) (u6 : Int32) (u7 : Int32) (N : (Int32 × Int32) → Prop) (F : HF), (∀ v : Int32 × Int32, N v → PW 100 147 1 RX12 cX12_apart 8 (some .int) 162 [(5, .int v.1), (6, .int v.2)] [] I L R F) → PWk 100 147 1 RX12 cX12_apart 8 (some .int) 98 [(0, .ref 100), (2, .int u2), (5, .int u5), (6, .int u6), (7, .int u7)] [] I L R (f_X12_apart_L98 n I u2 u5 u6 u7) N F := by
  intro n
  induction n with
  | zero => intro u5 u6 u7 N F hx; exact PWk.none'
  | succ n ih =>
    intro u5 u6 u7 N F hx
    unfold f_X12_apart_L98
    refine PWk.iload 4 dX12_apart_98 rfl ?_
    refine PWk.iload_n 1 dX12_apart_100 rfl ?_
    refine PWk.icmp_ge 162 dX12_apart_101 (by decide) (fun h26 => ?_) (fun h26 => ?_)
    · refine PWk.sub [2, 3] rfl ?_
      exact PWk.done (fun h => hx _ h)
    · refine PWk.aload_n 0 dX12_apart_104 rfl ?_
      refine PWk.gets dX12_apart_105 rg_100 lc_100 fl_X12_208 rfl st_100_64 ?_
      refine PWk.iload 4 dX12_apart_108 rfl ?_
      refine PWk.iald dX12_apart_110 rg_142 ly_142 (fun v16 => ?_)
      refine PWk.iload 2 dX12_apart_111 rfl ?_
      refine PWk.jn (pc' := 128) (lv' := fun y20 => [(0, .ref 100), (2, .int u2), (6, .int u6), (7, .int u7)]) (st' := fun y20 => [.int y20]) (I' := fun y20 => I) (L' := fun y20 => L) (R' := fun y20 => R) (fun j17 hj17 => ?_) (fun y20 => ?_)
      · refine PWk.icmp_le 126 dX12_apart_113 (by decide) (fun h19 => ?_) (fun h19 => ?_)
        · refine PWk.iload 2 dX12_apart_126 rfl ?_
          refine PWk.sub [0, 1, 3, 4] rfl ?_
          exact hj17 u5
        · refine PWk.aload_n 0 dX12_apart_116 rfl ?_
          refine PWk.gets dX12_apart_117 rg_100 lc_100 fl_X12_208 rfl st_100_64 ?_
          refine PWk.iload 4 dX12_apart_120 rfl ?_
          refine PWk.iald dX12_apart_122 rg_142 ly_142 (fun v18 => ?_)
          refine PWk.goto 128 dX12_apart_123 (by decide) ?_
          refine PWk.sub [0, 1, 3, 4] rfl ?_
          exact hj17 v18
      · refine PWk.istore [(5, .int y20), (0, .ref 100), (2, .int u2), (6, .int u6), (7, .int u7)] dX12_apart_128 (by decide) rfl ?_
        refine PWk.aload_n 1 dX12_apart_130 rfl ?_
        refine PWk.gets dX12_apart_131 rg_100 lc_100 fl_X12_208 rfl st_100_64 ?_
        refine PWk.iload 4 dX12_apart_134 rfl ?_
        refine PWk.iald dX12_apart_136 rg_142 ly_142 (fun v21 => ?_)
        refine PWk.iload 3 dX12_apart_137 rfl ?_
        refine PWk.jn (pc' := 154) (lv' := fun y25 => [(0, .ref 100), (2, .int u2), (5, .int y20), (7, .int u7)]) (st' := fun y25 => [.int y25]) (I' := fun y25 => I) (L' := fun y25 => L) (R' := fun y25 => R) (fun j22 hj22 => ?_) (fun y25 => ?_)
        · refine PWk.icmp_ge 152 dX12_apart_139 (by decide) (fun h24 => ?_) (fun h24 => ?_)
          · refine PWk.iload 3 dX12_apart_152 rfl ?_
            refine PWk.sub [1, 2, 0, 4] rfl ?_
            exact hj22 u6
          · refine PWk.aload_n 1 dX12_apart_142 rfl ?_
            refine PWk.gets dX12_apart_143 rg_100 lc_100 fl_X12_208 rfl st_100_64 ?_
            refine PWk.iload 4 dX12_apart_146 rfl ?_
            refine PWk.iald dX12_apart_148 rg_142 ly_142 (fun v23 => ?_)
            refine PWk.goto 154 dX12_apart_149 (by decide) ?_
            refine PWk.sub [1, 2, 0, 4] rfl ?_
            exact hj22 v23
        · refine PWk.istore [(6, .int y25), (0, .ref 100), (2, .int u2), (5, .int y20), (7, .int u7)] dX12_apart_154 (by decide) rfl ?_
          refine PWk.iinc (v := (u7 + 1)) 4 [(7, .int (u7 + 1)), (6, .int y25), (0, .ref 100), (2, .int u2), (5, .int y20)] dX12_apart_156 rfl (by rw [ic_1]) (by decide) rfl ?_
          refine PWk.goto 98 dX12_apart_159 (by decide) ?_
          refine PWk.sub [2, 3, 4, 1, 0] rfl ?_
          exact ih y20 y25 (u7 + 1) N F hx
set_option maxRecDepth 20000 in
theorem lp_X12_apart_39 (fu : Nat) (u1 : Int32) (u2 : Int32) (L : HL) (R : HR) : ∀ (n : Nat) (u4 : Int32) (u5 : Int32) (I : HI) (N : (HI) → Prop) (F : HF), (∀ v : HI, N v → PW 100 147 1 RX12 cX12_apart 8 (some .int) 87 [(0, .ref 100), (2, .int u2)] [] v L R F) → PWk 100 147 1 RX12 cX12_apart 8 (some .int) 39 [(0, .ref 100), (1, .int u1), (2, .int u2), (4, .int u4), (5, .int u5)] [] I L R (f_X12_apart_L39 n I u1 u2 u4 u5) N F := by
  intro n
  induction n with
  | zero => intro u4 u5 I N F hx; exact PWk.none'
  | succ n ih =>
    intro u4 u5 I N F hx
    unfold f_X12_apart_L39
    refine PWk.iload 4 dX12_apart_39 rfl ?_
    refine PWk.if_lt 87 dX12_apart_41 (by decide) (fun h14 => ?_) (fun h14 => ?_)
    · refine PWk.sub [0, 2] rfl ?_
      exact PWk.done (fun h => hx _ h)
    · refine PWk.iload_n 1 dX12_apart_44 rfl ?_
      refine PWk.iload 4 dX12_apart_45 rfl ?_
      refine PWk.callSi (pc_X12_has2 I L R u1 u5) dX12_apart_47 ml_X12_357 rfl (by decide) rfl (Nat.le_of_ble_eq_true rfl) (fun x6 => ?_)
      refine PWk.jn (pc' := 81) (lv' := fun y13 => [(0, .ref 100), (1, .int u1), (2, .int u2), (4, .int y13.1), (5, .int u5)]) (st' := fun y13 => []) (I' := fun y13 => y13.2) (L' := fun y13 => L) (R' := fun y13 => R) (fun j7 hj7 => ?_) (fun y13 => ?_)
      · refine PWk.if_ne 56 dX12_apart_50 (by decide) (fun h12 => ?_) (fun h12 => ?_)
        · refine PWk.goto 81 dX12_apart_53 (by decide) ?_
          exact hj7 (u4, I)
        · refine PWk.aload_n 0 dX12_apart_56 rfl ?_
          refine PWk.gets dX12_apart_57 rg_100 lc_100 fl_X12_208 rfl st_100_64 ?_
          refine PWk.iload 3 dX12_apart_60 rfl ?_
          refine PWk.iload_n 2 dX12_apart_62 rfl ?_
          refine PWk.irem dX12_apart_63 ?_
          refine PWk.dup2 dX12_apart_64 rfl rfl ?_
          refine PWk.iald dX12_apart_65 rg_142 ly_142 (fun v8 => ?_)
          refine PWk.aload_n 0 dX12_apart_66 rfl ?_
          refine PWk.gets dX12_apart_67 rg_100 lc_100 fl_X12_211 rfl st_100_65 ?_
          refine PWk.iload 4 dX12_apart_70 rfl ?_
          refine PWk.iald dX12_apart_72 rg_143 ly_143 (fun v9 => ?_)
          refine PWk.iadd dX12_apart_73 ?_
          refine PWk.iast dX12_apart_74 rg_142 ly_142 ?_
          refine PWk.bI (fun I10 => ?_)
          refine PWk.iload 3 dX12_apart_75 rfl ?_
          refine PWk.iload_n 2 dX12_apart_77 rfl ?_
          refine PWk.idiv dX12_apart_78 ?_
          refine PWk.bi (fun v11 => ?_)
          refine PWk.istore [(4, .int v11), (0, .ref 100), (1, .int u1), (2, .int u2), (5, .int u5)] dX12_apart_79 (by decide) rfl ?_
          refine PWk.sub [1, 2, 3, 0, 4] rfl ?_
          exact hj7 (v11, I10)
      · refine PWk.iinc (v := (u5 + (-1))) 4 [(5, .int (u5 + (-1))), (0, .ref 100), (1, .int u1), (2, .int u2), (4, .int y13.1)] dX12_apart_81 rfl (by rw [ic_m1]) (by decide) rfl ?_
        refine PWk.goto 39 dX12_apart_84 (by decide) ?_
        refine PWk.sub [1, 2, 3, 4, 0] rfl ?_
        exact ih y13.1 (u5 + (-1)) y13.2 N F hx
set_option maxRecDepth 20000 in
theorem lp_X12_apart_3 (fu : Nat) (u1 : Int32) (u2 : Int32) (u3 : Int32) (L : HL) (R : HR) : ∀ (n : Nat) (u4 : Int32) (I : HI) (N : (HI) → Prop) (F : HF), (∀ v : HI, N v → PW 100 147 1 RX12 cX12_apart 8 (some .int) 23 [(0, .ref 100), (1, .int u1), (2, .int u2), (3, .int u3)] [] v L R F) → PWk 100 147 1 RX12 cX12_apart 8 (some .int) 3 [(0, .ref 100), (1, .int u1), (2, .int u2), (3, .int u3), (4, .int u4)] [] I L R (f_X12_apart_L3 n I u4) N F := by
  intro n
  induction n with
  | zero => intro u4 I N F hx; exact PWk.none'
  | succ n ih =>
    intro u4 I N F hx
    unfold f_X12_apart_L3
    refine PWk.iload 4 dX12_apart_3 rfl ?_
    refine PWk.iconst (v := 3) dX12_apart_5 ic_3 ?_
    refine PWk.icmp_ge 23 dX12_apart_6 (by decide) (fun h2 => ?_) (fun h2 => ?_)
    · refine PWk.sub [0, 1, 2, 3] rfl ?_
      exact PWk.done (fun h => hx _ h)
    · refine PWk.aload_n 0 dX12_apart_9 rfl ?_
      refine PWk.gets dX12_apart_10 rg_100 lc_100 fl_X12_208 rfl st_100_64 ?_
      refine PWk.iload 4 dX12_apart_13 rfl ?_
      refine PWk.iconst (v := 0) dX12_apart_15 ic_0 ?_
      refine PWk.iast dX12_apart_16 rg_142 ly_142 ?_
      refine PWk.bI (fun I1 => ?_)
      refine PWk.iinc (v := (u4 + 1)) 4 [(4, .int (u4 + 1)), (0, .ref 100), (1, .int u1), (2, .int u2), (3, .int u3)] dX12_apart_17 rfl (by rw [ic_1]) (by decide) rfl ?_
      refine PWk.goto 3 dX12_apart_20 (by decide) ?_
      refine PWk.sub [1, 2, 3, 4, 0] rfl ?_
      exact ih (u4 + 1) I1 N F hx
set_option maxRecDepth 20000 in
theorem pc_X12_apart (fu : Nat) (I : HI) (L : HL) (R : HR) (p1 : Int32) (p2 : Int32) (p3 : Int32) : PCo 100 147 1 yX12_apart cX12_apart 8 (some .int) [.ref 100, .int p1, .int p2, .int p3] I L R (f_X12_apart fu I p1 p2 p3) (fun x : Int32 × HI => ((some (.int x.1), x.2, L, R) : HF)) := by
  refine PCo.of (own := RX12) (by decide +kernel) (Nat.le_of_ble_eq_true rfl) rfl rfl (fun F => ?_)
  unfold f_X12_apart
  refine PWk.iconst (v := 0) dX12_apart_0 ic_0 ?_
  refine PWk.istore [(4, .int 0), (0, .ref 100), (1, .int p1), (2, .int p2), (3, .int p3)] dX12_apart_1 (by decide) rfl ?_
  refine PWk.sub [1, 2, 3, 4, 0] rfl ?_
  refine PWk.loopV (fun N' hx' => lp_X12_apart_3 fu p1 p2 p3 L R fu 0 I N' F hx') (fun x3 => ?_)
  refine PWk.iload_n 3 dX12_apart_23 rfl ?_
  refine PWk.istore [(4, .int p3), (0, .ref 100), (1, .int p1), (2, .int p2), (3, .int p3)] dX12_apart_24 (by decide) rfl ?_
  refine PWk.aload_n 1 dX12_apart_26 rfl ?_
  refine PWk.gets dX12_apart_27 rg_100 lc_100 fl_X12_66 rfl st_100_18 ?_
  refine PWk.aload_n 1 dX12_apart_30 rfl ?_
  refine PWk.geti dX12_apart_31 rg_100 lc_100 fl_X12_51 rfl ?_
  refine PWk.iald dX12_apart_34 rg_106 ly_106 (fun v4 => ?_)
  refine PWk.iconst (v := 1) dX12_apart_35 ic_1 ?_
  refine PWk.isub dX12_apart_36 ?_
  refine PWk.bi (fun v5 => ?_)
  refine PWk.istore [(5, .int v5), (4, .int p3), (0, .ref 100), (1, .int p1), (2, .int p2), (3, .int p3)] dX12_apart_37 (by decide) rfl ?_
  refine PWk.sub [2, 3, 4, 1, 0] rfl ?_
  refine PWk.loopV (fun N' hx' => lp_X12_apart_39 fu p1 p2 L R fu p3 v5 x3 N' F hx') (fun x15 => ?_)
  refine PWk.iconst (v := 0) dX12_apart_87 ic_0 ?_
  refine PWk.istore [(5, .int 0), (0, .ref 100), (2, .int p2)] dX12_apart_88 (by decide) rfl ?_
  refine PWk.ldcw (v := 100000000) dX12_apart_90 kc_X12_516 ?_
  refine PWk.istore [(6, .int 100000000), (5, .int 0), (0, .ref 100), (2, .int p2)] dX12_apart_93 (by decide) rfl ?_
  refine PWk.iconst (v := 0) dX12_apart_95 ic_0 ?_
  refine PWk.istore [(7, .int 0), (6, .int 100000000), (5, .int 0), (0, .ref 100), (2, .int p2)] dX12_apart_96 (by decide) rfl ?_
  refine PWk.sub [3, 4, 2, 1, 0] rfl ?_
  refine PWk.loopV (fun N' hx' => lp_X12_apart_98 fu p2 x15 L R fu 0 100000000 0 N' F hx') (fun x27 => ?_)
  refine PWk.iload 0 dX12_apart_162 rfl ?_
  refine PWk.iload 1 dX12_apart_164 rfl ?_
  refine PWk.isub dX12_apart_166 ?_
  exact PWk.iret dX12_apart_167 rfl (fun h => h)
/-! LakeMarketModel.share(III)I -/
def f_X12_share_L192 : Nat → Int32 → Int32 → Int32 → Int32 → Int32 → Option (Int32)
  | 0, _, _, _, _, _ => none
  | n + 1, u2, u3, u4, u7, u8 =>
    if u8 ≤ u3 then
      some u7
    else
      (f_X12_has2 u4 u8).bind fun x34 =>
      jnt (β := Int32) (fun y37 =>
        dvI y37 <|
        bnd ((u7 / y37)) fun v38 =>
        f_X12_share_L192 n u2 u3 u4 v38 (u8 + (-1))) fun j35 =>
      if x34 = 0 then
        j35 1
      else
        j35 u2
def f_X12_share_L122 (fu : Nat) : Nat → HI → Int32 → Int32 → Int32 → Int32 → Int32 → Option (Int32 × HI)
  | 0, _, _, _, _, _, _ => none
  | n + 1, I, u2, u4, u5, u6, u7 =>
    if u5 ≤ u7 then
      some (u6, I)
    else
      (f_X12_apart fu I u4 u2 u7).bind fun x24 =>
      (f_X12_apart fu x24.2 u4 u2 u6).bind fun x25 =>
      jnt (β := Int32) (fun y28 =>
        f_X12_share_L122 fu n x25.2 u2 u4 u5 y28 (u7 + 1)) fun j26 =>
      if x25.1 ≤ x24.1 then
        j26 u6
      else
        j26 u7
def f_X12_share_L62 (fu : Nat) : Nat → HI → HL → Int32 → Int32 → Int32 → Int32 → Option (Int32 × HI × HL)
  | 0, _, _, _, _, _, _ => none
  | n + 1, I, L, u2, u4, u5, u6 =>
    ldI (I 106) 2 (I 100 13) fun v14 =>
    if v14 ≤ u6 then
      some (u5, I, L)
    else
      (f_X12_worth fu I L 0 u6).bind fun x15 =>
      inb 8 u6 <|
      bnd (sI x15.2.1 143 (u6 : Int32).toNatClampNeg x15.1) fun I16 =>
      (f_X12_has2 u4 u6).bind fun x17 =>
      jnt (β := Int32) (fun y20 =>
        bnd ((u5 * y20)) fun v21 =>
        f_X12_share_L62 fu n I16 x15.2.2 u2 u4 v21 (u6 + 1)) fun j18 =>
      if x17 = 0 then
        j18 1
      else
        j18 u2
def f_X12_share (fu : Nat) (I : HI) (L : HL) (p1 : Int32) (p2 : Int32) (p3 : Int32) : Option (Int32 × HI × HL) :=
  (f_X12_isOwner I p1).bind fun x1 =>
  if x1 = 0 then
    some ((-1), I, L)
  else
    (f_X12_is p2 2 3).bind fun x2 =>
    if x2 = 0 then
      some ((-1), I, L)
    else
      jnt (β := Unit) (fun y7 =>
        (f_X12_lakesOf fu I 0 p1).bind fun x8 =>
        jnt (β := Unit) (fun y13 =>
          (f_X12_share_L62 fu fu I L p2 x8 1 0).bind fun x23 =>
          (f_X12_share_L122 fu fu x23.2.1 p2 x8 x23.1 0 1).bind fun x30 =>
          if p3 = (-1) then
            (f_X12_apart fu x30.2 x8 p2 x30.1).bind fun x31 =>
            some (x31.1, x31.2, x23.2.2)
          else
            ldI (x30.2 106) 2 (x30.2 100 13) fun v32 =>
            bnd ((v32 - 1)) fun v33 =>
            (f_X12_share_L192 fu p2 p3 x8 x30.1 v33).bind fun x40 =>
            dvI p2 <|
            some ((x40 - x40 / p2 * p2), x30.2, x23.2.2)) fun j9 =>
        if p3 = (-1) then
          j9 ()
        else
          (f_X12_has2 x8 p3).bind fun x10 =>
          if x10 = 0 then
            some ((-1), I, L)
          else
            j9 ()) fun j3 =>
      if p3 = (-1) then
        j3 ()
      else
        (f_X12_isLake I p3).bind fun x4 =>
        if x4 = 0 then
          some ((-1), I, L)
        else
          j3 ()
set_option maxRecDepth 20000 in
theorem lp_X12_share_192 (fu : Nat) (u2 : Int32) (u3 : Int32) (u4 : Int32) (I : HI) (L : HL) (R : HR) : ∀ (n : Nat) (u7 : Int32) (u8 : Int32) (N : (Int32) → Prop) (F : HF), (∀ v : Int32, N v → PW 100 147 4 RX12 cX12_share 9 (some .int) 224 [(2, .int u2), (7, .int v)] [] I L R F) → PWk 100 147 4 RX12 cX12_share 9 (some .int) 192 [(2, .int u2), (3, .int u3), (4, .int u4), (7, .int u7), (8, .int u8)] [] I L R (f_X12_share_L192 n u2 u3 u4 u7 u8) N F := by
  intro n
  induction n with
  | zero => intro u7 u8 N F hx; exact PWk.none'
  | succ n ih =>
    intro u7 u8 N F hx
    unfold f_X12_share_L192
    refine PWk.iload 4 dX12_share_192 rfl ?_
    refine PWk.iload_n 1 dX12_share_194 rfl ?_
    refine PWk.icmp_le 224 dX12_share_195 (by decide) (fun h39 => ?_) (fun h39 => ?_)
    · refine PWk.sub [0, 3] rfl ?_
      exact PWk.done (fun h => hx _ h)
    · refine PWk.iload 3 dX12_share_198 rfl ?_
      refine PWk.iload 2 dX12_share_200 rfl ?_
      refine PWk.iload 4 dX12_share_202 rfl ?_
      refine PWk.callSi (pc_X12_has2 I L R u4 u8) dX12_share_204 ml_X12_357 rfl (by decide) rfl (Nat.le_of_ble_eq_true rfl) (fun x34 => ?_)
      refine PWk.jn (pc' := 215) (lv' := fun y37 => [(2, .int u2), (3, .int u3), (4, .int u4), (8, .int u8)]) (st' := fun y37 => [.int y37, .int u7]) (I' := fun y37 => I) (L' := fun y37 => L) (R' := fun y37 => R) (fun j35 hj35 => ?_) (fun y37 => ?_)
      · refine PWk.if_eq 214 dX12_share_207 (by decide) (fun h36 => ?_) (fun h36 => ?_)
        · refine PWk.iconst (v := 1) dX12_share_214 ic_1 ?_
          refine PWk.sub [0, 1, 2, 4] rfl ?_
          exact hj35 1
        · refine PWk.iload_n 0 dX12_share_210 rfl ?_
          refine PWk.goto 215 dX12_share_211 (by decide) ?_
          refine PWk.sub [0, 1, 2, 4] rfl ?_
          exact hj35 u2
      · refine PWk.idiv dX12_share_215 ?_
        refine PWk.bi (fun v38 => ?_)
        refine PWk.istore [(7, .int v38), (2, .int u2), (3, .int u3), (4, .int u4), (8, .int u8)] dX12_share_216 (by decide) rfl ?_
        refine PWk.iinc (v := (u8 + (-1))) 4 [(8, .int (u8 + (-1))), (7, .int v38), (2, .int u2), (3, .int u3), (4, .int u4)] dX12_share_218 rfl (by rw [ic_m1]) (by decide) rfl ?_
        refine PWk.goto 192 dX12_share_221 (by decide) ?_
        refine PWk.sub [2, 3, 4, 1, 0] rfl ?_
        exact ih v38 (u8 + (-1)) N F hx
set_option maxRecDepth 20000 in
theorem lp_X12_share_122 (fu : Nat) (u2 : Int32) (u3 : Int32) (u4 : Int32) (u5 : Int32) (L : HL) (R : HR) : ∀ (n : Nat) (u6 : Int32) (u7 : Int32) (I : HI) (N : (Int32 × HI) → Prop) (F : HF), (∀ v : Int32 × HI, N v → PW 100 147 4 RX12 cX12_share 9 (some .int) 160 [(0, .ref 100), (2, .int u2), (3, .int u3), (4, .int u4), (6, .int v.1)] [] v.2 L R F) → PWk 100 147 4 RX12 cX12_share 9 (some .int) 122 [(0, .ref 100), (2, .int u2), (3, .int u3), (4, .int u4), (5, .int u5), (6, .int u6), (7, .int u7)] [] I L R (f_X12_share_L122 fu n I u2 u4 u5 u6 u7) N F := by
  intro n
  induction n with
  | zero => intro u6 u7 I N F hx; exact PWk.none'
  | succ n ih =>
    intro u6 u7 I N F hx
    unfold f_X12_share_L122
    refine PWk.iload 6 dX12_share_122 rfl ?_
    refine PWk.iload 4 dX12_share_124 rfl ?_
    refine PWk.icmp_ge 160 dX12_share_126 (by decide) (fun h29 => ?_) (fun h29 => ?_)
    · refine PWk.sub [0, 1, 2, 3, 5] rfl ?_
      exact PWk.done (fun h => hx _ h)
    · refine PWk.aload_n 0 dX12_share_129 rfl ?_
      refine PWk.iload 3 dX12_share_130 rfl ?_
      refine PWk.iload_n 1 dX12_share_132 rfl ?_
      refine PWk.iload 6 dX12_share_133 rfl ?_
      refine PWk.callViI (pc_X12_apart fu I L R u4 u2 u7) dX12_share_135 ml_X12_539 rfl rg_100 lc_100 vq_12 (by decide) rfl (Nat.le_of_ble_eq_true rfl) (fun x24 => ?_)
      refine PWk.aload_n 0 dX12_share_138 rfl ?_
      refine PWk.iload 3 dX12_share_139 rfl ?_
      refine PWk.iload_n 1 dX12_share_141 rfl ?_
      refine PWk.iload 5 dX12_share_142 rfl ?_
      refine PWk.callViI (pc_X12_apart fu x24.2 L R u4 u2 u6) dX12_share_144 ml_X12_539 rfl rg_100 lc_100 vq_12 (by decide) rfl (Nat.le_of_ble_eq_true rfl) (fun x25 => ?_)
      refine PWk.jn (pc' := 154) (lv' := fun y28 => [(0, .ref 100), (2, .int u2), (3, .int u3), (4, .int u4), (5, .int u5), (6, .int y28), (7, .int u7)]) (st' := fun y28 => []) (I' := fun y28 => x25.2) (L' := fun y28 => L) (R' := fun y28 => R) (fun j26 hj26 => ?_) (fun y28 => ?_)
      · refine PWk.icmp_ge 154 dX12_share_147 (by decide) (fun h27 => ?_) (fun h27 => ?_)
        · exact hj26 u6
        · refine PWk.iload 6 dX12_share_150 rfl ?_
          refine PWk.istore [(6, .int u7), (0, .ref 100), (2, .int u2), (3, .int u3), (4, .int u4), (5, .int u5), (7, .int u7)] dX12_share_152 (by decide) rfl ?_
          refine PWk.sub [1, 2, 3, 4, 5, 0, 6] rfl ?_
          exact hj26 u7
      · refine PWk.iinc (v := (u7 + 1)) 6 [(7, .int (u7 + 1)), (0, .ref 100), (2, .int u2), (3, .int u3), (4, .int u4), (5, .int u5), (6, .int y28)] dX12_share_154 rfl (by rw [ic_1]) (by decide) rfl ?_
        refine PWk.goto 122 dX12_share_157 (by decide) ?_
        refine PWk.sub [1, 2, 3, 4, 5, 6, 0] rfl ?_
        exact ih y28 (u7 + 1) x25.2 N F hx
set_option maxRecDepth 20000 in
theorem lp_X12_share_62 (fu : Nat) (u2 : Int32) (u3 : Int32) (u4 : Int32) (R : HR) : ∀ (n : Nat) (u5 : Int32) (u6 : Int32) (I : HI) (L : HL) (N : (Int32 × HI × HL) → Prop) (F : HF), (∀ v : Int32 × HI × HL, N v → PW 100 147 4 RX12 cX12_share 9 (some .int) 116 [(0, .ref 100), (2, .int u2), (3, .int u3), (4, .int u4), (5, .int v.1)] [] v.2.1 v.2.2 R F) → PWk 100 147 4 RX12 cX12_share 9 (some .int) 62 [(0, .ref 100), (2, .int u2), (3, .int u3), (4, .int u4), (5, .int u5), (6, .int u6)] [] I L R (f_X12_share_L62 fu n I L u2 u4 u5 u6) N F := by
  intro n
  induction n with
  | zero => intro u5 u6 I L N F hx; exact PWk.none'
  | succ n ih =>
    intro u5 u6 I L N F hx
    unfold f_X12_share_L62
    refine PWk.iload 5 dX12_share_62 rfl ?_
    refine PWk.aload_n 0 dX12_share_64 rfl ?_
    refine PWk.gets dX12_share_65 rg_100 lc_100 fl_X12_66 rfl st_100_18 ?_
    refine PWk.aload_n 0 dX12_share_68 rfl ?_
    refine PWk.geti dX12_share_69 rg_100 lc_100 fl_X12_51 rfl ?_
    refine PWk.iald dX12_share_72 rg_106 ly_106 (fun v14 => ?_)
    refine PWk.icmp_ge 116 dX12_share_73 (by decide) (fun h22 => ?_) (fun h22 => ?_)
    · refine PWk.sub [0, 1, 2, 3, 4] rfl ?_
      exact PWk.done (fun h => hx _ h)
    · refine PWk.aload_n 0 dX12_share_76 rfl ?_
      refine PWk.gets dX12_share_77 rg_100 lc_100 fl_X12_211 rfl st_100_65 ?_
      refine PWk.iload 5 dX12_share_80 rfl ?_
      refine PWk.aload_n 0 dX12_share_82 rfl ?_
      refine PWk.iconst (v := 0) dX12_share_83 ic_0 ?_
      refine PWk.iload 5 dX12_share_84 rfl ?_
      refine PWk.callViIL (pc_X12_worth fu I L R 0 u6) dX12_share_86 ml_X12_476 rfl rg_100 lc_100 vq_12 (by decide) rfl (Nat.le_of_ble_eq_true rfl) (fun x15 => ?_)
      refine PWk.iast dX12_share_89 rg_143 ly_143 ?_
      refine PWk.bI (fun I16 => ?_)
      refine PWk.iload 4 dX12_share_90 rfl ?_
      refine PWk.iload 3 dX12_share_92 rfl ?_
      refine PWk.iload 5 dX12_share_94 rfl ?_
      refine PWk.callSi (pc_X12_has2 I16 x15.2.2 R u4 u6) dX12_share_96 ml_X12_357 rfl (by decide) rfl (Nat.le_of_ble_eq_true rfl) (fun x17 => ?_)
      refine PWk.jn (pc' := 107) (lv' := fun y20 => [(0, .ref 100), (2, .int u2), (3, .int u3), (4, .int u4), (6, .int u6)]) (st' := fun y20 => [.int y20, .int u5]) (I' := fun y20 => I16) (L' := fun y20 => x15.2.2) (R' := fun y20 => R) (fun j18 hj18 => ?_) (fun y20 => ?_)
      · refine PWk.if_eq 106 dX12_share_99 (by decide) (fun h19 => ?_) (fun h19 => ?_)
        · refine PWk.iconst (v := 1) dX12_share_106 ic_1 ?_
          refine PWk.sub [0, 1, 2, 3, 5] rfl ?_
          exact hj18 1
        · refine PWk.iload_n 1 dX12_share_102 rfl ?_
          refine PWk.goto 107 dX12_share_103 (by decide) ?_
          refine PWk.sub [0, 1, 2, 3, 5] rfl ?_
          exact hj18 u2
      · refine PWk.imul dX12_share_107 ?_
        refine PWk.bi (fun v21 => ?_)
        refine PWk.istore [(5, .int v21), (0, .ref 100), (2, .int u2), (3, .int u3), (4, .int u4), (6, .int u6)] dX12_share_108 (by decide) rfl ?_
        refine PWk.iinc (v := (u6 + 1)) 5 [(6, .int (u6 + 1)), (5, .int v21), (0, .ref 100), (2, .int u2), (3, .int u3), (4, .int u4)] dX12_share_110 rfl (by rw [ic_1]) (by decide) rfl ?_
        refine PWk.goto 62 dX12_share_113 (by decide) ?_
        refine PWk.sub [2, 3, 4, 5, 1, 0] rfl ?_
        exact ih v21 (u6 + 1) I16 x15.2.2 N F hx
set_option maxRecDepth 20000 in
theorem pc_X12_share (fu : Nat) (I : HI) (L : HL) (R : HR) (p1 : Int32) (p2 : Int32) (p3 : Int32) : PCo 100 147 4 yX12_share cX12_share 9 (some .int) [.ref 100, .int p1, .int p2, .int p3] I L R (f_X12_share fu I L p1 p2 p3) (fun x : Int32 × HI × HL => ((some (.int x.1), x.2.1, x.2.2, R) : HF)) := by
  refine PCo.of (own := RX12) (by decide +kernel) (Nat.le_of_ble_eq_true rfl) rfl rfl (fun F => ?_)
  unfold f_X12_share
  refine PWk.aload_n 0 dX12_share_0 rfl ?_
  refine PWk.iload_n 1 dX12_share_1 rfl ?_
  refine PWk.callVi (pc_X12_isOwner I L R p1) dX12_share_2 ml_X12_504 rfl rg_100 lc_100 vq_12 (by decide) rfl (Nat.le_of_ble_eq_true rfl) (fun x1 => ?_)
  refine PWk.if_eq 30 dX12_share_5 (by decide) (fun h43 => ?_) (fun h43 => ?_)
  · refine PWk.iconst (v := (-1)) dX12_share_30 ic_m1 ?_
    exact PWk.iret dX12_share_31 rfl (fun h => h)
  · refine PWk.iload_n 2 dX12_share_8 rfl ?_
    refine PWk.iconst (v := 2) dX12_share_9 ic_2 ?_
    refine PWk.iconst (v := 3) dX12_share_10 ic_3 ?_
    refine PWk.callSi (pc_X12_is I L R p2 2 3) dX12_share_11 ml_X12_319 rfl (by decide) rfl (Nat.le_of_ble_eq_true rfl) (fun x2 => ?_)
    refine PWk.if_eq 30 dX12_share_14 (by decide) (fun h42 => ?_) (fun h42 => ?_)
    · refine PWk.iconst (v := (-1)) dX12_share_30 ic_m1 ?_
      exact PWk.iret dX12_share_31 rfl (fun h => h)
    · refine PWk.iload_n 3 dX12_share_17 rfl ?_
      refine PWk.iconst (v := (-1)) dX12_share_18 ic_m1 ?_
      refine PWk.jn (pc' := 32) (lv' := fun y7 => [(0, .ref 100), (1, .int p1), (2, .int p2), (3, .int p3)]) (st' := fun y7 => []) (I' := fun y7 => I) (L' := fun y7 => L) (R' := fun y7 => R) (fun j3 hj3 => ?_) (fun y7 => ?_)
      · refine PWk.icmp_eq 32 dX12_share_19 (by decide) (fun h6 => ?_) (fun h6 => ?_)
        · exact hj3 ()
        · refine PWk.aload_n 0 dX12_share_22 rfl ?_
          refine PWk.iload_n 3 dX12_share_23 rfl ?_
          refine PWk.callVi (pc_X12_isLake I L R p3) dX12_share_24 ml_X12_501 rfl rg_100 lc_100 vq_12 (by decide) rfl (Nat.le_of_ble_eq_true rfl) (fun x4 => ?_)
          refine PWk.if_ne 32 dX12_share_27 (by decide) (fun h5 => ?_) (fun h5 => ?_)
          · refine PWk.iconst (v := (-1)) dX12_share_30 ic_m1 ?_
            exact PWk.iret dX12_share_31 rfl (fun h => h)
          · exact hj3 ()
      · refine PWk.aload_n 0 dX12_share_32 rfl ?_
        refine PWk.iconst (v := 0) dX12_share_33 ic_0 ?_
        refine PWk.iload_n 1 dX12_share_34 rfl ?_
        refine PWk.callVi (pc_X12_lakesOf fu I L R 0 p1) dX12_share_35 ml_X12_486 rfl rg_100 lc_100 vq_12 (by decide) rfl (Nat.le_of_ble_eq_true rfl) (fun x8 => ?_)
        refine PWk.istore [(4, .int x8), (0, .ref 100), (1, .int p1), (2, .int p2), (3, .int p3)] dX12_share_38 (by decide) rfl ?_
        refine PWk.iload_n 4 dX12_share_40 rfl ?_
        refine PWk.iconst (v := (-1)) dX12_share_41 ic_m1 ?_
        refine PWk.jn (pc' := 56) (lv' := fun y13 => [(0, .ref 100), (2, .int p2), (3, .int p3), (4, .int x8)]) (st' := fun y13 => []) (I' := fun y13 => I) (L' := fun y13 => L) (R' := fun y13 => R) (fun j9 hj9 => ?_) (fun y13 => ?_)
        · refine PWk.icmp_eq 56 dX12_share_42 (by decide) (fun h12 => ?_) (fun h12 => ?_)
          · refine PWk.sub [1, 3, 4, 0] rfl ?_
            exact hj9 ()
          · refine PWk.iload 0 dX12_share_45 rfl ?_
            refine PWk.iload_n 4 dX12_share_47 rfl ?_
            refine PWk.callSi (pc_X12_has2 I L R x8 p3) dX12_share_48 ml_X12_357 rfl (by decide) rfl (Nat.le_of_ble_eq_true rfl) (fun x10 => ?_)
            refine PWk.if_ne 56 dX12_share_51 (by decide) (fun h11 => ?_) (fun h11 => ?_)
            · refine PWk.iconst (v := (-1)) dX12_share_54 ic_m1 ?_
              exact PWk.iret dX12_share_55 rfl (fun h => h)
            · refine PWk.sub [1, 3, 4, 0] rfl ?_
              exact hj9 ()
        · refine PWk.iconst (v := 1) dX12_share_56 ic_1 ?_
          refine PWk.istore [(5, .int 1), (0, .ref 100), (2, .int p2), (3, .int p3), (4, .int x8)] dX12_share_57 (by decide) rfl ?_
          refine PWk.iconst (v := 0) dX12_share_59 ic_0 ?_
          refine PWk.istore [(6, .int 0), (5, .int 1), (0, .ref 100), (2, .int p2), (3, .int p3), (4, .int x8)] dX12_share_60 (by decide) rfl ?_
          refine PWk.sub [2, 3, 4, 5, 1, 0] rfl ?_
          refine PWk.loopV (fun N' hx' => lp_X12_share_62 fu p2 p3 x8 R fu 1 0 I L N' F hx') (fun x23 => ?_)
          refine PWk.iconst (v := 0) dX12_share_116 ic_0 ?_
          refine PWk.istore [(6, .int 0), (0, .ref 100), (2, .int p2), (3, .int p3), (4, .int x8), (5, .int x23.1)] dX12_share_117 (by decide) rfl ?_
          refine PWk.iconst (v := 1) dX12_share_119 ic_1 ?_
          refine PWk.istore [(7, .int 1), (6, .int 0), (0, .ref 100), (2, .int p2), (3, .int p3), (4, .int x8), (5, .int x23.1)] dX12_share_120 (by decide) rfl ?_
          refine PWk.sub [2, 3, 4, 5, 6, 1, 0] rfl ?_
          refine PWk.loopV (fun N' hx' => lp_X12_share_122 fu p2 p3 x8 x23.1 x23.2.2 R fu 0 1 x23.2.1 N' F hx') (fun x30 => ?_)
          refine PWk.iload_n 2 dX12_share_160 rfl ?_
          refine PWk.iconst (v := (-1)) dX12_share_161 ic_m1 ?_
          refine PWk.icmp_ne 175 dX12_share_162 (by decide) (fun h41 => ?_) (fun h41 => ?_)
          · refine PWk.aload_n 0 dX12_share_165 rfl ?_
            refine PWk.iload 3 dX12_share_166 rfl ?_
            refine PWk.iload_n 1 dX12_share_168 rfl ?_
            refine PWk.iload 4 dX12_share_169 rfl ?_
            refine PWk.callViI (pc_X12_apart fu x30.2 x23.2.2 R x8 p2 x30.1) dX12_share_171 ml_X12_539 rfl rg_100 lc_100 vq_12 (by decide) rfl (Nat.le_of_ble_eq_true rfl) (fun x31 => ?_)
            exact PWk.iret dX12_share_174 rfl (fun h => h)
          · refine PWk.iload 4 dX12_share_175 rfl ?_
            refine PWk.istore [(7, .int x30.1), (0, .ref 100), (2, .int p2), (3, .int p3), (4, .int x8), (6, .int x30.1)] dX12_share_177 (by decide) rfl ?_
            refine PWk.aload_n 1 dX12_share_179 rfl ?_
            refine PWk.gets dX12_share_180 rg_100 lc_100 fl_X12_66 rfl st_100_18 ?_
            refine PWk.aload_n 1 dX12_share_183 rfl ?_
            refine PWk.geti dX12_share_184 rg_100 lc_100 fl_X12_51 rfl ?_
            refine PWk.iald dX12_share_187 rg_106 ly_106 (fun v32 => ?_)
            refine PWk.iconst (v := 1) dX12_share_188 ic_1 ?_
            refine PWk.isub dX12_share_189 ?_
            refine PWk.bi (fun v33 => ?_)
            refine PWk.istore [(8, .int v33), (7, .int x30.1), (0, .ref 100), (2, .int p2), (3, .int p3), (4, .int x8), (6, .int x30.1)] dX12_share_190 (by decide) rfl ?_
            refine PWk.sub [3, 4, 5, 1, 0] rfl ?_
            refine PWk.loopV (fun N' hx' => lp_X12_share_192 fu p2 p3 x8 x30.2 x23.2.2 R fu x30.1 v33 N' F hx') (fun x40 => ?_)
            refine PWk.iload 1 dX12_share_224 rfl ?_
            refine PWk.iload_n 0 dX12_share_226 rfl ?_
            refine PWk.irem dX12_share_227 ?_
            exact PWk.iret dX12_share_228 rfl (fun h => h)
/-! LakeMarketModel.isAsStood()Z -/
def f_X12_isAsStood_L2 : Nat → HI → Int32 → Option ((Int32) ⊕ (Unit))
  | 0, _, _ => none
  | n + 1, I, u1 =>
    if (I 100 66) ≤ u1 then
      some (.inr ())
    else
      ldI (I 144) 8 u1 fun v1 =>
      (f_X12_fill I 1 v1).bind fun x2 =>
      ldI (I 145) 8 u1 fun v3 =>
      if x2 = v3 then
        f_X12_isAsStood_L2 n I (u1 + 1)
      else
        gz 0 (some (.inl 0))
def f_X12_isAsStood (fu : Nat) (I : HI) : Option (Int32) :=
  (f_X12_isAsStood_L2 fu I 0).bind (Sum.elim (fun r => some r) fun x6 =>
  gz 1 (some 1))
set_option maxRecDepth 20000 in
theorem lp_X12_isAsStood_2 (fu : Nat) (I : HI) (L : HL) (R : HR) : ∀ (n : Nat) (u1 : Int32) (N : ((Int32) ⊕ (Unit)) → Prop) (F : HF), (∀ v : Unit, N (.inr v) → PW 100 147 1 RX12 cX12_isAsStood 2 (some .boolean) 38 [] [] I L R F) → (∀ r : Int32, N (.inl r) → F = (fun x : Int32 => ((some (.int x), I, L, R) : HF)) r) → PWk 100 147 1 RX12 cX12_isAsStood 2 (some .boolean) 2 [(0, .ref 100), (1, .int u1)] [] I L R (f_X12_isAsStood_L2 n I u1) N F := by
  intro n
  induction n with
  | zero => intro u1 N F hx hr; exact PWk.none'
  | succ n ih =>
    intro u1 N F hx hr
    unfold f_X12_isAsStood_L2
    refine PWk.iload_n 1 dX12_isAsStood_2 rfl ?_
    refine PWk.aload_n 0 dX12_isAsStood_3 rfl ?_
    refine PWk.geti dX12_isAsStood_4 rg_100 lc_100 fl_X12_214 rfl ?_
    refine PWk.icmp_ge 38 dX12_isAsStood_7 (by decide) (fun h5 => ?_) (fun h5 => ?_)
    · refine PWk.sub [] rfl ?_
      exact PWk.done (fun h => hx _ h)
    · refine PWk.aload_n 0 dX12_isAsStood_10 rfl ?_
      refine PWk.iconst (v := 1) dX12_isAsStood_11 ic_1 ?_
      refine PWk.aload_n 0 dX12_isAsStood_12 rfl ?_
      refine PWk.gets dX12_isAsStood_13 rg_100 lc_100 fl_X12_217 rfl st_100_67 ?_
      refine PWk.iload_n 1 dX12_isAsStood_16 rfl ?_
      refine PWk.iald dX12_isAsStood_17 rg_144 ly_144 (fun v1 => ?_)
      refine PWk.callVi (pc_X12_fill I L R 1 v1) dX12_isAsStood_18 ml_X12_440 rfl rg_100 lc_100 vq_12 (by decide) rfl (Nat.le_of_ble_eq_true rfl) (fun x2 => ?_)
      refine PWk.aload_n 0 dX12_isAsStood_21 rfl ?_
      refine PWk.gets dX12_isAsStood_22 rg_100 lc_100 fl_X12_220 rfl st_100_68 ?_
      refine PWk.iload_n 1 dX12_isAsStood_25 rfl ?_
      refine PWk.iald dX12_isAsStood_26 rg_145 ly_145 (fun v3 => ?_)
      refine PWk.icmp_eq 32 dX12_isAsStood_27 (by decide) (fun h4 => ?_) (fun h4 => ?_)
      · refine PWk.iinc (v := (u1 + 1)) 1 [(1, .int (u1 + 1)), (0, .ref 100)] dX12_isAsStood_32 rfl (by rw [ic_1]) (by decide) rfl ?_
        refine PWk.goto 2 dX12_isAsStood_35 (by decide) ?_
        refine PWk.sub [1, 0] rfl ?_
        exact ih (u1 + 1) N F hx hr
      · refine PWk.iconst (v := 0) dX12_isAsStood_30 ic_0 ?_
        exact PWk.zret dX12_isAsStood_31 rfl (hr _)
set_option maxRecDepth 20000 in
theorem pc_X12_isAsStood (fu : Nat) (I : HI) (L : HL) (R : HR) : PCo 100 147 1 yX12_isAsStood cX12_isAsStood 2 (some .boolean) [.ref 100] I L R (f_X12_isAsStood fu I) (fun x : Int32 => ((some (.int x), I, L, R) : HF)) := by
  refine PCo.of (own := RX12) (by decide +kernel) (Nat.le_of_ble_eq_true rfl) rfl rfl (fun F => ?_)
  unfold f_X12_isAsStood
  refine PWk.iconst (v := 0) dX12_isAsStood_0 ic_0 ?_
  refine PWk.istore_n [(1, .int 0), (0, .ref 100)] dX12_isAsStood_1 (by decide) rfl ?_
  refine PWk.sub [1, 0] rfl ?_
  refine PWk.loopS (fun N' hx' hr' => lp_X12_isAsStood_2 fu I L R fu 0 N' F hx' hr') (fun r a e h => by cases e; exact h) (fun x6 => ?_)
  refine PWk.iconst (v := 1) dX12_isAsStood_38 ic_1 ?_
  exact PWk.zret dX12_isAsStood_39 rfl (fun h => h)
/-! LakeMarketModel.robbed(I)I -/
def f_X12_robbed_L50 (fu : Nat) : Nat → HI → Int32 → Int32 → Int32 → Option (Int32 × HI)
  | 0, _, _, _, _ => none
  | n + 1, I, u1, u2, u3 =>
    ldI (I 106) 2 (I 100 13) fun v8 =>
    if v8 ≤ u3 then
      some (u2, I)
    else
      (f_X12_fill I 1 u3).bind fun x9 =>
      jnt (β := Int32 × HI) (fun y22 =>
        f_X12_robbed_L50 fu n y22.2 u1 y22.1 (u3 + 1)) fun j10 =>
      if x9 = 0 then
        j10 (u2, I)
      else
        jnt (β := Int32) (fun y13 =>
          inb 208 (8 + u3) <|
          bnd (sI I 128 ((8 + u3) : Int32).toNatClampNeg y13) fun I14 =>
          (f_X12_isAsStood fu I14).bind fun x15 =>
          jnt (β := Int32) (fun y18 =>
            bnd ((u2 ||| y18)) fun v19 =>
            inb 208 (8 + u3) <|
            bnd (sI I14 128 ((8 + u3) : Int32).toNatClampNeg x9) fun I20 =>
            j10 (v19, I20)) fun j16 =>
          if x15 = 0 then
            j16 0
          else
            j16 ((1 : Int32) <<< (u3 &&& 31))) fun j11 =>
        if u1 ≤ x9 then
          j11 (x9 - u1)
        else
          j11 0
def f_X12_robbed (fu : Nat) (I : HI) (L : HL) (p1 : Int32) : Option (Int32 × HI × HL) :=
  if (I 100 66) = 0 then
    some ((-1), I, L)
  else
    (f_X12_is p1 1 999).bind fun x1 =>
    if x1 = 0 then
      some ((-1), I, L)
    else
      (f_X12_copies fu I 1 0).bind fun x2 =>
      (f_X12_passes fu x2 L 1 0).bind fun x3 =>
      (f_X12_isAsStood fu x3.2.1).bind fun x4 =>
      jnt (β := Int32) (fun y7 =>
        (f_X12_robbed_L50 fu fu x3.2.1 p1 y7 0).bind fun x24 =>
        some (x24.1, x24.2, x3.2.2)) fun j5 =>
      if x4 = 0 then
        j5 0
      else
        j5 256
set_option maxRecDepth 20000 in
theorem lp_X12_robbed_50 (fu : Nat) (u1 : Int32) (L : HL) (R : HR) : ∀ (n : Nat) (u2 : Int32) (u3 : Int32) (I : HI) (N : (Int32 × HI) → Prop) (F : HF), (∀ v : Int32 × HI, N v → PW 100 147 5 RX12 cX12_robbed 5 (some .int) 136 [(2, .int v.1)] [] v.2 L R F) → PWk 100 147 5 RX12 cX12_robbed 5 (some .int) 50 [(0, .ref 100), (1, .int u1), (2, .int u2), (3, .int u3)] [] I L R (f_X12_robbed_L50 fu n I u1 u2 u3) N F := by
  intro n
  induction n with
  | zero => intro u2 u3 I N F hx; exact PWk.none'
  | succ n ih =>
    intro u2 u3 I N F hx
    unfold f_X12_robbed_L50
    refine PWk.iload_n 3 dX12_robbed_50 rfl ?_
    refine PWk.aload_n 0 dX12_robbed_51 rfl ?_
    refine PWk.gets dX12_robbed_52 rg_100 lc_100 fl_X12_66 rfl st_100_18 ?_
    refine PWk.aload_n 0 dX12_robbed_55 rfl ?_
    refine PWk.geti dX12_robbed_56 rg_100 lc_100 fl_X12_51 rfl ?_
    refine PWk.iald dX12_robbed_59 rg_106 ly_106 (fun v8 => ?_)
    refine PWk.icmp_ge 136 dX12_robbed_60 (by decide) (fun h23 => ?_) (fun h23 => ?_)
    · refine PWk.sub [2] rfl ?_
      exact PWk.done (fun h => hx _ h)
    · refine PWk.aload_n 0 dX12_robbed_63 rfl ?_
      refine PWk.iconst (v := 1) dX12_robbed_64 ic_1 ?_
      refine PWk.iload_n 3 dX12_robbed_65 rfl ?_
      refine PWk.callVi (pc_X12_fill I L R 1 u3) dX12_robbed_66 ml_X12_440 rfl rg_100 lc_100 vq_12 (by decide) rfl (Nat.le_of_ble_eq_true rfl) (fun x9 => ?_)
      refine PWk.istore [(4, .int x9), (0, .ref 100), (1, .int u1), (2, .int u2), (3, .int u3)] dX12_robbed_69 (by decide) rfl ?_
      refine PWk.iload 0 dX12_robbed_71 rfl ?_
      refine PWk.jn (pc' := 130) (lv' := fun y22 => [(0, .ref 100), (1, .int u1), (2, .int y22.1), (3, .int u3)]) (st' := fun y22 => []) (I' := fun y22 => y22.2) (L' := fun y22 => L) (R' := fun y22 => R) (fun j10 hj10 => ?_) (fun y22 => ?_)
      · refine PWk.if_ne 79 dX12_robbed_73 (by decide) (fun h21 => ?_) (fun h21 => ?_)
        · refine PWk.goto 130 dX12_robbed_76 (by decide) ?_
          refine PWk.sub [1, 2, 3, 4] rfl ?_
          exact hj10 (u2, I)
        · refine PWk.aload_n 1 dX12_robbed_79 rfl ?_
          refine PWk.gets dX12_robbed_80 rg_100 lc_100 fl_X12_156 rfl st_100_47 ?_
          refine PWk.bipush (v := 8) dX12_robbed_83 bp_8 ?_
          refine PWk.iload_n 4 dX12_robbed_85 rfl ?_
          refine PWk.iadd dX12_robbed_86 ?_
          refine PWk.iload 0 dX12_robbed_87 rfl ?_
          refine PWk.iload_n 2 dX12_robbed_89 rfl ?_
          refine PWk.jn (pc' := 101) (lv' := fun y13 => [(0, .ref 100), (1, .int u1), (2, .int u2), (3, .int u3), (4, .int x9)]) (st' := fun y13 => [.int y13, .int (8 + u3), .ref 128]) (I' := fun y13 => I) (L' := fun y13 => L) (R' := fun y13 => R) (fun j11 hj11 => ?_) (fun y13 => ?_)
          · refine PWk.icmp_ge 97 dX12_robbed_90 (by decide) (fun h12 => ?_) (fun h12 => ?_)
            · refine PWk.iload 0 dX12_robbed_97 rfl ?_
              refine PWk.iload_n 2 dX12_robbed_99 rfl ?_
              refine PWk.isub dX12_robbed_100 ?_
              refine PWk.sub [1, 2, 3, 4, 0] rfl ?_
              exact hj11 (x9 - u1)
            · refine PWk.iconst (v := 0) dX12_robbed_93 ic_0 ?_
              refine PWk.goto 101 dX12_robbed_94 (by decide) ?_
              refine PWk.sub [1, 2, 3, 4, 0] rfl ?_
              exact hj11 0
          · refine PWk.iast dX12_robbed_101 rg_128 ly_128 ?_
            refine PWk.bI (fun I14 => ?_)
            refine PWk.iload_n 2 dX12_robbed_102 rfl ?_
            refine PWk.aload_n 0 dX12_robbed_103 rfl ?_
            refine PWk.callVi (pc_X12_isAsStood fu I14 L R) dX12_robbed_104 ml_X12_545 rfl rg_100 lc_100 vq_12 (by decide) rfl (Nat.le_of_ble_eq_true rfl) (fun x15 => ?_)
            refine PWk.jn (pc' := 117) (lv' := fun y18 => [(0, .ref 100), (1, .int u1), (3, .int u3), (4, .int x9)]) (st' := fun y18 => [.int y18, .int u2]) (I' := fun y18 => I14) (L' := fun y18 => L) (R' := fun y18 => R) (fun j16 hj16 => ?_) (fun y18 => ?_)
            · refine PWk.if_eq 116 dX12_robbed_107 (by decide) (fun h17 => ?_) (fun h17 => ?_)
              · refine PWk.iconst (v := 0) dX12_robbed_116 ic_0 ?_
                refine PWk.sub [0, 1, 3, 4] rfl ?_
                exact hj16 0
              · refine PWk.iconst (v := 1) dX12_robbed_110 ic_1 ?_
                refine PWk.iload_n 3 dX12_robbed_111 rfl ?_
                refine PWk.ishl dX12_robbed_112 ?_
                refine PWk.goto 117 dX12_robbed_113 (by decide) ?_
                refine PWk.sub [0, 1, 3, 4] rfl ?_
                exact hj16 ((1 : Int32) <<< (u3 &&& 31))
            · refine PWk.ior dX12_robbed_117 ?_
              refine PWk.bi (fun v19 => ?_)
              refine PWk.istore_n [(2, .int v19), (0, .ref 100), (1, .int u1), (3, .int u3), (4, .int x9)] dX12_robbed_118 (by decide) rfl ?_
              refine PWk.aload_n 1 dX12_robbed_119 rfl ?_
              refine PWk.gets dX12_robbed_120 rg_100 lc_100 fl_X12_156 rfl st_100_47 ?_
              refine PWk.bipush (v := 8) dX12_robbed_123 bp_8 ?_
              refine PWk.iload_n 3 dX12_robbed_125 rfl ?_
              refine PWk.iadd dX12_robbed_126 ?_
              refine PWk.iload 4 dX12_robbed_127 rfl ?_
              refine PWk.iast dX12_robbed_129 rg_128 ly_128 ?_
              refine PWk.bI (fun I20 => ?_)
              refine PWk.sub [1, 2, 0, 3] rfl ?_
              exact hj10 (v19, I20)
      · refine PWk.iinc (v := (u3 + 1)) 3 [(3, .int (u3 + 1)), (0, .ref 100), (1, .int u1), (2, .int y22.1)] dX12_robbed_130 rfl (by rw [ic_1]) (by decide) rfl ?_
        refine PWk.goto 50 dX12_robbed_133 (by decide) ?_
        refine PWk.sub [1, 2, 3, 0] rfl ?_
        exact ih y22.1 (u3 + 1) y22.2 N F hx
set_option maxRecDepth 20000 in
theorem pc_X12_robbed (fu : Nat) (I : HI) (L : HL) (R : HR) (p1 : Int32) : PCo 100 147 5 yX12_robbed cX12_robbed 5 (some .int) [.ref 100, .int p1] I L R (f_X12_robbed fu I L p1) (fun x : Int32 × HI × HL => ((some (.int x.1), x.2.1, x.2.2, R) : HF)) := by
  refine PCo.of (own := RX12) (by decide +kernel) (Nat.le_of_ble_eq_true rfl) rfl rfl (fun F => ?_)
  unfold f_X12_robbed
  refine PWk.aload_n 0 dX12_robbed_0 rfl ?_
  refine PWk.geti dX12_robbed_1 rg_100 lc_100 fl_X12_214 rfl ?_
  refine PWk.if_eq 18 dX12_robbed_4 (by decide) (fun h26 => ?_) (fun h26 => ?_)
  · refine PWk.iconst (v := (-1)) dX12_robbed_18 ic_m1 ?_
    exact PWk.iret dX12_robbed_19 rfl (fun h => h)
  · refine PWk.iload_n 1 dX12_robbed_7 rfl ?_
    refine PWk.iconst (v := 1) dX12_robbed_8 ic_1 ?_
    refine PWk.sipush (v := 999) dX12_robbed_9 sp_999 ?_
    refine PWk.callSi (pc_X12_is I L R p1 1 999) dX12_robbed_12 ml_X12_319 rfl (by decide) rfl (Nat.le_of_ble_eq_true rfl) (fun x1 => ?_)
    refine PWk.if_ne 20 dX12_robbed_15 (by decide) (fun h25 => ?_) (fun h25 => ?_)
    · refine PWk.iconst (v := (-1)) dX12_robbed_18 ic_m1 ?_
      exact PWk.iret dX12_robbed_19 rfl (fun h => h)
    · refine PWk.aload_n 0 dX12_robbed_20 rfl ?_
      refine PWk.iconst (v := 1) dX12_robbed_21 ic_1 ?_
      refine PWk.iconst (v := 0) dX12_robbed_22 ic_0 ?_
      refine PWk.callVvI (pc_X12_copies fu I L R 1 0) dX12_robbed_23 ml_X12_418 rfl rg_100 lc_100 vq_12 (by decide) rfl (Nat.le_of_ble_eq_true rfl) (fun x2 => ?_)
      refine PWk.aload_n 0 dX12_robbed_26 rfl ?_
      refine PWk.iconst (v := 1) dX12_robbed_27 ic_1 ?_
      refine PWk.iconst (v := 0) dX12_robbed_28 ic_0 ?_
      refine PWk.callViIL (pc_X12_passes fu x2 L R 1 0) dX12_robbed_29 ml_X12_513 rfl rg_100 lc_100 vq_12 (by decide) rfl (Nat.le_of_ble_eq_true rfl) (fun x3 => ?_)
      refine PWk.pop dX12_robbed_32 rfl ?_
      refine PWk.aload_n 0 dX12_robbed_33 rfl ?_
      refine PWk.callVi (pc_X12_isAsStood fu x3.2.1 x3.2.2 R) dX12_robbed_34 ml_X12_545 rfl rg_100 lc_100 vq_12 (by decide) rfl (Nat.le_of_ble_eq_true rfl) (fun x4 => ?_)
      refine PWk.jn (pc' := 47) (lv' := fun y7 => [(0, .ref 100), (1, .int p1)]) (st' := fun y7 => [.int y7]) (I' := fun y7 => x3.2.1) (L' := fun y7 => x3.2.2) (R' := fun y7 => R) (fun j5 hj5 => ?_) (fun y7 => ?_)
      · refine PWk.if_eq 46 dX12_robbed_37 (by decide) (fun h6 => ?_) (fun h6 => ?_)
        · refine PWk.iconst (v := 0) dX12_robbed_46 ic_0 ?_
          exact hj5 0
        · refine PWk.sipush (v := 256) dX12_robbed_40 sp_256 ?_
          refine PWk.goto 47 dX12_robbed_43 (by decide) ?_
          exact hj5 256
      · refine PWk.istore_n [(2, .int y7), (0, .ref 100), (1, .int p1)] dX12_robbed_47 (by decide) rfl ?_
        refine PWk.iconst (v := 0) dX12_robbed_48 ic_0 ?_
        refine PWk.istore_n [(3, .int 0), (2, .int y7), (0, .ref 100), (1, .int p1)] dX12_robbed_49 (by decide) rfl ?_
        refine PWk.sub [2, 3, 1, 0] rfl ?_
        refine PWk.loopV (fun N' hx' => lp_X12_robbed_50 fu p1 x3.2.2 R fu y7 0 x3.2.1 N' F hx') (fun x24 => ?_)
        refine PWk.iload_n 0 dX12_robbed_136 rfl ?_
        exact PWk.iret dX12_robbed_137 rfl (fun h => h)
/-! LakeMarketModel.nights(I)I -/
def f_X12_nights_L23 (fu : Nat) : Nat → HI → HL → Int32 → Int32 → Int32 → Option (Int32 × HI × HL)
  | 0, _, _, _, _, _ => none
  | n + 1, I, L, u1, u2, u3 =>
    if u1 ≤ u3 then
      some (u2, I, L)
    else
      (f_X12_passes fu I L 0 0).bind fun x4 =>
      bnd ((u2 + x4.1)) fun v5 =>
      f_X12_nights_L23 fu n x4.2.1 x4.2.2 u1 v5 (u3 + 1)
def f_X12_nights (fu : Nat) (I : HI) (L : HL) (p1 : Int32) : Option (Int32 × HI × HL) :=
  (f_X12_isAhead I p1 1).bind fun x1 =>
  if x1 = 0 then
    (f_X12_refuses I 2).bind fun x2 =>
    some (x2.1, x2.2, L)
  else
    (f_X12_keeps fu I).bind fun x3 =>
    (f_X12_nights_L23 fu fu x3 L p1 0 0).bind fun x7 =>
    some (x7.1, x7.2.1, x7.2.2)
set_option maxRecDepth 20000 in
theorem lp_X12_nights_23 (fu : Nat) (u1 : Int32) (R : HR) : ∀ (n : Nat) (u2 : Int32) (u3 : Int32) (I : HI) (L : HL) (N : (Int32 × HI × HL) → Prop) (F : HF), (∀ v : Int32 × HI × HL, N v → PW 100 147 5 RX12 cX12_nights 4 (some .int) 43 [(2, .int v.1)] [] v.2.1 v.2.2 R F) → PWk 100 147 5 RX12 cX12_nights 4 (some .int) 23 [(0, .ref 100), (1, .int u1), (2, .int u2), (3, .int u3)] [] I L R (f_X12_nights_L23 fu n I L u1 u2 u3) N F := by
  intro n
  induction n with
  | zero => intro u2 u3 I L N F hx; exact PWk.none'
  | succ n ih =>
    intro u2 u3 I L N F hx
    unfold f_X12_nights_L23
    refine PWk.iload_n 3 dX12_nights_23 rfl ?_
    refine PWk.iload_n 1 dX12_nights_24 rfl ?_
    refine PWk.icmp_ge 43 dX12_nights_25 (by decide) (fun h6 => ?_) (fun h6 => ?_)
    · refine PWk.sub [2] rfl ?_
      exact PWk.done (fun h => hx _ h)
    · refine PWk.iload_n 2 dX12_nights_28 rfl ?_
      refine PWk.aload_n 0 dX12_nights_29 rfl ?_
      refine PWk.iconst (v := 0) dX12_nights_30 ic_0 ?_
      refine PWk.iconst (v := 0) dX12_nights_31 ic_0 ?_
      refine PWk.callViIL (pc_X12_passes fu I L R 0 0) dX12_nights_32 ml_X12_513 rfl rg_100 lc_100 vq_12 (by decide) rfl (Nat.le_of_ble_eq_true rfl) (fun x4 => ?_)
      refine PWk.iadd dX12_nights_35 ?_
      refine PWk.bi (fun v5 => ?_)
      refine PWk.istore_n [(2, .int v5), (0, .ref 100), (1, .int u1), (3, .int u3)] dX12_nights_36 (by decide) rfl ?_
      refine PWk.iinc (v := (u3 + 1)) 3 [(3, .int (u3 + 1)), (2, .int v5), (0, .ref 100), (1, .int u1)] dX12_nights_37 rfl (by rw [ic_1]) (by decide) rfl ?_
      refine PWk.goto 23 dX12_nights_40 (by decide) ?_
      refine PWk.sub [2, 3, 1, 0] rfl ?_
      exact ih v5 (u3 + 1) x4.2.1 x4.2.2 N F hx
set_option maxRecDepth 20000 in
theorem pc_X12_nights (fu : Nat) (I : HI) (L : HL) (R : HR) (p1 : Int32) : PCo 100 147 5 yX12_nights cX12_nights 4 (some .int) [.ref 100, .int p1] I L R (f_X12_nights fu I L p1) (fun x : Int32 × HI × HL => ((some (.int x.1), x.2.1, x.2.2, R) : HF)) := by
  refine PCo.of (own := RX12) (by decide +kernel) (Nat.le_of_ble_eq_true rfl) rfl rfl (fun F => ?_)
  unfold f_X12_nights
  refine PWk.aload_n 0 dX12_nights_0 rfl ?_
  refine PWk.iload_n 1 dX12_nights_1 rfl ?_
  refine PWk.iconst (v := 1) dX12_nights_2 ic_1 ?_
  refine PWk.callVi (pc_X12_isAhead I L R p1 1) dX12_nights_3 ml_X12_510 rfl rg_100 lc_100 vq_12 (by decide) rfl (Nat.le_of_ble_eq_true rfl) (fun x1 => ?_)
  refine PWk.if_ne 15 dX12_nights_6 (by decide) (fun h8 => ?_) (fun h8 => ?_)
  · refine PWk.aload_n 0 dX12_nights_9 rfl ?_
    refine PWk.iconst (v := 2) dX12_nights_10 ic_2 ?_
    refine PWk.callViI (pc_X12_refuses I L R 2) dX12_nights_11 ml_X12_229 rfl rg_100 lc_100 vq_12 (by decide) rfl (Nat.le_of_ble_eq_true rfl) (fun x2 => ?_)
    exact PWk.iret dX12_nights_14 rfl (fun h => h)
  · refine PWk.aload_n 0 dX12_nights_15 rfl ?_
    refine PWk.callVvI (pc_X12_keeps fu I L R) dX12_nights_16 ml_X12_548 rfl rg_100 lc_100 vq_12 (by decide) rfl (Nat.le_of_ble_eq_true rfl) (fun x3 => ?_)
    refine PWk.iconst (v := 0) dX12_nights_19 ic_0 ?_
    refine PWk.istore_n [(2, .int 0), (0, .ref 100), (1, .int p1)] dX12_nights_20 (by decide) rfl ?_
    refine PWk.iconst (v := 0) dX12_nights_21 ic_0 ?_
    refine PWk.istore_n [(3, .int 0), (2, .int 0), (0, .ref 100), (1, .int p1)] dX12_nights_22 (by decide) rfl ?_
    refine PWk.sub [2, 3, 1, 0] rfl ?_
    refine PWk.loopV (fun N' hx' => lp_X12_nights_23 fu p1 R fu 0 0 x3 L N' F hx') (fun x7 => ?_)
    refine PWk.iload_n 0 dX12_nights_43 rfl ?_
    exact PWk.iret dX12_nights_44 rfl (fun h => h)
/-! LakeMarketModel.draw(I)I -/
def f_X12_draw (L : HL) (p1 : Int32) : Option (Int32 × HL) :=
  dvL 2147483648 <|
  bnd (sL L 100 55 (((1103515245 * (L 100 55)) + 12345) - ((1103515245 * (L 100 55)) + 12345) / 2147483648 * 2147483648)) fun L1 =>
  dvL 64 <|
  dvL (Int32.toInt64 p1) <|
  some ((Int64.toInt32 (((L1 100 55) / 64) - ((L1 100 55) / 64) / (Int32.toInt64 p1) * (Int32.toInt64 p1))), L1)
set_option maxRecDepth 20000 in
theorem pc_X12_draw (I : HI) (L : HL) (R : HR) (p1 : Int32) : PCo 100 147 0 yX12_draw cX12_draw 2 (some .int) [.ref 100, .int p1] I L R (f_X12_draw L p1) (fun x : Int32 × HL => ((some (.int x.1), I, x.2, R) : HF)) := by
  refine PCo.of (own := RX12) (by decide +kernel) (Nat.le_of_ble_eq_true rfl) rfl rfl (fun F => ?_)
  unfold f_X12_draw
  refine PWk.aload_n 0 dX12_draw_0 rfl ?_
  refine PWk.ldc2 (v := 1103515245) dX12_draw_1 kc_X12_551 ?_
  refine PWk.aload_n 0 dX12_draw_4 rfl ?_
  refine PWk.getl dX12_draw_5 rg_100 lc_100 fl_X12_180 rfl ?_
  refine PWk.lmul dX12_draw_8 ?_
  refine PWk.ldc2 (v := 12345) dX12_draw_9 kc_X12_553 ?_
  refine PWk.ladd dX12_draw_12 ?_
  refine PWk.ldc2 (v := 2147483648) dX12_draw_13 kc_X12_555 ?_
  refine PWk.lrem dX12_draw_16 ?_
  refine PWk.putl dX12_draw_17 rg_100 lc_100 fl_X12_180 fp_12_55 rfl ?_
  refine PWk.bL (fun L1 => ?_)
  refine PWk.aload_n 0 dX12_draw_20 rfl ?_
  refine PWk.getl dX12_draw_21 rg_100 lc_100 fl_X12_180 rfl ?_
  refine PWk.ldc2 (v := 64) dX12_draw_24 kc_X12_557 ?_
  refine PWk.ldiv dX12_draw_27 ?_
  refine PWk.iload_n 1 dX12_draw_28 rfl ?_
  refine PWk.i2l dX12_draw_29 ?_
  refine PWk.lrem dX12_draw_30 ?_
  refine PWk.l2i dX12_draw_31 ?_
  exact PWk.iret dX12_draw_32 rfl (fun h => h)
/-! LakeMarketModel.chance(I)I -/
def f_X12_chance_L23 (fu : Nat) : Nat → HI → HL → Int32 → Int32 → Int32 → Option (Int32 × HI × HL)
  | 0, _, _, _, _, _ => none
  | n + 1, I, L, u1, u2, u3 =>
    if u1 ≤ u3 then
      some (u2, I, L)
    else
      (f_X12_draw L 100).bind fun x4 =>
      ldI (I 111) 2 (I 100 13) fun v5 =>
      jnt (β := Int32) (fun y8 =>
        jnt (β := Int32) (fun y11 =>
          bnd ((u2 + y11)) fun v12 =>
          (f_X12_passes fu I x4.2 0 y8).bind fun x13 =>
          f_X12_chance_L23 fu n x13.2.1 x13.2.2 u1 v12 (u3 + 1)) fun j9 =>
        if y8 = 0 then
          j9 0
        else
          j9 1) fun j6 =>
      if v5 ≤ x4.1 then
        j6 0
      else
        j6 1
def f_X12_chance (fu : Nat) (I : HI) (L : HL) (p1 : Int32) : Option (Int32 × HI × HL) :=
  (f_X12_isAhead I p1 1).bind fun x1 =>
  if x1 = 0 then
    (f_X12_refuses I 2).bind fun x2 =>
    some (x2.1, x2.2, L)
  else
    (f_X12_keeps fu I).bind fun x3 =>
    (f_X12_chance_L23 fu fu x3 L p1 0 0).bind fun x15 =>
    some (x15.1, x15.2.1, x15.2.2)
set_option maxRecDepth 20000 in
theorem lp_X12_chance_23 (fu : Nat) (u1 : Int32) (R : HR) : ∀ (n : Nat) (u2 : Int32) (u3 : Int32) (I : HI) (L : HL) (N : (Int32 × HI × HL) → Prop) (F : HF), (∀ v : Int32 × HI × HL, N v → PW 100 147 5 RX12 cX12_chance 5 (some .int) 80 [(2, .int v.1)] [] v.2.1 v.2.2 R F) → PWk 100 147 5 RX12 cX12_chance 5 (some .int) 23 [(0, .ref 100), (1, .int u1), (2, .int u2), (3, .int u3)] [] I L R (f_X12_chance_L23 fu n I L u1 u2 u3) N F := by
  intro n
  induction n with
  | zero => intro u2 u3 I L N F hx; exact PWk.none'
  | succ n ih =>
    intro u2 u3 I L N F hx
    unfold f_X12_chance_L23
    refine PWk.iload_n 3 dX12_chance_23 rfl ?_
    refine PWk.iload_n 1 dX12_chance_24 rfl ?_
    refine PWk.icmp_ge 80 dX12_chance_25 (by decide) (fun h14 => ?_) (fun h14 => ?_)
    · refine PWk.sub [2] rfl ?_
      exact PWk.done (fun h => hx _ h)
    · refine PWk.aload_n 0 dX12_chance_28 rfl ?_
      refine PWk.bipush (v := 100) dX12_chance_29 bp_100 ?_
      refine PWk.callViL (pc_X12_draw I L R 100) dX12_chance_31 ml_X12_559 rfl rg_100 lc_100 vq_12 (by decide) rfl (Nat.le_of_ble_eq_true rfl) (fun x4 => ?_)
      refine PWk.aload_n 0 dX12_chance_34 rfl ?_
      refine PWk.gets dX12_chance_35 rg_100 lc_100 fl_X12_81 rfl st_100_23 ?_
      refine PWk.aload_n 0 dX12_chance_38 rfl ?_
      refine PWk.geti dX12_chance_39 rg_100 lc_100 fl_X12_51 rfl ?_
      refine PWk.iald dX12_chance_42 rg_111 ly_111 (fun v5 => ?_)
      refine PWk.jn (pc' := 51) (lv' := fun y8 => [(0, .ref 100), (1, .int u1), (2, .int u2), (3, .int u3)]) (st' := fun y8 => [.int y8]) (I' := fun y8 => I) (L' := fun y8 => x4.2) (R' := fun y8 => R) (fun j6 hj6 => ?_) (fun y8 => ?_)
      · refine PWk.icmp_ge 50 dX12_chance_43 (by decide) (fun h7 => ?_) (fun h7 => ?_)
        · refine PWk.iconst (v := 0) dX12_chance_50 ic_0 ?_
          exact hj6 0
        · refine PWk.iconst (v := 1) dX12_chance_46 ic_1 ?_
          refine PWk.goto 51 dX12_chance_47 (by decide) ?_
          exact hj6 1
      · refine PWk.istore [(4, .int y8), (0, .ref 100), (1, .int u1), (2, .int u2), (3, .int u3)] dX12_chance_51 (by decide) rfl ?_
        refine PWk.iload_n 3 dX12_chance_53 rfl ?_
        refine PWk.iload 0 dX12_chance_54 rfl ?_
        refine PWk.jn (pc' := 64) (lv' := fun y11 => [(0, .ref 100), (1, .int u1), (3, .int u3), (4, .int y8)]) (st' := fun y11 => [.int y11, .int u2]) (I' := fun y11 => I) (L' := fun y11 => x4.2) (R' := fun y11 => R) (fun j9 hj9 => ?_) (fun y11 => ?_)
        · refine PWk.if_eq 63 dX12_chance_56 (by decide) (fun h10 => ?_) (fun h10 => ?_)
          · refine PWk.iconst (v := 0) dX12_chance_63 ic_0 ?_
            refine PWk.sub [1, 2, 4, 0] rfl ?_
            exact hj9 0
          · refine PWk.iconst (v := 1) dX12_chance_59 ic_1 ?_
            refine PWk.goto 64 dX12_chance_60 (by decide) ?_
            refine PWk.sub [1, 2, 4, 0] rfl ?_
            exact hj9 1
        · refine PWk.iadd dX12_chance_64 ?_
          refine PWk.bi (fun v12 => ?_)
          refine PWk.istore_n [(2, .int v12), (0, .ref 100), (1, .int u1), (3, .int u3), (4, .int y8)] dX12_chance_65 (by decide) rfl ?_
          refine PWk.aload_n 1 dX12_chance_66 rfl ?_
          refine PWk.iconst (v := 0) dX12_chance_67 ic_0 ?_
          refine PWk.iload 4 dX12_chance_68 rfl ?_
          refine PWk.callViIL (pc_X12_passes fu I x4.2 R 0 y8) dX12_chance_70 ml_X12_513 rfl rg_100 lc_100 vq_12 (by decide) rfl (Nat.le_of_ble_eq_true rfl) (fun x13 => ?_)
          refine PWk.pop dX12_chance_73 rfl ?_
          refine PWk.iinc (v := (u3 + 1)) 3 [(3, .int (u3 + 1)), (2, .int v12), (0, .ref 100), (1, .int u1), (4, .int y8)] dX12_chance_74 rfl (by rw [ic_1]) (by decide) rfl ?_
          refine PWk.goto 23 dX12_chance_77 (by decide) ?_
          refine PWk.sub [2, 3, 1, 0] rfl ?_
          exact ih v12 (u3 + 1) x13.2.1 x13.2.2 N F hx
set_option maxRecDepth 20000 in
theorem pc_X12_chance (fu : Nat) (I : HI) (L : HL) (R : HR) (p1 : Int32) : PCo 100 147 5 yX12_chance cX12_chance 5 (some .int) [.ref 100, .int p1] I L R (f_X12_chance fu I L p1) (fun x : Int32 × HI × HL => ((some (.int x.1), x.2.1, x.2.2, R) : HF)) := by
  refine PCo.of (own := RX12) (by decide +kernel) (Nat.le_of_ble_eq_true rfl) rfl rfl (fun F => ?_)
  unfold f_X12_chance
  refine PWk.aload_n 0 dX12_chance_0 rfl ?_
  refine PWk.iload_n 1 dX12_chance_1 rfl ?_
  refine PWk.iconst (v := 1) dX12_chance_2 ic_1 ?_
  refine PWk.callVi (pc_X12_isAhead I L R p1 1) dX12_chance_3 ml_X12_510 rfl rg_100 lc_100 vq_12 (by decide) rfl (Nat.le_of_ble_eq_true rfl) (fun x1 => ?_)
  refine PWk.if_ne 15 dX12_chance_6 (by decide) (fun h16 => ?_) (fun h16 => ?_)
  · refine PWk.aload_n 0 dX12_chance_9 rfl ?_
    refine PWk.iconst (v := 2) dX12_chance_10 ic_2 ?_
    refine PWk.callViI (pc_X12_refuses I L R 2) dX12_chance_11 ml_X12_229 rfl rg_100 lc_100 vq_12 (by decide) rfl (Nat.le_of_ble_eq_true rfl) (fun x2 => ?_)
    exact PWk.iret dX12_chance_14 rfl (fun h => h)
  · refine PWk.aload_n 0 dX12_chance_15 rfl ?_
    refine PWk.callVvI (pc_X12_keeps fu I L R) dX12_chance_16 ml_X12_548 rfl rg_100 lc_100 vq_12 (by decide) rfl (Nat.le_of_ble_eq_true rfl) (fun x3 => ?_)
    refine PWk.iconst (v := 0) dX12_chance_19 ic_0 ?_
    refine PWk.istore_n [(2, .int 0), (0, .ref 100), (1, .int p1)] dX12_chance_20 (by decide) rfl ?_
    refine PWk.iconst (v := 0) dX12_chance_21 ic_0 ?_
    refine PWk.istore_n [(3, .int 0), (2, .int 0), (0, .ref 100), (1, .int p1)] dX12_chance_22 (by decide) rfl ?_
    refine PWk.sub [2, 3, 1, 0] rfl ?_
    refine PWk.loopV (fun N' hx' => lp_X12_chance_23 fu p1 R fu 0 0 x3 L N' F hx') (fun x15 => ?_)
    refine PWk.iload_n 0 dX12_chance_80 rfl ?_
    exact PWk.iret dX12_chance_81 rfl (fun h => h)
/-! LakeMarketModel.move(II)Z -/
def f_X12_move (fu : Nat) (I : HI) (L : HL) (p1 : Int32) (p2 : Int32) : Option (Int32 × HI × HL) :=
  (f_X12_isLake I p1).bind fun x1 =>
  jnt (β := HI × HL) (fun y10 =>
    (f_X12_refuses y10.1 3).bind fun x11 =>
    if x11.1 < 0 then
      gz 0 (some (0, x11.2, y10.2))
    else
      gz 1 (some (1, x11.2, y10.2))) fun j2 =>
  if x1 = 0 then
    j2 (I, L)
  else
    (f_X12_isHollow I p2).bind fun x3 =>
    if x3 = 0 then
      j2 (I, L)
    else
      (f_X12_canMove fu I L 0 p1 p2).bind fun x4 =>
      if x4.1 = 0 then
        j2 (x4.2.1, x4.2.2)
      else
        (f_X12_keeps fu x4.2.1).bind fun x5 =>
        inb 208 p1 <|
        bnd (sI x5 129 (p1 : Int32).toNatClampNeg p2) fun I6 =>
        gz 1 (some (1, I6, x4.2.2))
set_option maxRecDepth 20000 in
theorem pc_X12_move (fu : Nat) (I : HI) (L : HL) (R : HR) (p1 : Int32) (p2 : Int32) : PCo 100 147 4 yX12_move cX12_move 3 (some .boolean) [.ref 100, .int p1, .int p2] I L R (f_X12_move fu I L p1 p2) (fun x : Int32 × HI × HL => ((some (.int x.1), x.2.1, x.2.2, R) : HF)) := by
  refine PCo.of (own := RX12) (by decide +kernel) (Nat.le_of_ble_eq_true rfl) rfl rfl (fun F => ?_)
  unfold f_X12_move
  refine PWk.aload_n 0 dX12_move_0 rfl ?_
  refine PWk.iload_n 1 dX12_move_1 rfl ?_
  refine PWk.callVi (pc_X12_isLake I L R p1) dX12_move_2 ml_X12_501 rfl rg_100 lc_100 vq_12 (by decide) rfl (Nat.le_of_ble_eq_true rfl) (fun x1 => ?_)
  refine PWk.jn (pc' := 26) (lv' := fun y10 => [(0, .ref 100)]) (st' := fun y10 => []) (I' := fun y10 => y10.1) (L' := fun y10 => y10.2) (R' := fun y10 => R) (fun j2 hj2 => ?_) (fun y10 => ?_)
  · refine PWk.if_eq 26 dX12_move_5 (by decide) (fun h9 => ?_) (fun h9 => ?_)
    · refine PWk.sub [0] rfl ?_
      exact hj2 (I, L)
    · refine PWk.aload_n 0 dX12_move_8 rfl ?_
      refine PWk.iload_n 2 dX12_move_9 rfl ?_
      refine PWk.callVi (pc_X12_isHollow I L R p2) dX12_move_10 ml_X12_498 rfl rg_100 lc_100 vq_12 (by decide) rfl (Nat.le_of_ble_eq_true rfl) (fun x3 => ?_)
      refine PWk.if_eq 26 dX12_move_13 (by decide) (fun h8 => ?_) (fun h8 => ?_)
      · refine PWk.sub [0] rfl ?_
        exact hj2 (I, L)
      · refine PWk.aload_n 0 dX12_move_16 rfl ?_
        refine PWk.iconst (v := 0) dX12_move_17 ic_0 ?_
        refine PWk.iload_n 1 dX12_move_18 rfl ?_
        refine PWk.iload_n 2 dX12_move_19 rfl ?_
        refine PWk.callViIL (pc_X12_canMove fu I L R 0 p1 p2) dX12_move_20 ml_X12_523 rfl rg_100 lc_100 vq_12 (by decide) rfl (Nat.le_of_ble_eq_true rfl) (fun x4 => ?_)
        refine PWk.if_ne 40 dX12_move_23 (by decide) (fun h7 => ?_) (fun h7 => ?_)
        · refine PWk.sub [0] rfl ?_
          exact hj2 (x4.2.1, x4.2.2)
        · refine PWk.aload_n 0 dX12_move_40 rfl ?_
          refine PWk.callVvI (pc_X12_keeps fu x4.2.1 x4.2.2 R) dX12_move_41 ml_X12_548 rfl rg_100 lc_100 vq_12 (by decide) rfl (Nat.le_of_ble_eq_true rfl) (fun x5 => ?_)
          refine PWk.aload_n 0 dX12_move_44 rfl ?_
          refine PWk.gets dX12_move_45 rg_100 lc_100 fl_X12_159 rfl st_100_48 ?_
          refine PWk.iload_n 1 dX12_move_48 rfl ?_
          refine PWk.iload_n 2 dX12_move_49 rfl ?_
          refine PWk.iast dX12_move_50 rg_129 ly_129 ?_
          refine PWk.bI (fun I6 => ?_)
          refine PWk.iconst (v := 1) dX12_move_51 ic_1 ?_
          exact PWk.zret dX12_move_52 rfl (fun h => h)
  · refine PWk.aload_n 0 dX12_move_26 rfl ?_
    refine PWk.iconst (v := 3) dX12_move_27 ic_3 ?_
    refine PWk.callViI (pc_X12_refuses y10.1 y10.2 R 3) dX12_move_28 ml_X12_229 rfl rg_100 lc_100 vq_12 (by decide) rfl (Nat.le_of_ble_eq_true rfl) (fun x11 => ?_)
    refine PWk.if_lt 38 dX12_move_31 (by decide) (fun h12 => ?_) (fun h12 => ?_)
    · refine PWk.iconst (v := 0) dX12_move_38 ic_0 ?_
      exact PWk.zret dX12_move_39 rfl (fun h => h)
    · refine PWk.iconst (v := 1) dX12_move_34 ic_1 ?_
      refine PWk.goto 39 dX12_move_35 (by decide) ?_
      exact PWk.zret dX12_move_39 rfl (fun h => h)
/-! LakeMarketModel.pour(II)I -/
def f_X12_pour (fu : Nat) (I : HI) (p1 : Int32) (p2 : Int32) : Option (Int32 × HI) :=
  (f_X12_isLake I p1).bind fun x1 =>
  jnt (β := Int32) (fun y9 =>
    jnt (β := Int32) (fun y27 =>
      if y27 = 0 then
        (f_X12_refuses I 3).bind fun x28 =>
        some (x28.1, x28.2)
      else
        (f_X12_keeps fu I).bind fun x29 =>
        ldI (x29 128) 208 p1 fun v30 =>
        ldI (x29 128) 208 p2 fun v31 =>
        inb 208 p1 <|
        bnd (sI x29 128 (p1 : Int32).toNatClampNeg (v30 + v31)) fun I32 =>
        (f_X12_sets I32 0 p2 0).bind fun x33 =>
        ldI (x33 128) 208 p1 fun v34 =>
        some (v34, x33)) fun j11 =>
    jnt (β := Unit) (fun y26 =>
      j11 0) fun j10 =>
    if y9 = 0 then
      j10 ()
    else
      (f_X12_fill I 0 p1).bind fun x12 =>
      if x12 ≤ 0 then
        j10 ()
      else
        (f_X12_fill I 0 p2).bind fun x13 =>
        if x13 ≤ 0 then
          j10 ()
        else
          (f_X12_liesIn I 0 p1).bind fun x14 =>
          (f_X12_liesIn I 0 p2).bind fun x15 =>
          if x14 = x15 then
            (f_X12_ownerOf I 0 p1).bind fun x16 =>
            (f_X12_ownerOf I 0 p2).bind fun x17 =>
            if x16 = x17 then
              (f_X12_fill I 0 p1).bind fun x18 =>
              (f_X12_fill I 0 p2).bind fun x19 =>
              if 999 < (x18 + x19) then
                j10 ()
              else
                j11 1
            else
              j10 ()
          else
            j10 ()) fun j3 =>
  jnt (β := Unit) (fun y8 =>
    j3 0) fun j2 =>
  if x1 = 0 then
    j2 ()
  else
    (f_X12_isLake I p2).bind fun x4 =>
    if x4 = 0 then
      j2 ()
    else
      if p1 = p2 then
        j2 ()
      else
        j3 1
set_option maxRecDepth 20000 in
theorem pc_X12_pour (fu : Nat) (I : HI) (L : HL) (R : HR) (p1 : Int32) (p2 : Int32) : PCo 100 147 2 yX12_pour cX12_pour 4 (some .int) [.ref 100, .int p1, .int p2] I L R (f_X12_pour fu I p1 p2) (fun x : Int32 × HI => ((some (.int x.1), x.2, L, R) : HF)) := by
  refine PCo.of (own := RX12) (by decide +kernel) (Nat.le_of_ble_eq_true rfl) rfl rfl (fun F => ?_)
  unfold f_X12_pour
  refine PWk.aload_n 0 dX12_pour_0 rfl ?_
  refine PWk.iload_n 1 dX12_pour_1 rfl ?_
  refine PWk.callVi (pc_X12_isLake I L R p1) dX12_pour_2 ml_X12_501 rfl rg_100 lc_100 vq_12 (by decide) rfl (Nat.le_of_ble_eq_true rfl) (fun x1 => ?_)
  refine PWk.jn (pc' := 26) (lv' := fun y9 => [(0, .ref 100), (1, .int p1), (2, .int p2)]) (st' := fun y9 => [.int y9]) (I' := fun y9 => I) (L' := fun y9 => L) (R' := fun y9 => R) (fun j3 hj3 => ?_) (fun y9 => ?_)
  · refine PWk.jn (pc' := 25) (lv' := fun y8 => [(0, .ref 100), (1, .int p1), (2, .int p2)]) (st' := fun y8 => []) (I' := fun y8 => I) (L' := fun y8 => L) (R' := fun y8 => R) (fun j2 hj2 => ?_) (fun y8 => ?_)
    · refine PWk.if_eq 25 dX12_pour_5 (by decide) (fun h7 => ?_) (fun h7 => ?_)
      · exact hj2 ()
      · refine PWk.aload_n 0 dX12_pour_8 rfl ?_
        refine PWk.iload_n 2 dX12_pour_9 rfl ?_
        refine PWk.callVi (pc_X12_isLake I L R p2) dX12_pour_10 ml_X12_501 rfl rg_100 lc_100 vq_12 (by decide) rfl (Nat.le_of_ble_eq_true rfl) (fun x4 => ?_)
        refine PWk.if_eq 25 dX12_pour_13 (by decide) (fun h6 => ?_) (fun h6 => ?_)
        · exact hj2 ()
        · refine PWk.iload_n 1 dX12_pour_16 rfl ?_
          refine PWk.iload_n 2 dX12_pour_17 rfl ?_
          refine PWk.icmp_eq 25 dX12_pour_18 (by decide) (fun h5 => ?_) (fun h5 => ?_)
          · exact hj2 ()
          · refine PWk.iconst (v := 1) dX12_pour_21 ic_1 ?_
            refine PWk.goto 26 dX12_pour_22 (by decide) ?_
            exact hj3 1
    · refine PWk.iconst (v := 0) dX12_pour_25 ic_0 ?_
      exact hj3 0
  · refine PWk.istore_n [(3, .int y9), (0, .ref 100), (1, .int p1), (2, .int p2)] dX12_pour_26 (by decide) rfl ?_
    refine PWk.iload_n 0 dX12_pour_27 rfl ?_
    refine PWk.jn (pc' := 103) (lv' := fun y27 => [(0, .ref 100), (1, .int p1), (2, .int p2)]) (st' := fun y27 => [.int y27]) (I' := fun y27 => I) (L' := fun y27 => L) (R' := fun y27 => R) (fun j11 hj11 => ?_) (fun y27 => ?_)
    · refine PWk.jn (pc' := 102) (lv' := fun y26 => [(0, .ref 100), (1, .int p1), (2, .int p2)]) (st' := fun y26 => []) (I' := fun y26 => I) (L' := fun y26 => L) (R' := fun y26 => R) (fun j10 hj10 => ?_) (fun y26 => ?_)
      · refine PWk.if_eq 102 dX12_pour_28 (by decide) (fun h25 => ?_) (fun h25 => ?_)
        · refine PWk.sub [1, 2, 3] rfl ?_
          exact hj10 ()
        · refine PWk.aload_n 1 dX12_pour_31 rfl ?_
          refine PWk.iconst (v := 0) dX12_pour_32 ic_0 ?_
          refine PWk.iload_n 2 dX12_pour_33 rfl ?_
          refine PWk.callVi (pc_X12_fill I L R 0 p1) dX12_pour_34 ml_X12_440 rfl rg_100 lc_100 vq_12 (by decide) rfl (Nat.le_of_ble_eq_true rfl) (fun x12 => ?_)
          refine PWk.if_le 102 dX12_pour_37 (by decide) (fun h24 => ?_) (fun h24 => ?_)
          · refine PWk.sub [1, 2, 3] rfl ?_
            exact hj10 ()
          · refine PWk.aload_n 1 dX12_pour_40 rfl ?_
            refine PWk.iconst (v := 0) dX12_pour_41 ic_0 ?_
            refine PWk.iload_n 3 dX12_pour_42 rfl ?_
            refine PWk.callVi (pc_X12_fill I L R 0 p2) dX12_pour_43 ml_X12_440 rfl rg_100 lc_100 vq_12 (by decide) rfl (Nat.le_of_ble_eq_true rfl) (fun x13 => ?_)
            refine PWk.if_le 102 dX12_pour_46 (by decide) (fun h23 => ?_) (fun h23 => ?_)
            · refine PWk.sub [1, 2, 3] rfl ?_
              exact hj10 ()
            · refine PWk.aload_n 1 dX12_pour_49 rfl ?_
              refine PWk.iconst (v := 0) dX12_pour_50 ic_0 ?_
              refine PWk.iload_n 2 dX12_pour_51 rfl ?_
              refine PWk.callVi (pc_X12_liesIn I L R 0 p1) dX12_pour_52 ml_X12_437 rfl rg_100 lc_100 vq_12 (by decide) rfl (Nat.le_of_ble_eq_true rfl) (fun x14 => ?_)
              refine PWk.aload_n 1 dX12_pour_55 rfl ?_
              refine PWk.iconst (v := 0) dX12_pour_56 ic_0 ?_
              refine PWk.iload_n 3 dX12_pour_57 rfl ?_
              refine PWk.callVi (pc_X12_liesIn I L R 0 p2) dX12_pour_58 ml_X12_437 rfl rg_100 lc_100 vq_12 (by decide) rfl (Nat.le_of_ble_eq_true rfl) (fun x15 => ?_)
              refine PWk.icmp_ne 102 dX12_pour_61 (by decide) (fun h22 => ?_) (fun h22 => ?_)
              · refine PWk.aload_n 1 dX12_pour_64 rfl ?_
                refine PWk.iconst (v := 0) dX12_pour_65 ic_0 ?_
                refine PWk.iload_n 2 dX12_pour_66 rfl ?_
                refine PWk.callVi (pc_X12_ownerOf I L R 0 p1) dX12_pour_67 ml_X12_473 rfl rg_100 lc_100 vq_12 (by decide) rfl (Nat.le_of_ble_eq_true rfl) (fun x16 => ?_)
                refine PWk.aload_n 1 dX12_pour_70 rfl ?_
                refine PWk.iconst (v := 0) dX12_pour_71 ic_0 ?_
                refine PWk.iload_n 3 dX12_pour_72 rfl ?_
                refine PWk.callVi (pc_X12_ownerOf I L R 0 p2) dX12_pour_73 ml_X12_473 rfl rg_100 lc_100 vq_12 (by decide) rfl (Nat.le_of_ble_eq_true rfl) (fun x17 => ?_)
                refine PWk.icmp_ne 102 dX12_pour_76 (by decide) (fun h21 => ?_) (fun h21 => ?_)
                · refine PWk.aload_n 1 dX12_pour_79 rfl ?_
                  refine PWk.iconst (v := 0) dX12_pour_80 ic_0 ?_
                  refine PWk.iload_n 2 dX12_pour_81 rfl ?_
                  refine PWk.callVi (pc_X12_fill I L R 0 p1) dX12_pour_82 ml_X12_440 rfl rg_100 lc_100 vq_12 (by decide) rfl (Nat.le_of_ble_eq_true rfl) (fun x18 => ?_)
                  refine PWk.aload_n 1 dX12_pour_85 rfl ?_
                  refine PWk.iconst (v := 0) dX12_pour_86 ic_0 ?_
                  refine PWk.iload_n 3 dX12_pour_87 rfl ?_
                  refine PWk.callVi (pc_X12_fill I L R 0 p2) dX12_pour_88 ml_X12_440 rfl rg_100 lc_100 vq_12 (by decide) rfl (Nat.le_of_ble_eq_true rfl) (fun x19 => ?_)
                  refine PWk.iadd dX12_pour_91 ?_
                  refine PWk.sipush (v := 999) dX12_pour_92 sp_999 ?_
                  refine PWk.icmp_gt 102 dX12_pour_95 (by decide) (fun h20 => ?_) (fun h20 => ?_)
                  · refine PWk.sub [1, 2, 3] rfl ?_
                    exact hj10 ()
                  · refine PWk.iconst (v := 1) dX12_pour_98 ic_1 ?_
                    refine PWk.goto 103 dX12_pour_99 (by decide) ?_
                    refine PWk.sub [1, 2, 3] rfl ?_
                    exact hj11 1
                · refine PWk.sub [1, 2, 3] rfl ?_
                  exact hj10 ()
              · refine PWk.sub [1, 2, 3] rfl ?_
                exact hj10 ()
      · refine PWk.iconst (v := 0) dX12_pour_102 ic_0 ?_
        exact hj11 0
    · refine PWk.istore_n [(3, .int y27), (0, .ref 100), (1, .int p1), (2, .int p2)] dX12_pour_103 (by decide) rfl ?_
      refine PWk.iload_n 0 dX12_pour_104 rfl ?_
      refine PWk.if_ne 114 dX12_pour_105 (by decide) (fun h35 => ?_) (fun h35 => ?_)
      · refine PWk.aload_n 1 dX12_pour_108 rfl ?_
        refine PWk.iconst (v := 3) dX12_pour_109 ic_3 ?_
        refine PWk.callViI (pc_X12_refuses I L R 3) dX12_pour_110 ml_X12_229 rfl rg_100 lc_100 vq_12 (by decide) rfl (Nat.le_of_ble_eq_true rfl) (fun x28 => ?_)
        exact PWk.iret dX12_pour_113 rfl (fun h => h)
      · refine PWk.aload_n 1 dX12_pour_114 rfl ?_
        refine PWk.callVvI (pc_X12_keeps fu I L R) dX12_pour_115 ml_X12_548 rfl rg_100 lc_100 vq_12 (by decide) rfl (Nat.le_of_ble_eq_true rfl) (fun x29 => ?_)
        refine PWk.aload_n 1 dX12_pour_118 rfl ?_
        refine PWk.gets dX12_pour_119 rg_100 lc_100 fl_X12_156 rfl st_100_47 ?_
        refine PWk.iload_n 2 dX12_pour_122 rfl ?_
        refine PWk.dup2 dX12_pour_123 rfl rfl ?_
        refine PWk.iald dX12_pour_124 rg_128 ly_128 (fun v30 => ?_)
        refine PWk.aload_n 1 dX12_pour_125 rfl ?_
        refine PWk.gets dX12_pour_126 rg_100 lc_100 fl_X12_156 rfl st_100_47 ?_
        refine PWk.iload_n 3 dX12_pour_129 rfl ?_
        refine PWk.iald dX12_pour_130 rg_128 ly_128 (fun v31 => ?_)
        refine PWk.iadd dX12_pour_131 ?_
        refine PWk.iast dX12_pour_132 rg_128 ly_128 ?_
        refine PWk.bI (fun I32 => ?_)
        refine PWk.aload_n 1 dX12_pour_133 rfl ?_
        refine PWk.iconst (v := 0) dX12_pour_134 ic_0 ?_
        refine PWk.iload_n 3 dX12_pour_135 rfl ?_
        refine PWk.iconst (v := 0) dX12_pour_136 ic_0 ?_
        refine PWk.callVvI (pc_X12_sets I32 L R 0 p2 0) dX12_pour_137 ml_X12_470 rfl rg_100 lc_100 vq_12 (by decide) rfl (Nat.le_of_ble_eq_true rfl) (fun x33 => ?_)
        refine PWk.aload_n 1 dX12_pour_140 rfl ?_
        refine PWk.gets dX12_pour_141 rg_100 lc_100 fl_X12_156 rfl st_100_47 ?_
        refine PWk.iload_n 2 dX12_pour_144 rfl ?_
        refine PWk.iald dX12_pour_145 rg_128 ly_128 (fun v34 => ?_)
        exact PWk.iret dX12_pour_146 rfl (fun h => h)
/-! LakeMarketModel.part(II)I -/
def f_X12_part_L2 : Nat → HI → Int32 → Option (Int32)
  | 0, _, _ => none
  | n + 1, I, u3 =>
    ldI (I 106) 2 (I 100 13) fun v1 =>
    if v1 ≤ u3 then
      some u3
    else
      (f_X12_fill I 0 u3).bind fun x2 =>
      if x2 ≤ 0 then
        some u3
      else
        f_X12_part_L2 n I (u3 + 1)
def f_X12_part (fu : Nat) (I : HI) (p1 : Int32) (p2 : Int32) : Option (Int32 × HI) :=
  (f_X12_part_L2 fu I 0).bind fun x5 =>
  (f_X12_isLake I p1).bind fun x6 =>
  jnt (β := Unit) (fun y22 =>
    (f_X12_refuses I 3).bind fun x23 =>
    some (x23.1, x23.2)) fun j7 =>
  if x6 = 0 then
    j7 ()
  else
    ldI (I 106) 2 (I 100 13) fun v8 =>
    if x5 = v8 then
      j7 ()
    else
      (f_X12_fill I 0 p1).bind fun x9 =>
      (f_X12_is p2 1 (x9 - 1)).bind fun x10 =>
      if x10 = 0 then
        j7 ()
      else
        (f_X12_keeps fu I).bind fun x11 =>
        ldI (x11 128) 208 p1 fun v12 =>
        inb 208 p1 <|
        bnd (sI x11 128 (p1 : Int32).toNatClampNeg (v12 - p2)) fun I13 =>
        inb 208 x5 <|
        bnd (sI I13 128 (x5 : Int32).toNatClampNeg p2) fun I14 =>
        ldI (I14 129) 208 p1 fun v15 =>
        inb 208 x5 <|
        bnd (sI I14 129 (x5 : Int32).toNatClampNeg v15) fun I16 =>
        ldI (I16 130) 208 p1 fun v17 =>
        inb 208 x5 <|
        bnd (sI I16 130 (x5 : Int32).toNatClampNeg v17) fun I18 =>
        some (x5, I18)
set_option maxRecDepth 20000 in
theorem lp_X12_part_2 (fu : Nat) (u1 : Int32) (u2 : Int32) (I : HI) (L : HL) (R : HR) : ∀ (n : Nat) (u3 : Int32) (N : (Int32) → Prop) (F : HF), (∀ v : Int32, N v → PW 100 147 2 RX12 cX12_part 4 (some .int) 30 [(0, .ref 100), (1, .int u1), (2, .int u2), (3, .int v)] [] I L R F) → PWk 100 147 2 RX12 cX12_part 4 (some .int) 2 [(0, .ref 100), (1, .int u1), (2, .int u2), (3, .int u3)] [] I L R (f_X12_part_L2 n I u3) N F := by
  intro n
  induction n with
  | zero => intro u3 N F hx; exact PWk.none'
  | succ n ih =>
    intro u3 N F hx
    unfold f_X12_part_L2
    refine PWk.iload_n 3 dX12_part_2 rfl ?_
    refine PWk.aload_n 0 dX12_part_3 rfl ?_
    refine PWk.gets dX12_part_4 rg_100 lc_100 fl_X12_66 rfl st_100_18 ?_
    refine PWk.aload_n 0 dX12_part_7 rfl ?_
    refine PWk.geti dX12_part_8 rg_100 lc_100 fl_X12_51 rfl ?_
    refine PWk.iald dX12_part_11 rg_106 ly_106 (fun v1 => ?_)
    refine PWk.icmp_ge 30 dX12_part_12 (by decide) (fun h4 => ?_) (fun h4 => ?_)
    · exact PWk.done (fun h => hx _ h)
    · refine PWk.aload_n 0 dX12_part_15 rfl ?_
      refine PWk.iconst (v := 0) dX12_part_16 ic_0 ?_
      refine PWk.iload_n 3 dX12_part_17 rfl ?_
      refine PWk.callVi (pc_X12_fill I L R 0 u3) dX12_part_18 ml_X12_440 rfl rg_100 lc_100 vq_12 (by decide) rfl (Nat.le_of_ble_eq_true rfl) (fun x2 => ?_)
      refine PWk.if_le 30 dX12_part_21 (by decide) (fun h3 => ?_) (fun h3 => ?_)
      · exact PWk.done (fun h => hx _ h)
      · refine PWk.iinc (v := (u3 + 1)) 3 [(3, .int (u3 + 1)), (0, .ref 100), (1, .int u1), (2, .int u2)] dX12_part_24 rfl (by rw [ic_1]) (by decide) rfl ?_
        refine PWk.goto 2 dX12_part_27 (by decide) ?_
        refine PWk.sub [1, 2, 3, 0] rfl ?_
        exact ih (u3 + 1) N F hx
set_option maxRecDepth 20000 in
theorem pc_X12_part (fu : Nat) (I : HI) (L : HL) (R : HR) (p1 : Int32) (p2 : Int32) : PCo 100 147 2 yX12_part cX12_part 4 (some .int) [.ref 100, .int p1, .int p2] I L R (f_X12_part fu I p1 p2) (fun x : Int32 × HI => ((some (.int x.1), x.2, L, R) : HF)) := by
  refine PCo.of (own := RX12) (by decide +kernel) (Nat.le_of_ble_eq_true rfl) rfl rfl (fun F => ?_)
  unfold f_X12_part
  refine PWk.iconst (v := 0) dX12_part_0 ic_0 ?_
  refine PWk.istore_n [(3, .int 0), (0, .ref 100), (1, .int p1), (2, .int p2)] dX12_part_1 (by decide) rfl ?_
  refine PWk.sub [1, 2, 3, 0] rfl ?_
  refine PWk.loopV (fun N' hx' => lp_X12_part_2 fu p1 p2 I L R fu 0 N' F hx') (fun x5 => ?_)
  refine PWk.aload_n 0 dX12_part_30 rfl ?_
  refine PWk.iload_n 1 dX12_part_31 rfl ?_
  refine PWk.callVi (pc_X12_isLake I L R p1) dX12_part_32 ml_X12_501 rfl rg_100 lc_100 vq_12 (by decide) rfl (Nat.le_of_ble_eq_true rfl) (fun x6 => ?_)
  refine PWk.jn (pc' := 67) (lv' := fun y22 => [(0, .ref 100)]) (st' := fun y22 => []) (I' := fun y22 => I) (L' := fun y22 => L) (R' := fun y22 => R) (fun j7 hj7 => ?_) (fun y22 => ?_)
  · refine PWk.if_eq 67 dX12_part_35 (by decide) (fun h21 => ?_) (fun h21 => ?_)
    · refine PWk.sub [0] rfl ?_
      exact hj7 ()
    · refine PWk.iload_n 3 dX12_part_38 rfl ?_
      refine PWk.aload_n 0 dX12_part_39 rfl ?_
      refine PWk.gets dX12_part_40 rg_100 lc_100 fl_X12_66 rfl st_100_18 ?_
      refine PWk.aload_n 0 dX12_part_43 rfl ?_
      refine PWk.geti dX12_part_44 rg_100 lc_100 fl_X12_51 rfl ?_
      refine PWk.iald dX12_part_47 rg_106 ly_106 (fun v8 => ?_)
      refine PWk.icmp_eq 67 dX12_part_48 (by decide) (fun h20 => ?_) (fun h20 => ?_)
      · refine PWk.sub [0] rfl ?_
        exact hj7 ()
      · refine PWk.iload_n 2 dX12_part_51 rfl ?_
        refine PWk.iconst (v := 1) dX12_part_52 ic_1 ?_
        refine PWk.aload_n 0 dX12_part_53 rfl ?_
        refine PWk.iconst (v := 0) dX12_part_54 ic_0 ?_
        refine PWk.iload_n 1 dX12_part_55 rfl ?_
        refine PWk.callVi (pc_X12_fill I L R 0 p1) dX12_part_56 ml_X12_440 rfl rg_100 lc_100 vq_12 (by decide) rfl (Nat.le_of_ble_eq_true rfl) (fun x9 => ?_)
        refine PWk.iconst (v := 1) dX12_part_59 ic_1 ?_
        refine PWk.isub dX12_part_60 ?_
        refine PWk.callSi (pc_X12_is I L R p2 1 (x9 - 1)) dX12_part_61 ml_X12_319 rfl (by decide) rfl (Nat.le_of_ble_eq_true rfl) (fun x10 => ?_)
        refine PWk.if_ne 73 dX12_part_64 (by decide) (fun h19 => ?_) (fun h19 => ?_)
        · refine PWk.sub [0] rfl ?_
          exact hj7 ()
        · refine PWk.aload_n 0 dX12_part_73 rfl ?_
          refine PWk.callVvI (pc_X12_keeps fu I L R) dX12_part_74 ml_X12_548 rfl rg_100 lc_100 vq_12 (by decide) rfl (Nat.le_of_ble_eq_true rfl) (fun x11 => ?_)
          refine PWk.aload_n 0 dX12_part_77 rfl ?_
          refine PWk.gets dX12_part_78 rg_100 lc_100 fl_X12_156 rfl st_100_47 ?_
          refine PWk.iload_n 1 dX12_part_81 rfl ?_
          refine PWk.dup2 dX12_part_82 rfl rfl ?_
          refine PWk.iald dX12_part_83 rg_128 ly_128 (fun v12 => ?_)
          refine PWk.iload_n 2 dX12_part_84 rfl ?_
          refine PWk.isub dX12_part_85 ?_
          refine PWk.iast dX12_part_86 rg_128 ly_128 ?_
          refine PWk.bI (fun I13 => ?_)
          refine PWk.aload_n 0 dX12_part_87 rfl ?_
          refine PWk.gets dX12_part_88 rg_100 lc_100 fl_X12_156 rfl st_100_47 ?_
          refine PWk.iload_n 3 dX12_part_91 rfl ?_
          refine PWk.iload_n 2 dX12_part_92 rfl ?_
          refine PWk.iast dX12_part_93 rg_128 ly_128 ?_
          refine PWk.bI (fun I14 => ?_)
          refine PWk.aload_n 0 dX12_part_94 rfl ?_
          refine PWk.gets dX12_part_95 rg_100 lc_100 fl_X12_159 rfl st_100_48 ?_
          refine PWk.iload_n 3 dX12_part_98 rfl ?_
          refine PWk.aload_n 0 dX12_part_99 rfl ?_
          refine PWk.gets dX12_part_100 rg_100 lc_100 fl_X12_159 rfl st_100_48 ?_
          refine PWk.iload_n 1 dX12_part_103 rfl ?_
          refine PWk.iald dX12_part_104 rg_129 ly_129 (fun v15 => ?_)
          refine PWk.iast dX12_part_105 rg_129 ly_129 ?_
          refine PWk.bI (fun I16 => ?_)
          refine PWk.aload_n 0 dX12_part_106 rfl ?_
          refine PWk.gets dX12_part_107 rg_100 lc_100 fl_X12_162 rfl st_100_49 ?_
          refine PWk.iload_n 3 dX12_part_110 rfl ?_
          refine PWk.aload_n 0 dX12_part_111 rfl ?_
          refine PWk.gets dX12_part_112 rg_100 lc_100 fl_X12_162 rfl st_100_49 ?_
          refine PWk.iload_n 1 dX12_part_115 rfl ?_
          refine PWk.iald dX12_part_116 rg_130 ly_130 (fun v17 => ?_)
          refine PWk.iast dX12_part_117 rg_130 ly_130 ?_
          refine PWk.bI (fun I18 => ?_)
          refine PWk.iload_n 3 dX12_part_118 rfl ?_
          exact PWk.iret dX12_part_119 rfl (fun h => h)
  · refine PWk.aload_n 0 dX12_part_67 rfl ?_
    refine PWk.iconst (v := 3) dX12_part_68 ic_3 ?_
    refine PWk.callViI (pc_X12_refuses I L R 3) dX12_part_69 ml_X12_229 rfl rg_100 lc_100 vq_12 (by decide) rfl (Nat.le_of_ble_eq_true rfl) (fun x23 => ?_)
    exact PWk.iret dX12_part_72 rfl (fun h => h)
/-! LakeMarketModel.writesDown(III)V -/
def f_X12_writesDown_L14 : Nat → HI → Int32 → Option (HI)
  | 0, _, _ => none
  | n + 1, I, u4 =>
    if 156 ≤ u4 then
      some I
    else
      ldI (I 133) 4160 (u4 + 4) fun v3 =>
      inb 4160 u4 <|
      bnd (sI I 133 (u4 : Int32).toNatClampNeg v3) fun I4 =>
      f_X12_writesDown_L14 n I4 (u4 + 1)
def f_X12_writesDown (fu : Nat) (I : HI) (p1 : Int32) (p2 : Int32) (p3 : Int32) : Option (HI) :=
  ldI (I 132) 26 0 fun v1 =>
  jnt (β := HI) (fun y10 =>
    ldI (y10 132) 26 0 fun v11 =>
    bnd ((4 * v11)) fun v12 =>
    ldI (y10 127) 26 0 fun v13 =>
    inb 4160 v12 <|
    bnd (sI y10 133 (v12 : Int32).toNatClampNeg v13) fun I14 =>
    inb 4160 (v12 + 1) <|
    bnd (sI I14 133 ((v12 + 1) : Int32).toNatClampNeg p1) fun I15 =>
    inb 4160 (v12 + 2) <|
    bnd (sI I15 133 ((v12 + 2) : Int32).toNatClampNeg p2) fun I16 =>
    inb 4160 (v12 + 3) <|
    bnd (sI I16 133 ((v12 + 3) : Int32).toNatClampNeg p3) fun I17 =>
    ldI (I17 132) 26 0 fun v18 =>
    inb 26 0 <|
    bnd (sI I17 132 (0 : Int32).toNatClampNeg (v18 + 1)) fun I19 =>
    some I19) fun j2 =>
  if v1 = 40 then
    (f_X12_writesDown_L14 fu I 0).bind fun x6 =>
    ldI (x6 132) 26 0 fun v7 =>
    inb 26 0 <|
    bnd (sI x6 132 (0 : Int32).toNatClampNeg (v7 - 1)) fun I8 =>
    j2 I8
  else
    j2 I
set_option maxRecDepth 20000 in
theorem lp_X12_writesDown_14 (fu : Nat) (u1 : Int32) (u2 : Int32) (u3 : Int32) (L : HL) (R : HR) : ∀ (n : Nat) (u4 : Int32) (I : HI) (N : (HI) → Prop) (F : HF), (∀ v : HI, N v → PW 100 147 0 RX12 cX12_writesDown 5 none 44 [(0, .ref 100), (1, .int u1), (2, .int u2), (3, .int u3)] [] v L R F) → PWk 100 147 0 RX12 cX12_writesDown 5 none 14 [(0, .ref 100), (1, .int u1), (2, .int u2), (3, .int u3), (4, .int u4)] [] I L R (f_X12_writesDown_L14 n I u4) N F := by
  intro n
  induction n with
  | zero => intro u4 I N F hx; exact PWk.none'
  | succ n ih =>
    intro u4 I N F hx
    unfold f_X12_writesDown_L14
    refine PWk.iload 4 dX12_writesDown_14 rfl ?_
    refine PWk.sipush (v := 156) dX12_writesDown_16 sp_156 ?_
    refine PWk.icmp_ge 44 dX12_writesDown_19 (by decide) (fun h5 => ?_) (fun h5 => ?_)
    · refine PWk.sub [0, 1, 2, 3] rfl ?_
      exact PWk.done (fun h => hx _ h)
    · refine PWk.aload_n 0 dX12_writesDown_22 rfl ?_
      refine PWk.gets dX12_writesDown_23 rg_100 lc_100 fl_X12_171 rfl st_100_52 ?_
      refine PWk.iload 4 dX12_writesDown_26 rfl ?_
      refine PWk.aload_n 0 dX12_writesDown_28 rfl ?_
      refine PWk.gets dX12_writesDown_29 rg_100 lc_100 fl_X12_171 rfl st_100_52 ?_
      refine PWk.iload 4 dX12_writesDown_32 rfl ?_
      refine PWk.iconst (v := 4) dX12_writesDown_34 ic_4 ?_
      refine PWk.iadd dX12_writesDown_35 ?_
      refine PWk.iald dX12_writesDown_36 rg_133 ly_133 (fun v3 => ?_)
      refine PWk.iast dX12_writesDown_37 rg_133 ly_133 ?_
      refine PWk.bI (fun I4 => ?_)
      refine PWk.iinc (v := (u4 + 1)) 4 [(4, .int (u4 + 1)), (0, .ref 100), (1, .int u1), (2, .int u2), (3, .int u3)] dX12_writesDown_38 rfl (by rw [ic_1]) (by decide) rfl ?_
      refine PWk.goto 14 dX12_writesDown_41 (by decide) ?_
      refine PWk.sub [1, 2, 3, 4, 0] rfl ?_
      exact ih (u4 + 1) I4 N F hx
set_option maxRecDepth 20000 in
theorem pc_X12_writesDown (fu : Nat) (I : HI) (L : HL) (R : HR) (p1 : Int32) (p2 : Int32) (p3 : Int32) : PCo 100 147 0 yX12_writesDown cX12_writesDown 5 none [.ref 100, .int p1, .int p2, .int p3] I L R (f_X12_writesDown fu I p1 p2 p3) (fun x : HI => ((none, x, L, R) : HF)) := by
  refine PCo.of (own := RX12) (by decide +kernel) (Nat.le_of_ble_eq_true rfl) rfl rfl (fun F => ?_)
  unfold f_X12_writesDown
  refine PWk.aload_n 0 dX12_writesDown_0 rfl ?_
  refine PWk.gets dX12_writesDown_1 rg_100 lc_100 fl_X12_168 rfl st_100_51 ?_
  refine PWk.iconst (v := 0) dX12_writesDown_4 ic_0 ?_
  refine PWk.iald dX12_writesDown_5 rg_132 ly_132 (fun v1 => ?_)
  refine PWk.bipush (v := 40) dX12_writesDown_6 bp_40 ?_
  refine PWk.jn (pc' := 54) (lv' := fun y10 => [(0, .ref 100), (1, .int p1), (2, .int p2), (3, .int p3)]) (st' := fun y10 => []) (I' := fun y10 => y10) (L' := fun y10 => L) (R' := fun y10 => R) (fun j2 hj2 => ?_) (fun y10 => ?_)
  · refine PWk.icmp_ne 54 dX12_writesDown_8 (by decide) (fun h9 => ?_) (fun h9 => ?_)
    · refine PWk.iconst (v := 0) dX12_writesDown_11 ic_0 ?_
      refine PWk.istore [(4, .int 0), (0, .ref 100), (1, .int p1), (2, .int p2), (3, .int p3)] dX12_writesDown_12 (by decide) rfl ?_
      refine PWk.sub [1, 2, 3, 4, 0] rfl ?_
      refine PWk.loopV (fun N' hx' => lp_X12_writesDown_14 fu p1 p2 p3 L R fu 0 I N' F hx') (fun x6 => ?_)
      refine PWk.aload_n 0 dX12_writesDown_44 rfl ?_
      refine PWk.gets dX12_writesDown_45 rg_100 lc_100 fl_X12_168 rfl st_100_51 ?_
      refine PWk.iconst (v := 0) dX12_writesDown_48 ic_0 ?_
      refine PWk.dup2 dX12_writesDown_49 rfl rfl ?_
      refine PWk.iald dX12_writesDown_50 rg_132 ly_132 (fun v7 => ?_)
      refine PWk.iconst (v := 1) dX12_writesDown_51 ic_1 ?_
      refine PWk.isub dX12_writesDown_52 ?_
      refine PWk.iast dX12_writesDown_53 rg_132 ly_132 ?_
      refine PWk.bI (fun I8 => ?_)
      exact hj2 I8
    · exact hj2 I
  · refine PWk.iconst (v := 4) dX12_writesDown_54 ic_4 ?_
    refine PWk.aload_n 0 dX12_writesDown_55 rfl ?_
    refine PWk.gets dX12_writesDown_56 rg_100 lc_100 fl_X12_168 rfl st_100_51 ?_
    refine PWk.iconst (v := 0) dX12_writesDown_59 ic_0 ?_
    refine PWk.iald dX12_writesDown_60 rg_132 ly_132 (fun v11 => ?_)
    refine PWk.imul dX12_writesDown_61 ?_
    refine PWk.bi (fun v12 => ?_)
    refine PWk.istore [(4, .int v12), (0, .ref 100), (1, .int p1), (2, .int p2), (3, .int p3)] dX12_writesDown_62 (by decide) rfl ?_
    refine PWk.aload_n 1 dX12_writesDown_64 rfl ?_
    refine PWk.gets dX12_writesDown_65 rg_100 lc_100 fl_X12_171 rfl st_100_52 ?_
    refine PWk.iload 0 dX12_writesDown_68 rfl ?_
    refine PWk.aload_n 1 dX12_writesDown_70 rfl ?_
    refine PWk.gets dX12_writesDown_71 rg_100 lc_100 fl_X12_153 rfl st_100_46 ?_
    refine PWk.iconst (v := 0) dX12_writesDown_74 ic_0 ?_
    refine PWk.iald dX12_writesDown_75 rg_127 ly_127 (fun v13 => ?_)
    refine PWk.iast dX12_writesDown_76 rg_133 ly_133 ?_
    refine PWk.bI (fun I14 => ?_)
    refine PWk.aload_n 1 dX12_writesDown_77 rfl ?_
    refine PWk.gets dX12_writesDown_78 rg_100 lc_100 fl_X12_171 rfl st_100_52 ?_
    refine PWk.iload 0 dX12_writesDown_81 rfl ?_
    refine PWk.iconst (v := 1) dX12_writesDown_83 ic_1 ?_
    refine PWk.iadd dX12_writesDown_84 ?_
    refine PWk.iload_n 2 dX12_writesDown_85 rfl ?_
    refine PWk.iast dX12_writesDown_86 rg_133 ly_133 ?_
    refine PWk.bI (fun I15 => ?_)
    refine PWk.aload_n 1 dX12_writesDown_87 rfl ?_
    refine PWk.gets dX12_writesDown_88 rg_100 lc_100 fl_X12_171 rfl st_100_52 ?_
    refine PWk.iload 0 dX12_writesDown_91 rfl ?_
    refine PWk.iconst (v := 2) dX12_writesDown_93 ic_2 ?_
    refine PWk.iadd dX12_writesDown_94 ?_
    refine PWk.iload_n 3 dX12_writesDown_95 rfl ?_
    refine PWk.iast dX12_writesDown_96 rg_133 ly_133 ?_
    refine PWk.bI (fun I16 => ?_)
    refine PWk.aload_n 1 dX12_writesDown_97 rfl ?_
    refine PWk.gets dX12_writesDown_98 rg_100 lc_100 fl_X12_171 rfl st_100_52 ?_
    refine PWk.iload 0 dX12_writesDown_101 rfl ?_
    refine PWk.iconst (v := 3) dX12_writesDown_103 ic_3 ?_
    refine PWk.iadd dX12_writesDown_104 ?_
    refine PWk.iload_n 4 dX12_writesDown_105 rfl ?_
    refine PWk.iast dX12_writesDown_106 rg_133 ly_133 ?_
    refine PWk.bI (fun I17 => ?_)
    refine PWk.aload_n 1 dX12_writesDown_107 rfl ?_
    refine PWk.gets dX12_writesDown_108 rg_100 lc_100 fl_X12_168 rfl st_100_51 ?_
    refine PWk.iconst (v := 0) dX12_writesDown_111 ic_0 ?_
    refine PWk.dup2 dX12_writesDown_112 rfl rfl ?_
    refine PWk.iald dX12_writesDown_113 rg_132 ly_132 (fun v18 => ?_)
    refine PWk.iconst (v := 1) dX12_writesDown_114 ic_1 ?_
    refine PWk.iadd dX12_writesDown_115 ?_
    refine PWk.iast dX12_writesDown_116 rg_132 ly_132 ?_
    refine PWk.bI (fun I19 => ?_)
    exact PWk.vret dX12_writesDown_117 rfl (fun h => h)
/-! LakeMarketModel.pay(III)I -/
def f_X12_pay_L144 : Nat → HI → Int32 → Int32 → Int32 → Option (HI)
  | 0, _, _, _, _ => none
  | n + 1, I, u2, u3, u6 =>
    ldI (I 106) 2 (I 100 13) fun v24 =>
    if v24 ≤ u6 then
      some I
    else
      (f_X12_has2 u3 u6).bind fun x25 =>
      jnt (β := HI) (fun y29 =>
        f_X12_pay_L144 n y29 u2 u3 (u6 + 1)) fun j26 =>
      if x25 = 0 then
        j26 I
      else
        inb 208 u6 <|
        bnd (sI I 130 (u6 : Int32).toNatClampNeg u2) fun I27 =>
        j26 I27
def f_X12_pay (fu : Nat) (I : HI) (L : HL) (p1 : Int32) (p2 : Int32) (p3 : Int32) : Option (Int32 × HI × HL) :=
  (f_X12_isOwner I p1).bind fun x1 =>
  jnt (β := Unit) (fun y38 =>
    (f_X12_refuses I 3).bind fun x39 =>
    some (x39.1, x39.2, L)) fun j2 =>
  if x1 = 0 then
    j2 ()
  else
    (f_X12_isOwner I p2).bind fun x3 =>
    if x3 = 0 then
      j2 ()
    else
      if p1 = p2 then
        j2 ()
      else
        if p3 ≤ 0 then
          j2 ()
        else
          (f_X12_lakesOf fu I 0 p1).bind fun x4 =>
          if (p3 &&& (x4 ^^^ (-1))) = 0 then
            (f_X12_worthOf fu I L 0 p3).bind fun x5 =>
            (f_X12_debt x5.2.1 p1 p2).bind fun x6 =>
            bnd ((x5.1 - x6)) fun v7 =>
            jnt (β := Unit) (fun y13 =>
              (f_X12_keeps fu x5.2.1).bind fun x14 =>
              jnt (β := Int32) (fun y17 =>
                inb 936 ((6 * p1) + p2) <|
                bnd (sI x14 131 (((6 * p1) + p2) : Int32).toNatClampNeg y17) fun I18 =>
                ldI (I18 131) 936 ((6 * p2) + p1) fun v19 =>
                jnt (β := Int32) (fun y22 =>
                  inb 936 ((6 * p2) + p1) <|
                  bnd (sI I18 131 (((6 * p2) + p1) : Int32).toNatClampNeg (v19 + y22)) fun I23 =>
                  (f_X12_pay_L144 fu I23 p2 p3 0).bind fun x31 =>
                  (f_X12_writesDown fu x31 p1 p2 x5.1).bind fun x32 =>
                  some (x5.1, x32, x5.2.2)) fun j20 =>
                if v7 ≤ 0 then
                  j20 0
                else
                  j20 v7) fun j15 =>
              if v7 ≤ 0 then
                j15 (-v7)
              else
                j15 0) fun j8 =>
            if v7 ≤ 0 then
              j8 ()
            else
              (f_X12_debt x5.2.1 p2 p1).bind fun x9 =>
              if (x9 + v7) ≤ 9999 then
                j8 ()
              else
                (f_X12_refuses x5.2.1 3).bind fun x10 =>
                some (x10.1, x10.2, x5.2.2)
          else
            j2 ()
set_option maxRecDepth 20000 in
theorem lp_X12_pay_144 (fu : Nat) (u1 : Int32) (u2 : Int32) (u3 : Int32) (u4 : Int32) (L : HL) (R : HR) : ∀ (n : Nat) (u6 : Int32) (I : HI) (N : (HI) → Prop) (F : HF), (∀ v : HI, N v → PW 100 147 5 RX12 cX12_pay 7 (some .int) 181 [(0, .ref 100), (1, .int u1), (2, .int u2), (4, .int u4)] [] v L R F) → PWk 100 147 5 RX12 cX12_pay 7 (some .int) 144 [(0, .ref 100), (1, .int u1), (2, .int u2), (3, .int u3), (4, .int u4), (6, .int u6)] [] I L R (f_X12_pay_L144 n I u2 u3 u6) N F := by
  intro n
  induction n with
  | zero => intro u6 I N F hx; exact PWk.none'
  | succ n ih =>
    intro u6 I N F hx
    unfold f_X12_pay_L144
    refine PWk.iload 5 dX12_pay_144 rfl ?_
    refine PWk.aload_n 0 dX12_pay_146 rfl ?_
    refine PWk.gets dX12_pay_147 rg_100 lc_100 fl_X12_66 rfl st_100_18 ?_
    refine PWk.aload_n 0 dX12_pay_150 rfl ?_
    refine PWk.geti dX12_pay_151 rg_100 lc_100 fl_X12_51 rfl ?_
    refine PWk.iald dX12_pay_154 rg_106 ly_106 (fun v24 => ?_)
    refine PWk.icmp_ge 181 dX12_pay_155 (by decide) (fun h30 => ?_) (fun h30 => ?_)
    · refine PWk.sub [0, 1, 2, 4] rfl ?_
      exact PWk.done (fun h => hx _ h)
    · refine PWk.iload_n 3 dX12_pay_158 rfl ?_
      refine PWk.iload 5 dX12_pay_159 rfl ?_
      refine PWk.callSi (pc_X12_has2 I L R u3 u6) dX12_pay_161 ml_X12_357 rfl (by decide) rfl (Nat.le_of_ble_eq_true rfl) (fun x25 => ?_)
      refine PWk.jn (pc' := 175) (lv' := fun y29 => [(0, .ref 100), (1, .int u1), (2, .int u2), (3, .int u3), (4, .int u4), (6, .int u6)]) (st' := fun y29 => []) (I' := fun y29 => y29) (L' := fun y29 => L) (R' := fun y29 => R) (fun j26 hj26 => ?_) (fun y29 => ?_)
      · refine PWk.if_eq 175 dX12_pay_164 (by decide) (fun h28 => ?_) (fun h28 => ?_)
        · exact hj26 I
        · refine PWk.aload_n 0 dX12_pay_167 rfl ?_
          refine PWk.gets dX12_pay_168 rg_100 lc_100 fl_X12_162 rfl st_100_49 ?_
          refine PWk.iload 5 dX12_pay_171 rfl ?_
          refine PWk.iload_n 2 dX12_pay_173 rfl ?_
          refine PWk.iast dX12_pay_174 rg_130 ly_130 ?_
          refine PWk.bI (fun I27 => ?_)
          exact hj26 I27
      · refine PWk.iinc (v := (u6 + 1)) 5 [(6, .int (u6 + 1)), (0, .ref 100), (1, .int u1), (2, .int u2), (3, .int u3), (4, .int u4)] dX12_pay_175 rfl (by rw [ic_1]) (by decide) rfl ?_
        refine PWk.goto 144 dX12_pay_178 (by decide) ?_
        refine PWk.sub [1, 2, 3, 4, 5, 0] rfl ?_
        exact ih (u6 + 1) y29 N F hx
set_option maxRecDepth 20000 in
theorem pc_X12_pay (fu : Nat) (I : HI) (L : HL) (R : HR) (p1 : Int32) (p2 : Int32) (p3 : Int32) : PCo 100 147 5 yX12_pay cX12_pay 7 (some .int) [.ref 100, .int p1, .int p2, .int p3] I L R (f_X12_pay fu I L p1 p2 p3) (fun x : Int32 × HI × HL => ((some (.int x.1), x.2.1, x.2.2, R) : HF)) := by
  refine PCo.of (own := RX12) (by decide +kernel) (Nat.le_of_ble_eq_true rfl) rfl rfl (fun F => ?_)
  unfold f_X12_pay
  refine PWk.aload_n 0 dX12_pay_0 rfl ?_
  refine PWk.iload_n 1 dX12_pay_1 rfl ?_
  refine PWk.callVi (pc_X12_isOwner I L R p1) dX12_pay_2 ml_X12_504 rfl rg_100 lc_100 vq_12 (by decide) rfl (Nat.le_of_ble_eq_true rfl) (fun x1 => ?_)
  refine PWk.jn (pc' := 38) (lv' := fun y38 => [(0, .ref 100)]) (st' := fun y38 => []) (I' := fun y38 => I) (L' := fun y38 => L) (R' := fun y38 => R) (fun j2 hj2 => ?_) (fun y38 => ?_)
  · refine PWk.if_eq 38 dX12_pay_5 (by decide) (fun h37 => ?_) (fun h37 => ?_)
    · refine PWk.sub [0] rfl ?_
      exact hj2 ()
    · refine PWk.aload_n 0 dX12_pay_8 rfl ?_
      refine PWk.iload_n 2 dX12_pay_9 rfl ?_
      refine PWk.callVi (pc_X12_isOwner I L R p2) dX12_pay_10 ml_X12_504 rfl rg_100 lc_100 vq_12 (by decide) rfl (Nat.le_of_ble_eq_true rfl) (fun x3 => ?_)
      refine PWk.if_eq 38 dX12_pay_13 (by decide) (fun h36 => ?_) (fun h36 => ?_)
      · refine PWk.sub [0] rfl ?_
        exact hj2 ()
      · refine PWk.iload_n 1 dX12_pay_16 rfl ?_
        refine PWk.iload_n 2 dX12_pay_17 rfl ?_
        refine PWk.icmp_eq 38 dX12_pay_18 (by decide) (fun h35 => ?_) (fun h35 => ?_)
        · refine PWk.sub [0] rfl ?_
          exact hj2 ()
        · refine PWk.iload_n 3 dX12_pay_21 rfl ?_
          refine PWk.if_le 38 dX12_pay_22 (by decide) (fun h34 => ?_) (fun h34 => ?_)
          · refine PWk.sub [0] rfl ?_
            exact hj2 ()
          · refine PWk.iload_n 3 dX12_pay_25 rfl ?_
            refine PWk.aload_n 0 dX12_pay_26 rfl ?_
            refine PWk.iconst (v := 0) dX12_pay_27 ic_0 ?_
            refine PWk.iload_n 1 dX12_pay_28 rfl ?_
            refine PWk.callVi (pc_X12_lakesOf fu I L R 0 p1) dX12_pay_29 ml_X12_486 rfl rg_100 lc_100 vq_12 (by decide) rfl (Nat.le_of_ble_eq_true rfl) (fun x4 => ?_)
            refine PWk.iconst (v := (-1)) dX12_pay_32 ic_m1 ?_
            refine PWk.ixor dX12_pay_33 ?_
            refine PWk.iand dX12_pay_34 ?_
            refine PWk.if_eq 44 dX12_pay_35 (by decide) (fun h33 => ?_) (fun h33 => ?_)
            · refine PWk.aload_n 0 dX12_pay_44 rfl ?_
              refine PWk.iconst (v := 0) dX12_pay_45 ic_0 ?_
              refine PWk.iload_n 3 dX12_pay_46 rfl ?_
              refine PWk.callViIL (pc_X12_worthOf fu I L R 0 p3) dX12_pay_47 ml_X12_489 rfl rg_100 lc_100 vq_12 (by decide) rfl (Nat.le_of_ble_eq_true rfl) (fun x5 => ?_)
              refine PWk.istore [(4, .int x5.1), (0, .ref 100), (1, .int p1), (2, .int p2), (3, .int p3)] dX12_pay_50 (by decide) rfl ?_
              refine PWk.iload 0 dX12_pay_52 rfl ?_
              refine PWk.aload_n 1 dX12_pay_54 rfl ?_
              refine PWk.iload_n 2 dX12_pay_55 rfl ?_
              refine PWk.iload_n 3 dX12_pay_56 rfl ?_
              refine PWk.callVi (pc_X12_debt x5.2.1 x5.2.2 R p1 p2) dX12_pay_57 ml_X12_479 rfl rg_100 lc_100 vq_12 (by decide) rfl (Nat.le_of_ble_eq_true rfl) (fun x6 => ?_)
              refine PWk.isub dX12_pay_60 ?_
              refine PWk.bi (fun v7 => ?_)
              refine PWk.istore [(5, .int v7), (4, .int x5.1), (0, .ref 100), (1, .int p1), (2, .int p2), (3, .int p3)] dX12_pay_61 (by decide) rfl ?_
              refine PWk.iload 0 dX12_pay_63 rfl ?_
              refine PWk.jn (pc' := 89) (lv' := fun y13 => [(0, .ref 100), (1, .int p1), (2, .int p2), (3, .int p3), (4, .int x5.1), (5, .int v7)]) (st' := fun y13 => []) (I' := fun y13 => x5.2.1) (L' := fun y13 => x5.2.2) (R' := fun y13 => R) (fun j8 hj8 => ?_) (fun y13 => ?_)
              · refine PWk.if_le 89 dX12_pay_65 (by decide) (fun h12 => ?_) (fun h12 => ?_)
                · refine PWk.sub [2, 3, 4, 5, 1, 0] rfl ?_
                  exact hj8 ()
                · refine PWk.aload_n 2 dX12_pay_68 rfl ?_
                  refine PWk.iload_n 4 dX12_pay_69 rfl ?_
                  refine PWk.iload_n 3 dX12_pay_70 rfl ?_
                  refine PWk.callVi (pc_X12_debt x5.2.1 x5.2.2 R p2 p1) dX12_pay_71 ml_X12_479 rfl rg_100 lc_100 vq_12 (by decide) rfl (Nat.le_of_ble_eq_true rfl) (fun x9 => ?_)
                  refine PWk.iload 0 dX12_pay_74 rfl ?_
                  refine PWk.iadd dX12_pay_76 ?_
                  refine PWk.sipush (v := 9999) dX12_pay_77 sp_9999 ?_
                  refine PWk.icmp_le 89 dX12_pay_80 (by decide) (fun h11 => ?_) (fun h11 => ?_)
                  · refine PWk.sub [2, 3, 4, 5, 1, 0] rfl ?_
                    exact hj8 ()
                  · refine PWk.aload_n 2 dX12_pay_83 rfl ?_
                    refine PWk.iconst (v := 3) dX12_pay_84 ic_3 ?_
                    refine PWk.callViI (pc_X12_refuses x5.2.1 x5.2.2 R 3) dX12_pay_85 ml_X12_229 rfl rg_100 lc_100 vq_12 (by decide) rfl (Nat.le_of_ble_eq_true rfl) (fun x10 => ?_)
                    exact PWk.iret dX12_pay_88 rfl (fun h => h)
              · refine PWk.aload_n 0 dX12_pay_89 rfl ?_
                refine PWk.callVvI (pc_X12_keeps fu x5.2.1 x5.2.2 R) dX12_pay_90 ml_X12_548 rfl rg_100 lc_100 vq_12 (by decide) rfl (Nat.le_of_ble_eq_true rfl) (fun x14 => ?_)
                refine PWk.aload_n 0 dX12_pay_93 rfl ?_
                refine PWk.gets dX12_pay_94 rg_100 lc_100 fl_X12_165 rfl st_100_50 ?_
                refine PWk.bipush (v := 6) dX12_pay_97 bp_6 ?_
                refine PWk.iload_n 1 dX12_pay_99 rfl ?_
                refine PWk.imul dX12_pay_100 ?_
                refine PWk.iload_n 2 dX12_pay_101 rfl ?_
                refine PWk.iadd dX12_pay_102 ?_
                refine PWk.iload 5 dX12_pay_103 rfl ?_
                refine PWk.jn (pc' := 115) (lv' := fun y17 => [(0, .ref 100), (1, .int p1), (2, .int p2), (3, .int p3), (4, .int x5.1), (5, .int v7)]) (st' := fun y17 => [.int y17, .int ((6 * p1) + p2), .ref 131]) (I' := fun y17 => x14) (L' := fun y17 => x5.2.2) (R' := fun y17 => R) (fun j15 hj15 => ?_) (fun y17 => ?_)
                · refine PWk.if_le 112 dX12_pay_105 (by decide) (fun h16 => ?_) (fun h16 => ?_)
                  · refine PWk.iload 5 dX12_pay_112 rfl ?_
                    refine PWk.ineg dX12_pay_114 ?_
                    exact hj15 (-v7)
                  · refine PWk.iconst (v := 0) dX12_pay_108 ic_0 ?_
                    refine PWk.goto 115 dX12_pay_109 (by decide) ?_
                    exact hj15 0
                · refine PWk.iast dX12_pay_115 rg_131 ly_131 ?_
                  refine PWk.bI (fun I18 => ?_)
                  refine PWk.aload_n 0 dX12_pay_116 rfl ?_
                  refine PWk.gets dX12_pay_117 rg_100 lc_100 fl_X12_165 rfl st_100_50 ?_
                  refine PWk.bipush (v := 6) dX12_pay_120 bp_6 ?_
                  refine PWk.iload_n 2 dX12_pay_122 rfl ?_
                  refine PWk.imul dX12_pay_123 ?_
                  refine PWk.iload_n 1 dX12_pay_124 rfl ?_
                  refine PWk.iadd dX12_pay_125 ?_
                  refine PWk.dup2 dX12_pay_126 rfl rfl ?_
                  refine PWk.iald dX12_pay_127 rg_131 ly_131 (fun v19 => ?_)
                  refine PWk.iload 5 dX12_pay_128 rfl ?_
                  refine PWk.jn (pc' := 139) (lv' := fun y22 => [(0, .ref 100), (1, .int p1), (2, .int p2), (3, .int p3), (4, .int x5.1)]) (st' := fun y22 => [.int y22, .int v19, .int ((6 * p2) + p1), .ref 131]) (I' := fun y22 => I18) (L' := fun y22 => x5.2.2) (R' := fun y22 => R) (fun j20 hj20 => ?_) (fun y22 => ?_)
                  · refine PWk.if_le 138 dX12_pay_130 (by decide) (fun h21 => ?_) (fun h21 => ?_)
                    · refine PWk.iconst (v := 0) dX12_pay_138 ic_0 ?_
                      refine PWk.sub [0, 1, 2, 3, 4] rfl ?_
                      exact hj20 0
                    · refine PWk.iload 5 dX12_pay_133 rfl ?_
                      refine PWk.goto 139 dX12_pay_135 (by decide) ?_
                      refine PWk.sub [0, 1, 2, 3, 4] rfl ?_
                      exact hj20 v7
                  · refine PWk.iadd dX12_pay_139 ?_
                    refine PWk.iast dX12_pay_140 rg_131 ly_131 ?_
                    refine PWk.bI (fun I23 => ?_)
                    refine PWk.iconst (v := 0) dX12_pay_141 ic_0 ?_
                    refine PWk.istore [(6, .int 0), (0, .ref 100), (1, .int p1), (2, .int p2), (3, .int p3), (4, .int x5.1)] dX12_pay_142 (by decide) rfl ?_
                    refine PWk.sub [1, 2, 3, 4, 5, 0] rfl ?_
                    refine PWk.loopV (fun N' hx' => lp_X12_pay_144 fu p1 p2 p3 x5.1 x5.2.2 R fu 0 I23 N' F hx') (fun x31 => ?_)
                    refine PWk.aload_n 0 dX12_pay_181 rfl ?_
                    refine PWk.iload_n 1 dX12_pay_182 rfl ?_
                    refine PWk.iload_n 2 dX12_pay_183 rfl ?_
                    refine PWk.iload 3 dX12_pay_184 rfl ?_
                    refine PWk.callVvI (pc_X12_writesDown fu x31 x5.2.2 R p1 p2 x5.1) dX12_pay_186 ml_X12_562 rfl rg_100 lc_100 vq_12 (by decide) rfl (Nat.le_of_ble_eq_true rfl) (fun x32 => ?_)
                    refine PWk.iload 3 dX12_pay_189 rfl ?_
                    exact PWk.iret dX12_pay_191 rfl (fun h => h)
            · refine PWk.sub [0] rfl ?_
              exact hj2 ()
  · refine PWk.aload_n 0 dX12_pay_38 rfl ?_
    refine PWk.iconst (v := 3) dX12_pay_39 ic_3 ?_
    refine PWk.callViI (pc_X12_refuses I L R 3) dX12_pay_40 ml_X12_229 rfl rg_100 lc_100 vq_12 (by decide) rfl (Nat.le_of_ble_eq_true rfl) (fun x39 => ?_)
    exact PWk.iret dX12_pay_43 rfl (fun h => h)
