/-! LakeMarketModel.goesOn()Z -/
def f_X12_goesOn (fu : Nat) (I : HI) (L : HL) : Option (Int32 × HI × HL) :=
  (f_X12_lex I).bind fun x1 =>
  if (x1 100 8) ≤ 0 then
    bnd (((x1 100 40) - 1)) fun v2 =>
    ldI (x1 120) 20 v2 fun v3 =>
    (f_X12_isTest v3).bind fun x4 =>
    ldI (x1 121) 20 v2 fun v5 =>
    jnt (β := Unit) (fun y42 =>
      jnt (β := Unit) (fun y66 =>
        jnt (β := Unit) (fun y94 =>
          jnt (β := HI) (fun y100 =>
            if 2 ≤ v3 then
              jnt (β := Unit) (fun y126 =>
                (f_X12_isSign y100 44).bind fun x127 =>
                jnt (β := HI) (fun y131 =>
                  if (y131 100 8) ≤ 0 then
                    (f_X12_joins fu y131 1).bind fun x132 =>
                    jnt (β := Int32) (fun y135 =>
                      inb 20 v2 <|
                      bnd (sI x132 120 (v2 : Int32).toNatClampNeg y135) fun I136 =>
                      inb 20 v2 <|
                      bnd (sI I136 121 (v2 : Int32).toNatClampNeg 0) fun I137 =>
                      (f_X12_ahead fu I137 L).bind fun x138 =>
                      gz 0 <|
                      bnd (sI x138.1 100 44 0) fun I139 =>
                      gz 1 (some (1, I139, x138.2))) fun j133 =>
                    if v3 = 3 then
                      j133 4
                    else
                      j133 3
                  else
                    gz 0 (some (0, y131, L))) fun j128 =>
                if x127 = 0 then
                  (f_X12_blame y100 1 (y100 100 4)).bind fun x129 =>
                  j128 x129
                else
                  j128 y100) fun j101 =>
              if v3 = 3 then
                j101 ()
              else
                if v3 = 6 then
                  j101 ()
                else
                  jnt (β := Int32) (fun y104 =>
                    (f_X12_isSign y100 y104).bind fun x105 =>
                    jnt (β := HI) (fun y109 =>
                      if (y109 100 8) ≤ 0 then
                        (f_X12_joins fu y109 1).bind fun x110 =>
                        bnd (sI x110 100 40 ((x110 100 40) - 1)) fun I111 =>
                        bnd (sI I111 100 41 ((I111 100 41) - 1)) fun I112 =>
                        jnt (β := HI) (fun y117 =>
                          jnt (β := HI) (fun y121 =>
                            (f_X12_ahead fu y121 L).bind fun x122 =>
                            gz 1 (some (1, x122.1, x122.2))) fun j118 =>
                          if v3 = 5 then
                            inb 20 ((y117 100 40) - 1) <|
                            bnd (sI y117 121 (((y117 100 40) - 1) : Int32).toNatClampNeg 2) fun I119 =>
                            j118 I119
                          else
                            j118 y117) fun j113 =>
                        if v3 = 4 then
                          ldI (I112 123) 20 v2 fun v114 =>
                          (f_X12_add I112 v114 0).bind fun x115 =>
                          j113 x115
                        else
                          j113 I112
                      else
                        gz 0 (some (0, y109, L))) fun j106 =>
                    if x105 = 0 then
                      (f_X12_blame y100 1 (y100 100 4)).bind fun x107 =>
                      j106 x107
                    else
                      j106 y100) fun j102 =>
                  if v3 = 5 then
                    j102 93
                  else
                    j102 41
            else
              if (y100 100 8) = 0 then
                (f_X12_joins fu y100 1).bind fun x141 =>
                gz 0 (some (0, x141, L))
              else
                gz 0 (some (0, y100, L))) fun j95 =>
          if x4 = 0 then
            j95 x1
          else
            ldI (x1 121) 20 v2 fun v96 =>
            if v96 = 0 then
              (f_X12_blame x1 1 (x1 100 4)).bind fun x97 =>
              j95 x97
            else
              j95 x1) fun j67 =>
        if x4 = 0 then
          j67 ()
        else
          (f_X12_isWord x1 L 6385252).bind fun x68 =>
          jnt (β := Unit) (fun y73 =>
            ldI (x1 121) 20 v2 fun v74 =>
            jnt (β := HI) (fun y78 =>
              if (y78 100 8) ≤ 0 then
                (f_X12_isWord y78 L 6385252).bind fun x79 =>
                jnt (β := Int32) (fun y82 =>
                  (f_X12_joins fu y78 y82).bind fun x83 =>
                  jnt (β := Int32) (fun y86 =>
                    (f_X12_holdsBack x83 y86).bind fun x87 =>
                    inb 20 v2 <|
                    bnd (sI x87 121 (v2 : Int32).toNatClampNeg 0) fun I88 =>
                    inb 20 v2 <|
                    bnd (sI I88 122 (v2 : Int32).toNatClampNeg (nz 1)) fun I89 =>
                    (f_X12_ahead fu I89 L).bind fun x90 =>
                    gz 0 <|
                    bnd (sI x90.1 100 44 0) fun I91 =>
                    gz 1 (some (1, I91, x90.2))) fun j84 =>
                  if x79 = 0 then
                    j84 42
                  else
                    j84 41) fun j80 =>
                if x79 = 0 then
                  j80 1
                else
                  j80 2
              else
                gz 0 (some (0, y78, L))) fun j75 =>
            if v74 = 0 then
              (f_X12_blame x1 1 (x1 100 4)).bind fun x76 =>
              j75 x76
            else
              j75 x1) fun j69 =>
          if x68 = 0 then
            (f_X12_isWord x1 L 28530).bind fun x70 =>
            if x70 = 0 then
              j67 ()
            else
              j69 ()
          else
            j69 ()) fun j43 =>
      if x4 = 0 then
        j43 ()
      else
        ldI (x1 121) 20 v2 fun v44 =>
        if v44 = 0 then
          (f_X12_isSign x1 60).bind fun x45 =>
          jnt (β := Unit) (fun y52 =>
            (f_X12_joins fu x1 5).bind fun x53 =>
            (f_X12_isSign x53 60).bind fun x54 =>
            jnt (β := Int32) (fun y59 =>
              (f_X12_holdsBack x53 y59).bind fun x60 =>
              inb 20 v2 <|
              bnd (sI x60 121 (v2 : Int32).toNatClampNeg 1) fun I61 =>
              (f_X12_ahead fu I61 L).bind fun x62 =>
              gz 0 <|
              bnd (sI x62.1 100 44 0) fun I63 =>
              gz 1 (some (1, I63, x62.2))) fun j55 =>
            if x54 = 0 then
              (f_X12_isSign x53 62).bind fun x56 =>
              if x56 = 0 then
                j55 40
              else
                j55 39
            else
              j55 38) fun j46 =>
          if x45 = 0 then
            (f_X12_isSign x1 62).bind fun x47 =>
            if x47 = 0 then
              (f_X12_isSign x1 61).bind fun x48 =>
              if x48 = 0 then
                j43 ()
              else
                j46 ()
            else
              j46 ()
          else
            j46 ()
        else
          j43 ()) fun j6 =>
    if 2 ≤ v5 then
      j6 ()
    else
      (f_X12_isSign x1 43).bind fun x7 =>
      jnt (β := Unit) (fun y18 =>
        (f_X12_isSign x1 43).bind fun x19 =>
        jnt (β := Int32) (fun y26 =>
          (f_X12_joins fu x1 y26).bind fun x27 =>
          (f_X12_isSign x27 43).bind fun x28 =>
          jnt (β := Int32) (fun y37 =>
            (f_X12_holdsBack x27 y37).bind fun x38 =>
            (f_X12_ahead fu x38 L).bind fun x39 =>
            gz 0 <|
            bnd (sI x39.1 100 44 0) fun I40 =>
            gz 1 (some (1, I40, x39.2))) fun j29 =>
          if x28 = 0 then
            (f_X12_isSign x27 45).bind fun x30 =>
            if x30 = 0 then
              (f_X12_isSign x27 42).bind fun x31 =>
              if x31 = 0 then
                (f_X12_isSign x27 47).bind fun x32 =>
                if x32 = 0 then
                  j29 35
                else
                  j29 34
              else
                j29 33
            else
              j29 32
          else
            j29 31) fun j21 =>
        jnt (β := Unit) (fun y25 =>
          j21 5) fun j20 =>
        if x19 = 0 then
          (f_X12_isSign x1 45).bind fun x22 =>
          if x22 = 0 then
            j21 6
          else
            j20 ()
        else
          j20 ()) fun j8 =>
      if x7 = 0 then
        (f_X12_isSign x1 45).bind fun x9 =>
        if x9 = 0 then
          (f_X12_isSign x1 42).bind fun x10 =>
          if x10 = 0 then
            (f_X12_isSign x1 47).bind fun x11 =>
            if x11 = 0 then
              (f_X12_isSign x1 37).bind fun x12 =>
              if x12 = 0 then
                j6 ()
              else
                j8 ()
            else
              j8 ()
          else
            j8 ()
        else
          j8 ()
      else
        j8 ()
  else
    gz 0 (some (0, x1, L))
set_option maxRecDepth 20000 in
theorem pc_X12_goesOn (fu : Nat) (I : HI) (L : HL) (R : HR) : PCo 100 147 2 yX12_goesOn cX12_goesOn 5 (some .boolean) [.ref 100] I L R (f_X12_goesOn fu I L) (fun x : Int32 × HI × HL => ((some (.int x.1), x.2.1, x.2.2, R) : HF)) := by
  refine PCo.of (own := RX12) (by decide +kernel) (Nat.le_of_ble_eq_true rfl) rfl rfl (fun F => ?_)
  unfold f_X12_goesOn
  refine PWk.aload_n 0 dX12_goesOn_0 rfl ?_
  refine PWk.callVvI (pc_X12_lex I L R) dX12_goesOn_1 ml_X12_252 rfl rg_100 lc_100 vq_12 (by decide) rfl (Nat.le_of_ble_eq_true rfl) (fun x1 => ?_)
  refine PWk.aload_n 0 dX12_goesOn_4 rfl ?_
  refine PWk.geti dX12_goesOn_5 rg_100 lc_100 fl_X12_36 rfl ?_
  refine PWk.if_le 13 dX12_goesOn_8 (by decide) (fun h144 => ?_) (fun h144 => ?_)
  · refine PWk.aload_n 0 dX12_goesOn_13 rfl ?_
    refine PWk.geti dX12_goesOn_14 rg_100 lc_100 fl_X12_134 rfl ?_
    refine PWk.iconst (v := 1) dX12_goesOn_17 ic_1 ?_
    refine PWk.isub dX12_goesOn_18 ?_
    refine PWk.bi (fun v2 => ?_)
    refine PWk.istore_n [(1, .int v2), (0, .ref 100)] dX12_goesOn_19 (by decide) rfl ?_
    refine PWk.aload_n 1 dX12_goesOn_20 rfl ?_
    refine PWk.gets dX12_goesOn_21 rg_100 lc_100 fl_X12_118 rfl st_100_35 ?_
    refine PWk.iload_n 0 dX12_goesOn_24 rfl ?_
    refine PWk.iald dX12_goesOn_25 rg_120 ly_120 (fun v3 => ?_)
    refine PWk.istore_n [(2, .int v3), (1, .int v2), (0, .ref 100)] dX12_goesOn_26 (by decide) rfl ?_
    refine PWk.iload_n 0 dX12_goesOn_27 rfl ?_
    refine PWk.callSi (pc_X12_isTest x1 L R v3) dX12_goesOn_28 ml_X12_332 rfl (by decide) rfl (Nat.le_of_ble_eq_true rfl) (fun x4 => ?_)
    refine PWk.istore_n [(3, .int x4), (2, .int v3), (1, .int v2), (0, .ref 100)] dX12_goesOn_31 (by decide) rfl ?_
    refine PWk.aload_n 3 dX12_goesOn_32 rfl ?_
    refine PWk.gets dX12_goesOn_33 rg_100 lc_100 fl_X12_121 rfl st_100_36 ?_
    refine PWk.iload_n 2 dX12_goesOn_36 rfl ?_
    refine PWk.iald dX12_goesOn_37 rg_121 ly_121 (fun v5 => ?_)
    refine PWk.iconst (v := 2) dX12_goesOn_38 ic_2 ?_
    refine PWk.jn (pc' := 188) (lv' := fun y42 => [(0, .ref 100), (1, .int v2), (2, .int v3), (3, .int x4)]) (st' := fun y42 => []) (I' := fun y42 => x1) (L' := fun y42 => L) (R' := fun y42 => R) (fun j6 hj6 => ?_) (fun y42 => ?_)
    · refine PWk.icmp_ge 188 dX12_goesOn_39 (by decide) (fun h41 => ?_) (fun h41 => ?_)
      · refine PWk.sub [3, 2, 1, 0] rfl ?_
        exact hj6 ()
      · refine PWk.aload_n 3 dX12_goesOn_42 rfl ?_
        refine PWk.bipush (v := 43) dX12_goesOn_43 bp_43 ?_
        refine PWk.callVi (pc_X12_isSign x1 L R 43) dX12_goesOn_45 ml_X12_255 rfl rg_100 lc_100 vq_12 (by decide) rfl (Nat.le_of_ble_eq_true rfl) (fun x7 => ?_)
        refine PWk.jn (pc' := 87) (lv' := fun y18 => [(0, .ref 100)]) (st' := fun y18 => []) (I' := fun y18 => x1) (L' := fun y18 => L) (R' := fun y18 => R) (fun j8 hj8 => ?_) (fun y18 => ?_)
        · refine PWk.if_ne 87 dX12_goesOn_48 (by decide) (fun h17 => ?_) (fun h17 => ?_)
          · refine PWk.aload_n 3 dX12_goesOn_51 rfl ?_
            refine PWk.bipush (v := 45) dX12_goesOn_52 bp_45 ?_
            refine PWk.callVi (pc_X12_isSign x1 L R 45) dX12_goesOn_54 ml_X12_255 rfl rg_100 lc_100 vq_12 (by decide) rfl (Nat.le_of_ble_eq_true rfl) (fun x9 => ?_)
            refine PWk.if_ne 87 dX12_goesOn_57 (by decide) (fun h16 => ?_) (fun h16 => ?_)
            · refine PWk.aload_n 3 dX12_goesOn_60 rfl ?_
              refine PWk.bipush (v := 42) dX12_goesOn_61 bp_42 ?_
              refine PWk.callVi (pc_X12_isSign x1 L R 42) dX12_goesOn_63 ml_X12_255 rfl rg_100 lc_100 vq_12 (by decide) rfl (Nat.le_of_ble_eq_true rfl) (fun x10 => ?_)
              refine PWk.if_ne 87 dX12_goesOn_66 (by decide) (fun h15 => ?_) (fun h15 => ?_)
              · refine PWk.aload_n 3 dX12_goesOn_69 rfl ?_
                refine PWk.bipush (v := 47) dX12_goesOn_70 bp_47 ?_
                refine PWk.callVi (pc_X12_isSign x1 L R 47) dX12_goesOn_72 ml_X12_255 rfl rg_100 lc_100 vq_12 (by decide) rfl (Nat.le_of_ble_eq_true rfl) (fun x11 => ?_)
                refine PWk.if_ne 87 dX12_goesOn_75 (by decide) (fun h14 => ?_) (fun h14 => ?_)
                · refine PWk.aload_n 3 dX12_goesOn_78 rfl ?_
                  refine PWk.bipush (v := 37) dX12_goesOn_79 bp_37 ?_
                  refine PWk.callVi (pc_X12_isSign x1 L R 37) dX12_goesOn_81 ml_X12_255 rfl rg_100 lc_100 vq_12 (by decide) rfl (Nat.le_of_ble_eq_true rfl) (fun x12 => ?_)
                  refine PWk.if_eq 188 dX12_goesOn_84 (by decide) (fun h13 => ?_) (fun h13 => ?_)
                  · refine PWk.sub [3, 2, 1, 0] rfl ?_
                    exact hj6 ()
                  · refine PWk.sub [3] rfl ?_
                    exact hj8 ()
                · refine PWk.sub [3] rfl ?_
                  exact hj8 ()
              · refine PWk.sub [3] rfl ?_
                exact hj8 ()
            · refine PWk.sub [3] rfl ?_
              exact hj8 ()
          · refine PWk.sub [3] rfl ?_
            exact hj8 ()
        · refine PWk.aload_n 0 dX12_goesOn_87 rfl ?_
          refine PWk.aload_n 0 dX12_goesOn_88 rfl ?_
          refine PWk.bipush (v := 43) dX12_goesOn_89 bp_43 ?_
          refine PWk.callVi (pc_X12_isSign x1 L R 43) dX12_goesOn_91 ml_X12_255 rfl rg_100 lc_100 vq_12 (by decide) rfl (Nat.le_of_ble_eq_true rfl) (fun x19 => ?_)
          refine PWk.jn (pc' := 112) (lv' := fun y26 => [(0, .ref 100)]) (st' := fun y26 => [.int y26, .ref 100]) (I' := fun y26 => x1) (L' := fun y26 => L) (R' := fun y26 => R) (fun j21 hj21 => ?_) (fun y26 => ?_)
          · refine PWk.jn (pc' := 106) (lv' := fun y25 => [(0, .ref 100)]) (st' := fun y25 => [.ref 100]) (I' := fun y25 => x1) (L' := fun y25 => L) (R' := fun y25 => R) (fun j20 hj20 => ?_) (fun y25 => ?_)
            · refine PWk.if_ne 106 dX12_goesOn_94 (by decide) (fun h24 => ?_) (fun h24 => ?_)
              · refine PWk.aload_n 0 dX12_goesOn_97 rfl ?_
                refine PWk.bipush (v := 45) dX12_goesOn_98 bp_45 ?_
                refine PWk.callVi (pc_X12_isSign x1 L R 45) dX12_goesOn_100 ml_X12_255 rfl rg_100 lc_100 vq_12 (by decide) rfl (Nat.le_of_ble_eq_true rfl) (fun x22 => ?_)
                refine PWk.if_eq 110 dX12_goesOn_103 (by decide) (fun h23 => ?_) (fun h23 => ?_)
                · refine PWk.bipush (v := 6) dX12_goesOn_110 bp_6 ?_
                  exact hj21 6
                · exact hj20 ()
              · exact hj20 ()
            · refine PWk.iconst (v := 5) dX12_goesOn_106 ic_5 ?_
              refine PWk.goto 112 dX12_goesOn_107 (by decide) ?_
              exact hj21 5
          · refine PWk.callVvI (pc_X12_joins fu x1 L R y26) dX12_goesOn_112 ml_X12_344 rfl rg_100 lc_100 vq_12 (by decide) rfl (Nat.le_of_ble_eq_true rfl) (fun x27 => ?_)
            refine PWk.aload_n 0 dX12_goesOn_115 rfl ?_
            refine PWk.aload_n 0 dX12_goesOn_116 rfl ?_
            refine PWk.bipush (v := 43) dX12_goesOn_117 bp_43 ?_
            refine PWk.callVi (pc_X12_isSign x27 L R 43) dX12_goesOn_119 ml_X12_255 rfl rg_100 lc_100 vq_12 (by decide) rfl (Nat.le_of_ble_eq_true rfl) (fun x28 => ?_)
            refine PWk.jn (pc' := 174) (lv' := fun y37 => [(0, .ref 100)]) (st' := fun y37 => [.int y37, .ref 100]) (I' := fun y37 => x27) (L' := fun y37 => L) (R' := fun y37 => R) (fun j29 hj29 => ?_) (fun y37 => ?_)
            · refine PWk.if_eq 130 dX12_goesOn_122 (by decide) (fun h36 => ?_) (fun h36 => ?_)
              · refine PWk.aload_n 0 dX12_goesOn_130 rfl ?_
                refine PWk.bipush (v := 45) dX12_goesOn_131 bp_45 ?_
                refine PWk.callVi (pc_X12_isSign x27 L R 45) dX12_goesOn_133 ml_X12_255 rfl rg_100 lc_100 vq_12 (by decide) rfl (Nat.le_of_ble_eq_true rfl) (fun x30 => ?_)
                refine PWk.if_eq 144 dX12_goesOn_136 (by decide) (fun h35 => ?_) (fun h35 => ?_)
                · refine PWk.aload_n 0 dX12_goesOn_144 rfl ?_
                  refine PWk.bipush (v := 42) dX12_goesOn_145 bp_42 ?_
                  refine PWk.callVi (pc_X12_isSign x27 L R 42) dX12_goesOn_147 ml_X12_255 rfl rg_100 lc_100 vq_12 (by decide) rfl (Nat.le_of_ble_eq_true rfl) (fun x31 => ?_)
                  refine PWk.if_eq 158 dX12_goesOn_150 (by decide) (fun h34 => ?_) (fun h34 => ?_)
                  · refine PWk.aload_n 0 dX12_goesOn_158 rfl ?_
                    refine PWk.bipush (v := 47) dX12_goesOn_159 bp_47 ?_
                    refine PWk.callVi (pc_X12_isSign x27 L R 47) dX12_goesOn_161 ml_X12_255 rfl rg_100 lc_100 vq_12 (by decide) rfl (Nat.le_of_ble_eq_true rfl) (fun x32 => ?_)
                    refine PWk.if_eq 172 dX12_goesOn_164 (by decide) (fun h33 => ?_) (fun h33 => ?_)
                    · refine PWk.bipush (v := 35) dX12_goesOn_172 bp_35 ?_
                      exact hj29 35
                    · refine PWk.bipush (v := 34) dX12_goesOn_167 bp_34 ?_
                      refine PWk.goto 174 dX12_goesOn_169 (by decide) ?_
                      exact hj29 34
                  · refine PWk.bipush (v := 33) dX12_goesOn_153 bp_33 ?_
                    refine PWk.goto 174 dX12_goesOn_155 (by decide) ?_
                    exact hj29 33
                · refine PWk.bipush (v := 32) dX12_goesOn_139 bp_32 ?_
                  refine PWk.goto 174 dX12_goesOn_141 (by decide) ?_
                  exact hj29 32
              · refine PWk.bipush (v := 31) dX12_goesOn_125 bp_31 ?_
                refine PWk.goto 174 dX12_goesOn_127 (by decide) ?_
                exact hj29 31
            · refine PWk.callVvI (pc_X12_holdsBack x27 L R y37) dX12_goesOn_174 ml_X12_338 rfl rg_100 lc_100 vq_12 (by decide) rfl (Nat.le_of_ble_eq_true rfl) (fun x38 => ?_)
              refine PWk.aload_n 0 dX12_goesOn_177 rfl ?_
              refine PWk.callVvIL (pc_X12_ahead fu x38 L R) dX12_goesOn_178 ml_X12_258 rfl rg_100 lc_100 vq_12 (by decide) rfl (Nat.le_of_ble_eq_true rfl) (fun x39 => ?_)
              refine PWk.aload_n 0 dX12_goesOn_181 rfl ?_
              refine PWk.iconst (v := 0) dX12_goesOn_182 ic_0 ?_
              refine PWk.putz dX12_goesOn_183 rg_100 lc_100 fl_X12_146 fp_12_44 rfl ?_
              refine PWk.bI (fun I40 => ?_)
              refine PWk.iconst (v := 1) dX12_goesOn_186 ic_1 ?_
              exact PWk.zret dX12_goesOn_187 rfl (fun h => h)
    · refine PWk.iload_n 3 dX12_goesOn_188 rfl ?_
      refine PWk.jn (pc' := 285) (lv' := fun y66 => [(0, .ref 100), (1, .int v2), (2, .int v3), (3, .int x4)]) (st' := fun y66 => []) (I' := fun y66 => x1) (L' := fun y66 => L) (R' := fun y66 => R) (fun j43 hj43 => ?_) (fun y66 => ?_)
      · refine PWk.if_eq 285 dX12_goesOn_189 (by decide) (fun h65 => ?_) (fun h65 => ?_)
        · exact hj43 ()
        · refine PWk.aload_n 0 dX12_goesOn_192 rfl ?_
          refine PWk.gets dX12_goesOn_193 rg_100 lc_100 fl_X12_121 rfl st_100_36 ?_
          refine PWk.iload_n 1 dX12_goesOn_196 rfl ?_
          refine PWk.iald dX12_goesOn_197 rg_121 ly_121 (fun v44 => ?_)
          refine PWk.if_ne 285 dX12_goesOn_198 (by decide) (fun h64 => ?_) (fun h64 => ?_)
          · refine PWk.aload_n 0 dX12_goesOn_201 rfl ?_
            refine PWk.bipush (v := 60) dX12_goesOn_202 bp_60 ?_
            refine PWk.callVi (pc_X12_isSign x1 L R 60) dX12_goesOn_204 ml_X12_255 rfl rg_100 lc_100 vq_12 (by decide) rfl (Nat.le_of_ble_eq_true rfl) (fun x45 => ?_)
            refine PWk.jn (pc' := 228) (lv' := fun y52 => [(0, .ref 100), (1, .int v2)]) (st' := fun y52 => []) (I' := fun y52 => x1) (L' := fun y52 => L) (R' := fun y52 => R) (fun j46 hj46 => ?_) (fun y52 => ?_)
            · refine PWk.if_ne 228 dX12_goesOn_207 (by decide) (fun h51 => ?_) (fun h51 => ?_)
              · refine PWk.aload_n 0 dX12_goesOn_210 rfl ?_
                refine PWk.bipush (v := 62) dX12_goesOn_211 bp_62 ?_
                refine PWk.callVi (pc_X12_isSign x1 L R 62) dX12_goesOn_213 ml_X12_255 rfl rg_100 lc_100 vq_12 (by decide) rfl (Nat.le_of_ble_eq_true rfl) (fun x47 => ?_)
                refine PWk.if_ne 228 dX12_goesOn_216 (by decide) (fun h50 => ?_) (fun h50 => ?_)
                · refine PWk.aload_n 0 dX12_goesOn_219 rfl ?_
                  refine PWk.bipush (v := 61) dX12_goesOn_220 bp_61 ?_
                  refine PWk.callVi (pc_X12_isSign x1 L R 61) dX12_goesOn_222 ml_X12_255 rfl rg_100 lc_100 vq_12 (by decide) rfl (Nat.le_of_ble_eq_true rfl) (fun x48 => ?_)
                  refine PWk.if_eq 285 dX12_goesOn_225 (by decide) (fun h49 => ?_) (fun h49 => ?_)
                  · exact hj43 ()
                  · refine PWk.sub [0, 1] rfl ?_
                    exact hj46 ()
                · refine PWk.sub [0, 1] rfl ?_
                  exact hj46 ()
              · refine PWk.sub [0, 1] rfl ?_
                exact hj46 ()
            · refine PWk.aload_n 0 dX12_goesOn_228 rfl ?_
              refine PWk.iconst (v := 5) dX12_goesOn_229 ic_5 ?_
              refine PWk.callVvI (pc_X12_joins fu x1 L R 5) dX12_goesOn_230 ml_X12_344 rfl rg_100 lc_100 vq_12 (by decide) rfl (Nat.le_of_ble_eq_true rfl) (fun x53 => ?_)
              refine PWk.aload_n 0 dX12_goesOn_233 rfl ?_
              refine PWk.aload_n 0 dX12_goesOn_234 rfl ?_
              refine PWk.bipush (v := 60) dX12_goesOn_235 bp_60 ?_
              refine PWk.callVi (pc_X12_isSign x53 L R 60) dX12_goesOn_237 ml_X12_255 rfl rg_100 lc_100 vq_12 (by decide) rfl (Nat.le_of_ble_eq_true rfl) (fun x54 => ?_)
              refine PWk.jn (pc' := 264) (lv' := fun y59 => [(0, .ref 100), (1, .int v2)]) (st' := fun y59 => [.int y59, .ref 100]) (I' := fun y59 => x53) (L' := fun y59 => L) (R' := fun y59 => R) (fun j55 hj55 => ?_) (fun y59 => ?_)
              · refine PWk.if_eq 248 dX12_goesOn_240 (by decide) (fun h58 => ?_) (fun h58 => ?_)
                · refine PWk.aload_n 0 dX12_goesOn_248 rfl ?_
                  refine PWk.bipush (v := 62) dX12_goesOn_249 bp_62 ?_
                  refine PWk.callVi (pc_X12_isSign x53 L R 62) dX12_goesOn_251 ml_X12_255 rfl rg_100 lc_100 vq_12 (by decide) rfl (Nat.le_of_ble_eq_true rfl) (fun x56 => ?_)
                  refine PWk.if_eq 262 dX12_goesOn_254 (by decide) (fun h57 => ?_) (fun h57 => ?_)
                  · refine PWk.bipush (v := 40) dX12_goesOn_262 bp_40 ?_
                    exact hj55 40
                  · refine PWk.bipush (v := 39) dX12_goesOn_257 bp_39 ?_
                    refine PWk.goto 264 dX12_goesOn_259 (by decide) ?_
                    exact hj55 39
                · refine PWk.bipush (v := 38) dX12_goesOn_243 bp_38 ?_
                  refine PWk.goto 264 dX12_goesOn_245 (by decide) ?_
                  exact hj55 38
              · refine PWk.callVvI (pc_X12_holdsBack x53 L R y59) dX12_goesOn_264 ml_X12_338 rfl rg_100 lc_100 vq_12 (by decide) rfl (Nat.le_of_ble_eq_true rfl) (fun x60 => ?_)
                refine PWk.aload_n 0 dX12_goesOn_267 rfl ?_
                refine PWk.gets dX12_goesOn_268 rg_100 lc_100 fl_X12_121 rfl st_100_36 ?_
                refine PWk.iload_n 1 dX12_goesOn_271 rfl ?_
                refine PWk.iconst (v := 1) dX12_goesOn_272 ic_1 ?_
                refine PWk.iast dX12_goesOn_273 rg_121 ly_121 ?_
                refine PWk.bI (fun I61 => ?_)
                refine PWk.aload_n 0 dX12_goesOn_274 rfl ?_
                refine PWk.callVvIL (pc_X12_ahead fu I61 L R) dX12_goesOn_275 ml_X12_258 rfl rg_100 lc_100 vq_12 (by decide) rfl (Nat.le_of_ble_eq_true rfl) (fun x62 => ?_)
                refine PWk.aload_n 0 dX12_goesOn_278 rfl ?_
                refine PWk.iconst (v := 0) dX12_goesOn_279 ic_0 ?_
                refine PWk.putz dX12_goesOn_280 rg_100 lc_100 fl_X12_146 fp_12_44 rfl ?_
                refine PWk.bI (fun I63 => ?_)
                refine PWk.iconst (v := 1) dX12_goesOn_283 ic_1 ?_
                exact PWk.zret dX12_goesOn_284 rfl (fun h => h)
          · exact hj43 ()
      · refine PWk.iload_n 3 dX12_goesOn_285 rfl ?_
        refine PWk.jn (pc' := 400) (lv' := fun y94 => [(0, .ref 100), (1, .int v2), (2, .int v3), (3, .int x4)]) (st' := fun y94 => []) (I' := fun y94 => x1) (L' := fun y94 => L) (R' := fun y94 => R) (fun j67 hj67 => ?_) (fun y94 => ?_)
        · refine PWk.if_eq 400 dX12_goesOn_286 (by decide) (fun h93 => ?_) (fun h93 => ?_)
          · exact hj67 ()
          · refine PWk.aload_n 0 dX12_goesOn_289 rfl ?_
            refine PWk.ldc2 (v := 6385252) dX12_goesOn_290 kc_X12_299 ?_
            refine PWk.callVi (pc_X12_isWord x1 L R 6385252) dX12_goesOn_293 ml_X12_335 rfl rg_100 lc_100 vq_12 (by decide) rfl (Nat.le_of_ble_eq_true rfl) (fun x68 => ?_)
            refine PWk.jn (pc' := 309) (lv' := fun y73 => [(0, .ref 100), (1, .int v2)]) (st' := fun y73 => []) (I' := fun y73 => x1) (L' := fun y73 => L) (R' := fun y73 => R) (fun j69 hj69 => ?_) (fun y73 => ?_)
            · refine PWk.if_ne 309 dX12_goesOn_296 (by decide) (fun h72 => ?_) (fun h72 => ?_)
              · refine PWk.aload_n 0 dX12_goesOn_299 rfl ?_
                refine PWk.ldc2 (v := 28530) dX12_goesOn_300 kc_X12_297 ?_
                refine PWk.callVi (pc_X12_isWord x1 L R 28530) dX12_goesOn_303 ml_X12_335 rfl rg_100 lc_100 vq_12 (by decide) rfl (Nat.le_of_ble_eq_true rfl) (fun x70 => ?_)
                refine PWk.if_eq 400 dX12_goesOn_306 (by decide) (fun h71 => ?_) (fun h71 => ?_)
                · exact hj67 ()
                · refine PWk.sub [0, 1] rfl ?_
                  exact hj69 ()
              · refine PWk.sub [0, 1] rfl ?_
                exact hj69 ()
            · refine PWk.aload_n 0 dX12_goesOn_309 rfl ?_
              refine PWk.gets dX12_goesOn_310 rg_100 lc_100 fl_X12_121 rfl st_100_36 ?_
              refine PWk.iload_n 1 dX12_goesOn_313 rfl ?_
              refine PWk.iald dX12_goesOn_314 rg_121 ly_121 (fun v74 => ?_)
              refine PWk.jn (pc' := 327) (lv' := fun y78 => [(0, .ref 100), (1, .int v2)]) (st' := fun y78 => []) (I' := fun y78 => y78) (L' := fun y78 => L) (R' := fun y78 => R) (fun j75 hj75 => ?_) (fun y78 => ?_)
              · refine PWk.if_ne 327 dX12_goesOn_315 (by decide) (fun h77 => ?_) (fun h77 => ?_)
                · refine PWk.aload_n 0 dX12_goesOn_318 rfl ?_
                  refine PWk.iconst (v := 1) dX12_goesOn_319 ic_1 ?_
                  refine PWk.aload_n 0 dX12_goesOn_320 rfl ?_
                  refine PWk.geti dX12_goesOn_321 rg_100 lc_100 fl_X12_23 rfl ?_
                  refine PWk.callVvI (pc_X12_blame x1 L R 1 (x1 100 4)) dX12_goesOn_324 ml_X12_237 rfl rg_100 lc_100 vq_12 (by decide) rfl (Nat.le_of_ble_eq_true rfl) (fun x76 => ?_)
                  exact hj75 x76
                · exact hj75 x1
              · refine PWk.aload_n 0 dX12_goesOn_327 rfl ?_
                refine PWk.geti dX12_goesOn_328 rg_100 lc_100 fl_X12_36 rfl ?_
                refine PWk.if_le 336 dX12_goesOn_331 (by decide) (fun h92 => ?_) (fun h92 => ?_)
                · refine PWk.aload_n 0 dX12_goesOn_336 rfl ?_
                  refine PWk.ldc2 (v := 6385252) dX12_goesOn_337 kc_X12_299 ?_
                  refine PWk.callVi (pc_X12_isWord y78 L R 6385252) dX12_goesOn_340 ml_X12_335 rfl rg_100 lc_100 vq_12 (by decide) rfl (Nat.le_of_ble_eq_true rfl) (fun x79 => ?_)
                  refine PWk.istore [(4, .int x79), (0, .ref 100), (1, .int v2)] dX12_goesOn_343 (by decide) rfl ?_
                  refine PWk.aload_n 1 dX12_goesOn_345 rfl ?_
                  refine PWk.iload 0 dX12_goesOn_346 rfl ?_
                  refine PWk.jn (pc' := 356) (lv' := fun y82 => [(0, .ref 100), (1, .int v2), (4, .int x79)]) (st' := fun y82 => [.int y82, .ref 100]) (I' := fun y82 => y78) (L' := fun y82 => L) (R' := fun y82 => R) (fun j80 hj80 => ?_) (fun y82 => ?_)
                  · refine PWk.if_eq 355 dX12_goesOn_348 (by decide) (fun h81 => ?_) (fun h81 => ?_)
                    · refine PWk.iconst (v := 1) dX12_goesOn_355 ic_1 ?_
                      refine PWk.sub [1, 2, 0] rfl ?_
                      exact hj80 1
                    · refine PWk.iconst (v := 2) dX12_goesOn_351 ic_2 ?_
                      refine PWk.goto 356 dX12_goesOn_352 (by decide) ?_
                      refine PWk.sub [1, 2, 0] rfl ?_
                      exact hj80 2
                  · refine PWk.callVvI (pc_X12_joins fu y78 L R y82) dX12_goesOn_356 ml_X12_344 rfl rg_100 lc_100 vq_12 (by decide) rfl (Nat.le_of_ble_eq_true rfl) (fun x83 => ?_)
                    refine PWk.aload_n 0 dX12_goesOn_359 rfl ?_
                    refine PWk.iload 2 dX12_goesOn_360 rfl ?_
                    refine PWk.jn (pc' := 372) (lv' := fun y86 => [(0, .ref 100), (1, .int v2)]) (st' := fun y86 => [.int y86, .ref 100]) (I' := fun y86 => x83) (L' := fun y86 => L) (R' := fun y86 => R) (fun j84 hj84 => ?_) (fun y86 => ?_)
                    · refine PWk.if_eq 370 dX12_goesOn_362 (by decide) (fun h85 => ?_) (fun h85 => ?_)
                      · refine PWk.bipush (v := 42) dX12_goesOn_370 bp_42 ?_
                        refine PWk.sub [0, 1] rfl ?_
                        exact hj84 42
                      · refine PWk.bipush (v := 41) dX12_goesOn_365 bp_41 ?_
                        refine PWk.goto 372 dX12_goesOn_367 (by decide) ?_
                        refine PWk.sub [0, 1] rfl ?_
                        exact hj84 41
                    · refine PWk.callVvI (pc_X12_holdsBack x83 L R y86) dX12_goesOn_372 ml_X12_338 rfl rg_100 lc_100 vq_12 (by decide) rfl (Nat.le_of_ble_eq_true rfl) (fun x87 => ?_)
                      refine PWk.aload_n 0 dX12_goesOn_375 rfl ?_
                      refine PWk.gets dX12_goesOn_376 rg_100 lc_100 fl_X12_121 rfl st_100_36 ?_
                      refine PWk.iload_n 1 dX12_goesOn_379 rfl ?_
                      refine PWk.iconst (v := 0) dX12_goesOn_380 ic_0 ?_
                      refine PWk.iast dX12_goesOn_381 rg_121 ly_121 ?_
                      refine PWk.bI (fun I88 => ?_)
                      refine PWk.aload_n 0 dX12_goesOn_382 rfl ?_
                      refine PWk.gets dX12_goesOn_383 rg_100 lc_100 fl_X12_124 rfl st_100_37 ?_
                      refine PWk.iload_n 1 dX12_goesOn_386 rfl ?_
                      refine PWk.iconst (v := 1) dX12_goesOn_387 ic_1 ?_
                      refine PWk.zast dX12_goesOn_388 rg_122 ly_122 ?_
                      refine PWk.bI (fun I89 => ?_)
                      refine PWk.aload_n 0 dX12_goesOn_389 rfl ?_
                      refine PWk.callVvIL (pc_X12_ahead fu I89 L R) dX12_goesOn_390 ml_X12_258 rfl rg_100 lc_100 vq_12 (by decide) rfl (Nat.le_of_ble_eq_true rfl) (fun x90 => ?_)
                      refine PWk.aload_n 0 dX12_goesOn_393 rfl ?_
                      refine PWk.iconst (v := 0) dX12_goesOn_394 ic_0 ?_
                      refine PWk.putz dX12_goesOn_395 rg_100 lc_100 fl_X12_146 fp_12_44 rfl ?_
                      refine PWk.bI (fun I91 => ?_)
                      refine PWk.iconst (v := 1) dX12_goesOn_398 ic_1 ?_
                      exact PWk.zret dX12_goesOn_399 rfl (fun h => h)
                · refine PWk.iconst (v := 0) dX12_goesOn_334 ic_0 ?_
                  exact PWk.zret dX12_goesOn_335 rfl (fun h => h)
        · refine PWk.iload_n 3 dX12_goesOn_400 rfl ?_
          refine PWk.jn (pc' := 422) (lv' := fun y100 => [(0, .ref 100), (1, .int v2), (2, .int v3)]) (st' := fun y100 => []) (I' := fun y100 => y100) (L' := fun y100 => L) (R' := fun y100 => R) (fun j95 hj95 => ?_) (fun y100 => ?_)
          · refine PWk.if_eq 422 dX12_goesOn_401 (by decide) (fun h99 => ?_) (fun h99 => ?_)
            · refine PWk.sub [0, 1, 2] rfl ?_
              exact hj95 x1
            · refine PWk.aload_n 0 dX12_goesOn_404 rfl ?_
              refine PWk.gets dX12_goesOn_405 rg_100 lc_100 fl_X12_121 rfl st_100_36 ?_
              refine PWk.iload_n 1 dX12_goesOn_408 rfl ?_
              refine PWk.iald dX12_goesOn_409 rg_121 ly_121 (fun v96 => ?_)
              refine PWk.if_ne 422 dX12_goesOn_410 (by decide) (fun h98 => ?_) (fun h98 => ?_)
              · refine PWk.aload_n 0 dX12_goesOn_413 rfl ?_
                refine PWk.iconst (v := 1) dX12_goesOn_414 ic_1 ?_
                refine PWk.aload_n 0 dX12_goesOn_415 rfl ?_
                refine PWk.geti dX12_goesOn_416 rg_100 lc_100 fl_X12_23 rfl ?_
                refine PWk.callVvI (pc_X12_blame x1 L R 1 (x1 100 4)) dX12_goesOn_419 ml_X12_237 rfl rg_100 lc_100 vq_12 (by decide) rfl (Nat.le_of_ble_eq_true rfl) (fun x97 => ?_)
                refine PWk.sub [0, 1, 2] rfl ?_
                exact hj95 x97
              · refine PWk.sub [0, 1, 2] rfl ?_
                exact hj95 x1
          · refine PWk.iload_n 2 dX12_goesOn_422 rfl ?_
            refine PWk.iconst (v := 2) dX12_goesOn_423 ic_2 ?_
            refine PWk.icmp_ge 441 dX12_goesOn_424 (by decide) (fun h143 => ?_) (fun h143 => ?_)
            · refine PWk.iload_n 2 dX12_goesOn_441 rfl ?_
              refine PWk.iconst (v := 3) dX12_goesOn_442 ic_3 ?_
              refine PWk.jn (pc' := 452) (lv' := fun y126 => [(0, .ref 100), (1, .int v2), (2, .int v3)]) (st' := fun y126 => []) (I' := fun y126 => y100) (L' := fun y126 => L) (R' := fun y126 => R) (fun j101 hj101 => ?_) (fun y126 => ?_)
              · refine PWk.icmp_eq 452 dX12_goesOn_443 (by decide) (fun h125 => ?_) (fun h125 => ?_)
                · exact hj101 ()
                · refine PWk.iload_n 2 dX12_goesOn_446 rfl ?_
                  refine PWk.bipush (v := 6) dX12_goesOn_447 bp_6 ?_
                  refine PWk.icmp_ne 518 dX12_goesOn_449 (by decide) (fun h124 => ?_) (fun h124 => ?_)
                  · exact hj101 ()
                  · refine PWk.aload_n 0 dX12_goesOn_518 rfl ?_
                    refine PWk.iload_n 2 dX12_goesOn_519 rfl ?_
                    refine PWk.iconst (v := 5) dX12_goesOn_520 ic_5 ?_
                    refine PWk.jn (pc' := 531) (lv' := fun y104 => [(0, .ref 100), (1, .int v2), (2, .int v3)]) (st' := fun y104 => [.int y104, .ref 100]) (I' := fun y104 => y100) (L' := fun y104 => L) (R' := fun y104 => R) (fun j102 hj102 => ?_) (fun y104 => ?_)
                    · refine PWk.icmp_ne 529 dX12_goesOn_521 (by decide) (fun h103 => ?_) (fun h103 => ?_)
                      · refine PWk.bipush (v := 93) dX12_goesOn_524 bp_93 ?_
                        refine PWk.goto 531 dX12_goesOn_526 (by decide) ?_
                        exact hj102 93
                      · refine PWk.bipush (v := 41) dX12_goesOn_529 bp_41 ?_
                        exact hj102 41
                    · refine PWk.callVi (pc_X12_isSign y100 L R y104) dX12_goesOn_531 ml_X12_255 rfl rg_100 lc_100 vq_12 (by decide) rfl (Nat.le_of_ble_eq_true rfl) (fun x105 => ?_)
                      refine PWk.jn (pc' := 546) (lv' := fun y109 => [(0, .ref 100), (1, .int v2), (2, .int v3)]) (st' := fun y109 => []) (I' := fun y109 => y109) (L' := fun y109 => L) (R' := fun y109 => R) (fun j106 hj106 => ?_) (fun y109 => ?_)
                      · refine PWk.if_ne 546 dX12_goesOn_534 (by decide) (fun h108 => ?_) (fun h108 => ?_)
                        · refine PWk.aload_n 0 dX12_goesOn_537 rfl ?_
                          refine PWk.iconst (v := 1) dX12_goesOn_538 ic_1 ?_
                          refine PWk.aload_n 0 dX12_goesOn_539 rfl ?_
                          refine PWk.geti dX12_goesOn_540 rg_100 lc_100 fl_X12_23 rfl ?_
                          refine PWk.callVvI (pc_X12_blame y100 L R 1 (y100 100 4)) dX12_goesOn_543 ml_X12_237 rfl rg_100 lc_100 vq_12 (by decide) rfl (Nat.le_of_ble_eq_true rfl) (fun x107 => ?_)
                          exact hj106 x107
                        · exact hj106 y100
                      · refine PWk.aload_n 0 dX12_goesOn_546 rfl ?_
                        refine PWk.geti dX12_goesOn_547 rg_100 lc_100 fl_X12_36 rfl ?_
                        refine PWk.if_le 555 dX12_goesOn_550 (by decide) (fun h123 => ?_) (fun h123 => ?_)
                        · refine PWk.aload_n 0 dX12_goesOn_555 rfl ?_
                          refine PWk.iconst (v := 1) dX12_goesOn_556 ic_1 ?_
                          refine PWk.callVvI (pc_X12_joins fu y109 L R 1) dX12_goesOn_557 ml_X12_344 rfl rg_100 lc_100 vq_12 (by decide) rfl (Nat.le_of_ble_eq_true rfl) (fun x110 => ?_)
                          refine PWk.aload_n 0 dX12_goesOn_560 rfl ?_
                          refine PWk.dup dX12_goesOn_561 rfl ?_
                          refine PWk.geti dX12_goesOn_562 rg_100 lc_100 fl_X12_134 rfl ?_
                          refine PWk.iconst (v := 1) dX12_goesOn_565 ic_1 ?_
                          refine PWk.isub dX12_goesOn_566 ?_
                          refine PWk.puti dX12_goesOn_567 rg_100 lc_100 fl_X12_134 fp_12_40 rfl ?_
                          refine PWk.bI (fun I111 => ?_)
                          refine PWk.aload_n 0 dX12_goesOn_570 rfl ?_
                          refine PWk.dup dX12_goesOn_571 rfl ?_
                          refine PWk.geti dX12_goesOn_572 rg_100 lc_100 fl_X12_137 rfl ?_
                          refine PWk.iconst (v := 1) dX12_goesOn_575 ic_1 ?_
                          refine PWk.isub dX12_goesOn_576 ?_
                          refine PWk.puti dX12_goesOn_577 rg_100 lc_100 fl_X12_137 fp_12_41 rfl ?_
                          refine PWk.bI (fun I112 => ?_)
                          refine PWk.iload_n 2 dX12_goesOn_580 rfl ?_
                          refine PWk.iconst (v := 4) dX12_goesOn_581 ic_4 ?_
                          refine PWk.jn (pc' := 596) (lv' := fun y117 => [(0, .ref 100), (2, .int v3)]) (st' := fun y117 => []) (I' := fun y117 => y117) (L' := fun y117 => L) (R' := fun y117 => R) (fun j113 hj113 => ?_) (fun y117 => ?_)
                          · refine PWk.icmp_ne 596 dX12_goesOn_582 (by decide) (fun h116 => ?_) (fun h116 => ?_)
                            · refine PWk.aload_n 0 dX12_goesOn_585 rfl ?_
                              refine PWk.aload_n 0 dX12_goesOn_586 rfl ?_
                              refine PWk.gets dX12_goesOn_587 rg_100 lc_100 fl_X12_128 rfl st_100_38 ?_
                              refine PWk.iload_n 1 dX12_goesOn_590 rfl ?_
                              refine PWk.iald dX12_goesOn_591 rg_123 ly_123 (fun v114 => ?_)
                              refine PWk.iconst (v := 0) dX12_goesOn_592 ic_0 ?_
                              refine PWk.callVvI (pc_X12_add I112 L R v114 0) dX12_goesOn_593 ml_X12_326 rfl rg_100 lc_100 vq_12 (by decide) rfl (Nat.le_of_ble_eq_true rfl) (fun x115 => ?_)
                              refine PWk.sub [0, 2] rfl ?_
                              exact hj113 x115
                            · refine PWk.sub [0, 2] rfl ?_
                              exact hj113 I112
                          · refine PWk.iload_n 1 dX12_goesOn_596 rfl ?_
                            refine PWk.iconst (v := 5) dX12_goesOn_597 ic_5 ?_
                            refine PWk.jn (pc' := 613) (lv' := fun y121 => [(0, .ref 100)]) (st' := fun y121 => []) (I' := fun y121 => y121) (L' := fun y121 => L) (R' := fun y121 => R) (fun j118 hj118 => ?_) (fun y121 => ?_)
                            · refine PWk.icmp_ne 613 dX12_goesOn_598 (by decide) (fun h120 => ?_) (fun h120 => ?_)
                              · refine PWk.aload_n 0 dX12_goesOn_601 rfl ?_
                                refine PWk.gets dX12_goesOn_602 rg_100 lc_100 fl_X12_121 rfl st_100_36 ?_
                                refine PWk.aload_n 0 dX12_goesOn_605 rfl ?_
                                refine PWk.geti dX12_goesOn_606 rg_100 lc_100 fl_X12_134 rfl ?_
                                refine PWk.iconst (v := 1) dX12_goesOn_609 ic_1 ?_
                                refine PWk.isub dX12_goesOn_610 ?_
                                refine PWk.iconst (v := 2) dX12_goesOn_611 ic_2 ?_
                                refine PWk.iast dX12_goesOn_612 rg_121 ly_121 ?_
                                refine PWk.bI (fun I119 => ?_)
                                refine PWk.sub [0] rfl ?_
                                exact hj118 I119
                              · refine PWk.sub [0] rfl ?_
                                exact hj118 y117
                            · refine PWk.aload_n 0 dX12_goesOn_613 rfl ?_
                              refine PWk.callVvIL (pc_X12_ahead fu y121 L R) dX12_goesOn_614 ml_X12_258 rfl rg_100 lc_100 vq_12 (by decide) rfl (Nat.le_of_ble_eq_true rfl) (fun x122 => ?_)
                              refine PWk.iconst (v := 1) dX12_goesOn_617 ic_1 ?_
                              exact PWk.zret dX12_goesOn_618 rfl (fun h => h)
                        · refine PWk.iconst (v := 0) dX12_goesOn_553 ic_0 ?_
                          exact PWk.zret dX12_goesOn_554 rfl (fun h => h)
              · refine PWk.aload_n 0 dX12_goesOn_452 rfl ?_
                refine PWk.bipush (v := 44) dX12_goesOn_453 bp_44 ?_
                refine PWk.callVi (pc_X12_isSign y100 L R 44) dX12_goesOn_455 ml_X12_255 rfl rg_100 lc_100 vq_12 (by decide) rfl (Nat.le_of_ble_eq_true rfl) (fun x127 => ?_)
                refine PWk.jn (pc' := 470) (lv' := fun y131 => [(0, .ref 100), (1, .int v2), (2, .int v3)]) (st' := fun y131 => []) (I' := fun y131 => y131) (L' := fun y131 => L) (R' := fun y131 => R) (fun j128 hj128 => ?_) (fun y131 => ?_)
                · refine PWk.if_ne 470 dX12_goesOn_458 (by decide) (fun h130 => ?_) (fun h130 => ?_)
                  · refine PWk.aload_n 0 dX12_goesOn_461 rfl ?_
                    refine PWk.iconst (v := 1) dX12_goesOn_462 ic_1 ?_
                    refine PWk.aload_n 0 dX12_goesOn_463 rfl ?_
                    refine PWk.geti dX12_goesOn_464 rg_100 lc_100 fl_X12_23 rfl ?_
                    refine PWk.callVvI (pc_X12_blame y100 L R 1 (y100 100 4)) dX12_goesOn_467 ml_X12_237 rfl rg_100 lc_100 vq_12 (by decide) rfl (Nat.le_of_ble_eq_true rfl) (fun x129 => ?_)
                    exact hj128 x129
                  · exact hj128 y100
                · refine PWk.aload_n 0 dX12_goesOn_470 rfl ?_
                  refine PWk.geti dX12_goesOn_471 rg_100 lc_100 fl_X12_36 rfl ?_
                  refine PWk.if_le 479 dX12_goesOn_474 (by decide) (fun h140 => ?_) (fun h140 => ?_)
                  · refine PWk.aload_n 0 dX12_goesOn_479 rfl ?_
                    refine PWk.iconst (v := 1) dX12_goesOn_480 ic_1 ?_
                    refine PWk.callVvI (pc_X12_joins fu y131 L R 1) dX12_goesOn_481 ml_X12_344 rfl rg_100 lc_100 vq_12 (by decide) rfl (Nat.le_of_ble_eq_true rfl) (fun x132 => ?_)
                    refine PWk.aload_n 0 dX12_goesOn_484 rfl ?_
                    refine PWk.gets dX12_goesOn_485 rg_100 lc_100 fl_X12_118 rfl st_100_35 ?_
                    refine PWk.iload_n 1 dX12_goesOn_488 rfl ?_
                    refine PWk.iload_n 2 dX12_goesOn_489 rfl ?_
                    refine PWk.iconst (v := 3) dX12_goesOn_490 ic_3 ?_
                    refine PWk.jn (pc' := 499) (lv' := fun y135 => [(0, .ref 100), (1, .int v2)]) (st' := fun y135 => [.int y135, .int v2, .ref 120]) (I' := fun y135 => x132) (L' := fun y135 => L) (R' := fun y135 => R) (fun j133 hj133 => ?_) (fun y135 => ?_)
                    · refine PWk.icmp_ne 498 dX12_goesOn_491 (by decide) (fun h134 => ?_) (fun h134 => ?_)
                      · refine PWk.iconst (v := 4) dX12_goesOn_494 ic_4 ?_
                        refine PWk.goto 499 dX12_goesOn_495 (by decide) ?_
                        refine PWk.sub [0, 1] rfl ?_
                        exact hj133 4
                      · refine PWk.iconst (v := 3) dX12_goesOn_498 ic_3 ?_
                        refine PWk.sub [0, 1] rfl ?_
                        exact hj133 3
                    · refine PWk.iast dX12_goesOn_499 rg_120 ly_120 ?_
                      refine PWk.bI (fun I136 => ?_)
                      refine PWk.aload_n 0 dX12_goesOn_500 rfl ?_
                      refine PWk.gets dX12_goesOn_501 rg_100 lc_100 fl_X12_121 rfl st_100_36 ?_
                      refine PWk.iload_n 1 dX12_goesOn_504 rfl ?_
                      refine PWk.iconst (v := 0) dX12_goesOn_505 ic_0 ?_
                      refine PWk.iast dX12_goesOn_506 rg_121 ly_121 ?_
                      refine PWk.bI (fun I137 => ?_)
                      refine PWk.aload_n 0 dX12_goesOn_507 rfl ?_
                      refine PWk.callVvIL (pc_X12_ahead fu I137 L R) dX12_goesOn_508 ml_X12_258 rfl rg_100 lc_100 vq_12 (by decide) rfl (Nat.le_of_ble_eq_true rfl) (fun x138 => ?_)
                      refine PWk.aload_n 0 dX12_goesOn_511 rfl ?_
                      refine PWk.iconst (v := 0) dX12_goesOn_512 ic_0 ?_
                      refine PWk.putz dX12_goesOn_513 rg_100 lc_100 fl_X12_146 fp_12_44 rfl ?_
                      refine PWk.bI (fun I139 => ?_)
                      refine PWk.iconst (v := 1) dX12_goesOn_516 ic_1 ?_
                      exact PWk.zret dX12_goesOn_517 rfl (fun h => h)
                  · refine PWk.iconst (v := 0) dX12_goesOn_477 ic_0 ?_
                    exact PWk.zret dX12_goesOn_478 rfl (fun h => h)
            · refine PWk.aload_n 0 dX12_goesOn_427 rfl ?_
              refine PWk.geti dX12_goesOn_428 rg_100 lc_100 fl_X12_36 rfl ?_
              refine PWk.if_ne 439 dX12_goesOn_431 (by decide) (fun h142 => ?_) (fun h142 => ?_)
              · refine PWk.aload_n 0 dX12_goesOn_434 rfl ?_
                refine PWk.iconst (v := 1) dX12_goesOn_435 ic_1 ?_
                refine PWk.callVvI (pc_X12_joins fu y100 L R 1) dX12_goesOn_436 ml_X12_344 rfl rg_100 lc_100 vq_12 (by decide) rfl (Nat.le_of_ble_eq_true rfl) (fun x141 => ?_)
                refine PWk.iconst (v := 0) dX12_goesOn_439 ic_0 ?_
                exact PWk.zret dX12_goesOn_440 rfl (fun h => h)
              · refine PWk.iconst (v := 0) dX12_goesOn_439 ic_0 ?_
                exact PWk.zret dX12_goesOn_440 rfl (fun h => h)
  · refine PWk.iconst (v := 0) dX12_goesOn_11 ic_0 ?_
    exact PWk.zret dX12_goesOn_12 rfl (fun h => h)
/-! LakeMarketModel.reads(Z)V -/
def f_X12_reads_L43 (fu : Nat) : Nat → HI → HL → Int32 → Option (HI × HL)
  | 0, _, _, _ => none
  | n + 1, I, L, u2 =>
    if u2 = 0 then
      some (I, L)
    else
      jnt (β := Int32 × HI × HL) (fun y14 =>
        jnt (β := Int32) (fun y20 =>
          f_X12_reads_L43 fu n y14.2.1 y14.2.2 y20) fun j16 =>
        jnt (β := Unit) (fun y19 =>
          j16 0) fun j15 =>
        if y14.1 = 0 then
          j15 ()
        else
          if (y14.2.1 100 8) = 0 then
            j16 1
          else
            j15 ()) fun j9 =>
      if (I 100 44) = 0 then
        (f_X12_operand fu I L).bind fun x10 =>
        gz x10.1 <|
        bnd (sI x10.2.1 100 44 x10.1) fun I11 =>
        j9 (u2, I11, x10.2.2)
      else
        (f_X12_goesOn fu I L).bind fun x12 =>
        j9 (x12.1, x12.2.1, x12.2.2)
def f_X12_reads (fu : Nat) (I : HI) (L : HL) (p1 : Int32) : Option (HI × HL) :=
  if (I 100 8) ≤ 0 then
    bnd (sI I 100 40 0) fun I1 =>
    bnd (sI I1 100 41 0) fun I2 =>
    bnd (sI I2 100 43 0) fun I3 =>
    gz 0 <|
    bnd (sI I3 100 44 0) fun I4 =>
    jnt (β := Int32) (fun y7 =>
      (f_X12_pushes I4 y7).bind fun x8 =>
      (f_X12_reads_L43 fu fu x8 L 1).bind fun x22 =>
      some (x22.1, x22.2)) fun j5 =>
    if p1 = 0 then
      j5 0
    else
      j5 1
  else
    some (I, L)
set_option maxRecDepth 20000 in
theorem lp_X12_reads_43 (fu : Nat) (R : HR) : ∀ (n : Nat) (u2 : Int32) (I : HI) (L : HL) (N : (HI × HL) → Prop) (F : HF), (∀ v : HI × HL, N v → PW 100 147 4 RX12 cX12_reads 3 none 90 [] [] v.1 v.2 R F) → PWk 100 147 4 RX12 cX12_reads 3 none 43 [(0, .ref 100), (2, .int u2)] [] I L R (f_X12_reads_L43 fu n I L u2) N F := by
  intro n
  induction n with
  | zero => intro u2 I L N F hx; exact PWk.none'
  | succ n ih =>
    intro u2 I L N F hx
    unfold f_X12_reads_L43
    refine PWk.iload_n 1 dX12_reads_43 rfl ?_
    refine PWk.if_eq 90 dX12_reads_44 (by decide) (fun h21 => ?_) (fun h21 => ?_)
    · refine PWk.sub [] rfl ?_
      exact PWk.done (fun h => hx _ h)
    · refine PWk.aload_n 0 dX12_reads_47 rfl ?_
      refine PWk.geti dX12_reads_48 rg_100 lc_100 fl_X12_146 rfl ?_
      refine PWk.jn (pc' := 70) (lv' := fun y14 => [(0, .ref 100), (2, .int y14.1)]) (st' := fun y14 => []) (I' := fun y14 => y14.2.1) (L' := fun y14 => y14.2.2) (R' := fun y14 => R) (fun j9 hj9 => ?_) (fun y14 => ?_)
      · refine PWk.if_ne 65 dX12_reads_51 (by decide) (fun h13 => ?_) (fun h13 => ?_)
        · refine PWk.aload_n 0 dX12_reads_54 rfl ?_
          refine PWk.aload_n 0 dX12_reads_55 rfl ?_
          refine PWk.callViIL (pc_X12_operand fu I L R) dX12_reads_56 ml_X12_347 rfl rg_100 lc_100 vq_12 (by decide) rfl (Nat.le_of_ble_eq_true rfl) (fun x10 => ?_)
          refine PWk.putz dX12_reads_59 rg_100 lc_100 fl_X12_146 fp_12_44 rfl ?_
          refine PWk.bI (fun I11 => ?_)
          refine PWk.goto 70 dX12_reads_62 (by decide) ?_
          exact hj9 (u2, I11, x10.2.2)
        · refine PWk.aload_n 0 dX12_reads_65 rfl ?_
          refine PWk.callViIL (pc_X12_goesOn fu I L R) dX12_reads_66 ml_X12_350 rfl rg_100 lc_100 vq_12 (by decide) rfl (Nat.le_of_ble_eq_true rfl) (fun x12 => ?_)
          refine PWk.istore_n [(2, .int x12.1), (0, .ref 100)] dX12_reads_69 (by decide) rfl ?_
          refine PWk.sub [1, 0] rfl ?_
          exact hj9 (x12.1, x12.2.1, x12.2.2)
      · refine PWk.iload_n 1 dX12_reads_70 rfl ?_
        refine PWk.jn (pc' := 86) (lv' := fun y20 => [(0, .ref 100)]) (st' := fun y20 => [.int y20]) (I' := fun y20 => y14.2.1) (L' := fun y20 => y14.2.2) (R' := fun y20 => R) (fun j16 hj16 => ?_) (fun y20 => ?_)
        · refine PWk.jn (pc' := 85) (lv' := fun y19 => [(0, .ref 100)]) (st' := fun y19 => []) (I' := fun y19 => y14.2.1) (L' := fun y19 => y14.2.2) (R' := fun y19 => R) (fun j15 hj15 => ?_) (fun y19 => ?_)
          · refine PWk.if_eq 85 dX12_reads_71 (by decide) (fun h18 => ?_) (fun h18 => ?_)
            · refine PWk.sub [0] rfl ?_
              exact hj15 ()
            · refine PWk.aload_n 0 dX12_reads_74 rfl ?_
              refine PWk.geti dX12_reads_75 rg_100 lc_100 fl_X12_36 rfl ?_
              refine PWk.if_ne 85 dX12_reads_78 (by decide) (fun h17 => ?_) (fun h17 => ?_)
              · refine PWk.iconst (v := 1) dX12_reads_81 ic_1 ?_
                refine PWk.goto 86 dX12_reads_82 (by decide) ?_
                refine PWk.sub [0] rfl ?_
                exact hj16 1
              · refine PWk.sub [0] rfl ?_
                exact hj15 ()
          · refine PWk.iconst (v := 0) dX12_reads_85 ic_0 ?_
            exact hj16 0
        · refine PWk.istore_n [(2, .int y20), (0, .ref 100)] dX12_reads_86 (by decide) rfl ?_
          refine PWk.goto 43 dX12_reads_87 (by decide) ?_
          refine PWk.sub [1, 0] rfl ?_
          exact ih y20 y14.2.1 y14.2.2 N F hx
set_option maxRecDepth 20000 in
theorem pc_X12_reads (fu : Nat) (I : HI) (L : HL) (R : HR) (p1 : Int32) : PCo 100 147 4 yX12_reads cX12_reads 3 none [.ref 100, .int p1] I L R (f_X12_reads fu I L p1) (fun x : HI × HL => ((none, x.1, x.2, R) : HF)) := by
  refine PCo.of (own := RX12) (by decide +kernel) (Nat.le_of_ble_eq_true rfl) rfl rfl (fun F => ?_)
  unfold f_X12_reads
  refine PWk.aload_n 0 dX12_reads_0 rfl ?_
  refine PWk.geti dX12_reads_1 rg_100 lc_100 fl_X12_36 rfl ?_
  refine PWk.if_le 8 dX12_reads_4 (by decide) (fun h23 => ?_) (fun h23 => ?_)
  · refine PWk.aload_n 0 dX12_reads_8 rfl ?_
    refine PWk.iconst (v := 0) dX12_reads_9 ic_0 ?_
    refine PWk.puti dX12_reads_10 rg_100 lc_100 fl_X12_134 fp_12_40 rfl ?_
    refine PWk.bI (fun I1 => ?_)
    refine PWk.aload_n 0 dX12_reads_13 rfl ?_
    refine PWk.iconst (v := 0) dX12_reads_14 ic_0 ?_
    refine PWk.puti dX12_reads_15 rg_100 lc_100 fl_X12_137 fp_12_41 rfl ?_
    refine PWk.bI (fun I2 => ?_)
    refine PWk.aload_n 0 dX12_reads_18 rfl ?_
    refine PWk.iconst (v := 0) dX12_reads_19 ic_0 ?_
    refine PWk.puti dX12_reads_20 rg_100 lc_100 fl_X12_143 fp_12_43 rfl ?_
    refine PWk.bI (fun I3 => ?_)
    refine PWk.aload_n 0 dX12_reads_23 rfl ?_
    refine PWk.iconst (v := 0) dX12_reads_24 ic_0 ?_
    refine PWk.putz dX12_reads_25 rg_100 lc_100 fl_X12_146 fp_12_44 rfl ?_
    refine PWk.bI (fun I4 => ?_)
    refine PWk.aload_n 0 dX12_reads_28 rfl ?_
    refine PWk.iload_n 1 dX12_reads_29 rfl ?_
    refine PWk.jn (pc' := 38) (lv' := fun y7 => [(0, .ref 100)]) (st' := fun y7 => [.int y7, .ref 100]) (I' := fun y7 => I4) (L' := fun y7 => L) (R' := fun y7 => R) (fun j5 hj5 => ?_) (fun y7 => ?_)
    · refine PWk.if_eq 37 dX12_reads_30 (by decide) (fun h6 => ?_) (fun h6 => ?_)
      · refine PWk.iconst (v := 0) dX12_reads_37 ic_0 ?_
        refine PWk.sub [0] rfl ?_
        exact hj5 0
      · refine PWk.iconst (v := 1) dX12_reads_33 ic_1 ?_
        refine PWk.goto 38 dX12_reads_34 (by decide) ?_
        refine PWk.sub [0] rfl ?_
        exact hj5 1
    · refine PWk.callVvI (pc_X12_pushes I4 L R y7) dX12_reads_38 ml_X12_329 rfl rg_100 lc_100 vq_12 (by decide) rfl (Nat.le_of_ble_eq_true rfl) (fun x8 => ?_)
      refine PWk.iconst (v := 1) dX12_reads_41 ic_1 ?_
      refine PWk.istore_n [(2, .int 1), (0, .ref 100)] dX12_reads_42 (by decide) rfl ?_
      refine PWk.sub [1, 0] rfl ?_
      refine PWk.loopV (fun N' hx' => lp_X12_reads_43 fu R fu 1 x8 L N' F hx') (fun x22 => ?_)
      exact PWk.vret dX12_reads_90 rfl (fun h => h)
  · exact PWk.vret dX12_reads_7 rfl (fun h => h)
/-! LakeMarketModel.counts(Z)Z -/
def f_X12_counts (fu : Nat) (I : HI) (L : HL) (p1 : Int32) : Option (Int32 × HI × HL) :=
  jnt (β := HI) (fun y5 =>
    jnt (β := HI × HL) (fun y9 =>
      if (y9.1 100 8) = 0 then
        gz 1 (some (1, y9.1, y9.2))
      else
        gz 0 (some (0, y9.1, y9.2))) fun j6 =>
    if (y5 100 8) = 0 then
      (f_X12_ahead fu y5 L).bind fun x7 =>
      j6 (x7.1, x7.2)
    else
      j6 (y5, L)) fun j1 =>
  if (I 100 8) = 0 then
    if p1 = 0 then
      j1 I
    else
      (f_X12_blame I 6 (I 100 4)).bind fun x2 =>
      j1 x2
  else
    j1 I
set_option maxRecDepth 20000 in
theorem pc_X12_counts (fu : Nat) (I : HI) (L : HL) (R : HR) (p1 : Int32) : PCo 100 147 2 yX12_counts cX12_counts 2 (some .boolean) [.ref 100, .int p1] I L R (f_X12_counts fu I L p1) (fun x : Int32 × HI × HL => ((some (.int x.1), x.2.1, x.2.2, R) : HF)) := by
  refine PCo.of (own := RX12) (by decide +kernel) (Nat.le_of_ble_eq_true rfl) rfl rfl (fun F => ?_)
  unfold f_X12_counts
  refine PWk.aload_n 0 dX12_counts_0 rfl ?_
  refine PWk.geti dX12_counts_1 rg_100 lc_100 fl_X12_36 rfl ?_
  refine PWk.jn (pc' := 21) (lv' := fun y5 => [(0, .ref 100)]) (st' := fun y5 => []) (I' := fun y5 => y5) (L' := fun y5 => L) (R' := fun y5 => R) (fun j1 hj1 => ?_) (fun y5 => ?_)
  · refine PWk.if_ne 21 dX12_counts_4 (by decide) (fun h4 => ?_) (fun h4 => ?_)
    · refine PWk.iload_n 1 dX12_counts_7 rfl ?_
      refine PWk.if_eq 21 dX12_counts_8 (by decide) (fun h3 => ?_) (fun h3 => ?_)
      · refine PWk.sub [0] rfl ?_
        exact hj1 I
      · refine PWk.aload_n 0 dX12_counts_11 rfl ?_
        refine PWk.bipush (v := 6) dX12_counts_12 bp_6 ?_
        refine PWk.aload_n 0 dX12_counts_14 rfl ?_
        refine PWk.geti dX12_counts_15 rg_100 lc_100 fl_X12_23 rfl ?_
        refine PWk.callVvI (pc_X12_blame I L R 6 (I 100 4)) dX12_counts_18 ml_X12_237 rfl rg_100 lc_100 vq_12 (by decide) rfl (Nat.le_of_ble_eq_true rfl) (fun x2 => ?_)
        refine PWk.sub [0] rfl ?_
        exact hj1 x2
    · refine PWk.sub [0] rfl ?_
      exact hj1 I
  · refine PWk.aload_n 0 dX12_counts_21 rfl ?_
    refine PWk.geti dX12_counts_22 rg_100 lc_100 fl_X12_36 rfl ?_
    refine PWk.jn (pc' := 32) (lv' := fun y9 => [(0, .ref 100)]) (st' := fun y9 => []) (I' := fun y9 => y9.1) (L' := fun y9 => y9.2) (R' := fun y9 => R) (fun j6 hj6 => ?_) (fun y9 => ?_)
    · refine PWk.if_ne 32 dX12_counts_25 (by decide) (fun h8 => ?_) (fun h8 => ?_)
      · refine PWk.aload_n 0 dX12_counts_28 rfl ?_
        refine PWk.callVvIL (pc_X12_ahead fu y5 L R) dX12_counts_29 ml_X12_258 rfl rg_100 lc_100 vq_12 (by decide) rfl (Nat.le_of_ble_eq_true rfl) (fun x7 => ?_)
        exact hj6 (x7.1, x7.2)
      · exact hj6 (y5, L)
    · refine PWk.aload_n 0 dX12_counts_32 rfl ?_
      refine PWk.geti dX12_counts_33 rg_100 lc_100 fl_X12_36 rfl ?_
      refine PWk.if_ne 43 dX12_counts_36 (by decide) (fun h10 => ?_) (fun h10 => ?_)
      · refine PWk.iconst (v := 1) dX12_counts_39 ic_1 ?_
        refine PWk.goto 44 dX12_counts_40 (by decide) ?_
        exact PWk.zret dX12_counts_44 rfl (fun h => h)
      · refine PWk.iconst (v := 0) dX12_counts_43 ic_0 ?_
        exact PWk.zret dX12_counts_44 rfl (fun h => h)
/-! LakeMarketModel.must(J)V -/
def f_X12_must_ (fu : Nat) (I : HI) (L : HL) (p1 : Int64) : Option (HI × HL) :=
  (f_X12_lex I).bind fun x1 =>
  if (x1 100 8) ≤ 0 then
    (f_X12_isWord x1 L p1).bind fun x2 =>
    jnt (β := HI) (fun y6 =>
      if (y6 100 8) = 0 then
        (f_X12_ahead fu y6 L).bind fun x7 =>
        some (x7.1, x7.2)
      else
        some (y6, L)) fun j3 =>
    if x2 = 0 then
      (f_X12_blame x1 1 (x1 100 4)).bind fun x4 =>
      j3 x4
    else
      j3 x1
  else
    some (x1, L)
set_option maxRecDepth 20000 in
theorem pc_X12_must_ (fu : Nat) (I : HI) (L : HL) (R : HR) (p1 : Int64) : PCo 100 147 2 yX12_must_ cX12_must_ 3 none [.ref 100, .long p1] I L R (f_X12_must_ fu I L p1) (fun x : HI × HL => ((none, x.1, x.2, R) : HF)) := by
  refine PCo.of (own := RX12) (by decide +kernel) (Nat.le_of_ble_eq_true rfl) rfl rfl (fun F => ?_)
  unfold f_X12_must_
  refine PWk.aload_n 0 dX12_must__0 rfl ?_
  refine PWk.callVvI (pc_X12_lex I L R) dX12_must__1 ml_X12_252 rfl rg_100 lc_100 vq_12 (by decide) rfl (Nat.le_of_ble_eq_true rfl) (fun x1 => ?_)
  refine PWk.aload_n 0 dX12_must__4 rfl ?_
  refine PWk.geti dX12_must__5 rg_100 lc_100 fl_X12_36 rfl ?_
  refine PWk.if_le 12 dX12_must__8 (by decide) (fun h9 => ?_) (fun h9 => ?_)
  · refine PWk.aload_n 0 dX12_must__12 rfl ?_
    refine PWk.lload_n 1 dX12_must__13 rfl ?_
    refine PWk.callVi (pc_X12_isWord x1 L R p1) dX12_must__14 ml_X12_335 rfl rg_100 lc_100 vq_12 (by decide) rfl (Nat.le_of_ble_eq_true rfl) (fun x2 => ?_)
    refine PWk.jn (pc' := 29) (lv' := fun y6 => [(0, .ref 100)]) (st' := fun y6 => []) (I' := fun y6 => y6) (L' := fun y6 => L) (R' := fun y6 => R) (fun j3 hj3 => ?_) (fun y6 => ?_)
    · refine PWk.if_ne 29 dX12_must__17 (by decide) (fun h5 => ?_) (fun h5 => ?_)
      · refine PWk.aload_n 0 dX12_must__20 rfl ?_
        refine PWk.iconst (v := 1) dX12_must__21 ic_1 ?_
        refine PWk.aload_n 0 dX12_must__22 rfl ?_
        refine PWk.geti dX12_must__23 rg_100 lc_100 fl_X12_23 rfl ?_
        refine PWk.callVvI (pc_X12_blame x1 L R 1 (x1 100 4)) dX12_must__26 ml_X12_237 rfl rg_100 lc_100 vq_12 (by decide) rfl (Nat.le_of_ble_eq_true rfl) (fun x4 => ?_)
        refine PWk.sub [0] rfl ?_
        exact hj3 x4
      · refine PWk.sub [0] rfl ?_
        exact hj3 x1
    · refine PWk.aload_n 0 dX12_must__29 rfl ?_
      refine PWk.geti dX12_must__30 rg_100 lc_100 fl_X12_36 rfl ?_
      refine PWk.if_ne 40 dX12_must__33 (by decide) (fun h8 => ?_) (fun h8 => ?_)
      · refine PWk.aload_n 0 dX12_must__36 rfl ?_
        refine PWk.callVvIL (pc_X12_ahead fu y6 L R) dX12_must__37 ml_X12_258 rfl rg_100 lc_100 vq_12 (by decide) rfl (Nat.le_of_ble_eq_true rfl) (fun x7 => ?_)
        exact PWk.vret dX12_must__40 rfl (fun h => h)
      · exact PWk.vret dX12_must__40 rfl (fun h => h)
  · exact PWk.vret dX12_must__11 rfl (fun h => h)
/-! LakeMarketModel.fresh()J -/
def f_X12_fresh_L43 (fu : Nat) : Nat → HI → HL → Int32 → Option (HI)
  | 0, _, _, _ => none
  | n + 1, I, L, u1 =>
    if 2 < u1 then
      some I
    else
      if (I 100 8) = 0 then
        (f_X12_named fu I L u1 (L 100 7)).bind fun x10 =>
        jnt (β := HI) (fun y14 =>
          f_X12_fresh_L43 fu n y14 L (u1 + 1)) fun j11 =>
        if x10 = (-1) then
          j11 I
        else
          (f_X12_blame I 2 (I 100 4)).bind fun x12 =>
          j11 x12
      else
        some I
def f_X12_fresh (fu : Nat) (I : HI) (L : HL) : Option (Int64 × HI × HL) :=
  (f_X12_lex I).bind fun x1 =>
  if (x1 100 8) ≤ 0 then
    jnt (β := HI) (fun y9 =>
      (f_X12_fresh_L43 fu fu y9 L 0).bind fun x17 =>
      if (x17 100 8) = 0 then
        (f_X12_ahead fu x17 L).bind fun x18 =>
        some ((L 100 7), x18.1, x18.2)
      else
        some ((L 100 7), x17, L)) fun j3 =>
    jnt (β := Unit) (fun y7 =>
      (f_X12_blame x1 1 (x1 100 4)).bind fun x8 =>
      j3 x8) fun j2 =>
    if (x1 100 3) = 1 then
      (f_X12_isOwn (L 100 7)).bind fun x4 =>
      if x4 = 0 then
        j3 x1
      else
        j2 ()
    else
      j2 ()
  else
    some (0, x1, L)
set_option maxRecDepth 20000 in
theorem lp_X12_fresh_43 (fu : Nat) (L : HL) (R : HR) : ∀ (n : Nat) (u1 : Int32) (I : HI) (N : (HI) → Prop) (F : HF), (∀ v : HI, N v → PW 100 147 2 RX12 cX12_fresh 3 (some .long) 83 [(0, .ref 100)] [] v L R F) → PWk 100 147 2 RX12 cX12_fresh 3 (some .long) 43 [(0, .ref 100), (1, .int u1)] [] I L R (f_X12_fresh_L43 fu n I L u1) N F := by
  intro n
  induction n with
  | zero => intro u1 I N F hx; exact PWk.none'
  | succ n ih =>
    intro u1 I N F hx
    unfold f_X12_fresh_L43
    refine PWk.iload_n 1 dX12_fresh_43 rfl ?_
    refine PWk.iconst (v := 2) dX12_fresh_44 ic_2 ?_
    refine PWk.icmp_gt 83 dX12_fresh_45 (by decide) (fun h16 => ?_) (fun h16 => ?_)
    · refine PWk.sub [0] rfl ?_
      exact PWk.done (fun h => hx _ h)
    · refine PWk.aload_n 0 dX12_fresh_48 rfl ?_
      refine PWk.geti dX12_fresh_49 rg_100 lc_100 fl_X12_36 rfl ?_
      refine PWk.if_ne 83 dX12_fresh_52 (by decide) (fun h15 => ?_) (fun h15 => ?_)
      · refine PWk.aload_n 0 dX12_fresh_55 rfl ?_
        refine PWk.iload_n 1 dX12_fresh_56 rfl ?_
        refine PWk.aload_n 0 dX12_fresh_57 rfl ?_
        refine PWk.getl dX12_fresh_58 rg_100 lc_100 fl_X12_32 rfl ?_
        refine PWk.callVi (pc_X12_named fu I L R u1 (L 100 7)) dX12_fresh_61 ml_X12_353 rfl rg_100 lc_100 vq_12 (by decide) rfl (Nat.le_of_ble_eq_true rfl) (fun x10 => ?_)
        refine PWk.iconst (v := (-1)) dX12_fresh_64 ic_m1 ?_
        refine PWk.jn (pc' := 77) (lv' := fun y14 => [(0, .ref 100), (1, .int u1)]) (st' := fun y14 => []) (I' := fun y14 => y14) (L' := fun y14 => L) (R' := fun y14 => R) (fun j11 hj11 => ?_) (fun y14 => ?_)
        · refine PWk.icmp_eq 77 dX12_fresh_65 (by decide) (fun h13 => ?_) (fun h13 => ?_)
          · exact hj11 I
          · refine PWk.aload_n 0 dX12_fresh_68 rfl ?_
            refine PWk.iconst (v := 2) dX12_fresh_69 ic_2 ?_
            refine PWk.aload_n 0 dX12_fresh_70 rfl ?_
            refine PWk.geti dX12_fresh_71 rg_100 lc_100 fl_X12_23 rfl ?_
            refine PWk.callVvI (pc_X12_blame I L R 2 (I 100 4)) dX12_fresh_74 ml_X12_237 rfl rg_100 lc_100 vq_12 (by decide) rfl (Nat.le_of_ble_eq_true rfl) (fun x12 => ?_)
            exact hj11 x12
        · refine PWk.iinc (v := (u1 + 1)) 1 [(1, .int (u1 + 1)), (0, .ref 100)] dX12_fresh_77 rfl (by rw [ic_1]) (by decide) rfl ?_
          refine PWk.goto 43 dX12_fresh_80 (by decide) ?_
          refine PWk.sub [1, 0] rfl ?_
          exact ih (u1 + 1) y14 N F hx
      · refine PWk.sub [0] rfl ?_
        exact PWk.done (fun h => hx _ h)
set_option maxRecDepth 20000 in
theorem pc_X12_fresh (fu : Nat) (I : HI) (L : HL) (R : HR) : PCo 100 147 2 yX12_fresh cX12_fresh 3 (some .long) [.ref 100] I L R (f_X12_fresh fu I L) (fun x : Int64 × HI × HL => ((some (.long x.1), x.2.1, x.2.2, R) : HF)) := by
  refine PCo.of (own := RX12) (by decide +kernel) (Nat.le_of_ble_eq_true rfl) rfl rfl (fun F => ?_)
  unfold f_X12_fresh
  refine PWk.aload_n 0 dX12_fresh_0 rfl ?_
  refine PWk.callVvI (pc_X12_lex I L R) dX12_fresh_1 ml_X12_252 rfl rg_100 lc_100 vq_12 (by decide) rfl (Nat.le_of_ble_eq_true rfl) (fun x1 => ?_)
  refine PWk.aload_n 0 dX12_fresh_4 rfl ?_
  refine PWk.geti dX12_fresh_5 rg_100 lc_100 fl_X12_36 rfl ?_
  refine PWk.if_le 13 dX12_fresh_8 (by decide) (fun h20 => ?_) (fun h20 => ?_)
  · refine PWk.aload_n 0 dX12_fresh_13 rfl ?_
    refine PWk.geti dX12_fresh_14 rg_100 lc_100 fl_X12_20 rfl ?_
    refine PWk.iconst (v := 1) dX12_fresh_17 ic_1 ?_
    refine PWk.jn (pc' := 41) (lv' := fun y9 => [(0, .ref 100)]) (st' := fun y9 => []) (I' := fun y9 => y9) (L' := fun y9 => L) (R' := fun y9 => R) (fun j3 hj3 => ?_) (fun y9 => ?_)
    · refine PWk.jn (pc' := 32) (lv' := fun y7 => [(0, .ref 100)]) (st' := fun y7 => []) (I' := fun y7 => x1) (L' := fun y7 => L) (R' := fun y7 => R) (fun j2 hj2 => ?_) (fun y7 => ?_)
      · refine PWk.icmp_ne 32 dX12_fresh_18 (by decide) (fun h6 => ?_) (fun h6 => ?_)
        · refine PWk.aload_n 0 dX12_fresh_21 rfl ?_
          refine PWk.aload_n 0 dX12_fresh_22 rfl ?_
          refine PWk.getl dX12_fresh_23 rg_100 lc_100 fl_X12_32 rfl ?_
          refine PWk.callVi (pc_X12_isOwn x1 L R (L 100 7)) dX12_fresh_26 ml_X12_248 rfl rg_100 lc_100 vq_12 (by decide) rfl (Nat.le_of_ble_eq_true rfl) (fun x4 => ?_)
          refine PWk.if_eq 41 dX12_fresh_29 (by decide) (fun h5 => ?_) (fun h5 => ?_)
          · exact hj3 x1
          · exact hj2 ()
        · exact hj2 ()
      · refine PWk.aload_n 0 dX12_fresh_32 rfl ?_
        refine PWk.iconst (v := 1) dX12_fresh_33 ic_1 ?_
        refine PWk.aload_n 0 dX12_fresh_34 rfl ?_
        refine PWk.geti dX12_fresh_35 rg_100 lc_100 fl_X12_23 rfl ?_
        refine PWk.callVvI (pc_X12_blame x1 L R 1 (x1 100 4)) dX12_fresh_38 ml_X12_237 rfl rg_100 lc_100 vq_12 (by decide) rfl (Nat.le_of_ble_eq_true rfl) (fun x8 => ?_)
        exact hj3 x8
    · refine PWk.iconst (v := 0) dX12_fresh_41 ic_0 ?_
      refine PWk.istore_n [(1, .int 0), (0, .ref 100)] dX12_fresh_42 (by decide) rfl ?_
      refine PWk.sub [1, 0] rfl ?_
      refine PWk.loopV (fun N' hx' => lp_X12_fresh_43 fu L R fu 0 y9 N' F hx') (fun x17 => ?_)
      refine PWk.aload_n 0 dX12_fresh_83 rfl ?_
      refine PWk.getl dX12_fresh_84 rg_100 lc_100 fl_X12_32 rfl ?_
      refine PWk.lstore_n [(1, .long (L 100 7)), (0, .ref 100)] dX12_fresh_87 (by decide) rfl ?_
      refine PWk.aload_n 1 dX12_fresh_88 rfl ?_
      refine PWk.geti dX12_fresh_89 rg_100 lc_100 fl_X12_36 rfl ?_
      refine PWk.if_ne 99 dX12_fresh_92 (by decide) (fun h19 => ?_) (fun h19 => ?_)
      · refine PWk.aload_n 1 dX12_fresh_95 rfl ?_
        refine PWk.callVvIL (pc_X12_ahead fu x17 L R) dX12_fresh_96 ml_X12_258 rfl rg_100 lc_100 vq_12 (by decide) rfl (Nat.le_of_ble_eq_true rfl) (fun x18 => ?_)
        refine PWk.lload_n 0 dX12_fresh_99 rfl ?_
        exact PWk.lret dX12_fresh_100 rfl (fun h => h)
      · refine PWk.lload_n 0 dX12_fresh_99 rfl ?_
        exact PWk.lret dX12_fresh_100 rfl (fun h => h)
  · refine PWk.lconst (v := 0) dX12_fresh_11 rfl ?_
    exact PWk.lret dX12_fresh_12 rfl (fun h => h)
/-! LakeMarketModel.askedBut(II)I -/
def f_X12_askedBut (fu : Nat) (I : HI) (L : HL) (p1 : Int32) (p2 : Int32) : Option (Int32 × HI × HL) :=
  (f_X12_lex I).bind fun x1 =>
  if (x1 100 8) ≤ 0 then
    jnt (β := HI) (fun y9 =>
      jnt (β := Int32) (fun y13 =>
        jnt (β := HI) (fun y22 =>
          jnt (β := HI × HL) (fun y26 =>
            if (y26.1 100 8) ≤ 0 then
              some (y13, y26.1, y26.2)
            else
              some (0, y26.1, y26.2)) fun j23 =>
          if (y22 100 8) = 0 then
            (f_X12_ahead fu y22 L).bind fun x24 =>
            j23 (x24.1, x24.2)
          else
            j23 (y22, L)) fun j14 =>
        if (y9 100 8) = 0 then
          jnt (β := Unit) (fun y19 =>
            (f_X12_blame y9 3 (y9 100 4)).bind fun x20 =>
            j14 x20) fun j15 =>
          if y13 = (-1) then
            j15 ()
          else
            (f_X12_has2 p2 y13).bind fun x16 =>
            if x16 = 0 then
              j14 y9
            else
              j15 ()
        else
          j14 y9) fun j10 =>
      if (y9 100 8) ≤ 0 then
        (f_X12_named fu y9 L p1 (L 100 7)).bind fun x11 =>
        j10 x11
      else
        j10 0) fun j3 =>
    jnt (β := Unit) (fun y7 =>
      (f_X12_blame x1 1 (x1 100 4)).bind fun x8 =>
      j3 x8) fun j2 =>
    if (x1 100 3) = 1 then
      (f_X12_isOwn (L 100 7)).bind fun x4 =>
      if x4 = 0 then
        j3 x1
      else
        j2 ()
    else
      j2 ()
  else
    some (0, x1, L)
set_option maxRecDepth 20000 in
theorem pc_X12_askedBut (fu : Nat) (I : HI) (L : HL) (R : HR) (p1 : Int32) (p2 : Int32) : PCo 100 147 2 yX12_askedBut cX12_askedBut 4 (some .int) [.ref 100, .int p1, .int p2] I L R (f_X12_askedBut fu I L p1 p2) (fun x : Int32 × HI × HL => ((some (.int x.1), x.2.1, x.2.2, R) : HF)) := by
  refine PCo.of (own := RX12) (by decide +kernel) (Nat.le_of_ble_eq_true rfl) rfl rfl (fun F => ?_)
  unfold f_X12_askedBut
  refine PWk.aload_n 0 dX12_askedBut_0 rfl ?_
  refine PWk.callVvI (pc_X12_lex I L R) dX12_askedBut_1 ml_X12_252 rfl rg_100 lc_100 vq_12 (by decide) rfl (Nat.le_of_ble_eq_true rfl) (fun x1 => ?_)
  refine PWk.aload_n 0 dX12_askedBut_4 rfl ?_
  refine PWk.geti dX12_askedBut_5 rg_100 lc_100 fl_X12_36 rfl ?_
  refine PWk.if_le 13 dX12_askedBut_8 (by decide) (fun h28 => ?_) (fun h28 => ?_)
  · refine PWk.aload_n 0 dX12_askedBut_13 rfl ?_
    refine PWk.geti dX12_askedBut_14 rg_100 lc_100 fl_X12_20 rfl ?_
    refine PWk.iconst (v := 1) dX12_askedBut_17 ic_1 ?_
    refine PWk.jn (pc' := 41) (lv' := fun y9 => [(0, .ref 100), (1, .int p1), (2, .int p2)]) (st' := fun y9 => []) (I' := fun y9 => y9) (L' := fun y9 => L) (R' := fun y9 => R) (fun j3 hj3 => ?_) (fun y9 => ?_)
    · refine PWk.jn (pc' := 32) (lv' := fun y7 => [(0, .ref 100), (1, .int p1), (2, .int p2)]) (st' := fun y7 => []) (I' := fun y7 => x1) (L' := fun y7 => L) (R' := fun y7 => R) (fun j2 hj2 => ?_) (fun y7 => ?_)
      · refine PWk.icmp_ne 32 dX12_askedBut_18 (by decide) (fun h6 => ?_) (fun h6 => ?_)
        · refine PWk.aload_n 0 dX12_askedBut_21 rfl ?_
          refine PWk.aload_n 0 dX12_askedBut_22 rfl ?_
          refine PWk.getl dX12_askedBut_23 rg_100 lc_100 fl_X12_32 rfl ?_
          refine PWk.callVi (pc_X12_isOwn x1 L R (L 100 7)) dX12_askedBut_26 ml_X12_248 rfl rg_100 lc_100 vq_12 (by decide) rfl (Nat.le_of_ble_eq_true rfl) (fun x4 => ?_)
          refine PWk.if_eq 41 dX12_askedBut_29 (by decide) (fun h5 => ?_) (fun h5 => ?_)
          · exact hj3 x1
          · exact hj2 ()
        · exact hj2 ()
      · refine PWk.aload_n 0 dX12_askedBut_32 rfl ?_
        refine PWk.iconst (v := 1) dX12_askedBut_33 ic_1 ?_
        refine PWk.aload_n 0 dX12_askedBut_34 rfl ?_
        refine PWk.geti dX12_askedBut_35 rg_100 lc_100 fl_X12_23 rfl ?_
        refine PWk.callVvI (pc_X12_blame x1 L R 1 (x1 100 4)) dX12_askedBut_38 ml_X12_237 rfl rg_100 lc_100 vq_12 (by decide) rfl (Nat.le_of_ble_eq_true rfl) (fun x8 => ?_)
        exact hj3 x8
    · refine PWk.aload_n 0 dX12_askedBut_41 rfl ?_
      refine PWk.geti dX12_askedBut_42 rg_100 lc_100 fl_X12_36 rfl ?_
      refine PWk.jn (pc' := 61) (lv' := fun y13 => [(0, .ref 100), (2, .int p2)]) (st' := fun y13 => [.int y13]) (I' := fun y13 => y9) (L' := fun y13 => L) (R' := fun y13 => R) (fun j10 hj10 => ?_) (fun y13 => ?_)
      · refine PWk.if_le 52 dX12_askedBut_45 (by decide) (fun h12 => ?_) (fun h12 => ?_)
        · refine PWk.aload_n 0 dX12_askedBut_52 rfl ?_
          refine PWk.iload_n 1 dX12_askedBut_53 rfl ?_
          refine PWk.aload_n 0 dX12_askedBut_54 rfl ?_
          refine PWk.getl dX12_askedBut_55 rg_100 lc_100 fl_X12_32 rfl ?_
          refine PWk.callVi (pc_X12_named fu y9 L R p1 (L 100 7)) dX12_askedBut_58 ml_X12_353 rfl rg_100 lc_100 vq_12 (by decide) rfl (Nat.le_of_ble_eq_true rfl) (fun x11 => ?_)
          refine PWk.sub [0, 2] rfl ?_
          exact hj10 x11
        · refine PWk.iconst (v := 0) dX12_askedBut_48 ic_0 ?_
          refine PWk.goto 61 dX12_askedBut_49 (by decide) ?_
          refine PWk.sub [0, 2] rfl ?_
          exact hj10 0
      · refine PWk.istore_n [(3, .int y13), (0, .ref 100), (2, .int p2)] dX12_askedBut_61 (by decide) rfl ?_
        refine PWk.aload_n 1 dX12_askedBut_62 rfl ?_
        refine PWk.geti dX12_askedBut_63 rg_100 lc_100 fl_X12_36 rfl ?_
        refine PWk.jn (pc' := 91) (lv' := fun y22 => [(0, .ref 100), (3, .int y13)]) (st' := fun y22 => []) (I' := fun y22 => y22) (L' := fun y22 => L) (R' := fun y22 => R) (fun j14 hj14 => ?_) (fun y22 => ?_)
        · refine PWk.if_ne 91 dX12_askedBut_66 (by decide) (fun h21 => ?_) (fun h21 => ?_)
          · refine PWk.iload_n 0 dX12_askedBut_69 rfl ?_
            refine PWk.iconst (v := (-1)) dX12_askedBut_70 ic_m1 ?_
            refine PWk.jn (pc' := 82) (lv' := fun y19 => [(0, .ref 100), (3, .int y13)]) (st' := fun y19 => []) (I' := fun y19 => y9) (L' := fun y19 => L) (R' := fun y19 => R) (fun j15 hj15 => ?_) (fun y19 => ?_)
            · refine PWk.icmp_eq 82 dX12_askedBut_71 (by decide) (fun h18 => ?_) (fun h18 => ?_)
              · refine PWk.sub [1, 0] rfl ?_
                exact hj15 ()
              · refine PWk.iload_n 2 dX12_askedBut_74 rfl ?_
                refine PWk.iload_n 0 dX12_askedBut_75 rfl ?_
                refine PWk.callSi (pc_X12_has2 y9 L R p2 y13) dX12_askedBut_76 ml_X12_357 rfl (by decide) rfl (Nat.le_of_ble_eq_true rfl) (fun x16 => ?_)
                refine PWk.if_eq 91 dX12_askedBut_79 (by decide) (fun h17 => ?_) (fun h17 => ?_)
                · refine PWk.sub [1, 0] rfl ?_
                  exact hj14 y9
                · refine PWk.sub [1, 0] rfl ?_
                  exact hj15 ()
            · refine PWk.aload_n 0 dX12_askedBut_82 rfl ?_
              refine PWk.iconst (v := 3) dX12_askedBut_83 ic_3 ?_
              refine PWk.aload_n 0 dX12_askedBut_84 rfl ?_
              refine PWk.geti dX12_askedBut_85 rg_100 lc_100 fl_X12_23 rfl ?_
              refine PWk.callVvI (pc_X12_blame y9 L R 3 (y9 100 4)) dX12_askedBut_88 ml_X12_237 rfl rg_100 lc_100 vq_12 (by decide) rfl (Nat.le_of_ble_eq_true rfl) (fun x20 => ?_)
              exact hj14 x20
          · refine PWk.sub [1, 0] rfl ?_
            exact hj14 y9
        · refine PWk.aload_n 0 dX12_askedBut_91 rfl ?_
          refine PWk.geti dX12_askedBut_92 rg_100 lc_100 fl_X12_36 rfl ?_
          refine PWk.jn (pc' := 102) (lv' := fun y26 => [(0, .ref 100), (3, .int y13)]) (st' := fun y26 => []) (I' := fun y26 => y26.1) (L' := fun y26 => y26.2) (R' := fun y26 => R) (fun j23 hj23 => ?_) (fun y26 => ?_)
          · refine PWk.if_ne 102 dX12_askedBut_95 (by decide) (fun h25 => ?_) (fun h25 => ?_)
            · refine PWk.aload_n 0 dX12_askedBut_98 rfl ?_
              refine PWk.callVvIL (pc_X12_ahead fu y22 L R) dX12_askedBut_99 ml_X12_258 rfl rg_100 lc_100 vq_12 (by decide) rfl (Nat.le_of_ble_eq_true rfl) (fun x24 => ?_)
              exact hj23 (x24.1, x24.2)
            · exact hj23 (y22, L)
          · refine PWk.aload_n 0 dX12_askedBut_102 rfl ?_
            refine PWk.geti dX12_askedBut_103 rg_100 lc_100 fl_X12_36 rfl ?_
            refine PWk.if_le 113 dX12_askedBut_106 (by decide) (fun h27 => ?_) (fun h27 => ?_)
            · refine PWk.iload_n 1 dX12_askedBut_113 rfl ?_
              exact PWk.iret dX12_askedBut_114 rfl (fun h => h)
            · refine PWk.iconst (v := 0) dX12_askedBut_109 ic_0 ?_
              refine PWk.goto 114 dX12_askedBut_110 (by decide) ?_
              exact PWk.iret dX12_askedBut_114 rfl (fun h => h)
  · refine PWk.iconst (v := 0) dX12_askedBut_11 ic_0 ?_
    exact PWk.iret dX12_askedBut_12 rfl (fun h => h)
/-! LakeMarketModel.hollowing()V -/
def f_X12_hollowing (fu : Nat) (I : HI) (L : HL) : Option (HI × HL) :=
  ldI (I 102) 2 (I 100 33) fun v1 =>
  jnt (β := Int32) (fun y4 =>
    (f_X12_counts fu I L y4).bind fun x5 =>
    if x5.1 = 0 then
      some (x5.2.1, x5.2.2)
    else
      ldI (x5.2.1 102) 2 (x5.2.1 100 33) fun v6 =>
      bnd (((8 * (x5.2.1 100 33)) + v6)) fun v7 =>
      (f_X12_fresh fu x5.2.1 x5.2.2).bind fun x8 =>
      inb 16 v7 <|
      bnd (sL x8.2.2 117 (v7 : Int32).toNatClampNeg x8.1) fun L9 =>
      (f_X12_must_ fu x8.2.1 L9 448545973363).bind fun x10 =>
      (f_X12_number fu x10.1 x10.2 1 999).bind fun x11 =>
      inb 16 v7 <|
      bnd (sI x11.2.1 103 (v7 : Int32).toNatClampNeg x11.1) fun I12 =>
      (f_X12_must_ fu I12 x11.2.2 24948).bind fun x13 =>
      (f_X12_number fu x13.1 x13.2 0 99).bind fun x14 =>
      inb 16 v7 <|
      bnd (sI x14.2.1 104 (v7 : Int32).toNatClampNeg x14.1) fun I15 =>
      if (I15 100 8) = 0 then
        ldI (I15 102) 2 (I15 100 33) fun v16 =>
        inb 2 (I15 100 33) <|
        bnd (sI I15 102 ((I15 100 33) : Int32).toNatClampNeg (v16 + 1)) fun I17 =>
        some (I17, x14.2.2)
      else
        some (I15, x14.2.2)) fun j2 =>
  if v1 = 8 then
    j2 1
  else
    j2 0
set_option maxRecDepth 20000 in
theorem pc_X12_hollowing (fu : Nat) (I : HI) (L : HL) (R : HR) : PCo 100 147 3 yX12_hollowing cX12_hollowing 2 none [.ref 100] I L R (f_X12_hollowing fu I L) (fun x : HI × HL => ((none, x.1, x.2, R) : HF)) := by
  refine PCo.of (own := RX12) (by decide +kernel) (Nat.le_of_ble_eq_true rfl) rfl rfl (fun F => ?_)
  unfold f_X12_hollowing
  refine PWk.aload_n 0 dX12_hollowing_0 rfl ?_
  refine PWk.aload_n 0 dX12_hollowing_1 rfl ?_
  refine PWk.gets dX12_hollowing_2 rg_100 lc_100 fl_X12_54 rfl st_100_14 ?_
  refine PWk.aload_n 0 dX12_hollowing_5 rfl ?_
  refine PWk.geti dX12_hollowing_6 rg_100 lc_100 fl_X12_112 rfl ?_
  refine PWk.iald dX12_hollowing_9 rg_102 ly_102 (fun v1 => ?_)
  refine PWk.bipush (v := 8) dX12_hollowing_10 bp_8 ?_
  refine PWk.jn (pc' := 20) (lv' := fun y4 => [(0, .ref 100)]) (st' := fun y4 => [.int y4, .ref 100]) (I' := fun y4 => I) (L' := fun y4 => L) (R' := fun y4 => R) (fun j2 hj2 => ?_) (fun y4 => ?_)
  · refine PWk.icmp_ne 19 dX12_hollowing_12 (by decide) (fun h3 => ?_) (fun h3 => ?_)
    · refine PWk.iconst (v := 1) dX12_hollowing_15 ic_1 ?_
      refine PWk.goto 20 dX12_hollowing_16 (by decide) ?_
      exact hj2 1
    · refine PWk.iconst (v := 0) dX12_hollowing_19 ic_0 ?_
      exact hj2 0
  · refine PWk.callViIL (pc_X12_counts fu I L R y4) dX12_hollowing_20 ml_X12_361 rfl rg_100 lc_100 vq_12 (by decide) rfl (Nat.le_of_ble_eq_true rfl) (fun x5 => ?_)
    refine PWk.if_ne 27 dX12_hollowing_23 (by decide) (fun h19 => ?_) (fun h19 => ?_)
    · exact PWk.vret dX12_hollowing_26 rfl (fun h => h)
    · refine PWk.bipush (v := 8) dX12_hollowing_27 bp_8 ?_
      refine PWk.aload_n 0 dX12_hollowing_29 rfl ?_
      refine PWk.geti dX12_hollowing_30 rg_100 lc_100 fl_X12_112 rfl ?_
      refine PWk.imul dX12_hollowing_33 ?_
      refine PWk.aload_n 0 dX12_hollowing_34 rfl ?_
      refine PWk.gets dX12_hollowing_35 rg_100 lc_100 fl_X12_54 rfl st_100_14 ?_
      refine PWk.aload_n 0 dX12_hollowing_38 rfl ?_
      refine PWk.geti dX12_hollowing_39 rg_100 lc_100 fl_X12_112 rfl ?_
      refine PWk.iald dX12_hollowing_42 rg_102 ly_102 (fun v6 => ?_)
      refine PWk.iadd dX12_hollowing_43 ?_
      refine PWk.bi (fun v7 => ?_)
      refine PWk.istore_n [(1, .int v7), (0, .ref 100)] dX12_hollowing_44 (by decide) rfl ?_
      refine PWk.aload_n 1 dX12_hollowing_45 rfl ?_
      refine PWk.gets dX12_hollowing_46 rg_100 lc_100 fl_X12_99 rfl st_100_29 ?_
      refine PWk.iload_n 0 dX12_hollowing_49 rfl ?_
      refine PWk.aload_n 1 dX12_hollowing_50 rfl ?_
      refine PWk.callVlIL (pc_X12_fresh fu x5.2.1 x5.2.2 R) dX12_hollowing_51 ml_X12_365 rfl rg_100 lc_100 vq_12 (by decide) rfl (Nat.le_of_ble_eq_true rfl) (fun x8 => ?_)
      refine PWk.last dX12_hollowing_54 rg_117 ly_117 ?_
      refine PWk.bL (fun L9 => ?_)
      refine PWk.aload_n 1 dX12_hollowing_55 rfl ?_
      refine PWk.ldc2 (v := 448545973363) dX12_hollowing_56 kc_X12_263 ?_
      refine PWk.callVvIL (pc_X12_must_ fu x8.2.1 L9 R 448545973363) dX12_hollowing_59 ml_X12_369 rfl rg_100 lc_100 vq_12 (by decide) rfl (Nat.le_of_ble_eq_true rfl) (fun x10 => ?_)
      refine PWk.aload_n 1 dX12_hollowing_62 rfl ?_
      refine PWk.gets dX12_hollowing_63 rg_100 lc_100 fl_X12_57 rfl st_100_15 ?_
      refine PWk.iload_n 0 dX12_hollowing_66 rfl ?_
      refine PWk.aload_n 1 dX12_hollowing_67 rfl ?_
      refine PWk.iconst (v := 1) dX12_hollowing_68 ic_1 ?_
      refine PWk.sipush (v := 999) dX12_hollowing_69 sp_999 ?_
      refine PWk.callViIL (pc_X12_number fu x10.1 x10.2 R 1 999) dX12_hollowing_72 ml_X12_373 rfl rg_100 lc_100 vq_12 (by decide) rfl (Nat.le_of_ble_eq_true rfl) (fun x11 => ?_)
      refine PWk.iast dX12_hollowing_75 rg_103 ly_103 ?_
      refine PWk.bI (fun I12 => ?_)
      refine PWk.aload_n 1 dX12_hollowing_76 rfl ?_
      refine PWk.ldc2 (v := 24948) dX12_hollowing_77 kc_X12_265 ?_
      refine PWk.callVvIL (pc_X12_must_ fu I12 x11.2.2 R 24948) dX12_hollowing_80 ml_X12_369 rfl rg_100 lc_100 vq_12 (by decide) rfl (Nat.le_of_ble_eq_true rfl) (fun x13 => ?_)
      refine PWk.aload_n 1 dX12_hollowing_83 rfl ?_
      refine PWk.gets dX12_hollowing_84 rg_100 lc_100 fl_X12_60 rfl st_100_16 ?_
      refine PWk.iload_n 0 dX12_hollowing_87 rfl ?_
      refine PWk.aload_n 1 dX12_hollowing_88 rfl ?_
      refine PWk.iconst (v := 0) dX12_hollowing_89 ic_0 ?_
      refine PWk.bipush (v := 99) dX12_hollowing_90 bp_99 ?_
      refine PWk.callViIL (pc_X12_number fu x13.1 x13.2 R 0 99) dX12_hollowing_92 ml_X12_373 rfl rg_100 lc_100 vq_12 (by decide) rfl (Nat.le_of_ble_eq_true rfl) (fun x14 => ?_)
      refine PWk.iast dX12_hollowing_95 rg_104 ly_104 ?_
      refine PWk.bI (fun I15 => ?_)
      refine PWk.aload_n 1 dX12_hollowing_96 rfl ?_
      refine PWk.geti dX12_hollowing_97 rg_100 lc_100 fl_X12_36 rfl ?_
      refine PWk.if_ne 116 dX12_hollowing_100 (by decide) (fun h18 => ?_) (fun h18 => ?_)
      · refine PWk.aload_n 1 dX12_hollowing_103 rfl ?_
        refine PWk.gets dX12_hollowing_104 rg_100 lc_100 fl_X12_54 rfl st_100_14 ?_
        refine PWk.aload_n 1 dX12_hollowing_107 rfl ?_
        refine PWk.geti dX12_hollowing_108 rg_100 lc_100 fl_X12_112 rfl ?_
        refine PWk.dup2 dX12_hollowing_111 rfl rfl ?_
        refine PWk.iald dX12_hollowing_112 rg_102 ly_102 (fun v16 => ?_)
        refine PWk.iconst (v := 1) dX12_hollowing_113 ic_1 ?_
        refine PWk.iadd dX12_hollowing_114 ?_
        refine PWk.iast dX12_hollowing_115 rg_102 ly_102 ?_
        refine PWk.bI (fun I17 => ?_)
        exact PWk.vret dX12_hollowing_116 rfl (fun h => h)
      · exact PWk.vret dX12_hollowing_116 rfl (fun h => h)
/-! LakeMarketModel.owning()V -/
def f_X12_owning_L57 : Nat → HI → Int32 → Int32 → Option (HI)
  | 0, _, _, _ => none
  | n + 1, I, u1, u2 =>
    if 6 ≤ u2 then
      some I
    else
      inb 72 ((6 * u1) + u2) <|
      bnd (sI I 110 (((6 * u1) + u2) : Int32).toNatClampNeg 0) fun I10 =>
      ldI (I10 105) 2 (I10 100 33) fun v11 =>
      inb 72 ((6 * ((6 * (I10 100 33)) + u2)) + v11) <|
      bnd (sI I10 110 (((6 * ((6 * (I10 100 33)) + u2)) + v11) : Int32).toNatClampNeg 0) fun I12 =>
      f_X12_owning_L57 n I12 u1 (u2 + 1)
def f_X12_owning (fu : Nat) (I : HI) (L : HL) : Option (HI × HL) :=
  ldI (I 105) 2 (I 100 33) fun v1 =>
  jnt (β := Int32) (fun y4 =>
    (f_X12_counts fu I L y4).bind fun x5 =>
    if x5.1 = 0 then
      some (x5.2.1, x5.2.2)
    else
      ldI (x5.2.1 105) 2 (x5.2.1 100 33) fun v6 =>
      bnd (((6 * (x5.2.1 100 33)) + v6)) fun v7 =>
      (f_X12_fresh fu x5.2.1 x5.2.2).bind fun x8 =>
      inb 12 v7 <|
      bnd (sL x8.2.2 118 (v7 : Int32).toNatClampNeg x8.1) fun L9 =>
      (f_X12_owning_L57 fu x8.2.1 v7 0).bind fun x14 =>
      if (x14 100 8) = 0 then
        ldI (x14 105) 2 (x14 100 33) fun v15 =>
        inb 2 (x14 100 33) <|
        bnd (sI x14 105 ((x14 100 33) : Int32).toNatClampNeg (v15 + 1)) fun I16 =>
        some (I16, L9)
      else
        some (x14, L9)) fun j2 =>
  if v1 = 6 then
    j2 1
  else
    j2 0
set_option maxRecDepth 20000 in
theorem lp_X12_owning_57 (fu : Nat) (u1 : Int32) (L : HL) (R : HR) : ∀ (n : Nat) (u2 : Int32) (I : HI) (N : (HI) → Prop) (F : HF), (∀ v : HI, N v → PW 100 147 3 RX12 cX12_owning 3 none 109 [(0, .ref 100)] [] v L R F) → PWk 100 147 3 RX12 cX12_owning 3 none 57 [(0, .ref 100), (1, .int u1), (2, .int u2)] [] I L R (f_X12_owning_L57 n I u1 u2) N F := by
  intro n
  induction n with
  | zero => intro u2 I N F hx; exact PWk.none'
  | succ n ih =>
    intro u2 I N F hx
    unfold f_X12_owning_L57
    refine PWk.iload_n 2 dX12_owning_57 rfl ?_
    refine PWk.bipush (v := 6) dX12_owning_58 bp_6 ?_
    refine PWk.icmp_ge 109 dX12_owning_60 (by decide) (fun h13 => ?_) (fun h13 => ?_)
    · refine PWk.sub [0] rfl ?_
      exact PWk.done (fun h => hx _ h)
    · refine PWk.aload_n 0 dX12_owning_63 rfl ?_
      refine PWk.gets dX12_owning_64 rg_100 lc_100 fl_X12_78 rfl st_100_22 ?_
      refine PWk.bipush (v := 6) dX12_owning_67 bp_6 ?_
      refine PWk.iload_n 1 dX12_owning_69 rfl ?_
      refine PWk.imul dX12_owning_70 ?_
      refine PWk.iload_n 2 dX12_owning_71 rfl ?_
      refine PWk.iadd dX12_owning_72 ?_
      refine PWk.iconst (v := 0) dX12_owning_73 ic_0 ?_
      refine PWk.iast dX12_owning_74 rg_110 ly_110 ?_
      refine PWk.bI (fun I10 => ?_)
      refine PWk.aload_n 0 dX12_owning_75 rfl ?_
      refine PWk.gets dX12_owning_76 rg_100 lc_100 fl_X12_78 rfl st_100_22 ?_
      refine PWk.bipush (v := 6) dX12_owning_79 bp_6 ?_
      refine PWk.bipush (v := 6) dX12_owning_81 bp_6 ?_
      refine PWk.aload_n 0 dX12_owning_83 rfl ?_
      refine PWk.geti dX12_owning_84 rg_100 lc_100 fl_X12_112 rfl ?_
      refine PWk.imul dX12_owning_87 ?_
      refine PWk.iload_n 2 dX12_owning_88 rfl ?_
      refine PWk.iadd dX12_owning_89 ?_
      refine PWk.imul dX12_owning_90 ?_
      refine PWk.aload_n 0 dX12_owning_91 rfl ?_
      refine PWk.gets dX12_owning_92 rg_100 lc_100 fl_X12_63 rfl st_100_17 ?_
      refine PWk.aload_n 0 dX12_owning_95 rfl ?_
      refine PWk.geti dX12_owning_96 rg_100 lc_100 fl_X12_112 rfl ?_
      refine PWk.iald dX12_owning_99 rg_105 ly_105 (fun v11 => ?_)
      refine PWk.iadd dX12_owning_100 ?_
      refine PWk.iconst (v := 0) dX12_owning_101 ic_0 ?_
      refine PWk.iast dX12_owning_102 rg_110 ly_110 ?_
      refine PWk.bI (fun I12 => ?_)
      refine PWk.iinc (v := (u2 + 1)) 2 [(2, .int (u2 + 1)), (0, .ref 100), (1, .int u1)] dX12_owning_103 rfl (by rw [ic_1]) (by decide) rfl ?_
      refine PWk.goto 57 dX12_owning_106 (by decide) ?_
      refine PWk.sub [1, 2, 0] rfl ?_
      exact ih (u2 + 1) I12 N F hx
set_option maxRecDepth 20000 in
theorem pc_X12_owning (fu : Nat) (I : HI) (L : HL) (R : HR) : PCo 100 147 3 yX12_owning cX12_owning 3 none [.ref 100] I L R (f_X12_owning fu I L) (fun x : HI × HL => ((none, x.1, x.2, R) : HF)) := by
  refine PCo.of (own := RX12) (by decide +kernel) (Nat.le_of_ble_eq_true rfl) rfl rfl (fun F => ?_)
  unfold f_X12_owning
  refine PWk.aload_n 0 dX12_owning_0 rfl ?_
  refine PWk.aload_n 0 dX12_owning_1 rfl ?_
  refine PWk.gets dX12_owning_2 rg_100 lc_100 fl_X12_63 rfl st_100_17 ?_
  refine PWk.aload_n 0 dX12_owning_5 rfl ?_
  refine PWk.geti dX12_owning_6 rg_100 lc_100 fl_X12_112 rfl ?_
  refine PWk.iald dX12_owning_9 rg_105 ly_105 (fun v1 => ?_)
  refine PWk.bipush (v := 6) dX12_owning_10 bp_6 ?_
  refine PWk.jn (pc' := 20) (lv' := fun y4 => [(0, .ref 100)]) (st' := fun y4 => [.int y4, .ref 100]) (I' := fun y4 => I) (L' := fun y4 => L) (R' := fun y4 => R) (fun j2 hj2 => ?_) (fun y4 => ?_)
  · refine PWk.icmp_ne 19 dX12_owning_12 (by decide) (fun h3 => ?_) (fun h3 => ?_)
    · refine PWk.iconst (v := 1) dX12_owning_15 ic_1 ?_
      refine PWk.goto 20 dX12_owning_16 (by decide) ?_
      exact hj2 1
    · refine PWk.iconst (v := 0) dX12_owning_19 ic_0 ?_
      exact hj2 0
  · refine PWk.callViIL (pc_X12_counts fu I L R y4) dX12_owning_20 ml_X12_361 rfl rg_100 lc_100 vq_12 (by decide) rfl (Nat.le_of_ble_eq_true rfl) (fun x5 => ?_)
    refine PWk.if_ne 27 dX12_owning_23 (by decide) (fun h18 => ?_) (fun h18 => ?_)
    · exact PWk.vret dX12_owning_26 rfl (fun h => h)
    · refine PWk.bipush (v := 6) dX12_owning_27 bp_6 ?_
      refine PWk.aload_n 0 dX12_owning_29 rfl ?_
      refine PWk.geti dX12_owning_30 rg_100 lc_100 fl_X12_112 rfl ?_
      refine PWk.imul dX12_owning_33 ?_
      refine PWk.aload_n 0 dX12_owning_34 rfl ?_
      refine PWk.gets dX12_owning_35 rg_100 lc_100 fl_X12_63 rfl st_100_17 ?_
      refine PWk.aload_n 0 dX12_owning_38 rfl ?_
      refine PWk.geti dX12_owning_39 rg_100 lc_100 fl_X12_112 rfl ?_
      refine PWk.iald dX12_owning_42 rg_105 ly_105 (fun v6 => ?_)
      refine PWk.iadd dX12_owning_43 ?_
      refine PWk.bi (fun v7 => ?_)
      refine PWk.istore_n [(1, .int v7), (0, .ref 100)] dX12_owning_44 (by decide) rfl ?_
      refine PWk.aload_n 1 dX12_owning_45 rfl ?_
      refine PWk.gets dX12_owning_46 rg_100 lc_100 fl_X12_103 rfl st_100_30 ?_
      refine PWk.iload_n 0 dX12_owning_49 rfl ?_
      refine PWk.aload_n 1 dX12_owning_50 rfl ?_
      refine PWk.callVlIL (pc_X12_fresh fu x5.2.1 x5.2.2 R) dX12_owning_51 ml_X12_365 rfl rg_100 lc_100 vq_12 (by decide) rfl (Nat.le_of_ble_eq_true rfl) (fun x8 => ?_)
      refine PWk.last dX12_owning_54 rg_118 ly_118 ?_
      refine PWk.bL (fun L9 => ?_)
      refine PWk.iconst (v := 0) dX12_owning_55 ic_0 ?_
      refine PWk.istore_n [(2, .int 0), (1, .int v7), (0, .ref 100)] dX12_owning_56 (by decide) rfl ?_
      refine PWk.sub [2, 1, 0] rfl ?_
      refine PWk.loopV (fun N' hx' => lp_X12_owning_57 fu v7 L9 R fu 0 x8.2.1 N' F hx') (fun x14 => ?_)
      refine PWk.aload_n 0 dX12_owning_109 rfl ?_
      refine PWk.geti dX12_owning_110 rg_100 lc_100 fl_X12_36 rfl ?_
      refine PWk.if_ne 129 dX12_owning_113 (by decide) (fun h17 => ?_) (fun h17 => ?_)
      · refine PWk.aload_n 0 dX12_owning_116 rfl ?_
        refine PWk.gets dX12_owning_117 rg_100 lc_100 fl_X12_63 rfl st_100_17 ?_
        refine PWk.aload_n 0 dX12_owning_120 rfl ?_
        refine PWk.geti dX12_owning_121 rg_100 lc_100 fl_X12_112 rfl ?_
        refine PWk.dup2 dX12_owning_124 rfl rfl ?_
        refine PWk.iald dX12_owning_125 rg_105 ly_105 (fun v15 => ?_)
        refine PWk.iconst (v := 1) dX12_owning_126 ic_1 ?_
        refine PWk.iadd dX12_owning_127 ?_
        refine PWk.iast dX12_owning_128 rg_105 ly_105 ?_
        refine PWk.bI (fun I16 => ?_)
        exact PWk.vret dX12_owning_129 rfl (fun h => h)
      · exact PWk.vret dX12_owning_129 rfl (fun h => h)
/-! LakeMarketModel.laking()V -/
def f_X12_laking (fu : Nat) (I : HI) (L : HL) : Option (HI × HL) :=
  ldI (I 106) 2 (I 100 33) fun v1 =>
  jnt (β := Int32) (fun y4 =>
    (f_X12_counts fu I L y4).bind fun x5 =>
    if x5.1 = 0 then
      some (x5.2.1, x5.2.2)
    else
      ldI (x5.2.1 106) 2 (x5.2.1 100 33) fun v6 =>
      bnd (((8 * (x5.2.1 100 33)) + v6)) fun v7 =>
      (f_X12_fresh fu x5.2.1 x5.2.2).bind fun x8 =>
      inb 16 v7 <|
      bnd (sL x8.2.2 119 (v7 : Int32).toNatClampNeg x8.1) fun L9 =>
      (f_X12_must_ fu x8.2.1 L9 6840691).bind fun x10 =>
      (f_X12_number fu x10.1 x10.2 1 999).bind fun x11 =>
      inb 16 v7 <|
      bnd (sI x11.2.1 107 (v7 : Int32).toNatClampNeg x11.1) fun I12 =>
      (f_X12_must_ fu I12 x11.2.2 26990).bind fun x13 =>
      ldI (x13.1 107) 16 v7 fun v14 =>
      (f_X12_without fu x13.1 v14).bind fun x15 =>
      (f_X12_askedBut fu x13.1 x13.2 0 x15).bind fun x16 =>
      inb 16 v7 <|
      bnd (sI x16.2.1 108 (v7 : Int32).toNatClampNeg x16.1) fun I17 =>
      (f_X12_must_ fu I17 x16.2.2 28518).bind fun x18 =>
      (f_X12_askedBut fu x18.1 x18.2 1 0).bind fun x19 =>
      inb 16 v7 <|
      bnd (sI x19.2.1 109 (v7 : Int32).toNatClampNeg x19.1) fun I20 =>
      if (I20 100 8) = 0 then
        ldI (I20 106) 2 (I20 100 33) fun v21 =>
        inb 2 (I20 100 33) <|
        bnd (sI I20 106 ((I20 100 33) : Int32).toNatClampNeg (v21 + 1)) fun I22 =>
        some (I22, x19.2.2)
      else
        some (I20, x19.2.2)) fun j2 =>
  if v1 = 8 then
    j2 1
  else
    j2 0
set_option maxRecDepth 20000 in
theorem pc_X12_laking (fu : Nat) (I : HI) (L : HL) (R : HR) : PCo 100 147 3 yX12_laking cX12_laking 2 none [.ref 100] I L R (f_X12_laking fu I L) (fun x : HI × HL => ((none, x.1, x.2, R) : HF)) := by
  refine PCo.of (own := RX12) (by decide +kernel) (Nat.le_of_ble_eq_true rfl) rfl rfl (fun F => ?_)
  unfold f_X12_laking
  refine PWk.aload_n 0 dX12_laking_0 rfl ?_
  refine PWk.aload_n 0 dX12_laking_1 rfl ?_
  refine PWk.gets dX12_laking_2 rg_100 lc_100 fl_X12_66 rfl st_100_18 ?_
  refine PWk.aload_n 0 dX12_laking_5 rfl ?_
  refine PWk.geti dX12_laking_6 rg_100 lc_100 fl_X12_112 rfl ?_
  refine PWk.iald dX12_laking_9 rg_106 ly_106 (fun v1 => ?_)
  refine PWk.bipush (v := 8) dX12_laking_10 bp_8 ?_
  refine PWk.jn (pc' := 20) (lv' := fun y4 => [(0, .ref 100)]) (st' := fun y4 => [.int y4, .ref 100]) (I' := fun y4 => I) (L' := fun y4 => L) (R' := fun y4 => R) (fun j2 hj2 => ?_) (fun y4 => ?_)
  · refine PWk.icmp_ne 19 dX12_laking_12 (by decide) (fun h3 => ?_) (fun h3 => ?_)
    · refine PWk.iconst (v := 1) dX12_laking_15 ic_1 ?_
      refine PWk.goto 20 dX12_laking_16 (by decide) ?_
      exact hj2 1
    · refine PWk.iconst (v := 0) dX12_laking_19 ic_0 ?_
      exact hj2 0
  · refine PWk.callViIL (pc_X12_counts fu I L R y4) dX12_laking_20 ml_X12_361 rfl rg_100 lc_100 vq_12 (by decide) rfl (Nat.le_of_ble_eq_true rfl) (fun x5 => ?_)
    refine PWk.if_ne 27 dX12_laking_23 (by decide) (fun h24 => ?_) (fun h24 => ?_)
    · exact PWk.vret dX12_laking_26 rfl (fun h => h)
    · refine PWk.bipush (v := 8) dX12_laking_27 bp_8 ?_
      refine PWk.aload_n 0 dX12_laking_29 rfl ?_
      refine PWk.geti dX12_laking_30 rg_100 lc_100 fl_X12_112 rfl ?_
      refine PWk.imul dX12_laking_33 ?_
      refine PWk.aload_n 0 dX12_laking_34 rfl ?_
      refine PWk.gets dX12_laking_35 rg_100 lc_100 fl_X12_66 rfl st_100_18 ?_
      refine PWk.aload_n 0 dX12_laking_38 rfl ?_
      refine PWk.geti dX12_laking_39 rg_100 lc_100 fl_X12_112 rfl ?_
      refine PWk.iald dX12_laking_42 rg_106 ly_106 (fun v6 => ?_)
      refine PWk.iadd dX12_laking_43 ?_
      refine PWk.bi (fun v7 => ?_)
      refine PWk.istore_n [(1, .int v7), (0, .ref 100)] dX12_laking_44 (by decide) rfl ?_
      refine PWk.aload_n 1 dX12_laking_45 rfl ?_
      refine PWk.gets dX12_laking_46 rg_100 lc_100 fl_X12_106 rfl st_100_31 ?_
      refine PWk.iload_n 0 dX12_laking_49 rfl ?_
      refine PWk.aload_n 1 dX12_laking_50 rfl ?_
      refine PWk.callVlIL (pc_X12_fresh fu x5.2.1 x5.2.2 R) dX12_laking_51 ml_X12_365 rfl rg_100 lc_100 vq_12 (by decide) rfl (Nat.le_of_ble_eq_true rfl) (fun x8 => ?_)
      refine PWk.last dX12_laking_54 rg_119 ly_119 ?_
      refine PWk.bL (fun L9 => ?_)
      refine PWk.aload_n 1 dX12_laking_55 rfl ?_
      refine PWk.ldc2 (v := 6840691) dX12_laking_56 kc_X12_271 ?_
      refine PWk.callVvIL (pc_X12_must_ fu x8.2.1 L9 R 6840691) dX12_laking_59 ml_X12_369 rfl rg_100 lc_100 vq_12 (by decide) rfl (Nat.le_of_ble_eq_true rfl) (fun x10 => ?_)
      refine PWk.aload_n 1 dX12_laking_62 rfl ?_
      refine PWk.gets dX12_laking_63 rg_100 lc_100 fl_X12_69 rfl st_100_19 ?_
      refine PWk.iload_n 0 dX12_laking_66 rfl ?_
      refine PWk.aload_n 1 dX12_laking_67 rfl ?_
      refine PWk.iconst (v := 1) dX12_laking_68 ic_1 ?_
      refine PWk.sipush (v := 999) dX12_laking_69 sp_999 ?_
      refine PWk.callViIL (pc_X12_number fu x10.1 x10.2 R 1 999) dX12_laking_72 ml_X12_373 rfl rg_100 lc_100 vq_12 (by decide) rfl (Nat.le_of_ble_eq_true rfl) (fun x11 => ?_)
      refine PWk.iast dX12_laking_75 rg_107 ly_107 ?_
      refine PWk.bI (fun I12 => ?_)
      refine PWk.aload_n 1 dX12_laking_76 rfl ?_
      refine PWk.ldc2 (v := 26990) dX12_laking_77 kc_X12_273 ?_
      refine PWk.callVvIL (pc_X12_must_ fu I12 x11.2.2 R 26990) dX12_laking_80 ml_X12_369 rfl rg_100 lc_100 vq_12 (by decide) rfl (Nat.le_of_ble_eq_true rfl) (fun x13 => ?_)
      refine PWk.aload_n 1 dX12_laking_83 rfl ?_
      refine PWk.gets dX12_laking_84 rg_100 lc_100 fl_X12_72 rfl st_100_20 ?_
      refine PWk.iload_n 0 dX12_laking_87 rfl ?_
      refine PWk.aload_n 1 dX12_laking_88 rfl ?_
      refine PWk.iconst (v := 0) dX12_laking_89 ic_0 ?_
      refine PWk.aload_n 1 dX12_laking_90 rfl ?_
      refine PWk.aload_n 1 dX12_laking_91 rfl ?_
      refine PWk.gets dX12_laking_92 rg_100 lc_100 fl_X12_69 rfl st_100_19 ?_
      refine PWk.iload_n 0 dX12_laking_95 rfl ?_
      refine PWk.iald dX12_laking_96 rg_107 ly_107 (fun v14 => ?_)
      refine PWk.callVi (pc_X12_without fu x13.1 x13.2 R v14) dX12_laking_97 ml_X12_376 rfl rg_100 lc_100 vq_12 (by decide) rfl (Nat.le_of_ble_eq_true rfl) (fun x15 => ?_)
      refine PWk.callViIL (pc_X12_askedBut fu x13.1 x13.2 R 0 x15) dX12_laking_100 ml_X12_379 rfl rg_100 lc_100 vq_12 (by decide) rfl (Nat.le_of_ble_eq_true rfl) (fun x16 => ?_)
      refine PWk.iast dX12_laking_103 rg_108 ly_108 ?_
      refine PWk.bI (fun I17 => ?_)
      refine PWk.aload_n 1 dX12_laking_104 rfl ?_
      refine PWk.ldc2 (v := 28518) dX12_laking_105 kc_X12_275 ?_
      refine PWk.callVvIL (pc_X12_must_ fu I17 x16.2.2 R 28518) dX12_laking_108 ml_X12_369 rfl rg_100 lc_100 vq_12 (by decide) rfl (Nat.le_of_ble_eq_true rfl) (fun x18 => ?_)
      refine PWk.aload_n 1 dX12_laking_111 rfl ?_
      refine PWk.gets dX12_laking_112 rg_100 lc_100 fl_X12_75 rfl st_100_21 ?_
      refine PWk.iload_n 0 dX12_laking_115 rfl ?_
      refine PWk.aload_n 1 dX12_laking_116 rfl ?_
      refine PWk.iconst (v := 1) dX12_laking_117 ic_1 ?_
      refine PWk.iconst (v := 0) dX12_laking_118 ic_0 ?_
      refine PWk.callViIL (pc_X12_askedBut fu x18.1 x18.2 R 1 0) dX12_laking_119 ml_X12_379 rfl rg_100 lc_100 vq_12 (by decide) rfl (Nat.le_of_ble_eq_true rfl) (fun x19 => ?_)
      refine PWk.iast dX12_laking_122 rg_109 ly_109 ?_
      refine PWk.bI (fun I20 => ?_)
      refine PWk.aload_n 1 dX12_laking_123 rfl ?_
      refine PWk.geti dX12_laking_124 rg_100 lc_100 fl_X12_36 rfl ?_
      refine PWk.if_ne 143 dX12_laking_127 (by decide) (fun h23 => ?_) (fun h23 => ?_)
      · refine PWk.aload_n 1 dX12_laking_130 rfl ?_
        refine PWk.gets dX12_laking_131 rg_100 lc_100 fl_X12_66 rfl st_100_18 ?_
        refine PWk.aload_n 1 dX12_laking_134 rfl ?_
        refine PWk.geti dX12_laking_135 rg_100 lc_100 fl_X12_112 rfl ?_
        refine PWk.dup2 dX12_laking_138 rfl rfl ?_
        refine PWk.iald dX12_laking_139 rg_106 ly_106 (fun v21 => ?_)
        refine PWk.iconst (v := 1) dX12_laking_140 ic_1 ?_
        refine PWk.iadd dX12_laking_141 ?_
        refine PWk.iast dX12_laking_142 rg_106 ly_106 ?_
        refine PWk.bI (fun I22 => ?_)
        exact PWk.vret dX12_laking_143 rfl (fun h => h)
      · exact PWk.vret dX12_laking_143 rfl (fun h => h)
/-! LakeMarketModel.owing()V -/
def f_X12_owing (fu : Nat) (I : HI) (L : HL) : Option (HI × HL) :=
  (f_X12_counts fu I L 0).bind fun x1 =>
  if x1.1 = 0 then
    some (x1.2.1, x1.2.2)
  else
    (f_X12_askedBut fu x1.2.1 x1.2.2 1 0).bind fun x2 =>
    (f_X12_askedBut fu x2.2.1 x2.2.2 1 ((1 : Int32) <<< (x2.1 &&& 31))).bind fun x3 =>
    (f_X12_number fu x3.2.1 x3.2.2 0 999).bind fun x4 =>
    if (x4.2.1 100 8) = 0 then
      inb 72 ((6 * ((6 * (x4.2.1 100 33)) + x2.1)) + x3.1) <|
      bnd (sI x4.2.1 110 (((6 * ((6 * (x4.2.1 100 33)) + x2.1)) + x3.1) : Int32).toNatClampNeg x4.1) fun I5 =>
      some (I5, x4.2.2)
    else
      some (x4.2.1, x4.2.2)
set_option maxRecDepth 20000 in
theorem pc_X12_owing (fu : Nat) (I : HI) (L : HL) (R : HR) : PCo 100 147 3 yX12_owing cX12_owing 4 none [.ref 100] I L R (f_X12_owing fu I L) (fun x : HI × HL => ((none, x.1, x.2, R) : HF)) := by
  refine PCo.of (own := RX12) (by decide +kernel) (Nat.le_of_ble_eq_true rfl) rfl rfl (fun F => ?_)
  unfold f_X12_owing
  refine PWk.aload_n 0 dX12_owing_0 rfl ?_
  refine PWk.iconst (v := 0) dX12_owing_1 ic_0 ?_
  refine PWk.callViIL (pc_X12_counts fu I L R 0) dX12_owing_2 ml_X12_361 rfl rg_100 lc_100 vq_12 (by decide) rfl (Nat.le_of_ble_eq_true rfl) (fun x1 => ?_)
  refine PWk.if_ne 9 dX12_owing_5 (by decide) (fun h7 => ?_) (fun h7 => ?_)
  · exact PWk.vret dX12_owing_8 rfl (fun h => h)
  · refine PWk.aload_n 0 dX12_owing_9 rfl ?_
    refine PWk.iconst (v := 1) dX12_owing_10 ic_1 ?_
    refine PWk.iconst (v := 0) dX12_owing_11 ic_0 ?_
    refine PWk.callViIL (pc_X12_askedBut fu x1.2.1 x1.2.2 R 1 0) dX12_owing_12 ml_X12_379 rfl rg_100 lc_100 vq_12 (by decide) rfl (Nat.le_of_ble_eq_true rfl) (fun x2 => ?_)
    refine PWk.istore_n [(1, .int x2.1), (0, .ref 100)] dX12_owing_15 (by decide) rfl ?_
    refine PWk.aload_n 1 dX12_owing_16 rfl ?_
    refine PWk.iconst (v := 1) dX12_owing_17 ic_1 ?_
    refine PWk.iconst (v := 1) dX12_owing_18 ic_1 ?_
    refine PWk.iload_n 0 dX12_owing_19 rfl ?_
    refine PWk.ishl dX12_owing_20 ?_
    refine PWk.callViIL (pc_X12_askedBut fu x2.2.1 x2.2.2 R 1 ((1 : Int32) <<< (x2.1 &&& 31))) dX12_owing_21 ml_X12_379 rfl rg_100 lc_100 vq_12 (by decide) rfl (Nat.le_of_ble_eq_true rfl) (fun x3 => ?_)
    refine PWk.istore_n [(2, .int x3.1), (1, .int x2.1), (0, .ref 100)] dX12_owing_24 (by decide) rfl ?_
    refine PWk.aload_n 2 dX12_owing_25 rfl ?_
    refine PWk.iconst (v := 0) dX12_owing_26 ic_0 ?_
    refine PWk.sipush (v := 999) dX12_owing_27 sp_999 ?_
    refine PWk.callViIL (pc_X12_number fu x3.2.1 x3.2.2 R 0 999) dX12_owing_30 ml_X12_373 rfl rg_100 lc_100 vq_12 (by decide) rfl (Nat.le_of_ble_eq_true rfl) (fun x4 => ?_)
    refine PWk.istore_n [(3, .int x4.1), (2, .int x3.1), (1, .int x2.1), (0, .ref 100)] dX12_owing_33 (by decide) rfl ?_
    refine PWk.aload_n 3 dX12_owing_34 rfl ?_
    refine PWk.geti dX12_owing_35 rg_100 lc_100 fl_X12_36 rfl ?_
    refine PWk.if_ne 61 dX12_owing_38 (by decide) (fun h6 => ?_) (fun h6 => ?_)
    · refine PWk.aload_n 3 dX12_owing_41 rfl ?_
      refine PWk.gets dX12_owing_42 rg_100 lc_100 fl_X12_78 rfl st_100_22 ?_
      refine PWk.bipush (v := 6) dX12_owing_45 bp_6 ?_
      refine PWk.bipush (v := 6) dX12_owing_47 bp_6 ?_
      refine PWk.aload_n 3 dX12_owing_49 rfl ?_
      refine PWk.geti dX12_owing_50 rg_100 lc_100 fl_X12_112 rfl ?_
      refine PWk.imul dX12_owing_53 ?_
      refine PWk.iload_n 2 dX12_owing_54 rfl ?_
      refine PWk.iadd dX12_owing_55 ?_
      refine PWk.imul dX12_owing_56 ?_
      refine PWk.iload_n 1 dX12_owing_57 rfl ?_
      refine PWk.iadd dX12_owing_58 ?_
      refine PWk.iload_n 0 dX12_owing_59 rfl ?_
      refine PWk.iast dX12_owing_60 rg_110 ly_110 ?_
      refine PWk.bI (fun I5 => ?_)
      exact PWk.vret dX12_owing_61 rfl (fun h => h)
    · exact PWk.vret dX12_owing_61 rfl (fun h => h)
/-! LakeMarketModel.reading(I)V -/
def f_X12_reading (fu : Nat) (I : HI) (L : HL) (p1 : Int32) : Option (HI × HL) :=
  bnd (((3 * (I 100 33)) + p1)) fun v1 =>
  ldI (I 113) 6 v1 fun v2 =>
  jnt (β := Int32) (fun y5 =>
    (f_X12_counts fu I L y5).bind fun x6 =>
    if x6.1 = 0 then
      some (x6.2.1, x6.2.2)
    else
      jnt (β := Int32) (fun y10 =>
        bnd (sI x6.2.1 100 34 y10) fun I11 =>
        inb 6 v1 <|
        bnd (sI I11 113 (v1 : Int32).toNatClampNeg (I11 100 32)) fun I12 =>
        jnt (β := Int32) (fun y15 =>
          (f_X12_reads fu I12 x6.2.2 y15).bind fun x16 =>
          inb 6 v1 <|
          bnd (sI x16.1 114 (v1 : Int32).toNatClampNeg (x16.1 100 32)) fun I17 =>
          some (I17, x16.2)) fun j13 =>
        if p1 = 2 then
          j13 1
        else
          j13 0) fun j7 =>
      if p1 = 2 then
        j7 110
      else
        if p1 = 0 then
          j7 30
        else
          j7 14) fun j3 =>
  if v2 = (-1) then
    j3 0
  else
    j3 1
set_option maxRecDepth 20000 in
theorem pc_X12_reading (fu : Nat) (I : HI) (L : HL) (R : HR) (p1 : Int32) : PCo 100 147 5 yX12_reading cX12_reading 3 none [.ref 100, .int p1] I L R (f_X12_reading fu I L p1) (fun x : HI × HL => ((none, x.1, x.2, R) : HF)) := by
  refine PCo.of (own := RX12) (by decide +kernel) (Nat.le_of_ble_eq_true rfl) rfl rfl (fun F => ?_)
  unfold f_X12_reading
  refine PWk.iconst (v := 3) dX12_reading_0 ic_3 ?_
  refine PWk.aload_n 0 dX12_reading_1 rfl ?_
  refine PWk.geti dX12_reading_2 rg_100 lc_100 fl_X12_112 rfl ?_
  refine PWk.imul dX12_reading_5 ?_
  refine PWk.iload_n 1 dX12_reading_6 rfl ?_
  refine PWk.iadd dX12_reading_7 ?_
  refine PWk.bi (fun v1 => ?_)
  refine PWk.istore_n [(2, .int v1), (0, .ref 100), (1, .int p1)] dX12_reading_8 (by decide) rfl ?_
  refine PWk.aload_n 1 dX12_reading_9 rfl ?_
  refine PWk.aload_n 1 dX12_reading_10 rfl ?_
  refine PWk.gets dX12_reading_11 rg_100 lc_100 fl_X12_87 rfl st_100_25 ?_
  refine PWk.iload_n 0 dX12_reading_14 rfl ?_
  refine PWk.iald dX12_reading_15 rg_113 ly_113 (fun v2 => ?_)
  refine PWk.iconst (v := (-1)) dX12_reading_16 ic_m1 ?_
  refine PWk.jn (pc' := 25) (lv' := fun y5 => [(0, .ref 100), (1, .int p1), (2, .int v1)]) (st' := fun y5 => [.int y5, .ref 100]) (I' := fun y5 => I) (L' := fun y5 => L) (R' := fun y5 => R) (fun j3 hj3 => ?_) (fun y5 => ?_)
  · refine PWk.icmp_eq 24 dX12_reading_17 (by decide) (fun h4 => ?_) (fun h4 => ?_)
    · refine PWk.iconst (v := 0) dX12_reading_24 ic_0 ?_
      refine PWk.sub [1, 2, 0] rfl ?_
      exact hj3 0
    · refine PWk.iconst (v := 1) dX12_reading_20 ic_1 ?_
      refine PWk.goto 25 dX12_reading_21 (by decide) ?_
      refine PWk.sub [1, 2, 0] rfl ?_
      exact hj3 1
  · refine PWk.callViIL (pc_X12_counts fu I L R y5) dX12_reading_25 ml_X12_361 rfl rg_100 lc_100 vq_12 (by decide) rfl (Nat.le_of_ble_eq_true rfl) (fun x6 => ?_)
    refine PWk.if_ne 32 dX12_reading_28 (by decide) (fun h18 => ?_) (fun h18 => ?_)
    · exact PWk.vret dX12_reading_31 rfl (fun h => h)
    · refine PWk.aload_n 0 dX12_reading_32 rfl ?_
      refine PWk.iload_n 1 dX12_reading_33 rfl ?_
      refine PWk.iconst (v := 2) dX12_reading_34 ic_2 ?_
      refine PWk.jn (pc' := 54) (lv' := fun y10 => [(0, .ref 100), (1, .int p1), (2, .int v1)]) (st' := fun y10 => [.int y10, .ref 100]) (I' := fun y10 => x6.2.1) (L' := fun y10 => x6.2.2) (R' := fun y10 => R) (fun j7 hj7 => ?_) (fun y10 => ?_)
      · refine PWk.icmp_ne 43 dX12_reading_35 (by decide) (fun h9 => ?_) (fun h9 => ?_)
        · refine PWk.bipush (v := 110) dX12_reading_38 bp_110 ?_
          refine PWk.goto 54 dX12_reading_40 (by decide) ?_
          exact hj7 110
        · refine PWk.iload_n 1 dX12_reading_43 rfl ?_
          refine PWk.if_ne 52 dX12_reading_44 (by decide) (fun h8 => ?_) (fun h8 => ?_)
          · refine PWk.bipush (v := 30) dX12_reading_47 bp_30 ?_
            refine PWk.goto 54 dX12_reading_49 (by decide) ?_
            exact hj7 30
          · refine PWk.bipush (v := 14) dX12_reading_52 bp_14 ?_
            exact hj7 14
      · refine PWk.puti dX12_reading_54 rg_100 lc_100 fl_X12_115 fp_12_34 rfl ?_
        refine PWk.bI (fun I11 => ?_)
        refine PWk.aload_n 0 dX12_reading_57 rfl ?_
        refine PWk.gets dX12_reading_58 rg_100 lc_100 fl_X12_87 rfl st_100_25 ?_
        refine PWk.iload_n 2 dX12_reading_61 rfl ?_
        refine PWk.aload_n 0 dX12_reading_62 rfl ?_
        refine PWk.geti dX12_reading_63 rg_100 lc_100 fl_X12_109 rfl ?_
        refine PWk.iast dX12_reading_66 rg_113 ly_113 ?_
        refine PWk.bI (fun I12 => ?_)
        refine PWk.aload_n 0 dX12_reading_67 rfl ?_
        refine PWk.iload_n 1 dX12_reading_68 rfl ?_
        refine PWk.iconst (v := 2) dX12_reading_69 ic_2 ?_
        refine PWk.jn (pc' := 78) (lv' := fun y15 => [(0, .ref 100), (2, .int v1)]) (st' := fun y15 => [.int y15, .ref 100]) (I' := fun y15 => I12) (L' := fun y15 => x6.2.2) (R' := fun y15 => R) (fun j13 hj13 => ?_) (fun y15 => ?_)
        · refine PWk.icmp_ne 77 dX12_reading_70 (by decide) (fun h14 => ?_) (fun h14 => ?_)
          · refine PWk.iconst (v := 1) dX12_reading_73 ic_1 ?_
            refine PWk.goto 78 dX12_reading_74 (by decide) ?_
            refine PWk.sub [0, 2] rfl ?_
            exact hj13 1
          · refine PWk.iconst (v := 0) dX12_reading_77 ic_0 ?_
            refine PWk.sub [0, 2] rfl ?_
            exact hj13 0
        · refine PWk.callVvIL (pc_X12_reads fu I12 x6.2.2 R y15) dX12_reading_78 ml_X12_382 rfl rg_100 lc_100 vq_12 (by decide) rfl (Nat.le_of_ble_eq_true rfl) (fun x16 => ?_)
          refine PWk.aload_n 0 dX12_reading_81 rfl ?_
          refine PWk.gets dX12_reading_82 rg_100 lc_100 fl_X12_90 rfl st_100_26 ?_
          refine PWk.iload_n 1 dX12_reading_85 rfl ?_
          refine PWk.aload_n 0 dX12_reading_86 rfl ?_
          refine PWk.geti dX12_reading_87 rg_100 lc_100 fl_X12_109 rfl ?_
          refine PWk.iast dX12_reading_90 rg_114 ly_114 ?_
          refine PWk.bI (fun I17 => ?_)
          exact PWk.vret dX12_reading_91 rfl (fun h => h)
/-! LakeMarketModel.telling(Z)V -/
def f_X12_telling (fu : Nat) (I : HI) (L : HL) (p1 : Int32) : Option (HI × HL) :=
  (f_X12_counts fu I L 0).bind fun x1 =>
  if x1.1 = 0 then
    some (x1.2.1, x1.2.2)
  else
    jnt (β := Int32 × HI × HL) (fun y6 =>
      if (y6.2.1 100 8) ≤ 0 then
        if p1 = 0 then
          inb 2 (y6.2.1 100 33) <|
          bnd (sI y6.2.1 111 ((y6.2.1 100 33) : Int32).toNatClampNeg y6.1) fun I7 =>
          some (I7, y6.2.2)
        else
          inb 2 (y6.2.1 100 33) <|
          bnd (sI y6.2.1 112 ((y6.2.1 100 33) : Int32).toNatClampNeg y6.1) fun I8 =>
          some (I8, y6.2.2)
      else
        some (y6.2.1, y6.2.2)) fun j2 =>
    if p1 = 0 then
      (f_X12_number fu x1.2.1 x1.2.2 0 100).bind fun x3 =>
      j2 (x3.1, x3.2.1, x3.2.2)
    else
      (f_X12_number fu x1.2.1 x1.2.2 1 999).bind fun x4 =>
      j2 (x4.1, x4.2.1, x4.2.2)
set_option maxRecDepth 20000 in
theorem pc_X12_telling (fu : Nat) (I : HI) (L : HL) (R : HR) (p1 : Int32) : PCo 100 147 3 yX12_telling cX12_telling 3 none [.ref 100, .int p1] I L R (f_X12_telling fu I L p1) (fun x : HI × HL => ((none, x.1, x.2, R) : HF)) := by
  refine PCo.of (own := RX12) (by decide +kernel) (Nat.le_of_ble_eq_true rfl) rfl rfl (fun F => ?_)
  unfold f_X12_telling
  refine PWk.aload_n 0 dX12_telling_0 rfl ?_
  refine PWk.iconst (v := 0) dX12_telling_1 ic_0 ?_
  refine PWk.callViIL (pc_X12_counts fu I L R 0) dX12_telling_2 ml_X12_361 rfl rg_100 lc_100 vq_12 (by decide) rfl (Nat.le_of_ble_eq_true rfl) (fun x1 => ?_)
  refine PWk.if_ne 9 dX12_telling_5 (by decide) (fun h11 => ?_) (fun h11 => ?_)
  · exact PWk.vret dX12_telling_8 rfl (fun h => h)
  · refine PWk.iload_n 1 dX12_telling_9 rfl ?_
    refine PWk.jn (pc' := 31) (lv' := fun y6 => [(0, .ref 100), (1, .int p1)]) (st' := fun y6 => [.int y6.1]) (I' := fun y6 => y6.2.1) (L' := fun y6 => y6.2.2) (R' := fun y6 => R) (fun j2 hj2 => ?_) (fun y6 => ?_)
    · refine PWk.if_eq 24 dX12_telling_10 (by decide) (fun h5 => ?_) (fun h5 => ?_)
      · refine PWk.aload_n 0 dX12_telling_24 rfl ?_
        refine PWk.iconst (v := 0) dX12_telling_25 ic_0 ?_
        refine PWk.bipush (v := 100) dX12_telling_26 bp_100 ?_
        refine PWk.callViIL (pc_X12_number fu x1.2.1 x1.2.2 R 0 100) dX12_telling_28 ml_X12_373 rfl rg_100 lc_100 vq_12 (by decide) rfl (Nat.le_of_ble_eq_true rfl) (fun x3 => ?_)
        exact hj2 (x3.1, x3.2.1, x3.2.2)
      · refine PWk.aload_n 0 dX12_telling_13 rfl ?_
        refine PWk.iconst (v := 1) dX12_telling_14 ic_1 ?_
        refine PWk.sipush (v := 999) dX12_telling_15 sp_999 ?_
        refine PWk.callViIL (pc_X12_number fu x1.2.1 x1.2.2 R 1 999) dX12_telling_18 ml_X12_373 rfl rg_100 lc_100 vq_12 (by decide) rfl (Nat.le_of_ble_eq_true rfl) (fun x4 => ?_)
        refine PWk.goto 31 dX12_telling_21 (by decide) ?_
        exact hj2 (x4.1, x4.2.1, x4.2.2)
    · refine PWk.istore_n [(2, .int y6.1), (0, .ref 100), (1, .int p1)] dX12_telling_31 (by decide) rfl ?_
      refine PWk.aload_n 1 dX12_telling_32 rfl ?_
      refine PWk.geti dX12_telling_33 rg_100 lc_100 fl_X12_36 rfl ?_
      refine PWk.if_le 40 dX12_telling_36 (by decide) (fun h10 => ?_) (fun h10 => ?_)
      · refine PWk.iload_n 2 dX12_telling_40 rfl ?_
        refine PWk.if_eq 57 dX12_telling_41 (by decide) (fun h9 => ?_) (fun h9 => ?_)
        · refine PWk.aload_n 1 dX12_telling_57 rfl ?_
          refine PWk.gets dX12_telling_58 rg_100 lc_100 fl_X12_81 rfl st_100_23 ?_
          refine PWk.aload_n 1 dX12_telling_61 rfl ?_
          refine PWk.geti dX12_telling_62 rg_100 lc_100 fl_X12_112 rfl ?_
          refine PWk.iload_n 0 dX12_telling_65 rfl ?_
          refine PWk.iast dX12_telling_66 rg_111 ly_111 ?_
          refine PWk.bI (fun I7 => ?_)
          exact PWk.vret dX12_telling_67 rfl (fun h => h)
        · refine PWk.aload_n 1 dX12_telling_44 rfl ?_
          refine PWk.gets dX12_telling_45 rg_100 lc_100 fl_X12_84 rfl st_100_24 ?_
          refine PWk.aload_n 1 dX12_telling_48 rfl ?_
          refine PWk.geti dX12_telling_49 rg_100 lc_100 fl_X12_112 rfl ?_
          refine PWk.iload_n 0 dX12_telling_52 rfl ?_
          refine PWk.iast dX12_telling_53 rg_112 ly_112 ?_
          refine PWk.bI (fun I8 => ?_)
          refine PWk.goto 67 dX12_telling_54 (by decide) ?_
          exact PWk.vret dX12_telling_67 rfl (fun h => h)
      · exact PWk.vret dX12_telling_39 rfl (fun h => h)
/-! LakeMarketModel.statement()V -/
def f_X12_statement (fu : Nat) (I : HI) (L : HL) : Option (HI × HL) :=
  (f_X12_lex I).bind fun x1 =>
  if (x1 100 8) ≤ 0 then
    (f_X12_isWord x1 L 114827769704311).bind fun x2 =>
    if x2 = 0 then
      (f_X12_isWord x1 L 478745093490).bind fun x3 =>
      if x3 = 0 then
        (f_X12_isWord x1 L 1818323813).bind fun x4 =>
        if x4 = 0 then
          (f_X12_isWord x1 L 1870095731).bind fun x5 =>
          if x5 = 0 then
            (f_X12_isWord x1 L 465557351283).bind fun x6 =>
            if x6 = 0 then
              (f_X12_isWord x1 L 512970880104).bind fun x7 =>
              if x7 = 0 then
                (f_X12_isWord x1 L 7168377).bind fun x8 =>
                if x8 = 0 then
                  (f_X12_isWord x1 L 28273320707713140).bind fun x9 =>
                  if x9 = 0 then
                    (f_X12_isWord x1 L 426836653171).bind fun x10 =>
                    if x10 = 0 then
                      (f_X12_blame x1 1 (x1 100 4)).bind fun x11 =>
                      some (x11, L)
                    else
                      (f_X12_telling fu x1 L 1).bind fun x12 =>
                      some (x12.1, x12.2)
                  else
                    (f_X12_telling fu x1 L 0).bind fun x14 =>
                    some (x14.1, x14.2)
                else
                  (f_X12_reading fu x1 L 2).bind fun x16 =>
                  some (x16.1, x16.2)
              else
                (f_X12_reading fu x1 L 1).bind fun x18 =>
                some (x18.1, x18.2)
            else
              (f_X12_reading fu x1 L 0).bind fun x20 =>
              some (x20.1, x20.2)
          else
            (f_X12_owing fu x1 L).bind fun x22 =>
            some (x22.1, x22.2)
        else
          (f_X12_laking fu x1 L).bind fun x24 =>
          some (x24.1, x24.2)
      else
        (f_X12_owning fu x1 L).bind fun x26 =>
        some (x26.1, x26.2)
    else
      (f_X12_hollowing fu x1 L).bind fun x28 =>
      some (x28.1, x28.2)
  else
    some (x1, L)
set_option maxRecDepth 20000 in
theorem pc_X12_statement (fu : Nat) (I : HI) (L : HL) (R : HR) : PCo 100 147 6 yX12_statement cX12_statement 1 none [.ref 100] I L R (f_X12_statement fu I L) (fun x : HI × HL => ((none, x.1, x.2, R) : HF)) := by
  refine PCo.of (own := RX12) (by decide +kernel) (Nat.le_of_ble_eq_true rfl) rfl rfl (fun F => ?_)
  unfold f_X12_statement
  refine PWk.aload_n 0 dX12_statement_0 rfl ?_
  refine PWk.callVvI (pc_X12_lex I L R) dX12_statement_1 ml_X12_252 rfl rg_100 lc_100 vq_12 (by decide) rfl (Nat.le_of_ble_eq_true rfl) (fun x1 => ?_)
  refine PWk.aload_n 0 dX12_statement_4 rfl ?_
  refine PWk.geti dX12_statement_5 rg_100 lc_100 fl_X12_36 rfl ?_
  refine PWk.if_le 12 dX12_statement_8 (by decide) (fun h30 => ?_) (fun h30 => ?_)
  · refine PWk.aload_n 0 dX12_statement_12 rfl ?_
    refine PWk.ldc2 (v := 114827769704311) dX12_statement_13 kc_X12_261 ?_
    refine PWk.callVi (pc_X12_isWord x1 L R 114827769704311) dX12_statement_16 ml_X12_335 rfl rg_100 lc_100 vq_12 (by decide) rfl (Nat.le_of_ble_eq_true rfl) (fun x2 => ?_)
    refine PWk.if_eq 29 dX12_statement_19 (by decide) (fun h29 => ?_) (fun h29 => ?_)
    · refine PWk.aload_n 0 dX12_statement_29 rfl ?_
      refine PWk.ldc2 (v := 478745093490) dX12_statement_30 kc_X12_267 ?_
      refine PWk.callVi (pc_X12_isWord x1 L R 478745093490) dX12_statement_33 ml_X12_335 rfl rg_100 lc_100 vq_12 (by decide) rfl (Nat.le_of_ble_eq_true rfl) (fun x3 => ?_)
      refine PWk.if_eq 46 dX12_statement_36 (by decide) (fun h27 => ?_) (fun h27 => ?_)
      · refine PWk.aload_n 0 dX12_statement_46 rfl ?_
        refine PWk.ldc2 (v := 1818323813) dX12_statement_47 kc_X12_269 ?_
        refine PWk.callVi (pc_X12_isWord x1 L R 1818323813) dX12_statement_50 ml_X12_335 rfl rg_100 lc_100 vq_12 (by decide) rfl (Nat.le_of_ble_eq_true rfl) (fun x4 => ?_)
        refine PWk.if_eq 63 dX12_statement_53 (by decide) (fun h25 => ?_) (fun h25 => ?_)
        · refine PWk.aload_n 0 dX12_statement_63 rfl ?_
          refine PWk.ldc2 (v := 1870095731) dX12_statement_64 kc_X12_277 ?_
          refine PWk.callVi (pc_X12_isWord x1 L R 1870095731) dX12_statement_67 ml_X12_335 rfl rg_100 lc_100 vq_12 (by decide) rfl (Nat.le_of_ble_eq_true rfl) (fun x5 => ?_)
          refine PWk.if_eq 80 dX12_statement_70 (by decide) (fun h23 => ?_) (fun h23 => ?_)
          · refine PWk.aload_n 0 dX12_statement_80 rfl ?_
            refine PWk.ldc2 (v := 465557351283) dX12_statement_81 kc_X12_279 ?_
            refine PWk.callVi (pc_X12_isWord x1 L R 465557351283) dX12_statement_84 ml_X12_335 rfl rg_100 lc_100 vq_12 (by decide) rfl (Nat.le_of_ble_eq_true rfl) (fun x6 => ?_)
            refine PWk.if_eq 98 dX12_statement_87 (by decide) (fun h21 => ?_) (fun h21 => ?_)
            · refine PWk.aload_n 0 dX12_statement_98 rfl ?_
              refine PWk.ldc2 (v := 512970880104) dX12_statement_99 kc_X12_281 ?_
              refine PWk.callVi (pc_X12_isWord x1 L R 512970880104) dX12_statement_102 ml_X12_335 rfl rg_100 lc_100 vq_12 (by decide) rfl (Nat.le_of_ble_eq_true rfl) (fun x7 => ?_)
              refine PWk.if_eq 116 dX12_statement_105 (by decide) (fun h19 => ?_) (fun h19 => ?_)
              · refine PWk.aload_n 0 dX12_statement_116 rfl ?_
                refine PWk.ldc2 (v := 7168377) dX12_statement_117 kc_X12_283 ?_
                refine PWk.callVi (pc_X12_isWord x1 L R 7168377) dX12_statement_120 ml_X12_335 rfl rg_100 lc_100 vq_12 (by decide) rfl (Nat.le_of_ble_eq_true rfl) (fun x8 => ?_)
                refine PWk.if_eq 134 dX12_statement_123 (by decide) (fun h17 => ?_) (fun h17 => ?_)
                · refine PWk.aload_n 0 dX12_statement_134 rfl ?_
                  refine PWk.ldc2 (v := 28273320707713140) dX12_statement_135 kc_X12_309 ?_
                  refine PWk.callVi (pc_X12_isWord x1 L R 28273320707713140) dX12_statement_138 ml_X12_335 rfl rg_100 lc_100 vq_12 (by decide) rfl (Nat.le_of_ble_eq_true rfl) (fun x9 => ?_)
                  refine PWk.if_eq 152 dX12_statement_141 (by decide) (fun h15 => ?_) (fun h15 => ?_)
                  · refine PWk.aload_n 0 dX12_statement_152 rfl ?_
                    refine PWk.ldc2 (v := 426836653171) dX12_statement_153 kc_X12_285 ?_
                    refine PWk.callVi (pc_X12_isWord x1 L R 426836653171) dX12_statement_156 ml_X12_335 rfl rg_100 lc_100 vq_12 (by decide) rfl (Nat.le_of_ble_eq_true rfl) (fun x10 => ?_)
                    refine PWk.if_eq 170 dX12_statement_159 (by decide) (fun h13 => ?_) (fun h13 => ?_)
                    · refine PWk.aload_n 0 dX12_statement_170 rfl ?_
                      refine PWk.iconst (v := 1) dX12_statement_171 ic_1 ?_
                      refine PWk.aload_n 0 dX12_statement_172 rfl ?_
                      refine PWk.geti dX12_statement_173 rg_100 lc_100 fl_X12_23 rfl ?_
                      refine PWk.callVvI (pc_X12_blame x1 L R 1 (x1 100 4)) dX12_statement_176 ml_X12_237 rfl rg_100 lc_100 vq_12 (by decide) rfl (Nat.le_of_ble_eq_true rfl) (fun x11 => ?_)
                      exact PWk.vret dX12_statement_179 rfl (fun h => h)
                    · refine PWk.aload_n 0 dX12_statement_162 rfl ?_
                      refine PWk.iconst (v := 1) dX12_statement_163 ic_1 ?_
                      refine PWk.callVvIL (pc_X12_telling fu x1 L R 1) dX12_statement_164 ml_X12_401 rfl rg_100 lc_100 vq_12 (by decide) rfl (Nat.le_of_ble_eq_true rfl) (fun x12 => ?_)
                      refine PWk.goto 179 dX12_statement_167 (by decide) ?_
                      exact PWk.vret dX12_statement_179 rfl (fun h => h)
                  · refine PWk.aload_n 0 dX12_statement_144 rfl ?_
                    refine PWk.iconst (v := 0) dX12_statement_145 ic_0 ?_
                    refine PWk.callVvIL (pc_X12_telling fu x1 L R 0) dX12_statement_146 ml_X12_401 rfl rg_100 lc_100 vq_12 (by decide) rfl (Nat.le_of_ble_eq_true rfl) (fun x14 => ?_)
                    refine PWk.goto 179 dX12_statement_149 (by decide) ?_
                    exact PWk.vret dX12_statement_179 rfl (fun h => h)
                · refine PWk.aload_n 0 dX12_statement_126 rfl ?_
                  refine PWk.iconst (v := 2) dX12_statement_127 ic_2 ?_
                  refine PWk.callVvIL (pc_X12_reading fu x1 L R 2) dX12_statement_128 ml_X12_398 rfl rg_100 lc_100 vq_12 (by decide) rfl (Nat.le_of_ble_eq_true rfl) (fun x16 => ?_)
                  refine PWk.goto 179 dX12_statement_131 (by decide) ?_
                  exact PWk.vret dX12_statement_179 rfl (fun h => h)
              · refine PWk.aload_n 0 dX12_statement_108 rfl ?_
                refine PWk.iconst (v := 1) dX12_statement_109 ic_1 ?_
                refine PWk.callVvIL (pc_X12_reading fu x1 L R 1) dX12_statement_110 ml_X12_398 rfl rg_100 lc_100 vq_12 (by decide) rfl (Nat.le_of_ble_eq_true rfl) (fun x18 => ?_)
                refine PWk.goto 179 dX12_statement_113 (by decide) ?_
                exact PWk.vret dX12_statement_179 rfl (fun h => h)
            · refine PWk.aload_n 0 dX12_statement_90 rfl ?_
              refine PWk.iconst (v := 0) dX12_statement_91 ic_0 ?_
              refine PWk.callVvIL (pc_X12_reading fu x1 L R 0) dX12_statement_92 ml_X12_398 rfl rg_100 lc_100 vq_12 (by decide) rfl (Nat.le_of_ble_eq_true rfl) (fun x20 => ?_)
              refine PWk.goto 179 dX12_statement_95 (by decide) ?_
              exact PWk.vret dX12_statement_179 rfl (fun h => h)
          · refine PWk.aload_n 0 dX12_statement_73 rfl ?_
            refine PWk.callVvIL (pc_X12_owing fu x1 L R) dX12_statement_74 ml_X12_395 rfl rg_100 lc_100 vq_12 (by decide) rfl (Nat.le_of_ble_eq_true rfl) (fun x22 => ?_)
            refine PWk.goto 179 dX12_statement_77 (by decide) ?_
            exact PWk.vret dX12_statement_179 rfl (fun h => h)
        · refine PWk.aload_n 0 dX12_statement_56 rfl ?_
          refine PWk.callVvIL (pc_X12_laking fu x1 L R) dX12_statement_57 ml_X12_392 rfl rg_100 lc_100 vq_12 (by decide) rfl (Nat.le_of_ble_eq_true rfl) (fun x24 => ?_)
          refine PWk.goto 179 dX12_statement_60 (by decide) ?_
          exact PWk.vret dX12_statement_179 rfl (fun h => h)
      · refine PWk.aload_n 0 dX12_statement_39 rfl ?_
        refine PWk.callVvIL (pc_X12_owning fu x1 L R) dX12_statement_40 ml_X12_389 rfl rg_100 lc_100 vq_12 (by decide) rfl (Nat.le_of_ble_eq_true rfl) (fun x26 => ?_)
        refine PWk.goto 179 dX12_statement_43 (by decide) ?_
        exact PWk.vret dX12_statement_179 rfl (fun h => h)
    · refine PWk.aload_n 0 dX12_statement_22 rfl ?_
      refine PWk.callVvIL (pc_X12_hollowing fu x1 L R) dX12_statement_23 ml_X12_386 rfl rg_100 lc_100 vq_12 (by decide) rfl (Nat.le_of_ble_eq_true rfl) (fun x28 => ?_)
      refine PWk.goto 179 dX12_statement_26 (by decide) ?_
      exact PWk.vret dX12_statement_179 rfl (fun h => h)
  · exact PWk.vret dX12_statement_11 rfl (fun h => h)
/-! LakeMarketModel.finishes(I)V -/
def f_X12_finishes_L17 : Nat → HI → Int32 → Option (Int32)
  | 0, _, _ => none
  | n + 1, I, u2 =>
    if (I 100 2) ≤ u2 then
      some u2
    else
      ldI (I 101) 1800 u2 fun v3 =>
      jnt (β := Unit) (fun y8 =>
        f_X12_finishes_L17 n I (u2 + 1)) fun j4 =>
      if v3 = 32 then
        j4 ()
      else
        ldI (I 101) 1800 u2 fun v5 =>
        if v5 = 10 then
          j4 ()
        else
          some u2
def f_X12_finishes (fu : Nat) (I : HI) (L : HL) (p1 : Int32) : Option (HI × HL) :=
  (f_X12_lex I).bind fun x1 =>
  if (x1 100 8) ≤ 0 then
    bnd ((x1 100 5)) fun v2 =>
    (f_X12_finishes_L17 fu x1 v2).bind fun x10 =>
    (f_X12_isSign x1 59).bind fun x11 =>
    jnt (β := HI) (fun y17 =>
      (f_X12_must fu y17 L 59).bind fun x18 =>
      some (x18.1, x18.2)) fun j12 =>
    if x11 = 0 then
      j12 x1
    else
      if p1 = 80 then
        if (x1 100 2) ≤ x10 then
          j12 x1
        else
          (f_X12_blame x1 6 x10).bind fun x13 =>
          j12 x13
      else
        j12 x1
  else
    some (x1, L)
set_option maxRecDepth 20000 in
theorem lp_X12_finishes_17 (fu : Nat) (u1 : Int32) (I : HI) (L : HL) (R : HR) : ∀ (n : Nat) (u2 : Int32) (N : (Int32) → Prop) (F : HF), (∀ v : Int32, N v → PW 100 147 3 RX12 cX12_finishes 3 none 53 [(0, .ref 100), (1, .int u1), (2, .int v)] [] I L R F) → PWk 100 147 3 RX12 cX12_finishes 3 none 17 [(0, .ref 100), (1, .int u1), (2, .int u2)] [] I L R (f_X12_finishes_L17 n I u2) N F := by
  intro n
  induction n with
  | zero => intro u2 N F hx; exact PWk.none'
  | succ n ih =>
    intro u2 N F hx
    unfold f_X12_finishes_L17
    refine PWk.iload_n 2 dX12_finishes_17 rfl ?_
    refine PWk.aload_n 0 dX12_finishes_18 rfl ?_
    refine PWk.geti dX12_finishes_19 rg_100 lc_100 fl_X12_17 rfl ?_
    refine PWk.icmp_ge 53 dX12_finishes_22 (by decide) (fun h9 => ?_) (fun h9 => ?_)
    · exact PWk.done (fun h => hx _ h)
    · refine PWk.aload_n 0 dX12_finishes_25 rfl ?_
      refine PWk.gets dX12_finishes_26 rg_100 lc_100 fl_X12_7 rfl st_100_0 ?_
      refine PWk.iload_n 2 dX12_finishes_29 rfl ?_
      refine PWk.iald dX12_finishes_30 rg_101 ly_101 (fun v3 => ?_)
      refine PWk.bipush (v := 32) dX12_finishes_31 bp_32 ?_
      refine PWk.jn (pc' := 47) (lv' := fun y8 => [(0, .ref 100), (1, .int u1), (2, .int u2)]) (st' := fun y8 => []) (I' := fun y8 => I) (L' := fun y8 => L) (R' := fun y8 => R) (fun j4 hj4 => ?_) (fun y8 => ?_)
      · refine PWk.icmp_eq 47 dX12_finishes_33 (by decide) (fun h7 => ?_) (fun h7 => ?_)
        · exact hj4 ()
        · refine PWk.aload_n 0 dX12_finishes_36 rfl ?_
          refine PWk.gets dX12_finishes_37 rg_100 lc_100 fl_X12_7 rfl st_100_0 ?_
          refine PWk.iload_n 2 dX12_finishes_40 rfl ?_
          refine PWk.iald dX12_finishes_41 rg_101 ly_101 (fun v5 => ?_)
          refine PWk.bipush (v := 10) dX12_finishes_42 bp_10 ?_
          refine PWk.icmp_ne 53 dX12_finishes_44 (by decide) (fun h6 => ?_) (fun h6 => ?_)
          · exact hj4 ()
          · exact PWk.done (fun h => hx _ h)
      · refine PWk.iinc (v := (u2 + 1)) 2 [(2, .int (u2 + 1)), (0, .ref 100), (1, .int u1)] dX12_finishes_47 rfl (by rw [ic_1]) (by decide) rfl ?_
        refine PWk.goto 17 dX12_finishes_50 (by decide) ?_
        refine PWk.sub [1, 2, 0] rfl ?_
        exact ih (u2 + 1) N F hx
set_option maxRecDepth 20000 in
theorem pc_X12_finishes (fu : Nat) (I : HI) (L : HL) (R : HR) (p1 : Int32) : PCo 100 147 3 yX12_finishes cX12_finishes 3 none [.ref 100, .int p1] I L R (f_X12_finishes fu I L p1) (fun x : HI × HL => ((none, x.1, x.2, R) : HF)) := by
  refine PCo.of (own := RX12) (by decide +kernel) (Nat.le_of_ble_eq_true rfl) rfl rfl (fun F => ?_)
  unfold f_X12_finishes
  refine PWk.aload_n 0 dX12_finishes_0 rfl ?_
  refine PWk.callVvI (pc_X12_lex I L R) dX12_finishes_1 ml_X12_252 rfl rg_100 lc_100 vq_12 (by decide) rfl (Nat.le_of_ble_eq_true rfl) (fun x1 => ?_)
  refine PWk.aload_n 0 dX12_finishes_4 rfl ?_
  refine PWk.geti dX12_finishes_5 rg_100 lc_100 fl_X12_36 rfl ?_
  refine PWk.if_le 12 dX12_finishes_8 (by decide) (fun h19 => ?_) (fun h19 => ?_)
  · refine PWk.aload_n 0 dX12_finishes_12 rfl ?_
    refine PWk.geti dX12_finishes_13 rg_100 lc_100 fl_X12_26 rfl ?_
    refine PWk.bi (fun v2 => ?_)
    refine PWk.istore_n [(2, .int v2), (0, .ref 100), (1, .int p1)] dX12_finishes_16 (by decide) rfl ?_
    refine PWk.sub [1, 2, 0] rfl ?_
    refine PWk.loopV (fun N' hx' => lp_X12_finishes_17 fu p1 x1 L R fu v2 N' F hx') (fun x10 => ?_)
    refine PWk.aload_n 0 dX12_finishes_53 rfl ?_
    refine PWk.bipush (v := 59) dX12_finishes_54 bp_59 ?_
    refine PWk.callVi (pc_X12_isSign x1 L R 59) dX12_finishes_56 ml_X12_255 rfl rg_100 lc_100 vq_12 (by decide) rfl (Nat.le_of_ble_eq_true rfl) (fun x11 => ?_)
    refine PWk.jn (pc' := 83) (lv' := fun y17 => [(0, .ref 100)]) (st' := fun y17 => []) (I' := fun y17 => y17) (L' := fun y17 => L) (R' := fun y17 => R) (fun j12 hj12 => ?_) (fun y17 => ?_)
    · refine PWk.if_eq 83 dX12_finishes_59 (by decide) (fun h16 => ?_) (fun h16 => ?_)
      · refine PWk.sub [0] rfl ?_
        exact hj12 x1
      · refine PWk.iload_n 1 dX12_finishes_62 rfl ?_
        refine PWk.bipush (v := 80) dX12_finishes_63 bp_80 ?_
        refine PWk.icmp_ne 83 dX12_finishes_65 (by decide) (fun h15 => ?_) (fun h15 => ?_)
        · refine PWk.iload_n 2 dX12_finishes_68 rfl ?_
          refine PWk.aload_n 0 dX12_finishes_69 rfl ?_
          refine PWk.geti dX12_finishes_70 rg_100 lc_100 fl_X12_17 rfl ?_
          refine PWk.icmp_ge 83 dX12_finishes_73 (by decide) (fun h14 => ?_) (fun h14 => ?_)
          · refine PWk.sub [0] rfl ?_
            exact hj12 x1
          · refine PWk.aload_n 0 dX12_finishes_76 rfl ?_
            refine PWk.bipush (v := 6) dX12_finishes_77 bp_6 ?_
            refine PWk.iload_n 2 dX12_finishes_79 rfl ?_
            refine PWk.callVvI (pc_X12_blame x1 L R 6 x10) dX12_finishes_80 ml_X12_237 rfl rg_100 lc_100 vq_12 (by decide) rfl (Nat.le_of_ble_eq_true rfl) (fun x13 => ?_)
            refine PWk.sub [0] rfl ?_
            exact hj12 x13
        · refine PWk.sub [0] rfl ?_
          exact hj12 x1
    · refine PWk.aload_n 0 dX12_finishes_83 rfl ?_
      refine PWk.bipush (v := 59) dX12_finishes_84 bp_59 ?_
      refine PWk.callVvIL (pc_X12_must fu y17 L R 59) dX12_finishes_86 ml_X12_404 rfl rg_100 lc_100 vq_12 (by decide) rfl (Nat.le_of_ble_eq_true rfl) (fun x18 => ?_)
      exact PWk.vret dX12_finishes_89 rfl (fun h => h)
  · exact PWk.vret dX12_finishes_11 rfl (fun h => h)
/-! LakeMarketModel.lowland()I -/
def f_X12_lowland_L128 (fu : Nat) : Nat → HI → HL → Int32 → Option (Int32 × HI × HL)
  | 0, _, _, _ => none
  | n + 1, I, L, u1 =>
    if (I 100 8) = 0 then
      if (I 100 3) = 0 then
        some (u1, I, L)
      else
        (f_X12_statement fu I L).bind fun x17 =>
        (f_X12_finishes fu x17.1 x17.2 (u1 + 1)).bind fun x18 =>
        f_X12_lowland_L128 fu n x18.1 x18.2 (u1 + 1)
    else
      some (u1, I, L)
def f_X12_lowland_L92 : Nat → HI → Int32 → Option (HI)
  | 0, _, _ => none
  | n + 1, I, u1 =>
    if 3 ≤ u1 then
      some I
    else
      inb 6 ((3 * (I 100 33)) + u1) <|
      bnd (sI I 113 (((3 * (I 100 33)) + u1) : Int32).toNatClampNeg (-1)) fun I12 =>
      f_X12_lowland_L92 n I12 (u1 + 1)
def f_X12_lowland (fu : Nat) (I : HI) (L : HL) : Option (Int32 × HI × HL) :=
  bnd (sI I 100 2 (I 100 1)) fun I1 =>
  bnd (sI I1 100 1 0) fun I2 =>
  bnd (sI I2 100 5 0) fun I3 =>
  bnd (sI I3 100 8 0) fun I4 =>
  bnd (sI I4 100 9 (-1)) fun I5 =>
  bnd (sI I5 100 33 (1 - (I5 100 13))) fun I6 =>
  inb 2 (I6 100 33) <|
  bnd (sI I6 102 ((I6 100 33) : Int32).toNatClampNeg 0) fun I7 =>
  inb 2 (I7 100 33) <|
  bnd (sI I7 105 ((I7 100 33) : Int32).toNatClampNeg 0) fun I8 =>
  inb 2 (I8 100 33) <|
  bnd (sI I8 106 ((I8 100 33) : Int32).toNatClampNeg 0) fun I9 =>
  inb 2 (I9 100 33) <|
  bnd (sI I9 111 ((I9 100 33) : Int32).toNatClampNeg 0) fun I10 =>
  inb 2 (I10 100 33) <|
  bnd (sI I10 112 ((I10 100 33) : Int32).toNatClampNeg 999) fun I11 =>
  (f_X12_lowland_L92 fu I11 0).bind fun x14 =>
  bnd (sI x14 100 32 0) fun I15 =>
  (f_X12_ahead fu I15 L).bind fun x16 =>
  (f_X12_lowland_L128 fu fu x16.1 x16.2 0).bind fun x21 =>
  bnd (sI x21.2.1 100 10 (x21.2.1 100 8)) fun I22 =>
  bnd (sI I22 100 11 (I22 100 9)) fun I23 =>
  if (I23 100 8) ≤ 0 then
    bnd (sI I23 100 13 (I23 100 33)) fun I24 =>
    (f_X12_begin fu I24).bind fun x25 =>
    some (x21.1, x25, x21.2.2)
  else
    (f_X12_refuses I23 1).bind fun x26 =>
    some (x26.1, x26.2, x21.2.2)
set_option maxRecDepth 20000 in
theorem lp_X12_lowland_128 (fu : Nat) (R : HR) : ∀ (n : Nat) (u1 : Int32) (I : HI) (L : HL) (N : (Int32 × HI × HL) → Prop) (F : HF), (∀ v : Int32 × HI × HL, N v → PW 100 147 7 RX12 cX12_lowland 2 (some .int) 157 [(0, .ref 100), (1, .int v.1)] [] v.2.1 v.2.2 R F) → PWk 100 147 7 RX12 cX12_lowland 2 (some .int) 128 [(0, .ref 100), (1, .int u1)] [] I L R (f_X12_lowland_L128 fu n I L u1) N F := by
  intro n
  induction n with
  | zero => intro u1 I L N F hx; exact PWk.none'
  | succ n ih =>
    intro u1 I L N F hx
    unfold f_X12_lowland_L128
    refine PWk.aload_n 0 dX12_lowland_128 rfl ?_
    refine PWk.geti dX12_lowland_129 rg_100 lc_100 fl_X12_36 rfl ?_
    refine PWk.if_ne 157 dX12_lowland_132 (by decide) (fun h20 => ?_) (fun h20 => ?_)
    · refine PWk.aload_n 0 dX12_lowland_135 rfl ?_
      refine PWk.geti dX12_lowland_136 rg_100 lc_100 fl_X12_20 rfl ?_
      refine PWk.if_eq 157 dX12_lowland_139 (by decide) (fun h19 => ?_) (fun h19 => ?_)
      · exact PWk.done (fun h => hx _ h)
      · refine PWk.aload_n 0 dX12_lowland_142 rfl ?_
        refine PWk.callVvIL (pc_X12_statement fu I L R) dX12_lowland_143 ml_X12_406 rfl rg_100 lc_100 vq_12 (by decide) rfl (Nat.le_of_ble_eq_true rfl) (fun x17 => ?_)
        refine PWk.iinc (v := (u1 + 1)) 1 [(1, .int (u1 + 1)), (0, .ref 100)] dX12_lowland_146 rfl (by rw [ic_1]) (by decide) rfl ?_
        refine PWk.aload_n 1 dX12_lowland_149 rfl ?_
        refine PWk.iload_n 0 dX12_lowland_150 rfl ?_
        refine PWk.callVvIL (pc_X12_finishes fu x17.1 x17.2 R (u1 + 1)) dX12_lowland_151 ml_X12_409 rfl rg_100 lc_100 vq_12 (by decide) rfl (Nat.le_of_ble_eq_true rfl) (fun x18 => ?_)
        refine PWk.goto 128 dX12_lowland_154 (by decide) ?_
        refine PWk.sub [1, 0] rfl ?_
        exact ih (u1 + 1) x18.1 x18.2 N F hx
    · exact PWk.done (fun h => hx _ h)
set_option maxRecDepth 20000 in
theorem lp_X12_lowland_92 (fu : Nat) (L : HL) (R : HR) : ∀ (n : Nat) (u1 : Int32) (I : HI) (N : (HI) → Prop) (F : HF), (∀ v : HI, N v → PW 100 147 7 RX12 cX12_lowland 2 (some .int) 117 [(0, .ref 100)] [] v L R F) → PWk 100 147 7 RX12 cX12_lowland 2 (some .int) 92 [(0, .ref 100), (1, .int u1)] [] I L R (f_X12_lowland_L92 n I u1) N F := by
  intro n
  induction n with
  | zero => intro u1 I N F hx; exact PWk.none'
  | succ n ih =>
    intro u1 I N F hx
    unfold f_X12_lowland_L92
    refine PWk.iload_n 1 dX12_lowland_92 rfl ?_
    refine PWk.iconst (v := 3) dX12_lowland_93 ic_3 ?_
    refine PWk.icmp_ge 117 dX12_lowland_94 (by decide) (fun h13 => ?_) (fun h13 => ?_)
    · refine PWk.sub [0] rfl ?_
      exact PWk.done (fun h => hx _ h)
    · refine PWk.aload_n 0 dX12_lowland_97 rfl ?_
      refine PWk.gets dX12_lowland_98 rg_100 lc_100 fl_X12_87 rfl st_100_25 ?_
      refine PWk.iconst (v := 3) dX12_lowland_101 ic_3 ?_
      refine PWk.aload_n 0 dX12_lowland_102 rfl ?_
      refine PWk.geti dX12_lowland_103 rg_100 lc_100 fl_X12_112 rfl ?_
      refine PWk.imul dX12_lowland_106 ?_
      refine PWk.iload_n 1 dX12_lowland_107 rfl ?_
      refine PWk.iadd dX12_lowland_108 ?_
      refine PWk.iconst (v := (-1)) dX12_lowland_109 ic_m1 ?_
      refine PWk.iast dX12_lowland_110 rg_113 ly_113 ?_
      refine PWk.bI (fun I12 => ?_)
      refine PWk.iinc (v := (u1 + 1)) 1 [(1, .int (u1 + 1)), (0, .ref 100)] dX12_lowland_111 rfl (by rw [ic_1]) (by decide) rfl ?_
      refine PWk.goto 92 dX12_lowland_114 (by decide) ?_
      refine PWk.sub [1, 0] rfl ?_
      exact ih (u1 + 1) I12 N F hx
set_option maxRecDepth 20000 in
theorem pc_X12_lowland (fu : Nat) (I : HI) (L : HL) (R : HR) : PCo 100 147 7 yX12_lowland cX12_lowland 2 (some .int) [.ref 100] I L R (f_X12_lowland fu I L) (fun x : Int32 × HI × HL => ((some (.int x.1), x.2.1, x.2.2, R) : HF)) := by
  refine PCo.of (own := RX12) (by decide +kernel) (Nat.le_of_ble_eq_true rfl) rfl rfl (fun F => ?_)
  unfold f_X12_lowland
  refine PWk.aload_n 0 dX12_lowland_0 rfl ?_
  refine PWk.aload_n 0 dX12_lowland_1 rfl ?_
  refine PWk.geti dX12_lowland_2 rg_100 lc_100 fl_X12_13 rfl ?_
  refine PWk.puti dX12_lowland_5 rg_100 lc_100 fl_X12_17 fp_12_2 rfl ?_
  refine PWk.bI (fun I1 => ?_)
  refine PWk.aload_n 0 dX12_lowland_8 rfl ?_
  refine PWk.iconst (v := 0) dX12_lowland_9 ic_0 ?_
  refine PWk.puti dX12_lowland_10 rg_100 lc_100 fl_X12_13 fp_12_1 rfl ?_
  refine PWk.bI (fun I2 => ?_)
  refine PWk.aload_n 0 dX12_lowland_13 rfl ?_
  refine PWk.iconst (v := 0) dX12_lowland_14 ic_0 ?_
  refine PWk.puti dX12_lowland_15 rg_100 lc_100 fl_X12_26 fp_12_5 rfl ?_
  refine PWk.bI (fun I3 => ?_)
  refine PWk.aload_n 0 dX12_lowland_18 rfl ?_
  refine PWk.iconst (v := 0) dX12_lowland_19 ic_0 ?_
  refine PWk.puti dX12_lowland_20 rg_100 lc_100 fl_X12_36 fp_12_8 rfl ?_
  refine PWk.bI (fun I4 => ?_)
  refine PWk.aload_n 0 dX12_lowland_23 rfl ?_
  refine PWk.iconst (v := (-1)) dX12_lowland_24 ic_m1 ?_
  refine PWk.puti dX12_lowland_25 rg_100 lc_100 fl_X12_39 fp_12_9 rfl ?_
  refine PWk.bI (fun I5 => ?_)
  refine PWk.aload_n 0 dX12_lowland_28 rfl ?_
  refine PWk.iconst (v := 1) dX12_lowland_29 ic_1 ?_
  refine PWk.aload_n 0 dX12_lowland_30 rfl ?_
  refine PWk.geti dX12_lowland_31 rg_100 lc_100 fl_X12_51 rfl ?_
  refine PWk.isub dX12_lowland_34 ?_
  refine PWk.puti dX12_lowland_35 rg_100 lc_100 fl_X12_112 fp_12_33 rfl ?_
  refine PWk.bI (fun I6 => ?_)
  refine PWk.aload_n 0 dX12_lowland_38 rfl ?_
  refine PWk.gets dX12_lowland_39 rg_100 lc_100 fl_X12_54 rfl st_100_14 ?_
  refine PWk.aload_n 0 dX12_lowland_42 rfl ?_
  refine PWk.geti dX12_lowland_43 rg_100 lc_100 fl_X12_112 rfl ?_
  refine PWk.iconst (v := 0) dX12_lowland_46 ic_0 ?_
  refine PWk.iast dX12_lowland_47 rg_102 ly_102 ?_
  refine PWk.bI (fun I7 => ?_)
  refine PWk.aload_n 0 dX12_lowland_48 rfl ?_
  refine PWk.gets dX12_lowland_49 rg_100 lc_100 fl_X12_63 rfl st_100_17 ?_
  refine PWk.aload_n 0 dX12_lowland_52 rfl ?_
  refine PWk.geti dX12_lowland_53 rg_100 lc_100 fl_X12_112 rfl ?_
  refine PWk.iconst (v := 0) dX12_lowland_56 ic_0 ?_
  refine PWk.iast dX12_lowland_57 rg_105 ly_105 ?_
  refine PWk.bI (fun I8 => ?_)
  refine PWk.aload_n 0 dX12_lowland_58 rfl ?_
  refine PWk.gets dX12_lowland_59 rg_100 lc_100 fl_X12_66 rfl st_100_18 ?_
  refine PWk.aload_n 0 dX12_lowland_62 rfl ?_
  refine PWk.geti dX12_lowland_63 rg_100 lc_100 fl_X12_112 rfl ?_
  refine PWk.iconst (v := 0) dX12_lowland_66 ic_0 ?_
  refine PWk.iast dX12_lowland_67 rg_106 ly_106 ?_
  refine PWk.bI (fun I9 => ?_)
  refine PWk.aload_n 0 dX12_lowland_68 rfl ?_
  refine PWk.gets dX12_lowland_69 rg_100 lc_100 fl_X12_81 rfl st_100_23 ?_
  refine PWk.aload_n 0 dX12_lowland_72 rfl ?_
  refine PWk.geti dX12_lowland_73 rg_100 lc_100 fl_X12_112 rfl ?_
  refine PWk.iconst (v := 0) dX12_lowland_76 ic_0 ?_
  refine PWk.iast dX12_lowland_77 rg_111 ly_111 ?_
  refine PWk.bI (fun I10 => ?_)
  refine PWk.aload_n 0 dX12_lowland_78 rfl ?_
  refine PWk.gets dX12_lowland_79 rg_100 lc_100 fl_X12_84 rfl st_100_24 ?_
  refine PWk.aload_n 0 dX12_lowland_82 rfl ?_
  refine PWk.geti dX12_lowland_83 rg_100 lc_100 fl_X12_112 rfl ?_
  refine PWk.sipush (v := 999) dX12_lowland_86 sp_999 ?_
  refine PWk.iast dX12_lowland_89 rg_112 ly_112 ?_
  refine PWk.bI (fun I11 => ?_)
  refine PWk.iconst (v := 0) dX12_lowland_90 ic_0 ?_
  refine PWk.istore_n [(1, .int 0), (0, .ref 100)] dX12_lowland_91 (by decide) rfl ?_
  refine PWk.sub [1, 0] rfl ?_
  refine PWk.loopV (fun N' hx' => lp_X12_lowland_92 fu L R fu 0 I11 N' F hx') (fun x14 => ?_)
  refine PWk.aload_n 0 dX12_lowland_117 rfl ?_
  refine PWk.iconst (v := 0) dX12_lowland_118 ic_0 ?_
  refine PWk.puti dX12_lowland_119 rg_100 lc_100 fl_X12_109 fp_12_32 rfl ?_
  refine PWk.bI (fun I15 => ?_)
  refine PWk.iconst (v := 0) dX12_lowland_122 ic_0 ?_
  refine PWk.istore_n [(1, .int 0), (0, .ref 100)] dX12_lowland_123 (by decide) rfl ?_
  refine PWk.aload_n 1 dX12_lowland_124 rfl ?_
  refine PWk.callVvIL (pc_X12_ahead fu I15 L R) dX12_lowland_125 ml_X12_258 rfl rg_100 lc_100 vq_12 (by decide) rfl (Nat.le_of_ble_eq_true rfl) (fun x16 => ?_)
  refine PWk.sub [1, 0] rfl ?_
  refine PWk.loopV (fun N' hx' => lp_X12_lowland_128 fu R fu 0 x16.1 x16.2 N' F hx') (fun x21 => ?_)
  refine PWk.aload_n 0 dX12_lowland_157 rfl ?_
  refine PWk.aload_n 0 dX12_lowland_158 rfl ?_
  refine PWk.geti dX12_lowland_159 rg_100 lc_100 fl_X12_36 rfl ?_
  refine PWk.puti dX12_lowland_162 rg_100 lc_100 fl_X12_42 fp_12_10 rfl ?_
  refine PWk.bI (fun I22 => ?_)
  refine PWk.aload_n 0 dX12_lowland_165 rfl ?_
  refine PWk.aload_n 0 dX12_lowland_166 rfl ?_
  refine PWk.geti dX12_lowland_167 rg_100 lc_100 fl_X12_39 rfl ?_
  refine PWk.puti dX12_lowland_170 rg_100 lc_100 fl_X12_45 fp_12_11 rfl ?_
  refine PWk.bI (fun I23 => ?_)
  refine PWk.aload_n 0 dX12_lowland_173 rfl ?_
  refine PWk.geti dX12_lowland_174 rg_100 lc_100 fl_X12_36 rfl ?_
  refine PWk.if_le 186 dX12_lowland_177 (by decide) (fun h27 => ?_) (fun h27 => ?_)
  · refine PWk.aload_n 0 dX12_lowland_186 rfl ?_
    refine PWk.aload_n 0 dX12_lowland_187 rfl ?_
    refine PWk.geti dX12_lowland_188 rg_100 lc_100 fl_X12_112 rfl ?_
    refine PWk.puti dX12_lowland_191 rg_100 lc_100 fl_X12_51 fp_12_13 rfl ?_
    refine PWk.bI (fun I24 => ?_)
    refine PWk.aload_n 0 dX12_lowland_194 rfl ?_
    refine PWk.callVvI (pc_X12_begin fu I24 x21.2.2 R) dX12_lowland_195 ml_X12_412 rfl rg_100 lc_100 vq_12 (by decide) rfl (Nat.le_of_ble_eq_true rfl) (fun x25 => ?_)
    refine PWk.iload_n 1 dX12_lowland_198 rfl ?_
    exact PWk.iret dX12_lowland_199 rfl (fun h => h)
  · refine PWk.aload_n 0 dX12_lowland_180 rfl ?_
    refine PWk.iconst (v := 1) dX12_lowland_181 ic_1 ?_
    refine PWk.callViI (pc_X12_refuses I23 x21.2.2 R 1) dX12_lowland_182 ml_X12_229 rfl rg_100 lc_100 vq_12 (by decide) rfl (Nat.le_of_ble_eq_true rfl) (fun x26 => ?_)
    exact PWk.iret dX12_lowland_185 rfl (fun h => h)
/-! LakeMarketModel.stood()I -/
def f_X12_stood_L100 : Nat → HI → Int32 → Option (HI)
  | 0, _, _ => none
  | n + 1, I, u3 =>
    if (I 100 66) ≤ u3 then
      some I
    else
      ldI (I 101) 1800 (3 * u3) fun v23 =>
      inb 8 u3 <|
      bnd (sI I 144 (u3 : Int32).toNatClampNeg v23) fun I24 =>
      (f_X12_twoBytes I24 ((3 * u3) + 1)).bind fun x25 =>
      inb 8 u3 <|
      bnd (sI I24 145 (u3 : Int32).toNatClampNeg x25) fun I26 =>
      f_X12_stood_L100 n I26 (u3 + 1)
def f_X12_stood_L34 : Nat → HI → Int32 → Int32 → Int32 → Option (Int32)
  | 0, _, _, _, _ => none
  | n + 1, I, u1, u2, u3 =>
    if u1 ≤ u3 then
      some u2
    else
      if u2 = 0 then
        some u2
      else
        ldI (I 101) 1800 u3 fun v9 =>
        (f_X12_isLake I v9).bind fun x10 =>
        jnt (β := Int32) (fun y17 =>
          f_X12_stood_L34 n I u1 y17 (u3 + 3)) fun j12 =>
        jnt (β := Unit) (fun y16 =>
          j12 0) fun j11 =>
        if x10 = 0 then
          j11 ()
        else
          (f_X12_twoBytes I (u3 + 1)).bind fun x13 =>
          if 999 < x13 then
            j11 ()
          else
            j12 1
def f_X12_stood (fu : Nat) (I : HI) : Option (Int32 × HI) :=
  bnd (sI I 100 1 0) fun I1 =>
  jnt (β := Int32) (fun y8 =>
    (f_X12_stood_L34 fu I1 (I 100 1) y8 0).bind fun x20 =>
    if x20 = 0 then
      (f_X12_refuses I1 5).bind fun x21 =>
      some (x21.1, x21.2)
    else
      dvI 3 <|
      bnd (sI I1 100 66 ((I 100 1) / 3)) fun I22 =>
      (f_X12_stood_L100 fu I22 0).bind fun x28 =>
      some ((x28 100 66), x28)) fun j3 =>
  jnt (β := Unit) (fun y7 =>
    j3 0) fun j2 =>
  if (I 100 1) ≤ 0 then
    j2 ()
  else
    dvI 3 <|
    if ((I 100 1) - (I 100 1) / 3 * 3) = 0 then
      if 24 < (I 100 1) then
        j2 ()
      else
        j3 1
    else
      j2 ()
set_option maxRecDepth 20000 in
theorem lp_X12_stood_100 (fu : Nat) (L : HL) (R : HR) : ∀ (n : Nat) (u3 : Int32) (I : HI) (N : (HI) → Prop) (F : HF), (∀ v : HI, N v → PW 100 147 1 RX12 cX12_stood 4 (some .int) 143 [(0, .ref 100)] [] v L R F) → PWk 100 147 1 RX12 cX12_stood 4 (some .int) 100 [(0, .ref 100), (3, .int u3)] [] I L R (f_X12_stood_L100 n I u3) N F := by
  intro n
  induction n with
  | zero => intro u3 I N F hx; exact PWk.none'
  | succ n ih =>
    intro u3 I N F hx
    unfold f_X12_stood_L100
    refine PWk.iload_n 1 dX12_stood_100 rfl ?_
    refine PWk.aload_n 0 dX12_stood_101 rfl ?_
    refine PWk.geti dX12_stood_102 rg_100 lc_100 fl_X12_214 rfl ?_
    refine PWk.icmp_ge 143 dX12_stood_105 (by decide) (fun h27 => ?_) (fun h27 => ?_)
    · refine PWk.sub [0] rfl ?_
      exact PWk.done (fun h => hx _ h)
    · refine PWk.aload_n 0 dX12_stood_108 rfl ?_
      refine PWk.gets dX12_stood_109 rg_100 lc_100 fl_X12_217 rfl st_100_67 ?_
      refine PWk.iload_n 1 dX12_stood_112 rfl ?_
      refine PWk.aload_n 0 dX12_stood_113 rfl ?_
      refine PWk.gets dX12_stood_114 rg_100 lc_100 fl_X12_7 rfl st_100_0 ?_
      refine PWk.iconst (v := 3) dX12_stood_117 ic_3 ?_
      refine PWk.iload_n 1 dX12_stood_118 rfl ?_
      refine PWk.imul dX12_stood_119 ?_
      refine PWk.iald dX12_stood_120 rg_101 ly_101 (fun v23 => ?_)
      refine PWk.iast dX12_stood_121 rg_144 ly_144 ?_
      refine PWk.bI (fun I24 => ?_)
      refine PWk.aload_n 0 dX12_stood_122 rfl ?_
      refine PWk.gets dX12_stood_123 rg_100 lc_100 fl_X12_220 rfl st_100_68 ?_
      refine PWk.iload_n 1 dX12_stood_126 rfl ?_
      refine PWk.aload_n 0 dX12_stood_127 rfl ?_
      refine PWk.iconst (v := 3) dX12_stood_128 ic_3 ?_
      refine PWk.iload_n 1 dX12_stood_129 rfl ?_
      refine PWk.imul dX12_stood_130 ?_
      refine PWk.iconst (v := 1) dX12_stood_131 ic_1 ?_
      refine PWk.iadd dX12_stood_132 ?_
      refine PWk.callVi (pc_X12_twoBytes I24 L R ((3 * u3) + 1)) dX12_stood_133 ml_X12_542 rfl rg_100 lc_100 vq_12 (by decide) rfl (Nat.le_of_ble_eq_true rfl) (fun x25 => ?_)
      refine PWk.iast dX12_stood_136 rg_145 ly_145 ?_
      refine PWk.bI (fun I26 => ?_)
      refine PWk.iinc (v := (u3 + 1)) 1 [(3, .int (u3 + 1)), (0, .ref 100)] dX12_stood_137 rfl (by rw [ic_1]) (by decide) rfl ?_
      refine PWk.goto 100 dX12_stood_140 (by decide) ?_
      refine PWk.sub [1, 0] rfl ?_
      exact ih (u3 + 1) I26 N F hx
set_option maxRecDepth 20000 in
theorem lp_X12_stood_34 (fu : Nat) (u1 : Int32) (I : HI) (L : HL) (R : HR) : ∀ (n : Nat) (u2 : Int32) (u3 : Int32) (N : (Int32) → Prop) (F : HF), (∀ v : Int32, N v → PW 100 147 1 RX12 cX12_stood 4 (some .int) 81 [(0, .ref 100), (1, .int u1), (2, .int v)] [] I L R F) → PWk 100 147 1 RX12 cX12_stood 4 (some .int) 34 [(0, .ref 100), (1, .int u1), (2, .int u2), (3, .int u3)] [] I L R (f_X12_stood_L34 n I u1 u2 u3) N F := by
  intro n
  induction n with
  | zero => intro u2 u3 N F hx; exact PWk.none'
  | succ n ih =>
    intro u2 u3 N F hx
    unfold f_X12_stood_L34
    refine PWk.iload_n 3 dX12_stood_34 rfl ?_
    refine PWk.iload_n 1 dX12_stood_35 rfl ?_
    refine PWk.icmp_ge 81 dX12_stood_36 (by decide) (fun h19 => ?_) (fun h19 => ?_)
    · refine PWk.sub [0, 1, 2] rfl ?_
      exact PWk.done (fun h => hx _ h)
    · refine PWk.iload_n 2 dX12_stood_39 rfl ?_
      refine PWk.if_eq 81 dX12_stood_40 (by decide) (fun h18 => ?_) (fun h18 => ?_)
      · refine PWk.sub [0, 1, 2] rfl ?_
        exact PWk.done (fun h => hx _ h)
      · refine PWk.aload_n 0 dX12_stood_43 rfl ?_
        refine PWk.aload_n 0 dX12_stood_44 rfl ?_
        refine PWk.gets dX12_stood_45 rg_100 lc_100 fl_X12_7 rfl st_100_0 ?_
        refine PWk.iload_n 3 dX12_stood_48 rfl ?_
        refine PWk.iald dX12_stood_49 rg_101 ly_101 (fun v9 => ?_)
        refine PWk.callVi (pc_X12_isLake I L R v9) dX12_stood_50 ml_X12_501 rfl rg_100 lc_100 vq_12 (by decide) rfl (Nat.le_of_ble_eq_true rfl) (fun x10 => ?_)
        refine PWk.jn (pc' := 74) (lv' := fun y17 => [(0, .ref 100), (1, .int u1), (3, .int u3)]) (st' := fun y17 => [.int y17]) (I' := fun y17 => I) (L' := fun y17 => L) (R' := fun y17 => R) (fun j12 hj12 => ?_) (fun y17 => ?_)
        · refine PWk.jn (pc' := 73) (lv' := fun y16 => [(0, .ref 100), (1, .int u1), (3, .int u3)]) (st' := fun y16 => []) (I' := fun y16 => I) (L' := fun y16 => L) (R' := fun y16 => R) (fun j11 hj11 => ?_) (fun y16 => ?_)
          · refine PWk.if_eq 73 dX12_stood_53 (by decide) (fun h15 => ?_) (fun h15 => ?_)
            · refine PWk.sub [0, 1, 3] rfl ?_
              exact hj11 ()
            · refine PWk.aload_n 0 dX12_stood_56 rfl ?_
              refine PWk.iload_n 3 dX12_stood_57 rfl ?_
              refine PWk.iconst (v := 1) dX12_stood_58 ic_1 ?_
              refine PWk.iadd dX12_stood_59 ?_
              refine PWk.callVi (pc_X12_twoBytes I L R (u3 + 1)) dX12_stood_60 ml_X12_542 rfl rg_100 lc_100 vq_12 (by decide) rfl (Nat.le_of_ble_eq_true rfl) (fun x13 => ?_)
              refine PWk.sipush (v := 999) dX12_stood_63 sp_999 ?_
              refine PWk.icmp_gt 73 dX12_stood_66 (by decide) (fun h14 => ?_) (fun h14 => ?_)
              · refine PWk.sub [0, 1, 3] rfl ?_
                exact hj11 ()
              · refine PWk.iconst (v := 1) dX12_stood_69 ic_1 ?_
                refine PWk.goto 74 dX12_stood_70 (by decide) ?_
                refine PWk.sub [0, 1, 3] rfl ?_
                exact hj12 1
          · refine PWk.iconst (v := 0) dX12_stood_73 ic_0 ?_
            exact hj12 0
        · refine PWk.istore_n [(2, .int y17), (0, .ref 100), (1, .int u1), (3, .int u3)] dX12_stood_74 (by decide) rfl ?_
          refine PWk.iinc (v := (u3 + 3)) 3 [(3, .int (u3 + 3)), (2, .int y17), (0, .ref 100), (1, .int u1)] dX12_stood_75 rfl (by rw [ic_3]) (by decide) rfl ?_
          refine PWk.goto 34 dX12_stood_78 (by decide) ?_
          refine PWk.sub [2, 3, 1, 0] rfl ?_
          exact ih y17 (u3 + 3) N F hx
set_option maxRecDepth 20000 in
theorem pc_X12_stood (fu : Nat) (I : HI) (L : HL) (R : HR) : PCo 100 147 1 yX12_stood cX12_stood 4 (some .int) [.ref 100] I L R (f_X12_stood fu I) (fun x : Int32 × HI => ((some (.int x.1), x.2, L, R) : HF)) := by
  refine PCo.of (own := RX12) (by decide +kernel) (Nat.le_of_ble_eq_true rfl) rfl rfl (fun F => ?_)
  unfold f_X12_stood
  refine PWk.aload_n 0 dX12_stood_0 rfl ?_
  refine PWk.geti dX12_stood_1 rg_100 lc_100 fl_X12_13 rfl ?_
  refine PWk.istore_n [(1, .int (I 100 1)), (0, .ref 100)] dX12_stood_4 (by decide) rfl ?_
  refine PWk.aload_n 1 dX12_stood_5 rfl ?_
  refine PWk.iconst (v := 0) dX12_stood_6 ic_0 ?_
  refine PWk.puti dX12_stood_7 rg_100 lc_100 fl_X12_13 fp_12_1 rfl ?_
  refine PWk.bI (fun I1 => ?_)
  refine PWk.iload_n 0 dX12_stood_10 rfl ?_
  refine PWk.jn (pc' := 31) (lv' := fun y8 => [(0, .ref 100), (1, .int (I 100 1))]) (st' := fun y8 => [.int y8]) (I' := fun y8 => I1) (L' := fun y8 => L) (R' := fun y8 => R) (fun j3 hj3 => ?_) (fun y8 => ?_)
  · refine PWk.jn (pc' := 30) (lv' := fun y7 => [(0, .ref 100), (1, .int (I 100 1))]) (st' := fun y7 => []) (I' := fun y7 => I1) (L' := fun y7 => L) (R' := fun y7 => R) (fun j2 hj2 => ?_) (fun y7 => ?_)
    · refine PWk.if_le 30 dX12_stood_11 (by decide) (fun h6 => ?_) (fun h6 => ?_)
      · refine PWk.sub [1, 0] rfl ?_
        exact hj2 ()
      · refine PWk.iload_n 0 dX12_stood_14 rfl ?_
        refine PWk.iconst (v := 3) dX12_stood_15 ic_3 ?_
        refine PWk.irem dX12_stood_16 ?_
        refine PWk.if_ne 30 dX12_stood_17 (by decide) (fun h5 => ?_) (fun h5 => ?_)
        · refine PWk.iload_n 0 dX12_stood_20 rfl ?_
          refine PWk.bipush (v := 24) dX12_stood_21 bp_24 ?_
          refine PWk.icmp_gt 30 dX12_stood_23 (by decide) (fun h4 => ?_) (fun h4 => ?_)
          · refine PWk.sub [1, 0] rfl ?_
            exact hj2 ()
          · refine PWk.iconst (v := 1) dX12_stood_26 ic_1 ?_
            refine PWk.goto 31 dX12_stood_27 (by decide) ?_
            refine PWk.sub [1, 0] rfl ?_
            exact hj3 1
        · refine PWk.sub [1, 0] rfl ?_
          exact hj2 ()
    · refine PWk.iconst (v := 0) dX12_stood_30 ic_0 ?_
      exact hj3 0
  · refine PWk.istore_n [(2, .int y8), (0, .ref 100), (1, .int (I 100 1))] dX12_stood_31 (by decide) rfl ?_
    refine PWk.iconst (v := 0) dX12_stood_32 ic_0 ?_
    refine PWk.istore_n [(3, .int 0), (2, .int y8), (0, .ref 100), (1, .int (I 100 1))] dX12_stood_33 (by decide) rfl ?_
    refine PWk.sub [2, 3, 1, 0] rfl ?_
    refine PWk.loopV (fun N' hx' => lp_X12_stood_34 fu (I 100 1) I1 L R fu y8 0 N' F hx') (fun x20 => ?_)
    refine PWk.iload_n 2 dX12_stood_81 rfl ?_
    refine PWk.if_ne 91 dX12_stood_82 (by decide) (fun h29 => ?_) (fun h29 => ?_)
    · refine PWk.aload_n 0 dX12_stood_85 rfl ?_
      refine PWk.iconst (v := 5) dX12_stood_86 ic_5 ?_
      refine PWk.callViI (pc_X12_refuses I1 L R 5) dX12_stood_87 ml_X12_229 rfl rg_100 lc_100 vq_12 (by decide) rfl (Nat.le_of_ble_eq_true rfl) (fun x21 => ?_)
      exact PWk.iret dX12_stood_90 rfl (fun h => h)
    · refine PWk.aload_n 0 dX12_stood_91 rfl ?_
      refine PWk.iload_n 1 dX12_stood_92 rfl ?_
      refine PWk.iconst (v := 3) dX12_stood_93 ic_3 ?_
      refine PWk.idiv dX12_stood_94 ?_
      refine PWk.puti dX12_stood_95 rg_100 lc_100 fl_X12_214 fp_12_66 rfl ?_
      refine PWk.bI (fun I22 => ?_)
      refine PWk.iconst (v := 0) dX12_stood_98 ic_0 ?_
      refine PWk.istore_n [(3, .int 0), (0, .ref 100), (1, .int (I 100 1)), (2, .int x20)] dX12_stood_99 (by decide) rfl ?_
      refine PWk.sub [1, 0] rfl ?_
      refine PWk.loopV (fun N' hx' => lp_X12_stood_100 fu L R fu 0 I22 N' F hx') (fun x28 => ?_)
      refine PWk.aload_n 0 dX12_stood_143 rfl ?_
      refine PWk.geti dX12_stood_144 rg_100 lc_100 fl_X12_214 rfl ?_
      exact PWk.iret dX12_stood_147 rfl (fun h => h)
