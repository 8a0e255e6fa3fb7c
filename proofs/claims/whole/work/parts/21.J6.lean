/-! java/lang/Integer.bitCount(I)I -/
def f_J6_bitCount_0f7a4 (p0 : Int32) : Option (Int32) :=
  bnd ((p0 - (((p0 : Int32).toUInt32 >>> ((1 : Int32).toUInt32 &&& Int32.toUInt32 31)).toInt32 &&& 1431655765))) fun v1 =>
  bnd (((v1 &&& 858993459) + (((v1 : Int32).toUInt32 >>> ((2 : Int32).toUInt32 &&& Int32.toUInt32 31)).toInt32 &&& 858993459))) fun v2 =>
  bnd (((v2 + ((v2 : Int32).toUInt32 >>> ((4 : Int32).toUInt32 &&& Int32.toUInt32 31)).toInt32) &&& 252645135)) fun v3 =>
  bnd ((v3 + ((v3 : Int32).toUInt32 >>> ((8 : Int32).toUInt32 &&& Int32.toUInt32 31)).toInt32)) fun v4 =>
  bnd ((v4 + ((v4 : Int32).toUInt32 >>> ((16 : Int32).toUInt32 &&& Int32.toUInt32 31)).toInt32)) fun v5 =>
  some (v5 &&& 63)
set_option maxRecDepth 20000 in
theorem pc_J6_bitCount_0f7a4 (I : HI) (L : HL) (R : HR) (p0 : Int32) : PCo 1 93 0 yJ6_bitCount_0f7a4 cJ6_bitCount_0f7a4 1 (some .int) [.int p0] I L R (f_J6_bitCount_0f7a4 p0) (fun x : Int32 => ((some (.int x), I, L, R) : HF)) := by
  refine PCo.of (own := RJ6) (by decide +kernel) (Nat.le_of_ble_eq_true rfl) rfl rfl (fun F => ?_)
  unfold f_J6_bitCount_0f7a4
  refine PWk.iload_n 0 dJ6_bitCount_0f7a4_0 rfl ?_
  refine PWk.iload_n 0 dJ6_bitCount_0f7a4_1 rfl ?_
  refine PWk.iconst (v := 1) dJ6_bitCount_0f7a4_2 ic_1 ?_
  refine PWk.iushr dJ6_bitCount_0f7a4_3 ?_
  refine PWk.ldcw (v := 1431655765) dJ6_bitCount_0f7a4_4 kc_J6_265 ?_
  refine PWk.iand dJ6_bitCount_0f7a4_7 ?_
  refine PWk.isub dJ6_bitCount_0f7a4_8 ?_
  refine PWk.bi (fun v1 => ?_)
  refine PWk.istore_n [(0, .int v1)] dJ6_bitCount_0f7a4_9 (by decide) rfl ?_
  refine PWk.iload_n 0 dJ6_bitCount_0f7a4_10 rfl ?_
  refine PWk.ldcw (v := 858993459) dJ6_bitCount_0f7a4_11 kc_J6_266 ?_
  refine PWk.iand dJ6_bitCount_0f7a4_14 ?_
  refine PWk.iload_n 0 dJ6_bitCount_0f7a4_15 rfl ?_
  refine PWk.iconst (v := 2) dJ6_bitCount_0f7a4_16 ic_2 ?_
  refine PWk.iushr dJ6_bitCount_0f7a4_17 ?_
  refine PWk.ldcw (v := 858993459) dJ6_bitCount_0f7a4_18 kc_J6_266 ?_
  refine PWk.iand dJ6_bitCount_0f7a4_21 ?_
  refine PWk.iadd dJ6_bitCount_0f7a4_22 ?_
  refine PWk.bi (fun v2 => ?_)
  refine PWk.istore_n [(0, .int v2)] dJ6_bitCount_0f7a4_23 (by decide) rfl ?_
  refine PWk.iload_n 0 dJ6_bitCount_0f7a4_24 rfl ?_
  refine PWk.iload_n 0 dJ6_bitCount_0f7a4_25 rfl ?_
  refine PWk.iconst (v := 4) dJ6_bitCount_0f7a4_26 ic_4 ?_
  refine PWk.iushr dJ6_bitCount_0f7a4_27 ?_
  refine PWk.iadd dJ6_bitCount_0f7a4_28 ?_
  refine PWk.ldcw (v := 252645135) dJ6_bitCount_0f7a4_29 kc_J6_267 ?_
  refine PWk.iand dJ6_bitCount_0f7a4_32 ?_
  refine PWk.bi (fun v3 => ?_)
  refine PWk.istore_n [(0, .int v3)] dJ6_bitCount_0f7a4_33 (by decide) rfl ?_
  refine PWk.iload_n 0 dJ6_bitCount_0f7a4_34 rfl ?_
  refine PWk.iload_n 0 dJ6_bitCount_0f7a4_35 rfl ?_
  refine PWk.bipush (v := 8) dJ6_bitCount_0f7a4_36 bp_8 ?_
  refine PWk.iushr dJ6_bitCount_0f7a4_38 ?_
  refine PWk.iadd dJ6_bitCount_0f7a4_39 ?_
  refine PWk.bi (fun v4 => ?_)
  refine PWk.istore_n [(0, .int v4)] dJ6_bitCount_0f7a4_40 (by decide) rfl ?_
  refine PWk.iload_n 0 dJ6_bitCount_0f7a4_41 rfl ?_
  refine PWk.iload_n 0 dJ6_bitCount_0f7a4_42 rfl ?_
  refine PWk.bipush (v := 16) dJ6_bitCount_0f7a4_43 bp_16 ?_
  refine PWk.iushr dJ6_bitCount_0f7a4_45 ?_
  refine PWk.iadd dJ6_bitCount_0f7a4_46 ?_
  refine PWk.bi (fun v5 => ?_)
  refine PWk.istore_n [(0, .int v5)] dJ6_bitCount_0f7a4_47 (by decide) rfl ?_
  refine PWk.iload_n 0 dJ6_bitCount_0f7a4_48 rfl ?_
  refine PWk.bipush (v := 63) dJ6_bitCount_0f7a4_49 bp_63 ?_
  refine PWk.iand dJ6_bitCount_0f7a4_51 ?_
  exact PWk.iret dJ6_bitCount_0f7a4_52 rfl (fun h => h)
