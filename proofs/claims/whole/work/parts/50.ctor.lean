theorem oi_inst : Cond.instanceMethod Lib.objectInit ∈ TBL := TBL_1 28 rfl rfl
theorem oi_code : Cond.code Lib.objectInit ⟨#[0xb1]⟩ 1 none ∈ TBL := TBL_1 29 rfl rfl
theorem im_X0_init_i : Cond.instanceMethod yX0_init ∈ TBL := TBL_2 85 rfl rfl
theorem im_X1_init_i : Cond.instanceMethod yX1_init ∈ TBL := TBL_2 49 rfl rfl
theorem im_X2_init_i : Cond.instanceMethod yX2_init ∈ TBL := TBL_1 33 rfl rfl
theorem im_X3_init_i : Cond.instanceMethod yX3_init ∈ TBL := TBL_1 230 rfl rfl
theorem im_X4_init_i : Cond.instanceMethod yX4_init ∈ TBL := TBL_2 123 rfl rfl
theorem im_X5_init_i : Cond.instanceMethod yX5_init ∈ TBL := TBL_2 71 rfl rfl
theorem im_X6_init_i : Cond.instanceMethod yX6_init ∈ TBL := TBL_2 145 rfl rfl
theorem im_X7_init_i : Cond.instanceMethod yX7_init ∈ TBL := TBL_1 148 rfl rfl
theorem im_X8_init_i : Cond.instanceMethod yX8_init ∈ TBL := TBL_1 194 rfl rfl
theorem im_X9_init_i : Cond.instanceMethod yX9_init ∈ TBL := TBL_1 224 rfl rfl
theorem im_X10_init_i : Cond.instanceMethod yX10_init ∈ TBL := TBL_1 154 rfl rfl
theorem im_X11_init_i : Cond.instanceMethod yX11_init ∈ TBL := TBL_1 25 rfl rfl
theorem im_X12_init_i : Cond.instanceMethod yX12_init ∈ TBL := TBL_6 116 rfl rfl
theorem wk_0 : Cond.methodLink RX3 3 Lib.objectInit ∈ TBL := TBL_1 232 rfl rfl
theorem wk_1 : Cond.arrayClass .int ∈ TBL := TBL_1 144 rfl rfl
theorem wk_2 : Cond.fieldLink RX3 11 "LakeMarket$Machine" "stack" "[I" ∈ TBL := TBL_1 233 rfl rfl
theorem wk_3 : Cond.fieldLink RX3 15 "LakeMarket$Machine" "figures" "[I" ∈ TBL := TBL_1 235 rfl rfl
theorem wk_4 : Cond.methodLink RX2 3 Lib.objectInit ∈ TBL := TBL_1 35 rfl rfl
theorem wk_5 : Cond.fieldLink RX2 9 "LakeMarket$Lowland" "carts" "I" ∈ TBL := TBL_1 62 rfl rfl
theorem wk_6 : Cond.fieldLink RX2 15 "LakeMarket$Lowland" "hollowNames" "[I" ∈ TBL := TBL_1 66 rfl rfl
theorem wk_7 : Cond.fieldLink RX2 19 "LakeMarket$Lowland" "ownerNames" "[I" ∈ TBL := TBL_1 69 rfl rfl
theorem wk_8 : Cond.fieldLink RX2 22 "LakeMarket$Lowland" "lakeNames" "[I" ∈ TBL := TBL_1 72 rfl rfl
theorem wk_9 : Cond.fieldLink RX2 25 "LakeMarket$Lowland" "holds" "[I" ∈ TBL := TBL_1 75 rfl rfl
theorem wk_10 : Cond.fieldLink RX2 28 "LakeMarket$Lowland" "places" "[I" ∈ TBL := TBL_1 79 rfl rfl
theorem wk_11 : Cond.fieldLink RX2 31 "LakeMarket$Lowland" "barrels" "[I" ∈ TBL := TBL_1 83 rfl rfl
theorem wk_12 : Cond.fieldLink RX2 34 "LakeMarket$Lowland" "lies" "[I" ∈ TBL := TBL_1 86 rfl rfl
theorem wk_13 : Cond.fieldLink RX2 37 "LakeMarket$Lowland" "whose" "[I" ∈ TBL := TBL_1 89 rfl rfl
theorem wk_14 : Cond.fieldLink RX2 40 "LakeMarket$Lowland" "debts" "[I" ∈ TBL := TBL_1 92 rfl rfl
theorem wk_15 : Cond.fieldLink RX2 43 "LakeMarket$Lowland" "code" "[I" ∈ TBL := TBL_1 95 rfl rfl
theorem wk_16 : Cond.fieldLink RX2 46 "LakeMarket$Lowland" "ruleFrom" "[I" ∈ TBL := TBL_1 99 rfl rfl
theorem wk_17 : Cond.fieldLink RX2 49 "LakeMarket$Lowland" "ruleTo" "[I" ∈ TBL := TBL_1 102 rfl rfl
theorem wk_18 : Cond.methodLink RX5 5 Lib.objectInit ∈ TBL := TBL_2 73 rfl rfl
theorem wk_19 : Cond.fieldLink RX5 11 "LakeMarket$Payments" "figures" "[I" ∈ TBL := TBL_2 74 rfl rfl
theorem wk_20 : Cond.methodLink RX6 3 Lib.objectInit ∈ TBL := TBL_2 147 rfl rfl
theorem wk_21 : Cond.fieldLink RX6 11 "LakeMarket$Picture" "bytes" "[I" ∈ TBL := TBL_2 148 rfl rfl
theorem wk_22 : Cond.methodLink RX0 3 Lib.objectInit ∈ TBL := TBL_2 87 rfl rfl
theorem wk_23 : Cond.fieldLink RX0 9 "LakeMarket$Chooser" "members" "[I" ∈ TBL := TBL_2 88 rfl rfl
theorem wk_24 : Cond.fieldLink RX0 15 "LakeMarket$Chooser" "values" "[I" ∈ TBL := TBL_2 89 rfl rfl
theorem wk_25 : Cond.fieldLink RX0 18 "LakeMarket$Chooser" "sums" "[I" ∈ TBL := TBL_2 91 rfl rfl
theorem wk_26 : Cond.fieldLink RX0 21 "LakeMarket$Chooser" "best" "[I" ∈ TBL := TBL_2 92 rfl rfl
theorem wk_27 : Cond.fieldLink RX0 24 "LakeMarket$Chooser" "shares" "[I" ∈ TBL := TBL_2 93 rfl rfl
theorem wk_28 : Cond.fieldLink RX0 27 "LakeMarket$Chooser" "heirs" "[I" ∈ TBL := TBL_2 94 rfl rfl
theorem wk_29 : Cond.fieldLink RX0 30 "LakeMarket$Chooser" "bestHeirs" "[I" ∈ TBL := TBL_2 95 rfl rfl
theorem wk_30 : Cond.methodLink RX4 3 Lib.objectInit ∈ TBL := TBL_2 125 rfl rfl
theorem wk_31 : Cond.fieldLink RX4 9 "LakeMarket$Mover" "goals" "[I" ∈ TBL := TBL_2 126 rfl rfl
theorem wk_32 : Cond.fieldLink RX4 15 "LakeMarket$Mover" "rooms" "[I" ∈ TBL := TBL_2 127 rfl rfl
theorem wk_33 : Cond.fieldLink RX4 18 "LakeMarket$Mover" "counts" "[I" ∈ TBL := TBL_2 128 rfl rfl
theorem wk_34 : Cond.fieldLink RX4 21 "LakeMarket$Mover" "seen" "[I" ∈ TBL := TBL_2 129 rfl rfl
theorem wk_35 : Cond.methodLink RX10 3 Lib.objectInit ∈ TBL := TBL_1 156 rfl rfl
theorem wk_36 : Cond.fieldLink RX10 9 "LakeMarket$Tokens" "tape" "[I" ∈ TBL := TBL_1 157 rfl rfl
theorem wk_37 : Cond.methodLink RX8 3 Lib.objectInit ∈ TBL := TBL_1 196 rfl rfl
theorem wk_38 : Cond.fieldLink RX8 9 "LakeMarket$RuleReader" "tokens" "LLakeMarket$Tokens;" ∈ TBL := TBL_1 197 rfl rfl
theorem wk_39 : Cond.methodLink RX9 3 Lib.objectInit ∈ TBL := TBL_1 226 rfl rfl
theorem wk_40 : Cond.fieldLink RX9 9 "LakeMarket$Scene" "barrels" "[I" ∈ TBL := TBL_2 10 rfl rfl
theorem wk_41 : Cond.fieldLink RX9 15 "LakeMarket$Scene" "lies" "[I" ∈ TBL := TBL_2 15 rfl rfl
theorem wk_42 : Cond.fieldLink RX9 18 "LakeMarket$Scene" "whose" "[I" ∈ TBL := TBL_2 20 rfl rfl
theorem wk_43 : Cond.fieldLink RX9 21 "LakeMarket$Scene" "debts" "[I" ∈ TBL := TBL_2 24 rfl rfl
theorem wk_44 : Cond.fieldLink RX9 24 "LakeMarket$Scene" "leaks" "[I" ∈ TBL := TBL_2 27 rfl rfl
theorem wk_45 : Cond.classLink RX9 27 RX3 ∈ TBL := TBL_1 227 rfl rfl
theorem wk_46 : Cond.instantiable RX3 3 ∈ TBL := TBL_1 228 rfl rfl
theorem wk_47 : Cond.fieldLink RX9 30 "LakeMarket$Scene" "machine" "LLakeMarket$Machine;" ∈ TBL := TBL_2 28 rfl rfl
theorem wk_48 : Cond.methodLink RX7 3 Lib.objectInit ∈ TBL := TBL_1 150 rfl rfl
theorem wk_49 : Cond.classLink RX7 9 RX10 ∈ TBL := TBL_1 151 rfl rfl
theorem wk_50 : Cond.instantiable RX10 9 ∈ TBL := TBL_1 152 rfl rfl
theorem wk_51 : Cond.methodLink RX7 11 yX10_init ∈ TBL := TBL_1 153 rfl rfl
theorem wk_52 : Cond.fieldLink RX7 14 "LakeMarket$Reader" "tokens" "LLakeMarket$Tokens;" ∈ TBL := TBL_1 207 rfl rfl
theorem wk_53 : Cond.classLink RX7 20 RX8 ∈ TBL := TBL_1 191 rfl rfl
theorem wk_54 : Cond.instantiable RX8 3 ∈ TBL := TBL_1 192 rfl rfl
theorem wk_55 : Cond.methodLink RX7 22 yX8_init ∈ TBL := TBL_1 193 rfl rfl
theorem wk_56 : Cond.fieldLink RX7 25 "LakeMarket$Reader" "rules" "LLakeMarket$RuleReader;" ∈ TBL := TBL_1 209 rfl rfl
set_option maxHeartbeats 4000000 in
set_option maxRecDepth 100000 in
theorem ct_X3_init (l : Launch) (dC : Nat → ClassId) (dI : Nat → Nat → Nat) (h0 : Nat) (sz : Nat) : Met l yX3_init (Cond.code yX3_init cX3_init 1 none :: TBL) { frames := 1, cells := 2, slots := 134, locals := 12 } (va_Pc [.ref h0] (fun U => U.heap.size = sz ∧ va_P (dC, dI) vwCl [(h0, .inr (3, [.null, .int 0, .null]))] U.heap ∧ va_K (dC, dI) vwCl [] U ∧ va_D (fun _ => True) [(h0, .inr (3, [.null, .int 0, .null]))])) (va_Qv (fun _ : Unit => True) (fun _ t => ∃ (q : Nat → Nat) (c : Nat → ClassId), va_P (dC, dI) vwCl [(h0, .inr (3, [.ref (q 0), .int 0, .ref (q 1)])), ((q 0), .inl ((c 0), 128, .inl (fun _ => 0))), ((q 1), .inl ((c 1), 6, .inl (fun _ => 0)))] t.heap ∧ va_K (dC, dI) vwCl [((c 0), .int), ((c 1), .int)] t ∧ va_D (va_A [(h0, .inr (3, [.null, .int 0, .null]))] sz) [(h0, .inr (3, [.ref (q 0), .int 0, .ref (q 1)])), ((q 0), .inl ((c 0), 128, .inl (fun _ => 0))), ((q 1), .inl ((c 1), 6, .inl (fun _ => 0)))]) (va_A [(h0, .inr (3, [.null, .int 0, .null]))] sz)) 2 134 (va_A [(h0, .inr (3, [.null, .int 0, .null]))] sz) := by
  refine Met.ofW (cc := cX3_init) (maxL := 1) (ret := none) (by decide +kernel) rfl ?_
  intro p e s m args below meth c s₁ B hml hv
  obtain ⟨rfl, hsz, hP, hK, hD0⟩ := hv
  have hx := B.exec
  have hb := B.bytes
  have hr := B.returns
  have hts0 := atoms_spec (ws := Cond.code yX3_init cX3_init 1 none :: TBL) B.pre
  have hts : ∀ w ∈ TBL, w.before ([.ref h0] : List Value).toArray s = true := fun w h => hts0 w (List.mem_cons_of_mem _ h)
  have hown : s.vm.findClass RX3 = some m.cls := findClass_of_methodNamed B.named
  have hlocks := B.notSynchronized
  have hin : meth.name = "<init>" := (name_of_methodNamed B.named B.method).1
  subst hsz
  have hD := hD0.self (sz := s.heap.size)
  generalize hAe : va_A [(h0, .inr (3, [.null, .int 0, .null]))] s.heap.size = A at hD ⊢
  have hA : ∀ q : Nat, s.heap.size ≤ q → A q := fun q h => by rw [← hAe]; exact Or.inr h
  have hS : va_S A s.heap s.heap [] := va_S.rf
  have hP : va_P (dC, dI) vwCl [(h0, .inr (3, [.null, .int 0, .null]))] s.heap := hP
  have hl := lv_entry ([.ref h0]) (n := 1) (Nat.le_of_ble_eq_true rfl)
  rw [lg_entry_eq]
  generalize (lg_sl ([.ref h0]) ++ List.replicate (1 - (lg_sl ([.ref h0])).length) Slot.unset).toArray = ls at hl ⊢
  have hl : lv_has ls 1 [(0, .ref h0)] := hl
  refine lv_aload_n hx hb dX3_init_0 rfl (lv_at hl 0 rfl) ?_
  refine W.objInit hx hb hown (hts _ wk_0) (hts _ oi_inst) (hts _ oi_code) rfl (by rw [hml]; exact hl.1) rfl dX3_init_1 (Nat.le_of_ble_eq_true rfl) (Nat.le_of_ble_eq_true rfl) ?_
  refine W.eq (g2 := F0 m 4 ls []) rfl ?_
  refine lv_aload_n hx hb dX3_init_4 rfl (lv_at hl 0 rfl) ?_
  refine lv_sipush (v := 128) hx hb dX3_init_5 (by decide) ?_
  refine va_newa (atype := .int) (a0 := (128, .inl (fun _ => 0))) hx hb (hts _ wk_1) rfl hK hP hD hS hA (fun _ => rfl) (by decide) (by decide) (by decide) (Nat.le_of_ble_eq_true rfl) (Nat.le_of_ble_eq_true rfl) dX3_init_8 (fun q1 c2 H hK hP hD hS => ?_)
  have hP : va_P (dC, dI) vwCl [(h0, .inr (3, [.null, .int 0, .null])), (q1, .inl (c2, 128, .inl (fun _ => 0)))] H := hP
  have hD : va_D A [(h0, .inr (3, [.null, .int 0, .null])), (q1, .inl (c2, 128, .inl (fun _ => 0)))] := hD
  have hK : va_K (dC, dI) vwCl [(c2, .int)] s := hK
  refine W.widen (k := 1) (n := 128) (by omega) (by omega) ?_
  refine va_putF (D := (dC, dI)) (ci := 3) (v := .ref q1) (ty := (.array .int)) (C := RX3) (T := TX3) (N := 3) hx hb hts cw3 tyX3 tyX3_ok nmX3 hown hK hP hD hS 0 rfl rfl 0 (by decide) (hts _ wk_2) (fun _ h9 => h9) rfl hin rfl (by decide +kernel) rfl rfl (Nat.le_of_ble_eq_true rfl) dX3_init_10 (fun H locs hP hD hS => ?_)
  have hP : va_P (dC, dI) vwCl [(h0, .inr (3, [.ref q1, .int 0, .null])), (q1, .inl (c2, 128, .inl (fun _ => 0)))] H := hP
  have hD : va_D A [(h0, .inr (3, [.ref q1, .int 0, .null])), (q1, .inl (c2, 128, .inl (fun _ => 0)))] := hD
  refine lv_aload_n hx hb dX3_init_13 rfl (lv_at hl 0 rfl) ?_
  refine lv_bipush (v := 6) hx hb dX3_init_14 (by decide) ?_
  refine va_newa (atype := .int) (a0 := (6, .inl (fun _ => 0))) hx hb (hts _ wk_1) rfl hK hP hD hS hA (fun _ => rfl) (by decide) (by decide) (by decide) (Nat.le_of_ble_eq_true rfl) (Nat.le_of_ble_eq_true rfl) dX3_init_16 (fun q3 c4 H hK hP hD hS => ?_)
  have hP : va_P (dC, dI) vwCl [(h0, .inr (3, [.ref q1, .int 0, .null])), (q1, .inl (c2, 128, .inl (fun _ => 0))), (q3, .inl (c4, 6, .inl (fun _ => 0)))] H := hP
  have hD : va_D A [(h0, .inr (3, [.ref q1, .int 0, .null])), (q1, .inl (c2, 128, .inl (fun _ => 0))), (q3, .inl (c4, 6, .inl (fun _ => 0)))] := hD
  have hK : va_K (dC, dI) vwCl [(c2, .int), (c4, .int)] s := hK
  refine W.widen (k := 2) (n := 134) (by omega) (by omega) ?_
  refine va_putF (D := (dC, dI)) (ci := 3) (v := .ref q3) (ty := (.array .int)) (C := RX3) (T := TX3) (N := 3) hx hb hts cw3 tyX3 tyX3_ok nmX3 hown hK hP hD hS 0 rfl rfl 2 (by decide) (hts _ wk_3) (fun _ h9 => h9) rfl hin rfl (by decide +kernel) rfl rfl (Nat.le_of_ble_eq_true rfl) dX3_init_18 (fun H locs hP hD hS => ?_)
  have hP : va_P (dC, dI) vwCl [(h0, .inr (3, [.ref q1, .int 0, .ref q3])), (q1, .inl (c2, 128, .inl (fun _ => 0))), (q3, .inl (c4, 6, .inl (fun _ => 0)))] H := hP
  have hD : va_D A [(h0, .inr (3, [.ref q1, .int 0, .ref q3])), (q1, .inl (c2, 128, .inl (fun _ => 0))), (q3, .inl (c4, 6, .inl (fun _ => 0)))] := hD
  have hP9 := hP.sub (ws' := [(h0, .inr (3, [.ref q1, .int 0, .ref q3])), (q1, .inl (c2, 128, .inl (fun _ => 0))), (q3, .inl (c4, 6, .inl (fun _ => 0)))]) [0, 1, 2] rfl
  have hD9 := hD.sub (ws' := [(h0, .inr (3, [.ref q1, .int 0, .ref q3])), (q1, .inl (c2, 128, .inl (fun _ => 0))), (q3, .inl (c4, 6, .inl (fun _ => 0)))]) [0, 1, 2] (by decide) rfl
  refine W.widen (k := 2) (n := 134) (by omega) (by omega) ?_
  exact W.vret hx hb hr (fun t ht hW => ⟨⟨(), rfl, trivial, fun i => [q1, q3].getD i 0, fun i => [c2, c4].getD i 0, by rw [ht]; exact hP9, va_K.moved hW.alike hK, hD9⟩, hS.F ht⟩) hS.2.2 dX3_init_21 hlocks

set_option maxHeartbeats 4000000 in
set_option maxRecDepth 100000 in
theorem ct_X2_init (l : Launch) (dC : Nat → ClassId) (dI : Nat → Nat → Nat) (h0 : Nat) (sz : Nat) : Met l yX2_init (Cond.code yX2_init cX2_init 1 none :: TBL) { frames := 1, cells := 12, slots := 1704, locals := 12 } (va_Pc [.ref h0] (fun U => U.heap.size = sz ∧ va_P (dC, dI) vwCl [(h0, .inr (2, [.int 0, .int 0, .int 0, .int 0, .int 0, .int 0, .null, .null, .null, .null, .null, .null, .null, .null, .null, .null, .int 0, .null, .null]))] U.heap ∧ va_K (dC, dI) vwCl [] U ∧ va_D (fun _ => True) [(h0, .inr (2, [.int 0, .int 0, .int 0, .int 0, .int 0, .int 0, .null, .null, .null, .null, .null, .null, .null, .null, .null, .null, .int 0, .null, .null]))])) (va_Qv (fun _ : Unit => True) (fun _ t => ∃ (q : Nat → Nat) (c : Nat → ClassId), va_P (dC, dI) vwCl [(h0, .inr (2, [.int 0, .int 0, .int 0, .int 0, .int 0, .int 999, .ref (q 0), .ref (q 1), .ref (q 2), .ref (q 3), .ref (q 4), .ref (q 5), .ref (q 6), .ref (q 7), .ref (q 8), .ref (q 9), .int 0, .ref (q 10), .ref (q 11)])), ((q 0), .inl ((c 0), 8, .inl (fun _ => 0))), ((q 1), .inl ((c 1), 6, .inl (fun _ => 0))), ((q 2), .inl ((c 2), 8, .inl (fun _ => 0))), ((q 3), .inl ((c 3), 8, .inl (fun _ => 0))), ((q 4), .inl ((c 4), 8, .inl (fun _ => 0))), ((q 5), .inl ((c 5), 8, .inl (fun _ => 0))), ((q 6), .inl ((c 6), 8, .inl (fun _ => 0))), ((q 7), .inl ((c 7), 8, .inl (fun _ => 0))), ((q 8), .inl ((c 8), 36, .inl (fun _ => 0))), ((q 9), .inl ((c 9), 1600, .inl (fun _ => 0))), ((q 10), .inl ((c 10), 3, .inl (fun _ => 0))), ((q 11), .inl ((c 11), 3, .inl (fun _ => 0)))] t.heap ∧ va_K (dC, dI) vwCl [((c 0), .int), ((c 1), .int), ((c 2), .int), ((c 3), .int), ((c 4), .int), ((c 5), .int), ((c 6), .int), ((c 7), .int), ((c 8), .int), ((c 9), .int), ((c 10), .int), ((c 11), .int)] t ∧ va_D (va_A [(h0, .inr (2, [.int 0, .int 0, .int 0, .int 0, .int 0, .int 0, .null, .null, .null, .null, .null, .null, .null, .null, .null, .null, .int 0, .null, .null]))] sz) [(h0, .inr (2, [.int 0, .int 0, .int 0, .int 0, .int 0, .int 999, .ref (q 0), .ref (q 1), .ref (q 2), .ref (q 3), .ref (q 4), .ref (q 5), .ref (q 6), .ref (q 7), .ref (q 8), .ref (q 9), .int 0, .ref (q 10), .ref (q 11)])), ((q 0), .inl ((c 0), 8, .inl (fun _ => 0))), ((q 1), .inl ((c 1), 6, .inl (fun _ => 0))), ((q 2), .inl ((c 2), 8, .inl (fun _ => 0))), ((q 3), .inl ((c 3), 8, .inl (fun _ => 0))), ((q 4), .inl ((c 4), 8, .inl (fun _ => 0))), ((q 5), .inl ((c 5), 8, .inl (fun _ => 0))), ((q 6), .inl ((c 6), 8, .inl (fun _ => 0))), ((q 7), .inl ((c 7), 8, .inl (fun _ => 0))), ((q 8), .inl ((c 8), 36, .inl (fun _ => 0))), ((q 9), .inl ((c 9), 1600, .inl (fun _ => 0))), ((q 10), .inl ((c 10), 3, .inl (fun _ => 0))), ((q 11), .inl ((c 11), 3, .inl (fun _ => 0)))]) (va_A [(h0, .inr (2, [.int 0, .int 0, .int 0, .int 0, .int 0, .int 0, .null, .null, .null, .null, .null, .null, .null, .null, .null, .null, .int 0, .null, .null]))] sz)) 12 1704 (va_A [(h0, .inr (2, [.int 0, .int 0, .int 0, .int 0, .int 0, .int 0, .null, .null, .null, .null, .null, .null, .null, .null, .null, .null, .int 0, .null, .null]))] sz) := by
  refine Met.ofW (cc := cX2_init) (maxL := 1) (ret := none) (by decide +kernel) rfl ?_
  intro p e s m args below meth c s₁ B hml hv
  obtain ⟨rfl, hsz, hP, hK, hD0⟩ := hv
  have hx := B.exec
  have hb := B.bytes
  have hr := B.returns
  have hts0 := atoms_spec (ws := Cond.code yX2_init cX2_init 1 none :: TBL) B.pre
  have hts : ∀ w ∈ TBL, w.before ([.ref h0] : List Value).toArray s = true := fun w h => hts0 w (List.mem_cons_of_mem _ h)
  have hown : s.vm.findClass RX2 = some m.cls := findClass_of_methodNamed B.named
  have hlocks := B.notSynchronized
  have hin : meth.name = "<init>" := (name_of_methodNamed B.named B.method).1
  subst hsz
  have hD := hD0.self (sz := s.heap.size)
  generalize hAe : va_A [(h0, .inr (2, [.int 0, .int 0, .int 0, .int 0, .int 0, .int 0, .null, .null, .null, .null, .null, .null, .null, .null, .null, .null, .int 0, .null, .null]))] s.heap.size = A at hD ⊢
  have hA : ∀ q : Nat, s.heap.size ≤ q → A q := fun q h => by rw [← hAe]; exact Or.inr h
  have hS : va_S A s.heap s.heap [] := va_S.rf
  have hP : va_P (dC, dI) vwCl [(h0, .inr (2, [.int 0, .int 0, .int 0, .int 0, .int 0, .int 0, .null, .null, .null, .null, .null, .null, .null, .null, .null, .null, .int 0, .null, .null]))] s.heap := hP
  have hl := lv_entry ([.ref h0]) (n := 1) (Nat.le_of_ble_eq_true rfl)
  rw [lg_entry_eq]
  generalize (lg_sl ([.ref h0]) ++ List.replicate (1 - (lg_sl ([.ref h0])).length) Slot.unset).toArray = ls at hl ⊢
  have hl : lv_has ls 1 [(0, .ref h0)] := hl
  refine lv_aload_n hx hb dX2_init_0 rfl (lv_at hl 0 rfl) ?_
  refine W.objInit hx hb hown (hts _ wk_4) (hts _ oi_inst) (hts _ oi_code) rfl (by rw [hml]; exact hl.1) rfl dX2_init_1 (Nat.le_of_ble_eq_true rfl) (Nat.le_of_ble_eq_true rfl) ?_
  refine W.eq (g2 := F0 m 4 ls []) rfl ?_
  refine lv_aload_n hx hb dX2_init_4 rfl (lv_at hl 0 rfl) ?_
  refine lv_sipush (v := 999) hx hb dX2_init_5 (by decide) ?_
  refine va_put (D := (dC, dI)) (ci := 2) (v := .int 999) (ty := .int) (C := RX2) (T := TX2) (N := 19) hx hb hts cw2 tyX2 tyX2_ok nmX2 hown hK hP hD hS 0 rfl rfl 5 (by decide) (hts _ wk_5) (fun _ h9 => h9) rfl (by decide +kernel) rfl rfl (Nat.le_of_ble_eq_true rfl) dX2_init_8 (fun H locs hP hD hS => ?_)
  have hP : va_P (dC, dI) vwCl [(h0, .inr (2, [.int 0, .int 0, .int 0, .int 0, .int 0, .int 999, .null, .null, .null, .null, .null, .null, .null, .null, .null, .null, .int 0, .null, .null]))] H := hP
  have hD : va_D A [(h0, .inr (2, [.int 0, .int 0, .int 0, .int 0, .int 0, .int 999, .null, .null, .null, .null, .null, .null, .null, .null, .null, .null, .int 0, .null, .null]))] := hD
  refine lv_aload_n hx hb dX2_init_11 rfl (lv_at hl 0 rfl) ?_
  refine lv_bipush (v := 8) hx hb dX2_init_12 (by decide) ?_
  refine va_newa (atype := .int) (a0 := (8, .inl (fun _ => 0))) hx hb (hts _ wk_1) rfl hK hP hD hS hA (fun _ => rfl) (by decide) (by decide) (by decide) (Nat.le_of_ble_eq_true rfl) (Nat.le_of_ble_eq_true rfl) dX2_init_14 (fun q1 c2 H hK hP hD hS => ?_)
  have hP : va_P (dC, dI) vwCl [(h0, .inr (2, [.int 0, .int 0, .int 0, .int 0, .int 0, .int 999, .null, .null, .null, .null, .null, .null, .null, .null, .null, .null, .int 0, .null, .null])), (q1, .inl (c2, 8, .inl (fun _ => 0)))] H := hP
  have hD : va_D A [(h0, .inr (2, [.int 0, .int 0, .int 0, .int 0, .int 0, .int 999, .null, .null, .null, .null, .null, .null, .null, .null, .null, .null, .int 0, .null, .null])), (q1, .inl (c2, 8, .inl (fun _ => 0)))] := hD
  have hK : va_K (dC, dI) vwCl [(c2, .int)] s := hK
  refine W.widen (k := 1) (n := 8) (by omega) (by omega) ?_
  refine va_putF (D := (dC, dI)) (ci := 2) (v := .ref q1) (ty := (.array .int)) (C := RX2) (T := TX2) (N := 19) hx hb hts cw2 tyX2 tyX2_ok nmX2 hown hK hP hD hS 0 rfl rfl 6 (by decide) (hts _ wk_6) (fun _ h9 => h9) rfl hin rfl (by decide +kernel) rfl rfl (Nat.le_of_ble_eq_true rfl) dX2_init_16 (fun H locs hP hD hS => ?_)
  have hP : va_P (dC, dI) vwCl [(h0, .inr (2, [.int 0, .int 0, .int 0, .int 0, .int 0, .int 999, .ref q1, .null, .null, .null, .null, .null, .null, .null, .null, .null, .int 0, .null, .null])), (q1, .inl (c2, 8, .inl (fun _ => 0)))] H := hP
  have hD : va_D A [(h0, .inr (2, [.int 0, .int 0, .int 0, .int 0, .int 0, .int 999, .ref q1, .null, .null, .null, .null, .null, .null, .null, .null, .null, .int 0, .null, .null])), (q1, .inl (c2, 8, .inl (fun _ => 0)))] := hD
  refine lv_aload_n hx hb dX2_init_19 rfl (lv_at hl 0 rfl) ?_
  refine lv_bipush (v := 6) hx hb dX2_init_20 (by decide) ?_
  refine va_newa (atype := .int) (a0 := (6, .inl (fun _ => 0))) hx hb (hts _ wk_1) rfl hK hP hD hS hA (fun _ => rfl) (by decide) (by decide) (by decide) (Nat.le_of_ble_eq_true rfl) (Nat.le_of_ble_eq_true rfl) dX2_init_22 (fun q3 c4 H hK hP hD hS => ?_)
  have hP : va_P (dC, dI) vwCl [(h0, .inr (2, [.int 0, .int 0, .int 0, .int 0, .int 0, .int 999, .ref q1, .null, .null, .null, .null, .null, .null, .null, .null, .null, .int 0, .null, .null])), (q1, .inl (c2, 8, .inl (fun _ => 0))), (q3, .inl (c4, 6, .inl (fun _ => 0)))] H := hP
  have hD : va_D A [(h0, .inr (2, [.int 0, .int 0, .int 0, .int 0, .int 0, .int 999, .ref q1, .null, .null, .null, .null, .null, .null, .null, .null, .null, .int 0, .null, .null])), (q1, .inl (c2, 8, .inl (fun _ => 0))), (q3, .inl (c4, 6, .inl (fun _ => 0)))] := hD
  have hK : va_K (dC, dI) vwCl [(c2, .int), (c4, .int)] s := hK
  refine W.widen (k := 2) (n := 14) (by omega) (by omega) ?_
  refine va_putF (D := (dC, dI)) (ci := 2) (v := .ref q3) (ty := (.array .int)) (C := RX2) (T := TX2) (N := 19) hx hb hts cw2 tyX2 tyX2_ok nmX2 hown hK hP hD hS 0 rfl rfl 7 (by decide) (hts _ wk_7) (fun _ h9 => h9) rfl hin rfl (by decide +kernel) rfl rfl (Nat.le_of_ble_eq_true rfl) dX2_init_24 (fun H locs hP hD hS => ?_)
  have hP : va_P (dC, dI) vwCl [(h0, .inr (2, [.int 0, .int 0, .int 0, .int 0, .int 0, .int 999, .ref q1, .ref q3, .null, .null, .null, .null, .null, .null, .null, .null, .int 0, .null, .null])), (q1, .inl (c2, 8, .inl (fun _ => 0))), (q3, .inl (c4, 6, .inl (fun _ => 0)))] H := hP
  have hD : va_D A [(h0, .inr (2, [.int 0, .int 0, .int 0, .int 0, .int 0, .int 999, .ref q1, .ref q3, .null, .null, .null, .null, .null, .null, .null, .null, .int 0, .null, .null])), (q1, .inl (c2, 8, .inl (fun _ => 0))), (q3, .inl (c4, 6, .inl (fun _ => 0)))] := hD
  refine lv_aload_n hx hb dX2_init_27 rfl (lv_at hl 0 rfl) ?_
  refine lv_bipush (v := 8) hx hb dX2_init_28 (by decide) ?_
  refine va_newa (atype := .int) (a0 := (8, .inl (fun _ => 0))) hx hb (hts _ wk_1) rfl hK hP hD hS hA (fun _ => rfl) (by decide) (by decide) (by decide) (Nat.le_of_ble_eq_true rfl) (Nat.le_of_ble_eq_true rfl) dX2_init_30 (fun q5 c6 H hK hP hD hS => ?_)
  have hP : va_P (dC, dI) vwCl [(h0, .inr (2, [.int 0, .int 0, .int 0, .int 0, .int 0, .int 999, .ref q1, .ref q3, .null, .null, .null, .null, .null, .null, .null, .null, .int 0, .null, .null])), (q1, .inl (c2, 8, .inl (fun _ => 0))), (q3, .inl (c4, 6, .inl (fun _ => 0))), (q5, .inl (c6, 8, .inl (fun _ => 0)))] H := hP
  have hD : va_D A [(h0, .inr (2, [.int 0, .int 0, .int 0, .int 0, .int 0, .int 999, .ref q1, .ref q3, .null, .null, .null, .null, .null, .null, .null, .null, .int 0, .null, .null])), (q1, .inl (c2, 8, .inl (fun _ => 0))), (q3, .inl (c4, 6, .inl (fun _ => 0))), (q5, .inl (c6, 8, .inl (fun _ => 0)))] := hD
  have hK : va_K (dC, dI) vwCl [(c2, .int), (c4, .int), (c6, .int)] s := hK
  refine W.widen (k := 3) (n := 22) (by omega) (by omega) ?_
  refine va_putF (D := (dC, dI)) (ci := 2) (v := .ref q5) (ty := (.array .int)) (C := RX2) (T := TX2) (N := 19) hx hb hts cw2 tyX2 tyX2_ok nmX2 hown hK hP hD hS 0 rfl rfl 8 (by decide) (hts _ wk_8) (fun _ h9 => h9) rfl hin rfl (by decide +kernel) rfl rfl (Nat.le_of_ble_eq_true rfl) dX2_init_32 (fun H locs hP hD hS => ?_)
  have hP : va_P (dC, dI) vwCl [(h0, .inr (2, [.int 0, .int 0, .int 0, .int 0, .int 0, .int 999, .ref q1, .ref q3, .ref q5, .null, .null, .null, .null, .null, .null, .null, .int 0, .null, .null])), (q1, .inl (c2, 8, .inl (fun _ => 0))), (q3, .inl (c4, 6, .inl (fun _ => 0))), (q5, .inl (c6, 8, .inl (fun _ => 0)))] H := hP
  have hD : va_D A [(h0, .inr (2, [.int 0, .int 0, .int 0, .int 0, .int 0, .int 999, .ref q1, .ref q3, .ref q5, .null, .null, .null, .null, .null, .null, .null, .int 0, .null, .null])), (q1, .inl (c2, 8, .inl (fun _ => 0))), (q3, .inl (c4, 6, .inl (fun _ => 0))), (q5, .inl (c6, 8, .inl (fun _ => 0)))] := hD
  refine lv_aload_n hx hb dX2_init_35 rfl (lv_at hl 0 rfl) ?_
  refine lv_bipush (v := 8) hx hb dX2_init_36 (by decide) ?_
  refine va_newa (atype := .int) (a0 := (8, .inl (fun _ => 0))) hx hb (hts _ wk_1) rfl hK hP hD hS hA (fun _ => rfl) (by decide) (by decide) (by decide) (Nat.le_of_ble_eq_true rfl) (Nat.le_of_ble_eq_true rfl) dX2_init_38 (fun q7 c8 H hK hP hD hS => ?_)
  have hP : va_P (dC, dI) vwCl [(h0, .inr (2, [.int 0, .int 0, .int 0, .int 0, .int 0, .int 999, .ref q1, .ref q3, .ref q5, .null, .null, .null, .null, .null, .null, .null, .int 0, .null, .null])), (q1, .inl (c2, 8, .inl (fun _ => 0))), (q3, .inl (c4, 6, .inl (fun _ => 0))), (q5, .inl (c6, 8, .inl (fun _ => 0))), (q7, .inl (c8, 8, .inl (fun _ => 0)))] H := hP
  have hD : va_D A [(h0, .inr (2, [.int 0, .int 0, .int 0, .int 0, .int 0, .int 999, .ref q1, .ref q3, .ref q5, .null, .null, .null, .null, .null, .null, .null, .int 0, .null, .null])), (q1, .inl (c2, 8, .inl (fun _ => 0))), (q3, .inl (c4, 6, .inl (fun _ => 0))), (q5, .inl (c6, 8, .inl (fun _ => 0))), (q7, .inl (c8, 8, .inl (fun _ => 0)))] := hD
  have hK : va_K (dC, dI) vwCl [(c2, .int), (c4, .int), (c6, .int), (c8, .int)] s := hK
  refine W.widen (k := 4) (n := 30) (by omega) (by omega) ?_
  refine va_putF (D := (dC, dI)) (ci := 2) (v := .ref q7) (ty := (.array .int)) (C := RX2) (T := TX2) (N := 19) hx hb hts cw2 tyX2 tyX2_ok nmX2 hown hK hP hD hS 0 rfl rfl 9 (by decide) (hts _ wk_9) (fun _ h9 => h9) rfl hin rfl (by decide +kernel) rfl rfl (Nat.le_of_ble_eq_true rfl) dX2_init_40 (fun H locs hP hD hS => ?_)
  have hP : va_P (dC, dI) vwCl [(h0, .inr (2, [.int 0, .int 0, .int 0, .int 0, .int 0, .int 999, .ref q1, .ref q3, .ref q5, .ref q7, .null, .null, .null, .null, .null, .null, .int 0, .null, .null])), (q1, .inl (c2, 8, .inl (fun _ => 0))), (q3, .inl (c4, 6, .inl (fun _ => 0))), (q5, .inl (c6, 8, .inl (fun _ => 0))), (q7, .inl (c8, 8, .inl (fun _ => 0)))] H := hP
  have hD : va_D A [(h0, .inr (2, [.int 0, .int 0, .int 0, .int 0, .int 0, .int 999, .ref q1, .ref q3, .ref q5, .ref q7, .null, .null, .null, .null, .null, .null, .int 0, .null, .null])), (q1, .inl (c2, 8, .inl (fun _ => 0))), (q3, .inl (c4, 6, .inl (fun _ => 0))), (q5, .inl (c6, 8, .inl (fun _ => 0))), (q7, .inl (c8, 8, .inl (fun _ => 0)))] := hD
  refine lv_aload_n hx hb dX2_init_43 rfl (lv_at hl 0 rfl) ?_
  refine lv_bipush (v := 8) hx hb dX2_init_44 (by decide) ?_
  refine va_newa (atype := .int) (a0 := (8, .inl (fun _ => 0))) hx hb (hts _ wk_1) rfl hK hP hD hS hA (fun _ => rfl) (by decide) (by decide) (by decide) (Nat.le_of_ble_eq_true rfl) (Nat.le_of_ble_eq_true rfl) dX2_init_46 (fun q9 c10 H hK hP hD hS => ?_)
  have hP : va_P (dC, dI) vwCl [(h0, .inr (2, [.int 0, .int 0, .int 0, .int 0, .int 0, .int 999, .ref q1, .ref q3, .ref q5, .ref q7, .null, .null, .null, .null, .null, .null, .int 0, .null, .null])), (q1, .inl (c2, 8, .inl (fun _ => 0))), (q3, .inl (c4, 6, .inl (fun _ => 0))), (q5, .inl (c6, 8, .inl (fun _ => 0))), (q7, .inl (c8, 8, .inl (fun _ => 0))), (q9, .inl (c10, 8, .inl (fun _ => 0)))] H := hP
  have hD : va_D A [(h0, .inr (2, [.int 0, .int 0, .int 0, .int 0, .int 0, .int 999, .ref q1, .ref q3, .ref q5, .ref q7, .null, .null, .null, .null, .null, .null, .int 0, .null, .null])), (q1, .inl (c2, 8, .inl (fun _ => 0))), (q3, .inl (c4, 6, .inl (fun _ => 0))), (q5, .inl (c6, 8, .inl (fun _ => 0))), (q7, .inl (c8, 8, .inl (fun _ => 0))), (q9, .inl (c10, 8, .inl (fun _ => 0)))] := hD
  have hK : va_K (dC, dI) vwCl [(c2, .int), (c4, .int), (c6, .int), (c8, .int), (c10, .int)] s := hK
  refine W.widen (k := 5) (n := 38) (by omega) (by omega) ?_
  refine va_putF (D := (dC, dI)) (ci := 2) (v := .ref q9) (ty := (.array .int)) (C := RX2) (T := TX2) (N := 19) hx hb hts cw2 tyX2 tyX2_ok nmX2 hown hK hP hD hS 0 rfl rfl 10 (by decide) (hts _ wk_10) (fun _ h9 => h9) rfl hin rfl (by decide +kernel) rfl rfl (Nat.le_of_ble_eq_true rfl) dX2_init_48 (fun H locs hP hD hS => ?_)
  have hP : va_P (dC, dI) vwCl [(h0, .inr (2, [.int 0, .int 0, .int 0, .int 0, .int 0, .int 999, .ref q1, .ref q3, .ref q5, .ref q7, .ref q9, .null, .null, .null, .null, .null, .int 0, .null, .null])), (q1, .inl (c2, 8, .inl (fun _ => 0))), (q3, .inl (c4, 6, .inl (fun _ => 0))), (q5, .inl (c6, 8, .inl (fun _ => 0))), (q7, .inl (c8, 8, .inl (fun _ => 0))), (q9, .inl (c10, 8, .inl (fun _ => 0)))] H := hP
  have hD : va_D A [(h0, .inr (2, [.int 0, .int 0, .int 0, .int 0, .int 0, .int 999, .ref q1, .ref q3, .ref q5, .ref q7, .ref q9, .null, .null, .null, .null, .null, .int 0, .null, .null])), (q1, .inl (c2, 8, .inl (fun _ => 0))), (q3, .inl (c4, 6, .inl (fun _ => 0))), (q5, .inl (c6, 8, .inl (fun _ => 0))), (q7, .inl (c8, 8, .inl (fun _ => 0))), (q9, .inl (c10, 8, .inl (fun _ => 0)))] := hD
  refine lv_aload_n hx hb dX2_init_51 rfl (lv_at hl 0 rfl) ?_
  refine lv_bipush (v := 8) hx hb dX2_init_52 (by decide) ?_
  refine va_newa (atype := .int) (a0 := (8, .inl (fun _ => 0))) hx hb (hts _ wk_1) rfl hK hP hD hS hA (fun _ => rfl) (by decide) (by decide) (by decide) (Nat.le_of_ble_eq_true rfl) (Nat.le_of_ble_eq_true rfl) dX2_init_54 (fun q11 c12 H hK hP hD hS => ?_)
  have hP : va_P (dC, dI) vwCl [(h0, .inr (2, [.int 0, .int 0, .int 0, .int 0, .int 0, .int 999, .ref q1, .ref q3, .ref q5, .ref q7, .ref q9, .null, .null, .null, .null, .null, .int 0, .null, .null])), (q1, .inl (c2, 8, .inl (fun _ => 0))), (q3, .inl (c4, 6, .inl (fun _ => 0))), (q5, .inl (c6, 8, .inl (fun _ => 0))), (q7, .inl (c8, 8, .inl (fun _ => 0))), (q9, .inl (c10, 8, .inl (fun _ => 0))), (q11, .inl (c12, 8, .inl (fun _ => 0)))] H := hP
  have hD : va_D A [(h0, .inr (2, [.int 0, .int 0, .int 0, .int 0, .int 0, .int 999, .ref q1, .ref q3, .ref q5, .ref q7, .ref q9, .null, .null, .null, .null, .null, .int 0, .null, .null])), (q1, .inl (c2, 8, .inl (fun _ => 0))), (q3, .inl (c4, 6, .inl (fun _ => 0))), (q5, .inl (c6, 8, .inl (fun _ => 0))), (q7, .inl (c8, 8, .inl (fun _ => 0))), (q9, .inl (c10, 8, .inl (fun _ => 0))), (q11, .inl (c12, 8, .inl (fun _ => 0)))] := hD
  have hK : va_K (dC, dI) vwCl [(c2, .int), (c4, .int), (c6, .int), (c8, .int), (c10, .int), (c12, .int)] s := hK
  refine W.widen (k := 6) (n := 46) (by omega) (by omega) ?_
  refine va_putF (D := (dC, dI)) (ci := 2) (v := .ref q11) (ty := (.array .int)) (C := RX2) (T := TX2) (N := 19) hx hb hts cw2 tyX2 tyX2_ok nmX2 hown hK hP hD hS 0 rfl rfl 11 (by decide) (hts _ wk_11) (fun _ h9 => h9) rfl hin rfl (by decide +kernel) rfl rfl (Nat.le_of_ble_eq_true rfl) dX2_init_56 (fun H locs hP hD hS => ?_)
  have hP : va_P (dC, dI) vwCl [(h0, .inr (2, [.int 0, .int 0, .int 0, .int 0, .int 0, .int 999, .ref q1, .ref q3, .ref q5, .ref q7, .ref q9, .ref q11, .null, .null, .null, .null, .int 0, .null, .null])), (q1, .inl (c2, 8, .inl (fun _ => 0))), (q3, .inl (c4, 6, .inl (fun _ => 0))), (q5, .inl (c6, 8, .inl (fun _ => 0))), (q7, .inl (c8, 8, .inl (fun _ => 0))), (q9, .inl (c10, 8, .inl (fun _ => 0))), (q11, .inl (c12, 8, .inl (fun _ => 0)))] H := hP
  have hD : va_D A [(h0, .inr (2, [.int 0, .int 0, .int 0, .int 0, .int 0, .int 999, .ref q1, .ref q3, .ref q5, .ref q7, .ref q9, .ref q11, .null, .null, .null, .null, .int 0, .null, .null])), (q1, .inl (c2, 8, .inl (fun _ => 0))), (q3, .inl (c4, 6, .inl (fun _ => 0))), (q5, .inl (c6, 8, .inl (fun _ => 0))), (q7, .inl (c8, 8, .inl (fun _ => 0))), (q9, .inl (c10, 8, .inl (fun _ => 0))), (q11, .inl (c12, 8, .inl (fun _ => 0)))] := hD
  refine lv_aload_n hx hb dX2_init_59 rfl (lv_at hl 0 rfl) ?_
  refine lv_bipush (v := 8) hx hb dX2_init_60 (by decide) ?_
  refine va_newa (atype := .int) (a0 := (8, .inl (fun _ => 0))) hx hb (hts _ wk_1) rfl hK hP hD hS hA (fun _ => rfl) (by decide) (by decide) (by decide) (Nat.le_of_ble_eq_true rfl) (Nat.le_of_ble_eq_true rfl) dX2_init_62 (fun q13 c14 H hK hP hD hS => ?_)
  have hP : va_P (dC, dI) vwCl [(h0, .inr (2, [.int 0, .int 0, .int 0, .int 0, .int 0, .int 999, .ref q1, .ref q3, .ref q5, .ref q7, .ref q9, .ref q11, .null, .null, .null, .null, .int 0, .null, .null])), (q1, .inl (c2, 8, .inl (fun _ => 0))), (q3, .inl (c4, 6, .inl (fun _ => 0))), (q5, .inl (c6, 8, .inl (fun _ => 0))), (q7, .inl (c8, 8, .inl (fun _ => 0))), (q9, .inl (c10, 8, .inl (fun _ => 0))), (q11, .inl (c12, 8, .inl (fun _ => 0))), (q13, .inl (c14, 8, .inl (fun _ => 0)))] H := hP
  have hD : va_D A [(h0, .inr (2, [.int 0, .int 0, .int 0, .int 0, .int 0, .int 999, .ref q1, .ref q3, .ref q5, .ref q7, .ref q9, .ref q11, .null, .null, .null, .null, .int 0, .null, .null])), (q1, .inl (c2, 8, .inl (fun _ => 0))), (q3, .inl (c4, 6, .inl (fun _ => 0))), (q5, .inl (c6, 8, .inl (fun _ => 0))), (q7, .inl (c8, 8, .inl (fun _ => 0))), (q9, .inl (c10, 8, .inl (fun _ => 0))), (q11, .inl (c12, 8, .inl (fun _ => 0))), (q13, .inl (c14, 8, .inl (fun _ => 0)))] := hD
  have hK : va_K (dC, dI) vwCl [(c2, .int), (c4, .int), (c6, .int), (c8, .int), (c10, .int), (c12, .int), (c14, .int)] s := hK
  refine W.widen (k := 7) (n := 54) (by omega) (by omega) ?_
  refine va_putF (D := (dC, dI)) (ci := 2) (v := .ref q13) (ty := (.array .int)) (C := RX2) (T := TX2) (N := 19) hx hb hts cw2 tyX2 tyX2_ok nmX2 hown hK hP hD hS 0 rfl rfl 12 (by decide) (hts _ wk_12) (fun _ h9 => h9) rfl hin rfl (by decide +kernel) rfl rfl (Nat.le_of_ble_eq_true rfl) dX2_init_64 (fun H locs hP hD hS => ?_)
  have hP : va_P (dC, dI) vwCl [(h0, .inr (2, [.int 0, .int 0, .int 0, .int 0, .int 0, .int 999, .ref q1, .ref q3, .ref q5, .ref q7, .ref q9, .ref q11, .ref q13, .null, .null, .null, .int 0, .null, .null])), (q1, .inl (c2, 8, .inl (fun _ => 0))), (q3, .inl (c4, 6, .inl (fun _ => 0))), (q5, .inl (c6, 8, .inl (fun _ => 0))), (q7, .inl (c8, 8, .inl (fun _ => 0))), (q9, .inl (c10, 8, .inl (fun _ => 0))), (q11, .inl (c12, 8, .inl (fun _ => 0))), (q13, .inl (c14, 8, .inl (fun _ => 0)))] H := hP
  have hD : va_D A [(h0, .inr (2, [.int 0, .int 0, .int 0, .int 0, .int 0, .int 999, .ref q1, .ref q3, .ref q5, .ref q7, .ref q9, .ref q11, .ref q13, .null, .null, .null, .int 0, .null, .null])), (q1, .inl (c2, 8, .inl (fun _ => 0))), (q3, .inl (c4, 6, .inl (fun _ => 0))), (q5, .inl (c6, 8, .inl (fun _ => 0))), (q7, .inl (c8, 8, .inl (fun _ => 0))), (q9, .inl (c10, 8, .inl (fun _ => 0))), (q11, .inl (c12, 8, .inl (fun _ => 0))), (q13, .inl (c14, 8, .inl (fun _ => 0)))] := hD
  refine lv_aload_n hx hb dX2_init_67 rfl (lv_at hl 0 rfl) ?_
  refine lv_bipush (v := 8) hx hb dX2_init_68 (by decide) ?_
  refine va_newa (atype := .int) (a0 := (8, .inl (fun _ => 0))) hx hb (hts _ wk_1) rfl hK hP hD hS hA (fun _ => rfl) (by decide) (by decide) (by decide) (Nat.le_of_ble_eq_true rfl) (Nat.le_of_ble_eq_true rfl) dX2_init_70 (fun q15 c16 H hK hP hD hS => ?_)
  have hP : va_P (dC, dI) vwCl [(h0, .inr (2, [.int 0, .int 0, .int 0, .int 0, .int 0, .int 999, .ref q1, .ref q3, .ref q5, .ref q7, .ref q9, .ref q11, .ref q13, .null, .null, .null, .int 0, .null, .null])), (q1, .inl (c2, 8, .inl (fun _ => 0))), (q3, .inl (c4, 6, .inl (fun _ => 0))), (q5, .inl (c6, 8, .inl (fun _ => 0))), (q7, .inl (c8, 8, .inl (fun _ => 0))), (q9, .inl (c10, 8, .inl (fun _ => 0))), (q11, .inl (c12, 8, .inl (fun _ => 0))), (q13, .inl (c14, 8, .inl (fun _ => 0))), (q15, .inl (c16, 8, .inl (fun _ => 0)))] H := hP
  have hD : va_D A [(h0, .inr (2, [.int 0, .int 0, .int 0, .int 0, .int 0, .int 999, .ref q1, .ref q3, .ref q5, .ref q7, .ref q9, .ref q11, .ref q13, .null, .null, .null, .int 0, .null, .null])), (q1, .inl (c2, 8, .inl (fun _ => 0))), (q3, .inl (c4, 6, .inl (fun _ => 0))), (q5, .inl (c6, 8, .inl (fun _ => 0))), (q7, .inl (c8, 8, .inl (fun _ => 0))), (q9, .inl (c10, 8, .inl (fun _ => 0))), (q11, .inl (c12, 8, .inl (fun _ => 0))), (q13, .inl (c14, 8, .inl (fun _ => 0))), (q15, .inl (c16, 8, .inl (fun _ => 0)))] := hD
  have hK : va_K (dC, dI) vwCl [(c2, .int), (c4, .int), (c6, .int), (c8, .int), (c10, .int), (c12, .int), (c14, .int), (c16, .int)] s := hK
  refine W.widen (k := 8) (n := 62) (by omega) (by omega) ?_
  refine va_putF (D := (dC, dI)) (ci := 2) (v := .ref q15) (ty := (.array .int)) (C := RX2) (T := TX2) (N := 19) hx hb hts cw2 tyX2 tyX2_ok nmX2 hown hK hP hD hS 0 rfl rfl 13 (by decide) (hts _ wk_13) (fun _ h9 => h9) rfl hin rfl (by decide +kernel) rfl rfl (Nat.le_of_ble_eq_true rfl) dX2_init_72 (fun H locs hP hD hS => ?_)
  have hP : va_P (dC, dI) vwCl [(h0, .inr (2, [.int 0, .int 0, .int 0, .int 0, .int 0, .int 999, .ref q1, .ref q3, .ref q5, .ref q7, .ref q9, .ref q11, .ref q13, .ref q15, .null, .null, .int 0, .null, .null])), (q1, .inl (c2, 8, .inl (fun _ => 0))), (q3, .inl (c4, 6, .inl (fun _ => 0))), (q5, .inl (c6, 8, .inl (fun _ => 0))), (q7, .inl (c8, 8, .inl (fun _ => 0))), (q9, .inl (c10, 8, .inl (fun _ => 0))), (q11, .inl (c12, 8, .inl (fun _ => 0))), (q13, .inl (c14, 8, .inl (fun _ => 0))), (q15, .inl (c16, 8, .inl (fun _ => 0)))] H := hP
  have hD : va_D A [(h0, .inr (2, [.int 0, .int 0, .int 0, .int 0, .int 0, .int 999, .ref q1, .ref q3, .ref q5, .ref q7, .ref q9, .ref q11, .ref q13, .ref q15, .null, .null, .int 0, .null, .null])), (q1, .inl (c2, 8, .inl (fun _ => 0))), (q3, .inl (c4, 6, .inl (fun _ => 0))), (q5, .inl (c6, 8, .inl (fun _ => 0))), (q7, .inl (c8, 8, .inl (fun _ => 0))), (q9, .inl (c10, 8, .inl (fun _ => 0))), (q11, .inl (c12, 8, .inl (fun _ => 0))), (q13, .inl (c14, 8, .inl (fun _ => 0))), (q15, .inl (c16, 8, .inl (fun _ => 0)))] := hD
  refine lv_aload_n hx hb dX2_init_75 rfl (lv_at hl 0 rfl) ?_
  refine lv_bipush (v := 36) hx hb dX2_init_76 (by decide) ?_
  refine va_newa (atype := .int) (a0 := (36, .inl (fun _ => 0))) hx hb (hts _ wk_1) rfl hK hP hD hS hA (fun _ => rfl) (by decide) (by decide) (by decide) (Nat.le_of_ble_eq_true rfl) (Nat.le_of_ble_eq_true rfl) dX2_init_78 (fun q17 c18 H hK hP hD hS => ?_)
  have hP : va_P (dC, dI) vwCl [(h0, .inr (2, [.int 0, .int 0, .int 0, .int 0, .int 0, .int 999, .ref q1, .ref q3, .ref q5, .ref q7, .ref q9, .ref q11, .ref q13, .ref q15, .null, .null, .int 0, .null, .null])), (q1, .inl (c2, 8, .inl (fun _ => 0))), (q3, .inl (c4, 6, .inl (fun _ => 0))), (q5, .inl (c6, 8, .inl (fun _ => 0))), (q7, .inl (c8, 8, .inl (fun _ => 0))), (q9, .inl (c10, 8, .inl (fun _ => 0))), (q11, .inl (c12, 8, .inl (fun _ => 0))), (q13, .inl (c14, 8, .inl (fun _ => 0))), (q15, .inl (c16, 8, .inl (fun _ => 0))), (q17, .inl (c18, 36, .inl (fun _ => 0)))] H := hP
  have hD : va_D A [(h0, .inr (2, [.int 0, .int 0, .int 0, .int 0, .int 0, .int 999, .ref q1, .ref q3, .ref q5, .ref q7, .ref q9, .ref q11, .ref q13, .ref q15, .null, .null, .int 0, .null, .null])), (q1, .inl (c2, 8, .inl (fun _ => 0))), (q3, .inl (c4, 6, .inl (fun _ => 0))), (q5, .inl (c6, 8, .inl (fun _ => 0))), (q7, .inl (c8, 8, .inl (fun _ => 0))), (q9, .inl (c10, 8, .inl (fun _ => 0))), (q11, .inl (c12, 8, .inl (fun _ => 0))), (q13, .inl (c14, 8, .inl (fun _ => 0))), (q15, .inl (c16, 8, .inl (fun _ => 0))), (q17, .inl (c18, 36, .inl (fun _ => 0)))] := hD
  have hK : va_K (dC, dI) vwCl [(c2, .int), (c4, .int), (c6, .int), (c8, .int), (c10, .int), (c12, .int), (c14, .int), (c16, .int), (c18, .int)] s := hK
  refine W.widen (k := 9) (n := 98) (by omega) (by omega) ?_
  refine va_putF (D := (dC, dI)) (ci := 2) (v := .ref q17) (ty := (.array .int)) (C := RX2) (T := TX2) (N := 19) hx hb hts cw2 tyX2 tyX2_ok nmX2 hown hK hP hD hS 0 rfl rfl 14 (by decide) (hts _ wk_14) (fun _ h9 => h9) rfl hin rfl (by decide +kernel) rfl rfl (Nat.le_of_ble_eq_true rfl) dX2_init_80 (fun H locs hP hD hS => ?_)
  have hP : va_P (dC, dI) vwCl [(h0, .inr (2, [.int 0, .int 0, .int 0, .int 0, .int 0, .int 999, .ref q1, .ref q3, .ref q5, .ref q7, .ref q9, .ref q11, .ref q13, .ref q15, .ref q17, .null, .int 0, .null, .null])), (q1, .inl (c2, 8, .inl (fun _ => 0))), (q3, .inl (c4, 6, .inl (fun _ => 0))), (q5, .inl (c6, 8, .inl (fun _ => 0))), (q7, .inl (c8, 8, .inl (fun _ => 0))), (q9, .inl (c10, 8, .inl (fun _ => 0))), (q11, .inl (c12, 8, .inl (fun _ => 0))), (q13, .inl (c14, 8, .inl (fun _ => 0))), (q15, .inl (c16, 8, .inl (fun _ => 0))), (q17, .inl (c18, 36, .inl (fun _ => 0)))] H := hP
  have hD : va_D A [(h0, .inr (2, [.int 0, .int 0, .int 0, .int 0, .int 0, .int 999, .ref q1, .ref q3, .ref q5, .ref q7, .ref q9, .ref q11, .ref q13, .ref q15, .ref q17, .null, .int 0, .null, .null])), (q1, .inl (c2, 8, .inl (fun _ => 0))), (q3, .inl (c4, 6, .inl (fun _ => 0))), (q5, .inl (c6, 8, .inl (fun _ => 0))), (q7, .inl (c8, 8, .inl (fun _ => 0))), (q9, .inl (c10, 8, .inl (fun _ => 0))), (q11, .inl (c12, 8, .inl (fun _ => 0))), (q13, .inl (c14, 8, .inl (fun _ => 0))), (q15, .inl (c16, 8, .inl (fun _ => 0))), (q17, .inl (c18, 36, .inl (fun _ => 0)))] := hD
  refine lv_aload_n hx hb dX2_init_83 rfl (lv_at hl 0 rfl) ?_
  refine lv_sipush (v := 1600) hx hb dX2_init_84 (by decide) ?_
  refine va_newa (atype := .int) (a0 := (1600, .inl (fun _ => 0))) hx hb (hts _ wk_1) rfl hK hP hD hS hA (fun _ => rfl) (by decide) (by decide) (by decide) (Nat.le_of_ble_eq_true rfl) (Nat.le_of_ble_eq_true rfl) dX2_init_87 (fun q19 c20 H hK hP hD hS => ?_)
  have hP : va_P (dC, dI) vwCl [(h0, .inr (2, [.int 0, .int 0, .int 0, .int 0, .int 0, .int 999, .ref q1, .ref q3, .ref q5, .ref q7, .ref q9, .ref q11, .ref q13, .ref q15, .ref q17, .null, .int 0, .null, .null])), (q1, .inl (c2, 8, .inl (fun _ => 0))), (q3, .inl (c4, 6, .inl (fun _ => 0))), (q5, .inl (c6, 8, .inl (fun _ => 0))), (q7, .inl (c8, 8, .inl (fun _ => 0))), (q9, .inl (c10, 8, .inl (fun _ => 0))), (q11, .inl (c12, 8, .inl (fun _ => 0))), (q13, .inl (c14, 8, .inl (fun _ => 0))), (q15, .inl (c16, 8, .inl (fun _ => 0))), (q17, .inl (c18, 36, .inl (fun _ => 0))), (q19, .inl (c20, 1600, .inl (fun _ => 0)))] H := hP
  have hD : va_D A [(h0, .inr (2, [.int 0, .int 0, .int 0, .int 0, .int 0, .int 999, .ref q1, .ref q3, .ref q5, .ref q7, .ref q9, .ref q11, .ref q13, .ref q15, .ref q17, .null, .int 0, .null, .null])), (q1, .inl (c2, 8, .inl (fun _ => 0))), (q3, .inl (c4, 6, .inl (fun _ => 0))), (q5, .inl (c6, 8, .inl (fun _ => 0))), (q7, .inl (c8, 8, .inl (fun _ => 0))), (q9, .inl (c10, 8, .inl (fun _ => 0))), (q11, .inl (c12, 8, .inl (fun _ => 0))), (q13, .inl (c14, 8, .inl (fun _ => 0))), (q15, .inl (c16, 8, .inl (fun _ => 0))), (q17, .inl (c18, 36, .inl (fun _ => 0))), (q19, .inl (c20, 1600, .inl (fun _ => 0)))] := hD
  have hK : va_K (dC, dI) vwCl [(c2, .int), (c4, .int), (c6, .int), (c8, .int), (c10, .int), (c12, .int), (c14, .int), (c16, .int), (c18, .int), (c20, .int)] s := hK
  refine W.widen (k := 10) (n := 1698) (by omega) (by omega) ?_
  refine va_putF (D := (dC, dI)) (ci := 2) (v := .ref q19) (ty := (.array .int)) (C := RX2) (T := TX2) (N := 19) hx hb hts cw2 tyX2 tyX2_ok nmX2 hown hK hP hD hS 0 rfl rfl 15 (by decide) (hts _ wk_15) (fun _ h9 => h9) rfl hin rfl (by decide +kernel) rfl rfl (Nat.le_of_ble_eq_true rfl) dX2_init_89 (fun H locs hP hD hS => ?_)
  have hP : va_P (dC, dI) vwCl [(h0, .inr (2, [.int 0, .int 0, .int 0, .int 0, .int 0, .int 999, .ref q1, .ref q3, .ref q5, .ref q7, .ref q9, .ref q11, .ref q13, .ref q15, .ref q17, .ref q19, .int 0, .null, .null])), (q1, .inl (c2, 8, .inl (fun _ => 0))), (q3, .inl (c4, 6, .inl (fun _ => 0))), (q5, .inl (c6, 8, .inl (fun _ => 0))), (q7, .inl (c8, 8, .inl (fun _ => 0))), (q9, .inl (c10, 8, .inl (fun _ => 0))), (q11, .inl (c12, 8, .inl (fun _ => 0))), (q13, .inl (c14, 8, .inl (fun _ => 0))), (q15, .inl (c16, 8, .inl (fun _ => 0))), (q17, .inl (c18, 36, .inl (fun _ => 0))), (q19, .inl (c20, 1600, .inl (fun _ => 0)))] H := hP
  have hD : va_D A [(h0, .inr (2, [.int 0, .int 0, .int 0, .int 0, .int 0, .int 999, .ref q1, .ref q3, .ref q5, .ref q7, .ref q9, .ref q11, .ref q13, .ref q15, .ref q17, .ref q19, .int 0, .null, .null])), (q1, .inl (c2, 8, .inl (fun _ => 0))), (q3, .inl (c4, 6, .inl (fun _ => 0))), (q5, .inl (c6, 8, .inl (fun _ => 0))), (q7, .inl (c8, 8, .inl (fun _ => 0))), (q9, .inl (c10, 8, .inl (fun _ => 0))), (q11, .inl (c12, 8, .inl (fun _ => 0))), (q13, .inl (c14, 8, .inl (fun _ => 0))), (q15, .inl (c16, 8, .inl (fun _ => 0))), (q17, .inl (c18, 36, .inl (fun _ => 0))), (q19, .inl (c20, 1600, .inl (fun _ => 0)))] := hD
  refine lv_aload_n hx hb dX2_init_92 rfl (lv_at hl 0 rfl) ?_
  refine lv_iconst (v := 3) hx hb dX2_init_93 (by decide) ?_
  refine va_newa (atype := .int) (a0 := (3, .inl (fun _ => 0))) hx hb (hts _ wk_1) rfl hK hP hD hS hA (fun _ => rfl) (by decide) (by decide) (by decide) (Nat.le_of_ble_eq_true rfl) (Nat.le_of_ble_eq_true rfl) dX2_init_94 (fun q21 c22 H hK hP hD hS => ?_)
  have hP : va_P (dC, dI) vwCl [(h0, .inr (2, [.int 0, .int 0, .int 0, .int 0, .int 0, .int 999, .ref q1, .ref q3, .ref q5, .ref q7, .ref q9, .ref q11, .ref q13, .ref q15, .ref q17, .ref q19, .int 0, .null, .null])), (q1, .inl (c2, 8, .inl (fun _ => 0))), (q3, .inl (c4, 6, .inl (fun _ => 0))), (q5, .inl (c6, 8, .inl (fun _ => 0))), (q7, .inl (c8, 8, .inl (fun _ => 0))), (q9, .inl (c10, 8, .inl (fun _ => 0))), (q11, .inl (c12, 8, .inl (fun _ => 0))), (q13, .inl (c14, 8, .inl (fun _ => 0))), (q15, .inl (c16, 8, .inl (fun _ => 0))), (q17, .inl (c18, 36, .inl (fun _ => 0))), (q19, .inl (c20, 1600, .inl (fun _ => 0))), (q21, .inl (c22, 3, .inl (fun _ => 0)))] H := hP
  have hD : va_D A [(h0, .inr (2, [.int 0, .int 0, .int 0, .int 0, .int 0, .int 999, .ref q1, .ref q3, .ref q5, .ref q7, .ref q9, .ref q11, .ref q13, .ref q15, .ref q17, .ref q19, .int 0, .null, .null])), (q1, .inl (c2, 8, .inl (fun _ => 0))), (q3, .inl (c4, 6, .inl (fun _ => 0))), (q5, .inl (c6, 8, .inl (fun _ => 0))), (q7, .inl (c8, 8, .inl (fun _ => 0))), (q9, .inl (c10, 8, .inl (fun _ => 0))), (q11, .inl (c12, 8, .inl (fun _ => 0))), (q13, .inl (c14, 8, .inl (fun _ => 0))), (q15, .inl (c16, 8, .inl (fun _ => 0))), (q17, .inl (c18, 36, .inl (fun _ => 0))), (q19, .inl (c20, 1600, .inl (fun _ => 0))), (q21, .inl (c22, 3, .inl (fun _ => 0)))] := hD
  have hK : va_K (dC, dI) vwCl [(c2, .int), (c4, .int), (c6, .int), (c8, .int), (c10, .int), (c12, .int), (c14, .int), (c16, .int), (c18, .int), (c20, .int), (c22, .int)] s := hK
  refine W.widen (k := 11) (n := 1701) (by omega) (by omega) ?_
  refine va_putF (D := (dC, dI)) (ci := 2) (v := .ref q21) (ty := (.array .int)) (C := RX2) (T := TX2) (N := 19) hx hb hts cw2 tyX2 tyX2_ok nmX2 hown hK hP hD hS 0 rfl rfl 17 (by decide) (hts _ wk_16) (fun _ h9 => h9) rfl hin rfl (by decide +kernel) rfl rfl (Nat.le_of_ble_eq_true rfl) dX2_init_96 (fun H locs hP hD hS => ?_)
  have hP : va_P (dC, dI) vwCl [(h0, .inr (2, [.int 0, .int 0, .int 0, .int 0, .int 0, .int 999, .ref q1, .ref q3, .ref q5, .ref q7, .ref q9, .ref q11, .ref q13, .ref q15, .ref q17, .ref q19, .int 0, .ref q21, .null])), (q1, .inl (c2, 8, .inl (fun _ => 0))), (q3, .inl (c4, 6, .inl (fun _ => 0))), (q5, .inl (c6, 8, .inl (fun _ => 0))), (q7, .inl (c8, 8, .inl (fun _ => 0))), (q9, .inl (c10, 8, .inl (fun _ => 0))), (q11, .inl (c12, 8, .inl (fun _ => 0))), (q13, .inl (c14, 8, .inl (fun _ => 0))), (q15, .inl (c16, 8, .inl (fun _ => 0))), (q17, .inl (c18, 36, .inl (fun _ => 0))), (q19, .inl (c20, 1600, .inl (fun _ => 0))), (q21, .inl (c22, 3, .inl (fun _ => 0)))] H := hP
  have hD : va_D A [(h0, .inr (2, [.int 0, .int 0, .int 0, .int 0, .int 0, .int 999, .ref q1, .ref q3, .ref q5, .ref q7, .ref q9, .ref q11, .ref q13, .ref q15, .ref q17, .ref q19, .int 0, .ref q21, .null])), (q1, .inl (c2, 8, .inl (fun _ => 0))), (q3, .inl (c4, 6, .inl (fun _ => 0))), (q5, .inl (c6, 8, .inl (fun _ => 0))), (q7, .inl (c8, 8, .inl (fun _ => 0))), (q9, .inl (c10, 8, .inl (fun _ => 0))), (q11, .inl (c12, 8, .inl (fun _ => 0))), (q13, .inl (c14, 8, .inl (fun _ => 0))), (q15, .inl (c16, 8, .inl (fun _ => 0))), (q17, .inl (c18, 36, .inl (fun _ => 0))), (q19, .inl (c20, 1600, .inl (fun _ => 0))), (q21, .inl (c22, 3, .inl (fun _ => 0)))] := hD
  refine lv_aload_n hx hb dX2_init_99 rfl (lv_at hl 0 rfl) ?_
  refine lv_iconst (v := 3) hx hb dX2_init_100 (by decide) ?_
  refine va_newa (atype := .int) (a0 := (3, .inl (fun _ => 0))) hx hb (hts _ wk_1) rfl hK hP hD hS hA (fun _ => rfl) (by decide) (by decide) (by decide) (Nat.le_of_ble_eq_true rfl) (Nat.le_of_ble_eq_true rfl) dX2_init_101 (fun q23 c24 H hK hP hD hS => ?_)
  have hP : va_P (dC, dI) vwCl [(h0, .inr (2, [.int 0, .int 0, .int 0, .int 0, .int 0, .int 999, .ref q1, .ref q3, .ref q5, .ref q7, .ref q9, .ref q11, .ref q13, .ref q15, .ref q17, .ref q19, .int 0, .ref q21, .null])), (q1, .inl (c2, 8, .inl (fun _ => 0))), (q3, .inl (c4, 6, .inl (fun _ => 0))), (q5, .inl (c6, 8, .inl (fun _ => 0))), (q7, .inl (c8, 8, .inl (fun _ => 0))), (q9, .inl (c10, 8, .inl (fun _ => 0))), (q11, .inl (c12, 8, .inl (fun _ => 0))), (q13, .inl (c14, 8, .inl (fun _ => 0))), (q15, .inl (c16, 8, .inl (fun _ => 0))), (q17, .inl (c18, 36, .inl (fun _ => 0))), (q19, .inl (c20, 1600, .inl (fun _ => 0))), (q21, .inl (c22, 3, .inl (fun _ => 0))), (q23, .inl (c24, 3, .inl (fun _ => 0)))] H := hP
  have hD : va_D A [(h0, .inr (2, [.int 0, .int 0, .int 0, .int 0, .int 0, .int 999, .ref q1, .ref q3, .ref q5, .ref q7, .ref q9, .ref q11, .ref q13, .ref q15, .ref q17, .ref q19, .int 0, .ref q21, .null])), (q1, .inl (c2, 8, .inl (fun _ => 0))), (q3, .inl (c4, 6, .inl (fun _ => 0))), (q5, .inl (c6, 8, .inl (fun _ => 0))), (q7, .inl (c8, 8, .inl (fun _ => 0))), (q9, .inl (c10, 8, .inl (fun _ => 0))), (q11, .inl (c12, 8, .inl (fun _ => 0))), (q13, .inl (c14, 8, .inl (fun _ => 0))), (q15, .inl (c16, 8, .inl (fun _ => 0))), (q17, .inl (c18, 36, .inl (fun _ => 0))), (q19, .inl (c20, 1600, .inl (fun _ => 0))), (q21, .inl (c22, 3, .inl (fun _ => 0))), (q23, .inl (c24, 3, .inl (fun _ => 0)))] := hD
  have hK : va_K (dC, dI) vwCl [(c2, .int), (c4, .int), (c6, .int), (c8, .int), (c10, .int), (c12, .int), (c14, .int), (c16, .int), (c18, .int), (c20, .int), (c22, .int), (c24, .int)] s := hK
  refine W.widen (k := 12) (n := 1704) (by omega) (by omega) ?_
  refine va_putF (D := (dC, dI)) (ci := 2) (v := .ref q23) (ty := (.array .int)) (C := RX2) (T := TX2) (N := 19) hx hb hts cw2 tyX2 tyX2_ok nmX2 hown hK hP hD hS 0 rfl rfl 18 (by decide) (hts _ wk_17) (fun _ h9 => h9) rfl hin rfl (by decide +kernel) rfl rfl (Nat.le_of_ble_eq_true rfl) dX2_init_103 (fun H locs hP hD hS => ?_)
  have hP : va_P (dC, dI) vwCl [(h0, .inr (2, [.int 0, .int 0, .int 0, .int 0, .int 0, .int 999, .ref q1, .ref q3, .ref q5, .ref q7, .ref q9, .ref q11, .ref q13, .ref q15, .ref q17, .ref q19, .int 0, .ref q21, .ref q23])), (q1, .inl (c2, 8, .inl (fun _ => 0))), (q3, .inl (c4, 6, .inl (fun _ => 0))), (q5, .inl (c6, 8, .inl (fun _ => 0))), (q7, .inl (c8, 8, .inl (fun _ => 0))), (q9, .inl (c10, 8, .inl (fun _ => 0))), (q11, .inl (c12, 8, .inl (fun _ => 0))), (q13, .inl (c14, 8, .inl (fun _ => 0))), (q15, .inl (c16, 8, .inl (fun _ => 0))), (q17, .inl (c18, 36, .inl (fun _ => 0))), (q19, .inl (c20, 1600, .inl (fun _ => 0))), (q21, .inl (c22, 3, .inl (fun _ => 0))), (q23, .inl (c24, 3, .inl (fun _ => 0)))] H := hP
  have hD : va_D A [(h0, .inr (2, [.int 0, .int 0, .int 0, .int 0, .int 0, .int 999, .ref q1, .ref q3, .ref q5, .ref q7, .ref q9, .ref q11, .ref q13, .ref q15, .ref q17, .ref q19, .int 0, .ref q21, .ref q23])), (q1, .inl (c2, 8, .inl (fun _ => 0))), (q3, .inl (c4, 6, .inl (fun _ => 0))), (q5, .inl (c6, 8, .inl (fun _ => 0))), (q7, .inl (c8, 8, .inl (fun _ => 0))), (q9, .inl (c10, 8, .inl (fun _ => 0))), (q11, .inl (c12, 8, .inl (fun _ => 0))), (q13, .inl (c14, 8, .inl (fun _ => 0))), (q15, .inl (c16, 8, .inl (fun _ => 0))), (q17, .inl (c18, 36, .inl (fun _ => 0))), (q19, .inl (c20, 1600, .inl (fun _ => 0))), (q21, .inl (c22, 3, .inl (fun _ => 0))), (q23, .inl (c24, 3, .inl (fun _ => 0)))] := hD
  have hP9 := hP.sub (ws' := [(h0, .inr (2, [.int 0, .int 0, .int 0, .int 0, .int 0, .int 999, .ref q1, .ref q3, .ref q5, .ref q7, .ref q9, .ref q11, .ref q13, .ref q15, .ref q17, .ref q19, .int 0, .ref q21, .ref q23])), (q1, .inl (c2, 8, .inl (fun _ => 0))), (q3, .inl (c4, 6, .inl (fun _ => 0))), (q5, .inl (c6, 8, .inl (fun _ => 0))), (q7, .inl (c8, 8, .inl (fun _ => 0))), (q9, .inl (c10, 8, .inl (fun _ => 0))), (q11, .inl (c12, 8, .inl (fun _ => 0))), (q13, .inl (c14, 8, .inl (fun _ => 0))), (q15, .inl (c16, 8, .inl (fun _ => 0))), (q17, .inl (c18, 36, .inl (fun _ => 0))), (q19, .inl (c20, 1600, .inl (fun _ => 0))), (q21, .inl (c22, 3, .inl (fun _ => 0))), (q23, .inl (c24, 3, .inl (fun _ => 0)))]) [0, 1, 2, 3, 4, 5, 6, 7, 8, 9, 10, 11, 12] rfl
  have hD9 := hD.sub (ws' := [(h0, .inr (2, [.int 0, .int 0, .int 0, .int 0, .int 0, .int 999, .ref q1, .ref q3, .ref q5, .ref q7, .ref q9, .ref q11, .ref q13, .ref q15, .ref q17, .ref q19, .int 0, .ref q21, .ref q23])), (q1, .inl (c2, 8, .inl (fun _ => 0))), (q3, .inl (c4, 6, .inl (fun _ => 0))), (q5, .inl (c6, 8, .inl (fun _ => 0))), (q7, .inl (c8, 8, .inl (fun _ => 0))), (q9, .inl (c10, 8, .inl (fun _ => 0))), (q11, .inl (c12, 8, .inl (fun _ => 0))), (q13, .inl (c14, 8, .inl (fun _ => 0))), (q15, .inl (c16, 8, .inl (fun _ => 0))), (q17, .inl (c18, 36, .inl (fun _ => 0))), (q19, .inl (c20, 1600, .inl (fun _ => 0))), (q21, .inl (c22, 3, .inl (fun _ => 0))), (q23, .inl (c24, 3, .inl (fun _ => 0)))]) [0, 1, 2, 3, 4, 5, 6, 7, 8, 9, 10, 11, 12] (by decide) rfl
  refine W.widen (k := 12) (n := 1704) (by omega) (by omega) ?_
  exact W.vret hx hb hr (fun t ht hW => ⟨⟨(), rfl, trivial, fun i => [q1, q3, q5, q7, q9, q11, q13, q15, q17, q19, q21, q23].getD i 0, fun i => [c2, c4, c6, c8, c10, c12, c14, c16, c18, c20, c22, c24].getD i 0, by rw [ht]; exact hP9, va_K.moved hW.alike hK, hD9⟩, hS.F ht⟩) hS.2.2 dX2_init_106 hlocks

set_option maxHeartbeats 4000000 in
set_option maxRecDepth 100000 in
theorem ct_X5_init (l : Launch) (dC : Nat → ClassId) (dI : Nat → Nat → Nat) (h0 : Nat) (sz : Nat) : Met l yX5_init (Cond.code yX5_init cX5_init 1 none :: TBL) { frames := 1, cells := 1, slots := 240, locals := 12 } (va_Pc [.ref h0] (fun U => U.heap.size = sz ∧ va_P (dC, dI) vwCl [(h0, .inr (5, [.null, .int 0]))] U.heap ∧ va_K (dC, dI) vwCl [] U ∧ va_D (fun _ => True) [(h0, .inr (5, [.null, .int 0]))])) (va_Qv (fun _ : Unit => True) (fun _ t => ∃ (q : Nat → Nat) (c : Nat → ClassId), va_P (dC, dI) vwCl [(h0, .inr (5, [.ref (q 0), .int 0])), ((q 0), .inl ((c 0), 240, .inl (fun _ => 0)))] t.heap ∧ va_K (dC, dI) vwCl [((c 0), .int)] t ∧ va_D (va_A [(h0, .inr (5, [.null, .int 0]))] sz) [(h0, .inr (5, [.ref (q 0), .int 0])), ((q 0), .inl ((c 0), 240, .inl (fun _ => 0)))]) (va_A [(h0, .inr (5, [.null, .int 0]))] sz)) 1 240 (va_A [(h0, .inr (5, [.null, .int 0]))] sz) := by
  refine Met.ofW (cc := cX5_init) (maxL := 1) (ret := none) (by decide +kernel) rfl ?_
  intro p e s m args below meth c s₁ B hml hv
  obtain ⟨rfl, hsz, hP, hK, hD0⟩ := hv
  have hx := B.exec
  have hb := B.bytes
  have hr := B.returns
  have hts0 := atoms_spec (ws := Cond.code yX5_init cX5_init 1 none :: TBL) B.pre
  have hts : ∀ w ∈ TBL, w.before ([.ref h0] : List Value).toArray s = true := fun w h => hts0 w (List.mem_cons_of_mem _ h)
  have hown : s.vm.findClass RX5 = some m.cls := findClass_of_methodNamed B.named
  have hlocks := B.notSynchronized
  have hin : meth.name = "<init>" := (name_of_methodNamed B.named B.method).1
  subst hsz
  have hD := hD0.self (sz := s.heap.size)
  generalize hAe : va_A [(h0, .inr (5, [.null, .int 0]))] s.heap.size = A at hD ⊢
  have hA : ∀ q : Nat, s.heap.size ≤ q → A q := fun q h => by rw [← hAe]; exact Or.inr h
  have hS : va_S A s.heap s.heap [] := va_S.rf
  have hP : va_P (dC, dI) vwCl [(h0, .inr (5, [.null, .int 0]))] s.heap := hP
  have hl := lv_entry ([.ref h0]) (n := 1) (Nat.le_of_ble_eq_true rfl)
  rw [lg_entry_eq]
  generalize (lg_sl ([.ref h0]) ++ List.replicate (1 - (lg_sl ([.ref h0])).length) Slot.unset).toArray = ls at hl ⊢
  have hl : lv_has ls 1 [(0, .ref h0)] := hl
  refine lv_aload_n hx hb dX5_init_0 rfl (lv_at hl 0 rfl) ?_
  refine W.objInit hx hb hown (hts _ wk_18) (hts _ oi_inst) (hts _ oi_code) rfl (by rw [hml]; exact hl.1) rfl dX5_init_1 (Nat.le_of_ble_eq_true rfl) (Nat.le_of_ble_eq_true rfl) ?_
  refine W.eq (g2 := F0 m 4 ls []) rfl ?_
  refine lv_aload_n hx hb dX5_init_4 rfl (lv_at hl 0 rfl) ?_
  refine lv_sipush (v := 240) hx hb dX5_init_5 (by decide) ?_
  refine va_newa (atype := .int) (a0 := (240, .inl (fun _ => 0))) hx hb (hts _ wk_1) rfl hK hP hD hS hA (fun _ => rfl) (by decide) (by decide) (by decide) (Nat.le_of_ble_eq_true rfl) (Nat.le_of_ble_eq_true rfl) dX5_init_8 (fun q1 c2 H hK hP hD hS => ?_)
  have hP : va_P (dC, dI) vwCl [(h0, .inr (5, [.null, .int 0])), (q1, .inl (c2, 240, .inl (fun _ => 0)))] H := hP
  have hD : va_D A [(h0, .inr (5, [.null, .int 0])), (q1, .inl (c2, 240, .inl (fun _ => 0)))] := hD
  have hK : va_K (dC, dI) vwCl [(c2, .int)] s := hK
  refine W.widen (k := 1) (n := 240) (by omega) (by omega) ?_
  refine va_putF (D := (dC, dI)) (ci := 5) (v := .ref q1) (ty := (.array .int)) (C := RX5) (T := TX5) (N := 2) hx hb hts cw5 tyX5 tyX5_ok nmX5 hown hK hP hD hS 0 rfl rfl 0 (by decide) (hts _ wk_19) (fun _ h9 => h9) rfl hin rfl (by decide +kernel) rfl rfl (Nat.le_of_ble_eq_true rfl) dX5_init_10 (fun H locs hP hD hS => ?_)
  have hP : va_P (dC, dI) vwCl [(h0, .inr (5, [.ref q1, .int 0])), (q1, .inl (c2, 240, .inl (fun _ => 0)))] H := hP
  have hD : va_D A [(h0, .inr (5, [.ref q1, .int 0])), (q1, .inl (c2, 240, .inl (fun _ => 0)))] := hD
  have hP9 := hP.sub (ws' := [(h0, .inr (5, [.ref q1, .int 0])), (q1, .inl (c2, 240, .inl (fun _ => 0)))]) [0, 1] rfl
  have hD9 := hD.sub (ws' := [(h0, .inr (5, [.ref q1, .int 0])), (q1, .inl (c2, 240, .inl (fun _ => 0)))]) [0, 1] (by decide) rfl
  refine W.widen (k := 1) (n := 240) (by omega) (by omega) ?_
  exact W.vret hx hb hr (fun t ht hW => ⟨⟨(), rfl, trivial, fun i => [q1].getD i 0, fun i => [c2].getD i 0, by rw [ht]; exact hP9, va_K.moved hW.alike hK, hD9⟩, hS.F ht⟩) hS.2.2 dX5_init_13 hlocks

set_option maxHeartbeats 4000000 in
set_option maxRecDepth 100000 in
theorem ct_X6_init (l : Launch) (dC : Nat → ClassId) (dI : Nat → Nat → Nat) (h0 : Nat) (sz : Nat) : Met l yX6_init (Cond.code yX6_init cX6_init 1 none :: TBL) { frames := 1, cells := 1, slots := 107, locals := 12 } (va_Pc [.ref h0] (fun U => U.heap.size = sz ∧ va_P (dC, dI) vwCl [(h0, .inr (6, [.null, .int 0]))] U.heap ∧ va_K (dC, dI) vwCl [] U ∧ va_D (fun _ => True) [(h0, .inr (6, [.null, .int 0]))])) (va_Qv (fun _ : Unit => True) (fun _ t => ∃ (q : Nat → Nat) (c : Nat → ClassId), va_P (dC, dI) vwCl [(h0, .inr (6, [.ref (q 0), .int 0])), ((q 0), .inl ((c 0), 107, .inl (fun _ => 0)))] t.heap ∧ va_K (dC, dI) vwCl [((c 0), .int)] t ∧ va_D (va_A [(h0, .inr (6, [.null, .int 0]))] sz) [(h0, .inr (6, [.ref (q 0), .int 0])), ((q 0), .inl ((c 0), 107, .inl (fun _ => 0)))]) (va_A [(h0, .inr (6, [.null, .int 0]))] sz)) 1 107 (va_A [(h0, .inr (6, [.null, .int 0]))] sz) := by
  refine Met.ofW (cc := cX6_init) (maxL := 1) (ret := none) (by decide +kernel) rfl ?_
  intro p e s m args below meth c s₁ B hml hv
  obtain ⟨rfl, hsz, hP, hK, hD0⟩ := hv
  have hx := B.exec
  have hb := B.bytes
  have hr := B.returns
  have hts0 := atoms_spec (ws := Cond.code yX6_init cX6_init 1 none :: TBL) B.pre
  have hts : ∀ w ∈ TBL, w.before ([.ref h0] : List Value).toArray s = true := fun w h => hts0 w (List.mem_cons_of_mem _ h)
  have hown : s.vm.findClass RX6 = some m.cls := findClass_of_methodNamed B.named
  have hlocks := B.notSynchronized
  have hin : meth.name = "<init>" := (name_of_methodNamed B.named B.method).1
  subst hsz
  have hD := hD0.self (sz := s.heap.size)
  generalize hAe : va_A [(h0, .inr (6, [.null, .int 0]))] s.heap.size = A at hD ⊢
  have hA : ∀ q : Nat, s.heap.size ≤ q → A q := fun q h => by rw [← hAe]; exact Or.inr h
  have hS : va_S A s.heap s.heap [] := va_S.rf
  have hP : va_P (dC, dI) vwCl [(h0, .inr (6, [.null, .int 0]))] s.heap := hP
  have hl := lv_entry ([.ref h0]) (n := 1) (Nat.le_of_ble_eq_true rfl)
  rw [lg_entry_eq]
  generalize (lg_sl ([.ref h0]) ++ List.replicate (1 - (lg_sl ([.ref h0])).length) Slot.unset).toArray = ls at hl ⊢
  have hl : lv_has ls 1 [(0, .ref h0)] := hl
  refine lv_aload_n hx hb dX6_init_0 rfl (lv_at hl 0 rfl) ?_
  refine W.objInit hx hb hown (hts _ wk_20) (hts _ oi_inst) (hts _ oi_code) rfl (by rw [hml]; exact hl.1) rfl dX6_init_1 (Nat.le_of_ble_eq_true rfl) (Nat.le_of_ble_eq_true rfl) ?_
  refine W.eq (g2 := F0 m 4 ls []) rfl ?_
  refine lv_aload_n hx hb dX6_init_4 rfl (lv_at hl 0 rfl) ?_
  refine lv_bipush (v := 107) hx hb dX6_init_5 (by decide) ?_
  refine va_newa (atype := .int) (a0 := (107, .inl (fun _ => 0))) hx hb (hts _ wk_1) rfl hK hP hD hS hA (fun _ => rfl) (by decide) (by decide) (by decide) (Nat.le_of_ble_eq_true rfl) (Nat.le_of_ble_eq_true rfl) dX6_init_7 (fun q1 c2 H hK hP hD hS => ?_)
  have hP : va_P (dC, dI) vwCl [(h0, .inr (6, [.null, .int 0])), (q1, .inl (c2, 107, .inl (fun _ => 0)))] H := hP
  have hD : va_D A [(h0, .inr (6, [.null, .int 0])), (q1, .inl (c2, 107, .inl (fun _ => 0)))] := hD
  have hK : va_K (dC, dI) vwCl [(c2, .int)] s := hK
  refine W.widen (k := 1) (n := 107) (by omega) (by omega) ?_
  refine va_putF (D := (dC, dI)) (ci := 6) (v := .ref q1) (ty := (.array .int)) (C := RX6) (T := TX6) (N := 2) hx hb hts cw6 tyX6 tyX6_ok nmX6 hown hK hP hD hS 0 rfl rfl 0 (by decide) (hts _ wk_21) (fun _ h9 => h9) rfl hin rfl (by decide +kernel) rfl rfl (Nat.le_of_ble_eq_true rfl) dX6_init_9 (fun H locs hP hD hS => ?_)
  have hP : va_P (dC, dI) vwCl [(h0, .inr (6, [.ref q1, .int 0])), (q1, .inl (c2, 107, .inl (fun _ => 0)))] H := hP
  have hD : va_D A [(h0, .inr (6, [.ref q1, .int 0])), (q1, .inl (c2, 107, .inl (fun _ => 0)))] := hD
  have hP9 := hP.sub (ws' := [(h0, .inr (6, [.ref q1, .int 0])), (q1, .inl (c2, 107, .inl (fun _ => 0)))]) [0, 1] rfl
  have hD9 := hD.sub (ws' := [(h0, .inr (6, [.ref q1, .int 0])), (q1, .inl (c2, 107, .inl (fun _ => 0)))]) [0, 1] (by decide) rfl
  refine W.widen (k := 1) (n := 107) (by omega) (by omega) ?_
  exact W.vret hx hb hr (fun t ht hW => ⟨⟨(), rfl, trivial, fun i => [q1].getD i 0, fun i => [c2].getD i 0, by rw [ht]; exact hP9, va_K.moved hW.alike hK, hD9⟩, hS.F ht⟩) hS.2.2 dX6_init_12 hlocks

set_option maxHeartbeats 4000000 in
set_option maxRecDepth 100000 in
theorem ct_X0_init (l : Launch) (dC : Nat → ClassId) (dI : Nat → Nat → Nat) (h0 : Nat) (sz : Nat) : Met l yX0_init (Cond.code yX0_init cX0_init 1 none :: TBL) { frames := 1, cells := 7, slots := 547, locals := 12 } (va_Pc [.ref h0] (fun U => U.heap.size = sz ∧ va_P (dC, dI) vwCl [(h0, .inr (0, [.null, .null, .int 0, .null, .null, .null, .null, .null, .int 0, .int 0]))] U.heap ∧ va_K (dC, dI) vwCl [] U ∧ va_D (fun _ => True) [(h0, .inr (0, [.null, .null, .int 0, .null, .null, .null, .null, .null, .int 0, .int 0]))])) (va_Qv (fun _ : Unit => True) (fun _ t => ∃ (q : Nat → Nat) (c : Nat → ClassId), va_P (dC, dI) vwCl [(h0, .inr (0, [.ref (q 0), .ref (q 1), .int 0, .ref (q 2), .ref (q 3), .ref (q 4), .ref (q 5), .ref (q 6), .int 0, .int 0])), ((q 0), .inl ((c 0), 8, .inl (fun _ => 0))), ((q 1), .inl ((c 1), 8, .inl (fun _ => 0))), ((q 2), .inl ((c 2), 256, .inl (fun _ => 0))), ((q 3), .inl ((c 3), 256, .inl (fun _ => 0))), ((q 4), .inl ((c 4), 3, .inl (fun _ => 0))), ((q 5), .inl ((c 5), 8, .inl (fun _ => 0))), ((q 6), .inl ((c 6), 8, .inl (fun _ => 0)))] t.heap ∧ va_K (dC, dI) vwCl [((c 0), .int), ((c 1), .int), ((c 2), .int), ((c 3), .int), ((c 4), .int), ((c 5), .int), ((c 6), .int)] t ∧ va_D (va_A [(h0, .inr (0, [.null, .null, .int 0, .null, .null, .null, .null, .null, .int 0, .int 0]))] sz) [(h0, .inr (0, [.ref (q 0), .ref (q 1), .int 0, .ref (q 2), .ref (q 3), .ref (q 4), .ref (q 5), .ref (q 6), .int 0, .int 0])), ((q 0), .inl ((c 0), 8, .inl (fun _ => 0))), ((q 1), .inl ((c 1), 8, .inl (fun _ => 0))), ((q 2), .inl ((c 2), 256, .inl (fun _ => 0))), ((q 3), .inl ((c 3), 256, .inl (fun _ => 0))), ((q 4), .inl ((c 4), 3, .inl (fun _ => 0))), ((q 5), .inl ((c 5), 8, .inl (fun _ => 0))), ((q 6), .inl ((c 6), 8, .inl (fun _ => 0)))]) (va_A [(h0, .inr (0, [.null, .null, .int 0, .null, .null, .null, .null, .null, .int 0, .int 0]))] sz)) 7 547 (va_A [(h0, .inr (0, [.null, .null, .int 0, .null, .null, .null, .null, .null, .int 0, .int 0]))] sz) := by
  refine Met.ofW (cc := cX0_init) (maxL := 1) (ret := none) (by decide +kernel) rfl ?_
  intro p e s m args below meth c s₁ B hml hv
  obtain ⟨rfl, hsz, hP, hK, hD0⟩ := hv
  have hx := B.exec
  have hb := B.bytes
  have hr := B.returns
  have hts0 := atoms_spec (ws := Cond.code yX0_init cX0_init 1 none :: TBL) B.pre
  have hts : ∀ w ∈ TBL, w.before ([.ref h0] : List Value).toArray s = true := fun w h => hts0 w (List.mem_cons_of_mem _ h)
  have hown : s.vm.findClass RX0 = some m.cls := findClass_of_methodNamed B.named
  have hlocks := B.notSynchronized
  have hin : meth.name = "<init>" := (name_of_methodNamed B.named B.method).1
  subst hsz
  have hD := hD0.self (sz := s.heap.size)
  generalize hAe : va_A [(h0, .inr (0, [.null, .null, .int 0, .null, .null, .null, .null, .null, .int 0, .int 0]))] s.heap.size = A at hD ⊢
  have hA : ∀ q : Nat, s.heap.size ≤ q → A q := fun q h => by rw [← hAe]; exact Or.inr h
  have hS : va_S A s.heap s.heap [] := va_S.rf
  have hP : va_P (dC, dI) vwCl [(h0, .inr (0, [.null, .null, .int 0, .null, .null, .null, .null, .null, .int 0, .int 0]))] s.heap := hP
  have hl := lv_entry ([.ref h0]) (n := 1) (Nat.le_of_ble_eq_true rfl)
  rw [lg_entry_eq]
  generalize (lg_sl ([.ref h0]) ++ List.replicate (1 - (lg_sl ([.ref h0])).length) Slot.unset).toArray = ls at hl ⊢
  have hl : lv_has ls 1 [(0, .ref h0)] := hl
  refine lv_aload_n hx hb dX0_init_0 rfl (lv_at hl 0 rfl) ?_
  refine W.objInit hx hb hown (hts _ wk_22) (hts _ oi_inst) (hts _ oi_code) rfl (by rw [hml]; exact hl.1) rfl dX0_init_1 (Nat.le_of_ble_eq_true rfl) (Nat.le_of_ble_eq_true rfl) ?_
  refine W.eq (g2 := F0 m 4 ls []) rfl ?_
  refine lv_aload_n hx hb dX0_init_4 rfl (lv_at hl 0 rfl) ?_
  refine lv_bipush (v := 8) hx hb dX0_init_5 (by decide) ?_
  refine va_newa (atype := .int) (a0 := (8, .inl (fun _ => 0))) hx hb (hts _ wk_1) rfl hK hP hD hS hA (fun _ => rfl) (by decide) (by decide) (by decide) (Nat.le_of_ble_eq_true rfl) (Nat.le_of_ble_eq_true rfl) dX0_init_7 (fun q1 c2 H hK hP hD hS => ?_)
  have hP : va_P (dC, dI) vwCl [(h0, .inr (0, [.null, .null, .int 0, .null, .null, .null, .null, .null, .int 0, .int 0])), (q1, .inl (c2, 8, .inl (fun _ => 0)))] H := hP
  have hD : va_D A [(h0, .inr (0, [.null, .null, .int 0, .null, .null, .null, .null, .null, .int 0, .int 0])), (q1, .inl (c2, 8, .inl (fun _ => 0)))] := hD
  have hK : va_K (dC, dI) vwCl [(c2, .int)] s := hK
  refine W.widen (k := 1) (n := 8) (by omega) (by omega) ?_
  refine va_putF (D := (dC, dI)) (ci := 0) (v := .ref q1) (ty := (.array .int)) (C := RX0) (T := TX0) (N := 10) hx hb hts cw0 tyX0 tyX0_ok nmX0 hown hK hP hD hS 0 rfl rfl 0 (by decide) (hts _ wk_23) (fun _ h9 => h9) rfl hin rfl (by decide +kernel) rfl rfl (Nat.le_of_ble_eq_true rfl) dX0_init_9 (fun H locs hP hD hS => ?_)
  have hP : va_P (dC, dI) vwCl [(h0, .inr (0, [.ref q1, .null, .int 0, .null, .null, .null, .null, .null, .int 0, .int 0])), (q1, .inl (c2, 8, .inl (fun _ => 0)))] H := hP
  have hD : va_D A [(h0, .inr (0, [.ref q1, .null, .int 0, .null, .null, .null, .null, .null, .int 0, .int 0])), (q1, .inl (c2, 8, .inl (fun _ => 0)))] := hD
  refine lv_aload_n hx hb dX0_init_12 rfl (lv_at hl 0 rfl) ?_
  refine lv_bipush (v := 8) hx hb dX0_init_13 (by decide) ?_
  refine va_newa (atype := .int) (a0 := (8, .inl (fun _ => 0))) hx hb (hts _ wk_1) rfl hK hP hD hS hA (fun _ => rfl) (by decide) (by decide) (by decide) (Nat.le_of_ble_eq_true rfl) (Nat.le_of_ble_eq_true rfl) dX0_init_15 (fun q3 c4 H hK hP hD hS => ?_)
  have hP : va_P (dC, dI) vwCl [(h0, .inr (0, [.ref q1, .null, .int 0, .null, .null, .null, .null, .null, .int 0, .int 0])), (q1, .inl (c2, 8, .inl (fun _ => 0))), (q3, .inl (c4, 8, .inl (fun _ => 0)))] H := hP
  have hD : va_D A [(h0, .inr (0, [.ref q1, .null, .int 0, .null, .null, .null, .null, .null, .int 0, .int 0])), (q1, .inl (c2, 8, .inl (fun _ => 0))), (q3, .inl (c4, 8, .inl (fun _ => 0)))] := hD
  have hK : va_K (dC, dI) vwCl [(c2, .int), (c4, .int)] s := hK
  refine W.widen (k := 2) (n := 16) (by omega) (by omega) ?_
  refine va_putF (D := (dC, dI)) (ci := 0) (v := .ref q3) (ty := (.array .int)) (C := RX0) (T := TX0) (N := 10) hx hb hts cw0 tyX0 tyX0_ok nmX0 hown hK hP hD hS 0 rfl rfl 1 (by decide) (hts _ wk_24) (fun _ h9 => h9) rfl hin rfl (by decide +kernel) rfl rfl (Nat.le_of_ble_eq_true rfl) dX0_init_17 (fun H locs hP hD hS => ?_)
  have hP : va_P (dC, dI) vwCl [(h0, .inr (0, [.ref q1, .ref q3, .int 0, .null, .null, .null, .null, .null, .int 0, .int 0])), (q1, .inl (c2, 8, .inl (fun _ => 0))), (q3, .inl (c4, 8, .inl (fun _ => 0)))] H := hP
  have hD : va_D A [(h0, .inr (0, [.ref q1, .ref q3, .int 0, .null, .null, .null, .null, .null, .int 0, .int 0])), (q1, .inl (c2, 8, .inl (fun _ => 0))), (q3, .inl (c4, 8, .inl (fun _ => 0)))] := hD
  refine lv_aload_n hx hb dX0_init_20 rfl (lv_at hl 0 rfl) ?_
  refine lv_sipush (v := 256) hx hb dX0_init_21 (by decide) ?_
  refine va_newa (atype := .int) (a0 := (256, .inl (fun _ => 0))) hx hb (hts _ wk_1) rfl hK hP hD hS hA (fun _ => rfl) (by decide) (by decide) (by decide) (Nat.le_of_ble_eq_true rfl) (Nat.le_of_ble_eq_true rfl) dX0_init_24 (fun q5 c6 H hK hP hD hS => ?_)
  have hP : va_P (dC, dI) vwCl [(h0, .inr (0, [.ref q1, .ref q3, .int 0, .null, .null, .null, .null, .null, .int 0, .int 0])), (q1, .inl (c2, 8, .inl (fun _ => 0))), (q3, .inl (c4, 8, .inl (fun _ => 0))), (q5, .inl (c6, 256, .inl (fun _ => 0)))] H := hP
  have hD : va_D A [(h0, .inr (0, [.ref q1, .ref q3, .int 0, .null, .null, .null, .null, .null, .int 0, .int 0])), (q1, .inl (c2, 8, .inl (fun _ => 0))), (q3, .inl (c4, 8, .inl (fun _ => 0))), (q5, .inl (c6, 256, .inl (fun _ => 0)))] := hD
  have hK : va_K (dC, dI) vwCl [(c2, .int), (c4, .int), (c6, .int)] s := hK
  refine W.widen (k := 3) (n := 272) (by omega) (by omega) ?_
  refine va_putF (D := (dC, dI)) (ci := 0) (v := .ref q5) (ty := (.array .int)) (C := RX0) (T := TX0) (N := 10) hx hb hts cw0 tyX0 tyX0_ok nmX0 hown hK hP hD hS 0 rfl rfl 3 (by decide) (hts _ wk_25) (fun _ h9 => h9) rfl hin rfl (by decide +kernel) rfl rfl (Nat.le_of_ble_eq_true rfl) dX0_init_26 (fun H locs hP hD hS => ?_)
  have hP : va_P (dC, dI) vwCl [(h0, .inr (0, [.ref q1, .ref q3, .int 0, .ref q5, .null, .null, .null, .null, .int 0, .int 0])), (q1, .inl (c2, 8, .inl (fun _ => 0))), (q3, .inl (c4, 8, .inl (fun _ => 0))), (q5, .inl (c6, 256, .inl (fun _ => 0)))] H := hP
  have hD : va_D A [(h0, .inr (0, [.ref q1, .ref q3, .int 0, .ref q5, .null, .null, .null, .null, .int 0, .int 0])), (q1, .inl (c2, 8, .inl (fun _ => 0))), (q3, .inl (c4, 8, .inl (fun _ => 0))), (q5, .inl (c6, 256, .inl (fun _ => 0)))] := hD
  refine lv_aload_n hx hb dX0_init_29 rfl (lv_at hl 0 rfl) ?_
  refine lv_sipush (v := 256) hx hb dX0_init_30 (by decide) ?_
  refine va_newa (atype := .int) (a0 := (256, .inl (fun _ => 0))) hx hb (hts _ wk_1) rfl hK hP hD hS hA (fun _ => rfl) (by decide) (by decide) (by decide) (Nat.le_of_ble_eq_true rfl) (Nat.le_of_ble_eq_true rfl) dX0_init_33 (fun q7 c8 H hK hP hD hS => ?_)
  have hP : va_P (dC, dI) vwCl [(h0, .inr (0, [.ref q1, .ref q3, .int 0, .ref q5, .null, .null, .null, .null, .int 0, .int 0])), (q1, .inl (c2, 8, .inl (fun _ => 0))), (q3, .inl (c4, 8, .inl (fun _ => 0))), (q5, .inl (c6, 256, .inl (fun _ => 0))), (q7, .inl (c8, 256, .inl (fun _ => 0)))] H := hP
  have hD : va_D A [(h0, .inr (0, [.ref q1, .ref q3, .int 0, .ref q5, .null, .null, .null, .null, .int 0, .int 0])), (q1, .inl (c2, 8, .inl (fun _ => 0))), (q3, .inl (c4, 8, .inl (fun _ => 0))), (q5, .inl (c6, 256, .inl (fun _ => 0))), (q7, .inl (c8, 256, .inl (fun _ => 0)))] := hD
  have hK : va_K (dC, dI) vwCl [(c2, .int), (c4, .int), (c6, .int), (c8, .int)] s := hK
  refine W.widen (k := 4) (n := 528) (by omega) (by omega) ?_
  refine va_putF (D := (dC, dI)) (ci := 0) (v := .ref q7) (ty := (.array .int)) (C := RX0) (T := TX0) (N := 10) hx hb hts cw0 tyX0 tyX0_ok nmX0 hown hK hP hD hS 0 rfl rfl 4 (by decide) (hts _ wk_26) (fun _ h9 => h9) rfl hin rfl (by decide +kernel) rfl rfl (Nat.le_of_ble_eq_true rfl) dX0_init_35 (fun H locs hP hD hS => ?_)
  have hP : va_P (dC, dI) vwCl [(h0, .inr (0, [.ref q1, .ref q3, .int 0, .ref q5, .ref q7, .null, .null, .null, .int 0, .int 0])), (q1, .inl (c2, 8, .inl (fun _ => 0))), (q3, .inl (c4, 8, .inl (fun _ => 0))), (q5, .inl (c6, 256, .inl (fun _ => 0))), (q7, .inl (c8, 256, .inl (fun _ => 0)))] H := hP
  have hD : va_D A [(h0, .inr (0, [.ref q1, .ref q3, .int 0, .ref q5, .ref q7, .null, .null, .null, .int 0, .int 0])), (q1, .inl (c2, 8, .inl (fun _ => 0))), (q3, .inl (c4, 8, .inl (fun _ => 0))), (q5, .inl (c6, 256, .inl (fun _ => 0))), (q7, .inl (c8, 256, .inl (fun _ => 0)))] := hD
  refine lv_aload_n hx hb dX0_init_38 rfl (lv_at hl 0 rfl) ?_
  refine lv_iconst (v := 3) hx hb dX0_init_39 (by decide) ?_
  refine va_newa (atype := .int) (a0 := (3, .inl (fun _ => 0))) hx hb (hts _ wk_1) rfl hK hP hD hS hA (fun _ => rfl) (by decide) (by decide) (by decide) (Nat.le_of_ble_eq_true rfl) (Nat.le_of_ble_eq_true rfl) dX0_init_40 (fun q9 c10 H hK hP hD hS => ?_)
  have hP : va_P (dC, dI) vwCl [(h0, .inr (0, [.ref q1, .ref q3, .int 0, .ref q5, .ref q7, .null, .null, .null, .int 0, .int 0])), (q1, .inl (c2, 8, .inl (fun _ => 0))), (q3, .inl (c4, 8, .inl (fun _ => 0))), (q5, .inl (c6, 256, .inl (fun _ => 0))), (q7, .inl (c8, 256, .inl (fun _ => 0))), (q9, .inl (c10, 3, .inl (fun _ => 0)))] H := hP
  have hD : va_D A [(h0, .inr (0, [.ref q1, .ref q3, .int 0, .ref q5, .ref q7, .null, .null, .null, .int 0, .int 0])), (q1, .inl (c2, 8, .inl (fun _ => 0))), (q3, .inl (c4, 8, .inl (fun _ => 0))), (q5, .inl (c6, 256, .inl (fun _ => 0))), (q7, .inl (c8, 256, .inl (fun _ => 0))), (q9, .inl (c10, 3, .inl (fun _ => 0)))] := hD
  have hK : va_K (dC, dI) vwCl [(c2, .int), (c4, .int), (c6, .int), (c8, .int), (c10, .int)] s := hK
  refine W.widen (k := 5) (n := 531) (by omega) (by omega) ?_
  refine va_putF (D := (dC, dI)) (ci := 0) (v := .ref q9) (ty := (.array .int)) (C := RX0) (T := TX0) (N := 10) hx hb hts cw0 tyX0 tyX0_ok nmX0 hown hK hP hD hS 0 rfl rfl 5 (by decide) (hts _ wk_27) (fun _ h9 => h9) rfl hin rfl (by decide +kernel) rfl rfl (Nat.le_of_ble_eq_true rfl) dX0_init_42 (fun H locs hP hD hS => ?_)
  have hP : va_P (dC, dI) vwCl [(h0, .inr (0, [.ref q1, .ref q3, .int 0, .ref q5, .ref q7, .ref q9, .null, .null, .int 0, .int 0])), (q1, .inl (c2, 8, .inl (fun _ => 0))), (q3, .inl (c4, 8, .inl (fun _ => 0))), (q5, .inl (c6, 256, .inl (fun _ => 0))), (q7, .inl (c8, 256, .inl (fun _ => 0))), (q9, .inl (c10, 3, .inl (fun _ => 0)))] H := hP
  have hD : va_D A [(h0, .inr (0, [.ref q1, .ref q3, .int 0, .ref q5, .ref q7, .ref q9, .null, .null, .int 0, .int 0])), (q1, .inl (c2, 8, .inl (fun _ => 0))), (q3, .inl (c4, 8, .inl (fun _ => 0))), (q5, .inl (c6, 256, .inl (fun _ => 0))), (q7, .inl (c8, 256, .inl (fun _ => 0))), (q9, .inl (c10, 3, .inl (fun _ => 0)))] := hD
  refine lv_aload_n hx hb dX0_init_45 rfl (lv_at hl 0 rfl) ?_
  refine lv_bipush (v := 8) hx hb dX0_init_46 (by decide) ?_
  refine va_newa (atype := .int) (a0 := (8, .inl (fun _ => 0))) hx hb (hts _ wk_1) rfl hK hP hD hS hA (fun _ => rfl) (by decide) (by decide) (by decide) (Nat.le_of_ble_eq_true rfl) (Nat.le_of_ble_eq_true rfl) dX0_init_48 (fun q11 c12 H hK hP hD hS => ?_)
  have hP : va_P (dC, dI) vwCl [(h0, .inr (0, [.ref q1, .ref q3, .int 0, .ref q5, .ref q7, .ref q9, .null, .null, .int 0, .int 0])), (q1, .inl (c2, 8, .inl (fun _ => 0))), (q3, .inl (c4, 8, .inl (fun _ => 0))), (q5, .inl (c6, 256, .inl (fun _ => 0))), (q7, .inl (c8, 256, .inl (fun _ => 0))), (q9, .inl (c10, 3, .inl (fun _ => 0))), (q11, .inl (c12, 8, .inl (fun _ => 0)))] H := hP
  have hD : va_D A [(h0, .inr (0, [.ref q1, .ref q3, .int 0, .ref q5, .ref q7, .ref q9, .null, .null, .int 0, .int 0])), (q1, .inl (c2, 8, .inl (fun _ => 0))), (q3, .inl (c4, 8, .inl (fun _ => 0))), (q5, .inl (c6, 256, .inl (fun _ => 0))), (q7, .inl (c8, 256, .inl (fun _ => 0))), (q9, .inl (c10, 3, .inl (fun _ => 0))), (q11, .inl (c12, 8, .inl (fun _ => 0)))] := hD
  have hK : va_K (dC, dI) vwCl [(c2, .int), (c4, .int), (c6, .int), (c8, .int), (c10, .int), (c12, .int)] s := hK
  refine W.widen (k := 6) (n := 539) (by omega) (by omega) ?_
  refine va_putF (D := (dC, dI)) (ci := 0) (v := .ref q11) (ty := (.array .int)) (C := RX0) (T := TX0) (N := 10) hx hb hts cw0 tyX0 tyX0_ok nmX0 hown hK hP hD hS 0 rfl rfl 6 (by decide) (hts _ wk_28) (fun _ h9 => h9) rfl hin rfl (by decide +kernel) rfl rfl (Nat.le_of_ble_eq_true rfl) dX0_init_50 (fun H locs hP hD hS => ?_)
  have hP : va_P (dC, dI) vwCl [(h0, .inr (0, [.ref q1, .ref q3, .int 0, .ref q5, .ref q7, .ref q9, .ref q11, .null, .int 0, .int 0])), (q1, .inl (c2, 8, .inl (fun _ => 0))), (q3, .inl (c4, 8, .inl (fun _ => 0))), (q5, .inl (c6, 256, .inl (fun _ => 0))), (q7, .inl (c8, 256, .inl (fun _ => 0))), (q9, .inl (c10, 3, .inl (fun _ => 0))), (q11, .inl (c12, 8, .inl (fun _ => 0)))] H := hP
  have hD : va_D A [(h0, .inr (0, [.ref q1, .ref q3, .int 0, .ref q5, .ref q7, .ref q9, .ref q11, .null, .int 0, .int 0])), (q1, .inl (c2, 8, .inl (fun _ => 0))), (q3, .inl (c4, 8, .inl (fun _ => 0))), (q5, .inl (c6, 256, .inl (fun _ => 0))), (q7, .inl (c8, 256, .inl (fun _ => 0))), (q9, .inl (c10, 3, .inl (fun _ => 0))), (q11, .inl (c12, 8, .inl (fun _ => 0)))] := hD
  refine lv_aload_n hx hb dX0_init_53 rfl (lv_at hl 0 rfl) ?_
  refine lv_bipush (v := 8) hx hb dX0_init_54 (by decide) ?_
  refine va_newa (atype := .int) (a0 := (8, .inl (fun _ => 0))) hx hb (hts _ wk_1) rfl hK hP hD hS hA (fun _ => rfl) (by decide) (by decide) (by decide) (Nat.le_of_ble_eq_true rfl) (Nat.le_of_ble_eq_true rfl) dX0_init_56 (fun q13 c14 H hK hP hD hS => ?_)
  have hP : va_P (dC, dI) vwCl [(h0, .inr (0, [.ref q1, .ref q3, .int 0, .ref q5, .ref q7, .ref q9, .ref q11, .null, .int 0, .int 0])), (q1, .inl (c2, 8, .inl (fun _ => 0))), (q3, .inl (c4, 8, .inl (fun _ => 0))), (q5, .inl (c6, 256, .inl (fun _ => 0))), (q7, .inl (c8, 256, .inl (fun _ => 0))), (q9, .inl (c10, 3, .inl (fun _ => 0))), (q11, .inl (c12, 8, .inl (fun _ => 0))), (q13, .inl (c14, 8, .inl (fun _ => 0)))] H := hP
  have hD : va_D A [(h0, .inr (0, [.ref q1, .ref q3, .int 0, .ref q5, .ref q7, .ref q9, .ref q11, .null, .int 0, .int 0])), (q1, .inl (c2, 8, .inl (fun _ => 0))), (q3, .inl (c4, 8, .inl (fun _ => 0))), (q5, .inl (c6, 256, .inl (fun _ => 0))), (q7, .inl (c8, 256, .inl (fun _ => 0))), (q9, .inl (c10, 3, .inl (fun _ => 0))), (q11, .inl (c12, 8, .inl (fun _ => 0))), (q13, .inl (c14, 8, .inl (fun _ => 0)))] := hD
  have hK : va_K (dC, dI) vwCl [(c2, .int), (c4, .int), (c6, .int), (c8, .int), (c10, .int), (c12, .int), (c14, .int)] s := hK
  refine W.widen (k := 7) (n := 547) (by omega) (by omega) ?_
  refine va_putF (D := (dC, dI)) (ci := 0) (v := .ref q13) (ty := (.array .int)) (C := RX0) (T := TX0) (N := 10) hx hb hts cw0 tyX0 tyX0_ok nmX0 hown hK hP hD hS 0 rfl rfl 7 (by decide) (hts _ wk_29) (fun _ h9 => h9) rfl hin rfl (by decide +kernel) rfl rfl (Nat.le_of_ble_eq_true rfl) dX0_init_58 (fun H locs hP hD hS => ?_)
  have hP : va_P (dC, dI) vwCl [(h0, .inr (0, [.ref q1, .ref q3, .int 0, .ref q5, .ref q7, .ref q9, .ref q11, .ref q13, .int 0, .int 0])), (q1, .inl (c2, 8, .inl (fun _ => 0))), (q3, .inl (c4, 8, .inl (fun _ => 0))), (q5, .inl (c6, 256, .inl (fun _ => 0))), (q7, .inl (c8, 256, .inl (fun _ => 0))), (q9, .inl (c10, 3, .inl (fun _ => 0))), (q11, .inl (c12, 8, .inl (fun _ => 0))), (q13, .inl (c14, 8, .inl (fun _ => 0)))] H := hP
  have hD : va_D A [(h0, .inr (0, [.ref q1, .ref q3, .int 0, .ref q5, .ref q7, .ref q9, .ref q11, .ref q13, .int 0, .int 0])), (q1, .inl (c2, 8, .inl (fun _ => 0))), (q3, .inl (c4, 8, .inl (fun _ => 0))), (q5, .inl (c6, 256, .inl (fun _ => 0))), (q7, .inl (c8, 256, .inl (fun _ => 0))), (q9, .inl (c10, 3, .inl (fun _ => 0))), (q11, .inl (c12, 8, .inl (fun _ => 0))), (q13, .inl (c14, 8, .inl (fun _ => 0)))] := hD
  have hP9 := hP.sub (ws' := [(h0, .inr (0, [.ref q1, .ref q3, .int 0, .ref q5, .ref q7, .ref q9, .ref q11, .ref q13, .int 0, .int 0])), (q1, .inl (c2, 8, .inl (fun _ => 0))), (q3, .inl (c4, 8, .inl (fun _ => 0))), (q5, .inl (c6, 256, .inl (fun _ => 0))), (q7, .inl (c8, 256, .inl (fun _ => 0))), (q9, .inl (c10, 3, .inl (fun _ => 0))), (q11, .inl (c12, 8, .inl (fun _ => 0))), (q13, .inl (c14, 8, .inl (fun _ => 0)))]) [0, 1, 2, 3, 4, 5, 6, 7] rfl
  have hD9 := hD.sub (ws' := [(h0, .inr (0, [.ref q1, .ref q3, .int 0, .ref q5, .ref q7, .ref q9, .ref q11, .ref q13, .int 0, .int 0])), (q1, .inl (c2, 8, .inl (fun _ => 0))), (q3, .inl (c4, 8, .inl (fun _ => 0))), (q5, .inl (c6, 256, .inl (fun _ => 0))), (q7, .inl (c8, 256, .inl (fun _ => 0))), (q9, .inl (c10, 3, .inl (fun _ => 0))), (q11, .inl (c12, 8, .inl (fun _ => 0))), (q13, .inl (c14, 8, .inl (fun _ => 0)))]) [0, 1, 2, 3, 4, 5, 6, 7] (by decide) rfl
  refine W.widen (k := 7) (n := 547) (by omega) (by omega) ?_
  exact W.vret hx hb hr (fun t ht hW => ⟨⟨(), rfl, trivial, fun i => [q1, q3, q5, q7, q9, q11, q13].getD i 0, fun i => [c2, c4, c6, c8, c10, c12, c14].getD i 0, by rw [ht]; exact hP9, va_K.moved hW.alike hK, hD9⟩, hS.F ht⟩) hS.2.2 dX0_init_61 hlocks

set_option maxHeartbeats 4000000 in
set_option maxRecDepth 100000 in
theorem ct_X4_init (l : Launch) (dC : Nat → ClassId) (dI : Nat → Nat → Nat) (h0 : Nat) (sz : Nat) : Met l yX4_init (Cond.code yX4_init cX4_init 1 none :: TBL) { frames := 1, cells := 4, slots := 2072, locals := 12 } (va_Pc [.ref h0] (fun U => U.heap.size = sz ∧ va_P (dC, dI) vwCl [(h0, .inr (4, [.null, .null, .null, .null, .null]))] U.heap ∧ va_K (dC, dI) vwCl [] U ∧ va_D (fun _ => True) [(h0, .inr (4, [.null, .null, .null, .null, .null]))])) (va_Qv (fun _ : Unit => True) (fun _ t => ∃ (q : Nat → Nat) (c : Nat → ClassId), va_P (dC, dI) vwCl [(h0, .inr (4, [.ref (q 0), .ref (q 1), .ref (q 2), .ref (q 3), .null])), ((q 0), .inl ((c 0), 8, .inl (fun _ => 0))), ((q 1), .inl ((c 1), 8, .inl (fun _ => 0))), ((q 2), .inl ((c 2), 8, .inl (fun _ => 0))), ((q 3), .inl ((c 3), 2048, .inl (fun _ => 0)))] t.heap ∧ va_K (dC, dI) vwCl [((c 0), .int), ((c 1), .int), ((c 2), .int), ((c 3), .int)] t ∧ va_D (va_A [(h0, .inr (4, [.null, .null, .null, .null, .null]))] sz) [(h0, .inr (4, [.ref (q 0), .ref (q 1), .ref (q 2), .ref (q 3), .null])), ((q 0), .inl ((c 0), 8, .inl (fun _ => 0))), ((q 1), .inl ((c 1), 8, .inl (fun _ => 0))), ((q 2), .inl ((c 2), 8, .inl (fun _ => 0))), ((q 3), .inl ((c 3), 2048, .inl (fun _ => 0)))]) (va_A [(h0, .inr (4, [.null, .null, .null, .null, .null]))] sz)) 4 2072 (va_A [(h0, .inr (4, [.null, .null, .null, .null, .null]))] sz) := by
  refine Met.ofW (cc := cX4_init) (maxL := 1) (ret := none) (by decide +kernel) rfl ?_
  intro p e s m args below meth c s₁ B hml hv
  obtain ⟨rfl, hsz, hP, hK, hD0⟩ := hv
  have hx := B.exec
  have hb := B.bytes
  have hr := B.returns
  have hts0 := atoms_spec (ws := Cond.code yX4_init cX4_init 1 none :: TBL) B.pre
  have hts : ∀ w ∈ TBL, w.before ([.ref h0] : List Value).toArray s = true := fun w h => hts0 w (List.mem_cons_of_mem _ h)
  have hown : s.vm.findClass RX4 = some m.cls := findClass_of_methodNamed B.named
  have hlocks := B.notSynchronized
  have hin : meth.name = "<init>" := (name_of_methodNamed B.named B.method).1
  subst hsz
  have hD := hD0.self (sz := s.heap.size)
  generalize hAe : va_A [(h0, .inr (4, [.null, .null, .null, .null, .null]))] s.heap.size = A at hD ⊢
  have hA : ∀ q : Nat, s.heap.size ≤ q → A q := fun q h => by rw [← hAe]; exact Or.inr h
  have hS : va_S A s.heap s.heap [] := va_S.rf
  have hP : va_P (dC, dI) vwCl [(h0, .inr (4, [.null, .null, .null, .null, .null]))] s.heap := hP
  have hl := lv_entry ([.ref h0]) (n := 1) (Nat.le_of_ble_eq_true rfl)
  rw [lg_entry_eq]
  generalize (lg_sl ([.ref h0]) ++ List.replicate (1 - (lg_sl ([.ref h0])).length) Slot.unset).toArray = ls at hl ⊢
  have hl : lv_has ls 1 [(0, .ref h0)] := hl
  refine lv_aload_n hx hb dX4_init_0 rfl (lv_at hl 0 rfl) ?_
  refine W.objInit hx hb hown (hts _ wk_30) (hts _ oi_inst) (hts _ oi_code) rfl (by rw [hml]; exact hl.1) rfl dX4_init_1 (Nat.le_of_ble_eq_true rfl) (Nat.le_of_ble_eq_true rfl) ?_
  refine W.eq (g2 := F0 m 4 ls []) rfl ?_
  refine lv_aload_n hx hb dX4_init_4 rfl (lv_at hl 0 rfl) ?_
  refine lv_bipush (v := 8) hx hb dX4_init_5 (by decide) ?_
  refine va_newa (atype := .int) (a0 := (8, .inl (fun _ => 0))) hx hb (hts _ wk_1) rfl hK hP hD hS hA (fun _ => rfl) (by decide) (by decide) (by decide) (Nat.le_of_ble_eq_true rfl) (Nat.le_of_ble_eq_true rfl) dX4_init_7 (fun q1 c2 H hK hP hD hS => ?_)
  have hP : va_P (dC, dI) vwCl [(h0, .inr (4, [.null, .null, .null, .null, .null])), (q1, .inl (c2, 8, .inl (fun _ => 0)))] H := hP
  have hD : va_D A [(h0, .inr (4, [.null, .null, .null, .null, .null])), (q1, .inl (c2, 8, .inl (fun _ => 0)))] := hD
  have hK : va_K (dC, dI) vwCl [(c2, .int)] s := hK
  refine W.widen (k := 1) (n := 8) (by omega) (by omega) ?_
  refine va_putF (D := (dC, dI)) (ci := 4) (v := .ref q1) (ty := (.array .int)) (C := RX4) (T := TX4) (N := 5) hx hb hts cw4 tyX4 tyX4_ok nmX4 hown hK hP hD hS 0 rfl rfl 0 (by decide) (hts _ wk_31) (fun _ h9 => h9) rfl hin rfl (by decide +kernel) rfl rfl (Nat.le_of_ble_eq_true rfl) dX4_init_9 (fun H locs hP hD hS => ?_)
  have hP : va_P (dC, dI) vwCl [(h0, .inr (4, [.ref q1, .null, .null, .null, .null])), (q1, .inl (c2, 8, .inl (fun _ => 0)))] H := hP
  have hD : va_D A [(h0, .inr (4, [.ref q1, .null, .null, .null, .null])), (q1, .inl (c2, 8, .inl (fun _ => 0)))] := hD
  refine lv_aload_n hx hb dX4_init_12 rfl (lv_at hl 0 rfl) ?_
  refine lv_bipush (v := 8) hx hb dX4_init_13 (by decide) ?_
  refine va_newa (atype := .int) (a0 := (8, .inl (fun _ => 0))) hx hb (hts _ wk_1) rfl hK hP hD hS hA (fun _ => rfl) (by decide) (by decide) (by decide) (Nat.le_of_ble_eq_true rfl) (Nat.le_of_ble_eq_true rfl) dX4_init_15 (fun q3 c4 H hK hP hD hS => ?_)
  have hP : va_P (dC, dI) vwCl [(h0, .inr (4, [.ref q1, .null, .null, .null, .null])), (q1, .inl (c2, 8, .inl (fun _ => 0))), (q3, .inl (c4, 8, .inl (fun _ => 0)))] H := hP
  have hD : va_D A [(h0, .inr (4, [.ref q1, .null, .null, .null, .null])), (q1, .inl (c2, 8, .inl (fun _ => 0))), (q3, .inl (c4, 8, .inl (fun _ => 0)))] := hD
  have hK : va_K (dC, dI) vwCl [(c2, .int), (c4, .int)] s := hK
  refine W.widen (k := 2) (n := 16) (by omega) (by omega) ?_
  refine va_putF (D := (dC, dI)) (ci := 4) (v := .ref q3) (ty := (.array .int)) (C := RX4) (T := TX4) (N := 5) hx hb hts cw4 tyX4 tyX4_ok nmX4 hown hK hP hD hS 0 rfl rfl 1 (by decide) (hts _ wk_32) (fun _ h9 => h9) rfl hin rfl (by decide +kernel) rfl rfl (Nat.le_of_ble_eq_true rfl) dX4_init_17 (fun H locs hP hD hS => ?_)
  have hP : va_P (dC, dI) vwCl [(h0, .inr (4, [.ref q1, .ref q3, .null, .null, .null])), (q1, .inl (c2, 8, .inl (fun _ => 0))), (q3, .inl (c4, 8, .inl (fun _ => 0)))] H := hP
  have hD : va_D A [(h0, .inr (4, [.ref q1, .ref q3, .null, .null, .null])), (q1, .inl (c2, 8, .inl (fun _ => 0))), (q3, .inl (c4, 8, .inl (fun _ => 0)))] := hD
  refine lv_aload_n hx hb dX4_init_20 rfl (lv_at hl 0 rfl) ?_
  refine lv_bipush (v := 8) hx hb dX4_init_21 (by decide) ?_
  refine va_newa (atype := .int) (a0 := (8, .inl (fun _ => 0))) hx hb (hts _ wk_1) rfl hK hP hD hS hA (fun _ => rfl) (by decide) (by decide) (by decide) (Nat.le_of_ble_eq_true rfl) (Nat.le_of_ble_eq_true rfl) dX4_init_23 (fun q5 c6 H hK hP hD hS => ?_)
  have hP : va_P (dC, dI) vwCl [(h0, .inr (4, [.ref q1, .ref q3, .null, .null, .null])), (q1, .inl (c2, 8, .inl (fun _ => 0))), (q3, .inl (c4, 8, .inl (fun _ => 0))), (q5, .inl (c6, 8, .inl (fun _ => 0)))] H := hP
  have hD : va_D A [(h0, .inr (4, [.ref q1, .ref q3, .null, .null, .null])), (q1, .inl (c2, 8, .inl (fun _ => 0))), (q3, .inl (c4, 8, .inl (fun _ => 0))), (q5, .inl (c6, 8, .inl (fun _ => 0)))] := hD
  have hK : va_K (dC, dI) vwCl [(c2, .int), (c4, .int), (c6, .int)] s := hK
  refine W.widen (k := 3) (n := 24) (by omega) (by omega) ?_
  refine va_putF (D := (dC, dI)) (ci := 4) (v := .ref q5) (ty := (.array .int)) (C := RX4) (T := TX4) (N := 5) hx hb hts cw4 tyX4 tyX4_ok nmX4 hown hK hP hD hS 0 rfl rfl 2 (by decide) (hts _ wk_33) (fun _ h9 => h9) rfl hin rfl (by decide +kernel) rfl rfl (Nat.le_of_ble_eq_true rfl) dX4_init_25 (fun H locs hP hD hS => ?_)
  have hP : va_P (dC, dI) vwCl [(h0, .inr (4, [.ref q1, .ref q3, .ref q5, .null, .null])), (q1, .inl (c2, 8, .inl (fun _ => 0))), (q3, .inl (c4, 8, .inl (fun _ => 0))), (q5, .inl (c6, 8, .inl (fun _ => 0)))] H := hP
  have hD : va_D A [(h0, .inr (4, [.ref q1, .ref q3, .ref q5, .null, .null])), (q1, .inl (c2, 8, .inl (fun _ => 0))), (q3, .inl (c4, 8, .inl (fun _ => 0))), (q5, .inl (c6, 8, .inl (fun _ => 0)))] := hD
  refine lv_aload_n hx hb dX4_init_28 rfl (lv_at hl 0 rfl) ?_
  refine lv_sipush (v := 2048) hx hb dX4_init_29 (by decide) ?_
  refine va_newa (atype := .int) (a0 := (2048, .inl (fun _ => 0))) hx hb (hts _ wk_1) rfl hK hP hD hS hA (fun _ => rfl) (by decide) (by decide) (by decide) (Nat.le_of_ble_eq_true rfl) (Nat.le_of_ble_eq_true rfl) dX4_init_32 (fun q7 c8 H hK hP hD hS => ?_)
  have hP : va_P (dC, dI) vwCl [(h0, .inr (4, [.ref q1, .ref q3, .ref q5, .null, .null])), (q1, .inl (c2, 8, .inl (fun _ => 0))), (q3, .inl (c4, 8, .inl (fun _ => 0))), (q5, .inl (c6, 8, .inl (fun _ => 0))), (q7, .inl (c8, 2048, .inl (fun _ => 0)))] H := hP
  have hD : va_D A [(h0, .inr (4, [.ref q1, .ref q3, .ref q5, .null, .null])), (q1, .inl (c2, 8, .inl (fun _ => 0))), (q3, .inl (c4, 8, .inl (fun _ => 0))), (q5, .inl (c6, 8, .inl (fun _ => 0))), (q7, .inl (c8, 2048, .inl (fun _ => 0)))] := hD
  have hK : va_K (dC, dI) vwCl [(c2, .int), (c4, .int), (c6, .int), (c8, .int)] s := hK
  refine W.widen (k := 4) (n := 2072) (by omega) (by omega) ?_
  refine va_putF (D := (dC, dI)) (ci := 4) (v := .ref q7) (ty := (.array .int)) (C := RX4) (T := TX4) (N := 5) hx hb hts cw4 tyX4 tyX4_ok nmX4 hown hK hP hD hS 0 rfl rfl 3 (by decide) (hts _ wk_34) (fun _ h9 => h9) rfl hin rfl (by decide +kernel) rfl rfl (Nat.le_of_ble_eq_true rfl) dX4_init_34 (fun H locs hP hD hS => ?_)
  have hP : va_P (dC, dI) vwCl [(h0, .inr (4, [.ref q1, .ref q3, .ref q5, .ref q7, .null])), (q1, .inl (c2, 8, .inl (fun _ => 0))), (q3, .inl (c4, 8, .inl (fun _ => 0))), (q5, .inl (c6, 8, .inl (fun _ => 0))), (q7, .inl (c8, 2048, .inl (fun _ => 0)))] H := hP
  have hD : va_D A [(h0, .inr (4, [.ref q1, .ref q3, .ref q5, .ref q7, .null])), (q1, .inl (c2, 8, .inl (fun _ => 0))), (q3, .inl (c4, 8, .inl (fun _ => 0))), (q5, .inl (c6, 8, .inl (fun _ => 0))), (q7, .inl (c8, 2048, .inl (fun _ => 0)))] := hD
  have hP9 := hP.sub (ws' := [(h0, .inr (4, [.ref q1, .ref q3, .ref q5, .ref q7, .null])), (q1, .inl (c2, 8, .inl (fun _ => 0))), (q3, .inl (c4, 8, .inl (fun _ => 0))), (q5, .inl (c6, 8, .inl (fun _ => 0))), (q7, .inl (c8, 2048, .inl (fun _ => 0)))]) [0, 1, 2, 3, 4] rfl
  have hD9 := hD.sub (ws' := [(h0, .inr (4, [.ref q1, .ref q3, .ref q5, .ref q7, .null])), (q1, .inl (c2, 8, .inl (fun _ => 0))), (q3, .inl (c4, 8, .inl (fun _ => 0))), (q5, .inl (c6, 8, .inl (fun _ => 0))), (q7, .inl (c8, 2048, .inl (fun _ => 0)))]) [0, 1, 2, 3, 4] (by decide) rfl
  refine W.widen (k := 4) (n := 2072) (by omega) (by omega) ?_
  exact W.vret hx hb hr (fun t ht hW => ⟨⟨(), rfl, trivial, fun i => [q1, q3, q5, q7].getD i 0, fun i => [c2, c4, c6, c8].getD i 0, by rw [ht]; exact hP9, va_K.moved hW.alike hK, hD9⟩, hS.F ht⟩) hS.2.2 dX4_init_37 hlocks

set_option maxHeartbeats 4000000 in
set_option maxRecDepth 100000 in
theorem ct_X10_init (l : Launch) (dC : Nat → ClassId) (dI : Nat → Nat → Nat) (h0 : Nat) (sz : Nat) (a1 : Nat) : Met l yX10_init (Cond.code yX10_init cX10_init 2 none :: TBL) { frames := 1, cells := 0, slots := 0, locals := 12 } (va_Pc [.ref h0, .ref a1] (fun U => U.heap.size = sz ∧ va_P (dC, dI) vwCl [(h0, .inr (10, [.null, .int 0, .int 0, .int 0, .int 0, .int 0, .int 0, .int 0, .int 0]))] U.heap ∧ va_K (dC, dI) vwCl [] U ∧ va_D (fun _ => True) [(h0, .inr (10, [.null, .int 0, .int 0, .int 0, .int 0, .int 0, .int 0, .int 0, .int 0]))])) (va_Qv (fun _ : Unit => True) (fun _ t => ∃ (q : Nat → Nat) (c : Nat → ClassId), va_P (dC, dI) vwCl [(h0, .inr (10, [.ref a1, .int 0, .int 0, .int 0, .int 0, .int 0, .int 0, .int 0, .int 0]))] t.heap ∧ va_K (dC, dI) vwCl [] t ∧ va_D (va_A [(h0, .inr (10, [.null, .int 0, .int 0, .int 0, .int 0, .int 0, .int 0, .int 0, .int 0]))] sz) [(h0, .inr (10, [.ref a1, .int 0, .int 0, .int 0, .int 0, .int 0, .int 0, .int 0, .int 0]))]) (va_A [(h0, .inr (10, [.null, .int 0, .int 0, .int 0, .int 0, .int 0, .int 0, .int 0, .int 0]))] sz)) 0 0 (va_A [(h0, .inr (10, [.null, .int 0, .int 0, .int 0, .int 0, .int 0, .int 0, .int 0, .int 0]))] sz) := by
  refine Met.ofW (cc := cX10_init) (maxL := 2) (ret := none) (by decide +kernel) rfl ?_
  intro p e s m args below meth c s₁ B hml hv
  obtain ⟨rfl, hsz, hP, hK, hD0⟩ := hv
  have hx := B.exec
  have hb := B.bytes
  have hr := B.returns
  have hts0 := atoms_spec (ws := Cond.code yX10_init cX10_init 2 none :: TBL) B.pre
  have hts : ∀ w ∈ TBL, w.before ([.ref h0, .ref a1] : List Value).toArray s = true := fun w h => hts0 w (List.mem_cons_of_mem _ h)
  have hown : s.vm.findClass RX10 = some m.cls := findClass_of_methodNamed B.named
  have hlocks := B.notSynchronized
  have hin : meth.name = "<init>" := (name_of_methodNamed B.named B.method).1
  subst hsz
  have hD := hD0.self (sz := s.heap.size)
  generalize hAe : va_A [(h0, .inr (10, [.null, .int 0, .int 0, .int 0, .int 0, .int 0, .int 0, .int 0, .int 0]))] s.heap.size = A at hD ⊢
  have hA : ∀ q : Nat, s.heap.size ≤ q → A q := fun q h => by rw [← hAe]; exact Or.inr h
  have hS : va_S A s.heap s.heap [] := va_S.rf
  have hP : va_P (dC, dI) vwCl [(h0, .inr (10, [.null, .int 0, .int 0, .int 0, .int 0, .int 0, .int 0, .int 0, .int 0]))] s.heap := hP
  have hl := lv_entry ([.ref h0, .ref a1]) (n := 2) (Nat.le_of_ble_eq_true rfl)
  rw [lg_entry_eq]
  generalize (lg_sl ([.ref h0, .ref a1]) ++ List.replicate (2 - (lg_sl ([.ref h0, .ref a1])).length) Slot.unset).toArray = ls at hl ⊢
  have hl : lv_has ls 2 [(0, .ref h0), (1, .ref a1)] := hl
  refine lv_aload_n hx hb dX10_init_0 rfl (lv_at hl 0 rfl) ?_
  refine W.objInit hx hb hown (hts _ wk_35) (hts _ oi_inst) (hts _ oi_code) rfl (by rw [hml]; exact hl.1) rfl dX10_init_1 (Nat.le_of_ble_eq_true rfl) (Nat.le_of_ble_eq_true rfl) ?_
  refine W.eq (g2 := F0 m 4 ls []) rfl ?_
  refine lv_aload_n hx hb dX10_init_4 rfl (lv_at hl 0 rfl) ?_
  refine lv_aload_n hx hb dX10_init_5 rfl (lv_at hl 1 rfl) ?_
  refine va_putF (D := (dC, dI)) (ci := 10) (v := .ref a1) (ty := (.array .int)) (C := RX10) (T := TX10) (N := 9) hx hb hts cw10 tyX10 tyX10_ok nmX10 hown hK hP hD hS 0 rfl rfl 0 (by decide) (hts _ wk_36) (fun _ h9 => h9) rfl hin rfl (by decide +kernel) rfl rfl (Nat.le_of_ble_eq_true rfl) dX10_init_6 (fun H locs hP hD hS => ?_)
  have hP : va_P (dC, dI) vwCl [(h0, .inr (10, [.ref a1, .int 0, .int 0, .int 0, .int 0, .int 0, .int 0, .int 0, .int 0]))] H := hP
  have hD : va_D A [(h0, .inr (10, [.ref a1, .int 0, .int 0, .int 0, .int 0, .int 0, .int 0, .int 0, .int 0]))] := hD
  have hP9 := hP.sub (ws' := [(h0, .inr (10, [.ref a1, .int 0, .int 0, .int 0, .int 0, .int 0, .int 0, .int 0, .int 0]))]) [0] rfl
  have hD9 := hD.sub (ws' := [(h0, .inr (10, [.ref a1, .int 0, .int 0, .int 0, .int 0, .int 0, .int 0, .int 0, .int 0]))]) [0] (by decide) rfl
  refine W.widen (k := 0) (n := 0) (by omega) (by omega) ?_
  exact W.vret hx hb hr (fun t ht hW => ⟨⟨(), rfl, trivial, fun i => [].getD i 0, fun i => [].getD i 0, by rw [ht]; exact hP9, va_K.moved hW.alike hK, hD9⟩, hS.F ht⟩) hS.2.2 dX10_init_9 hlocks

set_option maxHeartbeats 4000000 in
set_option maxRecDepth 100000 in
theorem ct_X8_init (l : Launch) (dC : Nat → ClassId) (dI : Nat → Nat → Nat) (h0 : Nat) (sz : Nat) (a1 : Nat) : Met l yX8_init (Cond.code yX8_init cX8_init 2 none :: TBL) { frames := 1, cells := 0, slots := 0, locals := 12 } (va_Pc [.ref h0, .ref a1] (fun U => U.heap.size = sz ∧ va_P (dC, dI) vwCl [(h0, .inr (8, [.null, .null, .int 0]))] U.heap ∧ va_K (dC, dI) vwCl [] U ∧ va_D (fun _ => True) [(h0, .inr (8, [.null, .null, .int 0]))])) (va_Qv (fun _ : Unit => True) (fun _ t => ∃ (q : Nat → Nat) (c : Nat → ClassId), va_P (dC, dI) vwCl [(h0, .inr (8, [.ref a1, .null, .int 0]))] t.heap ∧ va_K (dC, dI) vwCl [] t ∧ va_D (va_A [(h0, .inr (8, [.null, .null, .int 0]))] sz) [(h0, .inr (8, [.ref a1, .null, .int 0]))]) (va_A [(h0, .inr (8, [.null, .null, .int 0]))] sz)) 0 0 (va_A [(h0, .inr (8, [.null, .null, .int 0]))] sz) := by
  refine Met.ofW (cc := cX8_init) (maxL := 2) (ret := none) (by decide +kernel) rfl ?_
  intro p e s m args below meth c s₁ B hml hv
  obtain ⟨rfl, hsz, hP, hK, hD0⟩ := hv
  have hx := B.exec
  have hb := B.bytes
  have hr := B.returns
  have hts0 := atoms_spec (ws := Cond.code yX8_init cX8_init 2 none :: TBL) B.pre
  have hts : ∀ w ∈ TBL, w.before ([.ref h0, .ref a1] : List Value).toArray s = true := fun w h => hts0 w (List.mem_cons_of_mem _ h)
  have hown : s.vm.findClass RX8 = some m.cls := findClass_of_methodNamed B.named
  have hlocks := B.notSynchronized
  have hin : meth.name = "<init>" := (name_of_methodNamed B.named B.method).1
  subst hsz
  have hD := hD0.self (sz := s.heap.size)
  generalize hAe : va_A [(h0, .inr (8, [.null, .null, .int 0]))] s.heap.size = A at hD ⊢
  have hA : ∀ q : Nat, s.heap.size ≤ q → A q := fun q h => by rw [← hAe]; exact Or.inr h
  have hS : va_S A s.heap s.heap [] := va_S.rf
  have hP : va_P (dC, dI) vwCl [(h0, .inr (8, [.null, .null, .int 0]))] s.heap := hP
  have hl := lv_entry ([.ref h0, .ref a1]) (n := 2) (Nat.le_of_ble_eq_true rfl)
  rw [lg_entry_eq]
  generalize (lg_sl ([.ref h0, .ref a1]) ++ List.replicate (2 - (lg_sl ([.ref h0, .ref a1])).length) Slot.unset).toArray = ls at hl ⊢
  have hl : lv_has ls 2 [(0, .ref h0), (1, .ref a1)] := hl
  refine lv_aload_n hx hb dX8_init_0 rfl (lv_at hl 0 rfl) ?_
  refine W.objInit hx hb hown (hts _ wk_37) (hts _ oi_inst) (hts _ oi_code) rfl (by rw [hml]; exact hl.1) rfl dX8_init_1 (Nat.le_of_ble_eq_true rfl) (Nat.le_of_ble_eq_true rfl) ?_
  refine W.eq (g2 := F0 m 4 ls []) rfl ?_
  refine lv_aload_n hx hb dX8_init_4 rfl (lv_at hl 0 rfl) ?_
  refine lv_aload_n hx hb dX8_init_5 rfl (lv_at hl 1 rfl) ?_
  refine va_putF (D := (dC, dI)) (ci := 8) (v := .ref a1) (ty := (.object "LakeMarket$Tokens")) (C := RX8) (T := TX8) (N := 3) hx hb hts cw8 tyX8 tyX8_ok nmX8 hown hK hP hD hS 0 rfl rfl 0 (by decide) (hts _ wk_38) (fun _ h9 => h9) rfl hin rfl (by decide +kernel) rfl rfl (Nat.le_of_ble_eq_true rfl) dX8_init_6 (fun H locs hP hD hS => ?_)
  have hP : va_P (dC, dI) vwCl [(h0, .inr (8, [.ref a1, .null, .int 0]))] H := hP
  have hD : va_D A [(h0, .inr (8, [.ref a1, .null, .int 0]))] := hD
  have hP9 := hP.sub (ws' := [(h0, .inr (8, [.ref a1, .null, .int 0]))]) [0] rfl
  have hD9 := hD.sub (ws' := [(h0, .inr (8, [.ref a1, .null, .int 0]))]) [0] (by decide) rfl
  refine W.widen (k := 0) (n := 0) (by omega) (by omega) ?_
  exact W.vret hx hb hr (fun t ht hW => ⟨⟨(), rfl, trivial, fun i => [].getD i 0, fun i => [].getD i 0, by rw [ht]; exact hP9, va_K.moved hW.alike hK, hD9⟩, hS.F ht⟩) hS.2.2 dX8_init_9 hlocks

set_option maxHeartbeats 4000000 in
set_option maxRecDepth 100000 in
theorem ct_X9_init (l : Launch) (dC : Nat → ClassId) (dI : Nat → Nat → Nat) (h0 : Nat) (sz : Nat) : Met l yX9_init (Cond.code yX9_init cX9_init 1 none :: TBL) { frames := 2, cells := 8, slots := 205, locals := 32 } (va_Pc [.ref h0] (fun U => U.heap.size = sz ∧ va_P (dC, dI) vwCl [(h0, .inr (9, [.null, .int 0, .null, .null, .null, .null, .null, .null]))] U.heap ∧ va_K (dC, dI) vwCl [] U ∧ va_D (fun _ => True) [(h0, .inr (9, [.null, .int 0, .null, .null, .null, .null, .null, .null]))] ∧ va_Nw (.methodLinkNest RX9 29 yX3_init RX11) U)) (va_Qv (fun _ : Unit => True) (fun _ t => ∃ (q : Nat → Nat) (c : Nat → ClassId), va_P (dC, dI) vwCl [(h0, .inr (9, [.null, .int 0, .ref (q 0), .ref (q 1), .ref (q 2), .ref (q 3), .ref (q 4), .ref (q 5)])), ((q 0), .inl ((c 0), 8, .inl (fun _ => 0))), ((q 1), .inl ((c 1), 8, .inl (fun _ => 0))), ((q 2), .inl ((c 2), 8, .inl (fun _ => 0))), ((q 3), .inl ((c 3), 36, .inl (fun _ => 0))), ((q 4), .inl ((c 4), 8, .inl (fun _ => 0))), ((q 5), .inr (3, [.ref (q 6), .int 0, .ref (q 7)])), ((q 6), .inl ((c 5), 128, .inl (fun _ => 0))), ((q 7), .inl ((c 6), 6, .inl (fun _ => 0)))] t.heap ∧ va_K (dC, dI) vwCl [((c 0), .int), ((c 1), .int), ((c 2), .int), ((c 3), .int), ((c 4), .int), ((c 5), .int), ((c 6), .int)] t ∧ va_D (va_A [(h0, .inr (9, [.null, .int 0, .null, .null, .null, .null, .null, .null]))] sz) [(h0, .inr (9, [.null, .int 0, .ref (q 0), .ref (q 1), .ref (q 2), .ref (q 3), .ref (q 4), .ref (q 5)])), ((q 0), .inl ((c 0), 8, .inl (fun _ => 0))), ((q 1), .inl ((c 1), 8, .inl (fun _ => 0))), ((q 2), .inl ((c 2), 8, .inl (fun _ => 0))), ((q 3), .inl ((c 3), 36, .inl (fun _ => 0))), ((q 4), .inl ((c 4), 8, .inl (fun _ => 0))), ((q 5), .inr (3, [.ref (q 6), .int 0, .ref (q 7)])), ((q 6), .inl ((c 5), 128, .inl (fun _ => 0))), ((q 7), .inl ((c 6), 6, .inl (fun _ => 0)))]) (va_A [(h0, .inr (9, [.null, .int 0, .null, .null, .null, .null, .null, .null]))] sz)) 8 205 (va_A [(h0, .inr (9, [.null, .int 0, .null, .null, .null, .null, .null, .null]))] sz) := by
  refine Met.ofW (cc := cX9_init) (maxL := 1) (ret := none) (by decide +kernel) rfl ?_
  intro p e s m args below meth c s₁ B hml hv
  obtain ⟨rfl, hsz, hP, hK, hD0, hnw_X9_29⟩ := hv
  have hx := B.exec
  have hb := B.bytes
  have hr := B.returns
  have hts0 := atoms_spec (ws := Cond.code yX9_init cX9_init 1 none :: TBL) B.pre
  have hts : ∀ w ∈ TBL, w.before ([.ref h0] : List Value).toArray s = true := fun w h => hts0 w (List.mem_cons_of_mem _ h)
  have hown : s.vm.findClass RX9 = some m.cls := findClass_of_methodNamed B.named
  have hlocks := B.notSynchronized
  have hin : meth.name = "<init>" := (name_of_methodNamed B.named B.method).1
  subst hsz
  have hD := hD0.self (sz := s.heap.size)
  generalize hAe : va_A [(h0, .inr (9, [.null, .int 0, .null, .null, .null, .null, .null, .null]))] s.heap.size = A at hD ⊢
  have hA : ∀ q : Nat, s.heap.size ≤ q → A q := fun q h => by rw [← hAe]; exact Or.inr h
  have hS : va_S A s.heap s.heap [] := va_S.rf
  have hP : va_P (dC, dI) vwCl [(h0, .inr (9, [.null, .int 0, .null, .null, .null, .null, .null, .null]))] s.heap := hP
  have hl := lv_entry ([.ref h0]) (n := 1) (Nat.le_of_ble_eq_true rfl)
  rw [lg_entry_eq]
  generalize (lg_sl ([.ref h0]) ++ List.replicate (1 - (lg_sl ([.ref h0])).length) Slot.unset).toArray = ls at hl ⊢
  have hl : lv_has ls 1 [(0, .ref h0)] := hl
  refine lv_aload_n hx hb dX9_init_0 rfl (lv_at hl 0 rfl) ?_
  refine W.objInit hx hb hown (hts _ wk_39) (hts _ oi_inst) (hts _ oi_code) rfl (by rw [hml]; exact hl.1) rfl dX9_init_1 (Nat.le_of_ble_eq_true rfl) (Nat.le_of_ble_eq_true rfl) ?_
  refine W.eq (g2 := F0 m 4 ls []) rfl ?_
  refine lv_aload_n hx hb dX9_init_4 rfl (lv_at hl 0 rfl) ?_
  refine lv_bipush (v := 8) hx hb dX9_init_5 (by decide) ?_
  refine va_newa (atype := .int) (a0 := (8, .inl (fun _ => 0))) hx hb (hts _ wk_1) rfl hK hP hD hS hA (fun _ => rfl) (by decide) (by decide) (by decide) (Nat.le_of_ble_eq_true rfl) (Nat.le_of_ble_eq_true rfl) dX9_init_7 (fun q1 c2 H hK hP hD hS => ?_)
  have hP : va_P (dC, dI) vwCl [(h0, .inr (9, [.null, .int 0, .null, .null, .null, .null, .null, .null])), (q1, .inl (c2, 8, .inl (fun _ => 0)))] H := hP
  have hD : va_D A [(h0, .inr (9, [.null, .int 0, .null, .null, .null, .null, .null, .null])), (q1, .inl (c2, 8, .inl (fun _ => 0)))] := hD
  have hK : va_K (dC, dI) vwCl [(c2, .int)] s := hK
  refine W.widen (k := 1) (n := 8) (by omega) (by omega) ?_
  refine va_putF (D := (dC, dI)) (ci := 9) (v := .ref q1) (ty := (.array .int)) (C := RX9) (T := TX9) (N := 8) hx hb hts cw9 tyX9 tyX9_ok nmX9 hown hK hP hD hS 0 rfl rfl 2 (by decide) (hts _ wk_40) (fun _ h9 => h9) rfl hin rfl (by decide +kernel) rfl rfl (Nat.le_of_ble_eq_true rfl) dX9_init_9 (fun H locs hP hD hS => ?_)
  have hP : va_P (dC, dI) vwCl [(h0, .inr (9, [.null, .int 0, .ref q1, .null, .null, .null, .null, .null])), (q1, .inl (c2, 8, .inl (fun _ => 0)))] H := hP
  have hD : va_D A [(h0, .inr (9, [.null, .int 0, .ref q1, .null, .null, .null, .null, .null])), (q1, .inl (c2, 8, .inl (fun _ => 0)))] := hD
  refine lv_aload_n hx hb dX9_init_12 rfl (lv_at hl 0 rfl) ?_
  refine lv_bipush (v := 8) hx hb dX9_init_13 (by decide) ?_
  refine va_newa (atype := .int) (a0 := (8, .inl (fun _ => 0))) hx hb (hts _ wk_1) rfl hK hP hD hS hA (fun _ => rfl) (by decide) (by decide) (by decide) (Nat.le_of_ble_eq_true rfl) (Nat.le_of_ble_eq_true rfl) dX9_init_15 (fun q3 c4 H hK hP hD hS => ?_)
  have hP : va_P (dC, dI) vwCl [(h0, .inr (9, [.null, .int 0, .ref q1, .null, .null, .null, .null, .null])), (q1, .inl (c2, 8, .inl (fun _ => 0))), (q3, .inl (c4, 8, .inl (fun _ => 0)))] H := hP
  have hD : va_D A [(h0, .inr (9, [.null, .int 0, .ref q1, .null, .null, .null, .null, .null])), (q1, .inl (c2, 8, .inl (fun _ => 0))), (q3, .inl (c4, 8, .inl (fun _ => 0)))] := hD
  have hK : va_K (dC, dI) vwCl [(c2, .int), (c4, .int)] s := hK
  refine W.widen (k := 2) (n := 16) (by omega) (by omega) ?_
  refine va_putF (D := (dC, dI)) (ci := 9) (v := .ref q3) (ty := (.array .int)) (C := RX9) (T := TX9) (N := 8) hx hb hts cw9 tyX9 tyX9_ok nmX9 hown hK hP hD hS 0 rfl rfl 3 (by decide) (hts _ wk_41) (fun _ h9 => h9) rfl hin rfl (by decide +kernel) rfl rfl (Nat.le_of_ble_eq_true rfl) dX9_init_17 (fun H locs hP hD hS => ?_)
  have hP : va_P (dC, dI) vwCl [(h0, .inr (9, [.null, .int 0, .ref q1, .ref q3, .null, .null, .null, .null])), (q1, .inl (c2, 8, .inl (fun _ => 0))), (q3, .inl (c4, 8, .inl (fun _ => 0)))] H := hP
  have hD : va_D A [(h0, .inr (9, [.null, .int 0, .ref q1, .ref q3, .null, .null, .null, .null])), (q1, .inl (c2, 8, .inl (fun _ => 0))), (q3, .inl (c4, 8, .inl (fun _ => 0)))] := hD
  refine lv_aload_n hx hb dX9_init_20 rfl (lv_at hl 0 rfl) ?_
  refine lv_bipush (v := 8) hx hb dX9_init_21 (by decide) ?_
  refine va_newa (atype := .int) (a0 := (8, .inl (fun _ => 0))) hx hb (hts _ wk_1) rfl hK hP hD hS hA (fun _ => rfl) (by decide) (by decide) (by decide) (Nat.le_of_ble_eq_true rfl) (Nat.le_of_ble_eq_true rfl) dX9_init_23 (fun q5 c6 H hK hP hD hS => ?_)
  have hP : va_P (dC, dI) vwCl [(h0, .inr (9, [.null, .int 0, .ref q1, .ref q3, .null, .null, .null, .null])), (q1, .inl (c2, 8, .inl (fun _ => 0))), (q3, .inl (c4, 8, .inl (fun _ => 0))), (q5, .inl (c6, 8, .inl (fun _ => 0)))] H := hP
  have hD : va_D A [(h0, .inr (9, [.null, .int 0, .ref q1, .ref q3, .null, .null, .null, .null])), (q1, .inl (c2, 8, .inl (fun _ => 0))), (q3, .inl (c4, 8, .inl (fun _ => 0))), (q5, .inl (c6, 8, .inl (fun _ => 0)))] := hD
  have hK : va_K (dC, dI) vwCl [(c2, .int), (c4, .int), (c6, .int)] s := hK
  refine W.widen (k := 3) (n := 24) (by omega) (by omega) ?_
  refine va_putF (D := (dC, dI)) (ci := 9) (v := .ref q5) (ty := (.array .int)) (C := RX9) (T := TX9) (N := 8) hx hb hts cw9 tyX9 tyX9_ok nmX9 hown hK hP hD hS 0 rfl rfl 4 (by decide) (hts _ wk_42) (fun _ h9 => h9) rfl hin rfl (by decide +kernel) rfl rfl (Nat.le_of_ble_eq_true rfl) dX9_init_25 (fun H locs hP hD hS => ?_)
  have hP : va_P (dC, dI) vwCl [(h0, .inr (9, [.null, .int 0, .ref q1, .ref q3, .ref q5, .null, .null, .null])), (q1, .inl (c2, 8, .inl (fun _ => 0))), (q3, .inl (c4, 8, .inl (fun _ => 0))), (q5, .inl (c6, 8, .inl (fun _ => 0)))] H := hP
  have hD : va_D A [(h0, .inr (9, [.null, .int 0, .ref q1, .ref q3, .ref q5, .null, .null, .null])), (q1, .inl (c2, 8, .inl (fun _ => 0))), (q3, .inl (c4, 8, .inl (fun _ => 0))), (q5, .inl (c6, 8, .inl (fun _ => 0)))] := hD
  refine lv_aload_n hx hb dX9_init_28 rfl (lv_at hl 0 rfl) ?_
  refine lv_bipush (v := 36) hx hb dX9_init_29 (by decide) ?_
  refine va_newa (atype := .int) (a0 := (36, .inl (fun _ => 0))) hx hb (hts _ wk_1) rfl hK hP hD hS hA (fun _ => rfl) (by decide) (by decide) (by decide) (Nat.le_of_ble_eq_true rfl) (Nat.le_of_ble_eq_true rfl) dX9_init_31 (fun q7 c8 H hK hP hD hS => ?_)
  have hP : va_P (dC, dI) vwCl [(h0, .inr (9, [.null, .int 0, .ref q1, .ref q3, .ref q5, .null, .null, .null])), (q1, .inl (c2, 8, .inl (fun _ => 0))), (q3, .inl (c4, 8, .inl (fun _ => 0))), (q5, .inl (c6, 8, .inl (fun _ => 0))), (q7, .inl (c8, 36, .inl (fun _ => 0)))] H := hP
  have hD : va_D A [(h0, .inr (9, [.null, .int 0, .ref q1, .ref q3, .ref q5, .null, .null, .null])), (q1, .inl (c2, 8, .inl (fun _ => 0))), (q3, .inl (c4, 8, .inl (fun _ => 0))), (q5, .inl (c6, 8, .inl (fun _ => 0))), (q7, .inl (c8, 36, .inl (fun _ => 0)))] := hD
  have hK : va_K (dC, dI) vwCl [(c2, .int), (c4, .int), (c6, .int), (c8, .int)] s := hK
  refine W.widen (k := 4) (n := 60) (by omega) (by omega) ?_
  refine va_putF (D := (dC, dI)) (ci := 9) (v := .ref q7) (ty := (.array .int)) (C := RX9) (T := TX9) (N := 8) hx hb hts cw9 tyX9 tyX9_ok nmX9 hown hK hP hD hS 0 rfl rfl 5 (by decide) (hts _ wk_43) (fun _ h9 => h9) rfl hin rfl (by decide +kernel) rfl rfl (Nat.le_of_ble_eq_true rfl) dX9_init_33 (fun H locs hP hD hS => ?_)
  have hP : va_P (dC, dI) vwCl [(h0, .inr (9, [.null, .int 0, .ref q1, .ref q3, .ref q5, .ref q7, .null, .null])), (q1, .inl (c2, 8, .inl (fun _ => 0))), (q3, .inl (c4, 8, .inl (fun _ => 0))), (q5, .inl (c6, 8, .inl (fun _ => 0))), (q7, .inl (c8, 36, .inl (fun _ => 0)))] H := hP
  have hD : va_D A [(h0, .inr (9, [.null, .int 0, .ref q1, .ref q3, .ref q5, .ref q7, .null, .null])), (q1, .inl (c2, 8, .inl (fun _ => 0))), (q3, .inl (c4, 8, .inl (fun _ => 0))), (q5, .inl (c6, 8, .inl (fun _ => 0))), (q7, .inl (c8, 36, .inl (fun _ => 0)))] := hD
  refine lv_aload_n hx hb dX9_init_36 rfl (lv_at hl 0 rfl) ?_
  refine lv_bipush (v := 8) hx hb dX9_init_37 (by decide) ?_
  refine va_newa (atype := .int) (a0 := (8, .inl (fun _ => 0))) hx hb (hts _ wk_1) rfl hK hP hD hS hA (fun _ => rfl) (by decide) (by decide) (by decide) (Nat.le_of_ble_eq_true rfl) (Nat.le_of_ble_eq_true rfl) dX9_init_39 (fun q9 c10 H hK hP hD hS => ?_)
  have hP : va_P (dC, dI) vwCl [(h0, .inr (9, [.null, .int 0, .ref q1, .ref q3, .ref q5, .ref q7, .null, .null])), (q1, .inl (c2, 8, .inl (fun _ => 0))), (q3, .inl (c4, 8, .inl (fun _ => 0))), (q5, .inl (c6, 8, .inl (fun _ => 0))), (q7, .inl (c8, 36, .inl (fun _ => 0))), (q9, .inl (c10, 8, .inl (fun _ => 0)))] H := hP
  have hD : va_D A [(h0, .inr (9, [.null, .int 0, .ref q1, .ref q3, .ref q5, .ref q7, .null, .null])), (q1, .inl (c2, 8, .inl (fun _ => 0))), (q3, .inl (c4, 8, .inl (fun _ => 0))), (q5, .inl (c6, 8, .inl (fun _ => 0))), (q7, .inl (c8, 36, .inl (fun _ => 0))), (q9, .inl (c10, 8, .inl (fun _ => 0)))] := hD
  have hK : va_K (dC, dI) vwCl [(c2, .int), (c4, .int), (c6, .int), (c8, .int), (c10, .int)] s := hK
  refine W.widen (k := 5) (n := 68) (by omega) (by omega) ?_
  refine va_putF (D := (dC, dI)) (ci := 9) (v := .ref q9) (ty := (.array .int)) (C := RX9) (T := TX9) (N := 8) hx hb hts cw9 tyX9 tyX9_ok nmX9 hown hK hP hD hS 0 rfl rfl 6 (by decide) (hts _ wk_44) (fun _ h9 => h9) rfl hin rfl (by decide +kernel) rfl rfl (Nat.le_of_ble_eq_true rfl) dX9_init_41 (fun H locs hP hD hS => ?_)
  have hP : va_P (dC, dI) vwCl [(h0, .inr (9, [.null, .int 0, .ref q1, .ref q3, .ref q5, .ref q7, .ref q9, .null])), (q1, .inl (c2, 8, .inl (fun _ => 0))), (q3, .inl (c4, 8, .inl (fun _ => 0))), (q5, .inl (c6, 8, .inl (fun _ => 0))), (q7, .inl (c8, 36, .inl (fun _ => 0))), (q9, .inl (c10, 8, .inl (fun _ => 0)))] H := hP
  have hD : va_D A [(h0, .inr (9, [.null, .int 0, .ref q1, .ref q3, .ref q5, .ref q7, .ref q9, .null])), (q1, .inl (c2, 8, .inl (fun _ => 0))), (q3, .inl (c4, 8, .inl (fun _ => 0))), (q5, .inl (c6, 8, .inl (fun _ => 0))), (q7, .inl (c8, 36, .inl (fun _ => 0))), (q9, .inl (c10, 8, .inl (fun _ => 0)))] := hD
  refine lv_aload_n hx hb dX9_init_44 rfl (lv_at hl 0 rfl) ?_
  refine va_new (ci := 3) (fs := [.null, .int 0, .null]) (C := RX3) (T := TX3) (N := 3) hx hb hts cw3 tyX3 tyX3_ok hown (hts _ wk_45) (hts _ wk_46) (hts _ ini_RX3) hK hP hD hS hA rfl (by decide +kernel) (Nat.le_of_ble_eq_true rfl) (Nat.le_of_ble_eq_true rfl) dX9_init_45 (fun q11 H hP hD hS => ?_)
  have hP : va_P (dC, dI) vwCl [(h0, .inr (9, [.null, .int 0, .ref q1, .ref q3, .ref q5, .ref q7, .ref q9, .null])), (q1, .inl (c2, 8, .inl (fun _ => 0))), (q3, .inl (c4, 8, .inl (fun _ => 0))), (q5, .inl (c6, 8, .inl (fun _ => 0))), (q7, .inl (c8, 36, .inl (fun _ => 0))), (q9, .inl (c10, 8, .inl (fun _ => 0))), (q11, .inr (3, [.null, .int 0, .null]))] H := hP
  have hD : va_D A [(h0, .inr (9, [.null, .int 0, .ref q1, .ref q3, .ref q5, .ref q7, .ref q9, .null])), (q1, .inl (c2, 8, .inl (fun _ => 0))), (q3, .inl (c4, 8, .inl (fun _ => 0))), (q5, .inl (c6, 8, .inl (fun _ => 0))), (q7, .inl (c8, 36, .inl (fun _ => 0))), (q9, .inl (c10, 8, .inl (fun _ => 0))), (q11, .inr (3, [.null, .int 0, .null]))] := hD
  refine W.widen (k := 6) (n := 71) (by omega) (by omega) ?_
  refine lv_dup hx hb dX9_init_48 rfl ?_
  have hPc := hP.sub (ws' := [(q11, .inr (3, [.null, .int 0, .null]))]) [6] rfl
  have hDc := hD.sub (ws' := [(q11, .inr (3, [.null, .int 0, .null]))]) [6] (by decide) rfl
  have hKc := hK.sub (tys' := []) [] rfl
  have hFc := va_free (wc := [(q11, .inr (3, [.null, .int 0, .null]))]) hD hS hA [6] rfl
  refine va_callv (va_runIN (As := []) (rest := [.ref q11, .ref h0]) ⟨hx, hb, hml, hown, hts⟩ (ct_X3_init l dC dI q11 H.size) ⟨va_cnB 0 hts (TBL_code cd_X3_init) rfl rfl rfl (hnw_X9_29) (hts _ ini_RX3) ⟨by decide +kernel, by decide +kernel, by decide +kernel⟩ ⟨Nat.le_of_ble_eq_true rfl, Nat.le_of_ble_eq_true rfl⟩, rfl, hts _ im_X3_init_i⟩ ⟨fun a U g mk q => by obtain ⟨q0, q1, qP, qK, qD⟩ := q; exact ⟨q0, q1, qP, va_K.moved (u := U) (U := U.calling g mk a) (Vm.Alike.refl U.vm) qK, qD⟩, fun U hU hW => ⟨rfl, by rw [hU], by rw [hU]; exact hPc, va_K.moved hW.alike hKc, hDc.weaken (fun _ _ _ _ => trivial)⟩⟩ rfl rfl hl.1 rfl (lv_room (Nat.le_of_ble_eq_true rfl)) dX9_init_49 ⟨Nat.le_of_ble_eq_true rfl, Nat.le_of_ble_eq_true rfl⟩) hS (fun q _ h => hFc q h) hFc (fun u t H1 locs ht hvm hw hB hz1 hk1 hS => ?_)
  obtain ⟨qf12, cf13, hP1, hK1, hD1⟩ := hB
  rw [ht] at hP1
  have hK1 := va_K.moved hvm.symm hK1
  obtain ⟨hP, hD⟩ := va_join (wr := [(h0, .inr (9, [.null, .int 0, .ref q1, .ref q3, .ref q5, .ref q7, .ref q9, .null])), (q1, .inl (c2, 8, .inl (fun _ => 0))), (q3, .inl (c4, 8, .inl (fun _ => 0))), (q5, .inl (c6, 8, .inl (fun _ => 0))), (q7, .inl (c8, 36, .inl (fun _ => 0))), (q9, .inl (c10, 8, .inl (fun _ => 0)))]) (w1 := [(q11, .inr (3, [.ref (qf12 0), .int 0, .ref (qf12 1)])), ((qf12 0), .inl ((cf13 0), 128, .inl (fun _ => 0))), ((qf12 1), .inl ((cf13 1), 6, .inl (fun _ => 0)))]) hP hD [6] [0, 1, 2, 3, 4, 5] rfl rfl (by decide) (by decide) hk1 hFc hP1 hD1
  have hK := (hK.sub (tys' := [(c2, .int), (c4, .int), (c6, .int), (c8, .int), (c10, .int)]) [0, 1, 2, 3, 4] rfl).app hK1
  generalize H1 = H at hP hS ⊢
  have hP : va_P (dC, dI) vwCl [(h0, .inr (9, [.null, .int 0, .ref q1, .ref q3, .ref q5, .ref q7, .ref q9, .null])), (q1, .inl (c2, 8, .inl (fun _ => 0))), (q3, .inl (c4, 8, .inl (fun _ => 0))), (q5, .inl (c6, 8, .inl (fun _ => 0))), (q7, .inl (c8, 36, .inl (fun _ => 0))), (q9, .inl (c10, 8, .inl (fun _ => 0))), (q11, .inr (3, [.ref (qf12 0), .int 0, .ref (qf12 1)])), ((qf12 0), .inl ((cf13 0), 128, .inl (fun _ => 0))), ((qf12 1), .inl ((cf13 1), 6, .inl (fun _ => 0)))] H := hP
  have hD : va_D A [(h0, .inr (9, [.null, .int 0, .ref q1, .ref q3, .ref q5, .ref q7, .ref q9, .null])), (q1, .inl (c2, 8, .inl (fun _ => 0))), (q3, .inl (c4, 8, .inl (fun _ => 0))), (q5, .inl (c6, 8, .inl (fun _ => 0))), (q7, .inl (c8, 36, .inl (fun _ => 0))), (q9, .inl (c10, 8, .inl (fun _ => 0))), (q11, .inr (3, [.ref (qf12 0), .int 0, .ref (qf12 1)])), ((qf12 0), .inl ((cf13 0), 128, .inl (fun _ => 0))), ((qf12 1), .inl ((cf13 1), 6, .inl (fun _ => 0)))] := hD
  have hK : va_K (dC, dI) vwCl [(c2, .int), (c4, .int), (c6, .int), (c8, .int), (c10, .int), ((cf13 0), .int), ((cf13 1), .int)] s := hK
  refine W.widen (k := 8) (n := 205) (by omega) (by omega) ?_
  refine va_putF (D := (dC, dI)) (ci := 9) (v := .ref q11) (ty := (.object "LakeMarket$Machine")) (C := RX9) (T := TX9) (N := 8) hx hb hts cw9 tyX9 tyX9_ok nmX9 hown hK hP hD hS 0 rfl rfl 7 (by decide) (hts _ wk_47) (fun _ h9 => h9) rfl hin rfl (by decide +kernel) rfl rfl (Nat.le_of_ble_eq_true rfl) dX9_init_52 (fun H locs hP hD hS => ?_)
  have hP : va_P (dC, dI) vwCl [(h0, .inr (9, [.null, .int 0, .ref q1, .ref q3, .ref q5, .ref q7, .ref q9, .ref q11])), (q1, .inl (c2, 8, .inl (fun _ => 0))), (q3, .inl (c4, 8, .inl (fun _ => 0))), (q5, .inl (c6, 8, .inl (fun _ => 0))), (q7, .inl (c8, 36, .inl (fun _ => 0))), (q9, .inl (c10, 8, .inl (fun _ => 0))), (q11, .inr (3, [.ref (qf12 0), .int 0, .ref (qf12 1)])), ((qf12 0), .inl ((cf13 0), 128, .inl (fun _ => 0))), ((qf12 1), .inl ((cf13 1), 6, .inl (fun _ => 0)))] H := hP
  have hD : va_D A [(h0, .inr (9, [.null, .int 0, .ref q1, .ref q3, .ref q5, .ref q7, .ref q9, .ref q11])), (q1, .inl (c2, 8, .inl (fun _ => 0))), (q3, .inl (c4, 8, .inl (fun _ => 0))), (q5, .inl (c6, 8, .inl (fun _ => 0))), (q7, .inl (c8, 36, .inl (fun _ => 0))), (q9, .inl (c10, 8, .inl (fun _ => 0))), (q11, .inr (3, [.ref (qf12 0), .int 0, .ref (qf12 1)])), ((qf12 0), .inl ((cf13 0), 128, .inl (fun _ => 0))), ((qf12 1), .inl ((cf13 1), 6, .inl (fun _ => 0)))] := hD
  have hP9 := hP.sub (ws' := [(h0, .inr (9, [.null, .int 0, .ref q1, .ref q3, .ref q5, .ref q7, .ref q9, .ref q11])), (q1, .inl (c2, 8, .inl (fun _ => 0))), (q3, .inl (c4, 8, .inl (fun _ => 0))), (q5, .inl (c6, 8, .inl (fun _ => 0))), (q7, .inl (c8, 36, .inl (fun _ => 0))), (q9, .inl (c10, 8, .inl (fun _ => 0))), (q11, .inr (3, [.ref (qf12 0), .int 0, .ref (qf12 1)])), ((qf12 0), .inl ((cf13 0), 128, .inl (fun _ => 0))), ((qf12 1), .inl ((cf13 1), 6, .inl (fun _ => 0)))]) [0, 1, 2, 3, 4, 5, 6, 7, 8] rfl
  have hD9 := hD.sub (ws' := [(h0, .inr (9, [.null, .int 0, .ref q1, .ref q3, .ref q5, .ref q7, .ref q9, .ref q11])), (q1, .inl (c2, 8, .inl (fun _ => 0))), (q3, .inl (c4, 8, .inl (fun _ => 0))), (q5, .inl (c6, 8, .inl (fun _ => 0))), (q7, .inl (c8, 36, .inl (fun _ => 0))), (q9, .inl (c10, 8, .inl (fun _ => 0))), (q11, .inr (3, [.ref (qf12 0), .int 0, .ref (qf12 1)])), ((qf12 0), .inl ((cf13 0), 128, .inl (fun _ => 0))), ((qf12 1), .inl ((cf13 1), 6, .inl (fun _ => 0)))]) [0, 1, 2, 3, 4, 5, 6, 7, 8] (by decide) rfl
  refine W.widen (k := 8) (n := 205) (by omega) (by omega) ?_
  exact W.vret hx hb hr (fun t ht hW => ⟨⟨(), rfl, trivial, fun i => [q1, q3, q5, q7, q9, q11, (qf12 0), (qf12 1)].getD i 0, fun i => [c2, c4, c6, c8, c10, (cf13 0), (cf13 1)].getD i 0, by rw [ht]; exact hP9, va_K.moved hW.alike hK, hD9⟩, hS.F ht⟩) hS.2.2 dX9_init_55 hlocks

set_option maxHeartbeats 4000000 in
set_option maxRecDepth 100000 in
theorem ct_X7_init (l : Launch) (dC : Nat → ClassId) (dI : Nat → Nat → Nat) (h0 : Nat) (sz : Nat) (a1 : Nat) : Met l yX7_init (Cond.code yX7_init cX7_init 2 none :: TBL) { frames := 2, cells := 2, slots := 12, locals := 33 } (va_Pc [.ref h0, .ref a1] (fun U => U.heap.size = sz ∧ va_P (dC, dI) vwCl [(h0, .inr (7, [.null, .null, .null, .int 0]))] U.heap ∧ va_K (dC, dI) vwCl [] U ∧ va_D (fun _ => True) [(h0, .inr (7, [.null, .null, .null, .int 0]))])) (va_Qv (fun _ : Unit => True) (fun _ t => ∃ (q : Nat → Nat) (c : Nat → ClassId), va_P (dC, dI) vwCl [(h0, .inr (7, [.ref (q 0), .ref (q 1), .null, .int 0])), ((q 0), .inr (10, [.ref a1, .int 0, .int 0, .int 0, .int 0, .int 0, .int 0, .int 0, .int 0])), ((q 1), .inr (8, [.ref (q 0), .null, .int 0]))] t.heap ∧ va_K (dC, dI) vwCl [] t ∧ va_D (va_A [(h0, .inr (7, [.null, .null, .null, .int 0]))] sz) [(h0, .inr (7, [.ref (q 0), .ref (q 1), .null, .int 0])), ((q 0), .inr (10, [.ref a1, .int 0, .int 0, .int 0, .int 0, .int 0, .int 0, .int 0, .int 0])), ((q 1), .inr (8, [.ref (q 0), .null, .int 0]))]) (va_A [(h0, .inr (7, [.null, .null, .null, .int 0]))] sz)) 2 12 (va_A [(h0, .inr (7, [.null, .null, .null, .int 0]))] sz) := by
  refine Met.ofW (cc := cX7_init) (maxL := 2) (ret := none) (by decide +kernel) rfl ?_
  intro p e s m args below meth c s₁ B hml hv
  obtain ⟨rfl, hsz, hP, hK, hD0⟩ := hv
  have hx := B.exec
  have hb := B.bytes
  have hr := B.returns
  have hts0 := atoms_spec (ws := Cond.code yX7_init cX7_init 2 none :: TBL) B.pre
  have hts : ∀ w ∈ TBL, w.before ([.ref h0, .ref a1] : List Value).toArray s = true := fun w h => hts0 w (List.mem_cons_of_mem _ h)
  have hown : s.vm.findClass RX7 = some m.cls := findClass_of_methodNamed B.named
  have hlocks := B.notSynchronized
  have hin : meth.name = "<init>" := (name_of_methodNamed B.named B.method).1
  subst hsz
  have hD := hD0.self (sz := s.heap.size)
  generalize hAe : va_A [(h0, .inr (7, [.null, .null, .null, .int 0]))] s.heap.size = A at hD ⊢
  have hA : ∀ q : Nat, s.heap.size ≤ q → A q := fun q h => by rw [← hAe]; exact Or.inr h
  have hS : va_S A s.heap s.heap [] := va_S.rf
  have hP : va_P (dC, dI) vwCl [(h0, .inr (7, [.null, .null, .null, .int 0]))] s.heap := hP
  have hl := lv_entry ([.ref h0, .ref a1]) (n := 2) (Nat.le_of_ble_eq_true rfl)
  rw [lg_entry_eq]
  generalize (lg_sl ([.ref h0, .ref a1]) ++ List.replicate (2 - (lg_sl ([.ref h0, .ref a1])).length) Slot.unset).toArray = ls at hl ⊢
  have hl : lv_has ls 2 [(0, .ref h0), (1, .ref a1)] := hl
  refine lv_aload_n hx hb dX7_init_0 rfl (lv_at hl 0 rfl) ?_
  refine W.objInit hx hb hown (hts _ wk_48) (hts _ oi_inst) (hts _ oi_code) rfl (by rw [hml]; exact hl.1) rfl dX7_init_1 (Nat.le_of_ble_eq_true rfl) (Nat.le_of_ble_eq_true rfl) ?_
  refine W.eq (g2 := F0 m 4 ls []) rfl ?_
  refine lv_aload_n hx hb dX7_init_4 rfl (lv_at hl 0 rfl) ?_
  refine va_new (ci := 10) (fs := [.null, .int 0, .int 0, .int 0, .int 0, .int 0, .int 0, .int 0, .int 0]) (C := RX10) (T := TX10) (N := 9) hx hb hts cw10 tyX10 tyX10_ok hown (hts _ wk_49) (hts _ wk_50) (hts _ ini_RX10) hK hP hD hS hA rfl (by decide +kernel) (Nat.le_of_ble_eq_true rfl) (Nat.le_of_ble_eq_true rfl) dX7_init_5 (fun q1 H hP hD hS => ?_)
  have hP : va_P (dC, dI) vwCl [(h0, .inr (7, [.null, .null, .null, .int 0])), (q1, .inr (10, [.null, .int 0, .int 0, .int 0, .int 0, .int 0, .int 0, .int 0, .int 0]))] H := hP
  have hD : va_D A [(h0, .inr (7, [.null, .null, .null, .int 0])), (q1, .inr (10, [.null, .int 0, .int 0, .int 0, .int 0, .int 0, .int 0, .int 0, .int 0]))] := hD
  refine W.widen (k := 1) (n := 9) (by omega) (by omega) ?_
  refine lv_dup hx hb dX7_init_8 rfl ?_
  refine lv_aload_n hx hb dX7_init_9 rfl (lv_at hl 1 rfl) ?_
  have hPc := hP.sub (ws' := [(q1, .inr (10, [.null, .int 0, .int 0, .int 0, .int 0, .int 0, .int 0, .int 0, .int 0]))]) [1] rfl
  have hDc := hD.sub (ws' := [(q1, .inr (10, [.null, .int 0, .int 0, .int 0, .int 0, .int 0, .int 0, .int 0, .int 0]))]) [1] (by decide) rfl
  have hKc := hK.sub (tys' := []) [] rfl
  have hFc := va_free (wc := [(q1, .inr (10, [.null, .int 0, .int 0, .int 0, .int 0, .int 0, .int 0, .int 0, .int 0]))]) hD hS hA [1] rfl
  refine va_callv (va_runI (As := [.ref a1]) (rest := [.ref q1, .ref h0]) ⟨hx, hb, hml, hown, hts⟩ (ct_X10_init l dC dI q1 H.size a1) (cwI 1 hts (TBL_code cd_X10_init) rfl rfl rfl (hts _ ini_RX10) (hts _ wk_51) (hts _ im_X10_init_i) rfl ⟨by decide +kernel, by decide +kernel, by decide +kernel⟩ ⟨Nat.le_of_ble_eq_true rfl, Nat.le_of_ble_eq_true rfl⟩) ⟨fun a U g mk q => by obtain ⟨q0, q1, qP, qK, qD⟩ := q; exact ⟨q0, q1, qP, va_K.moved (u := U) (U := U.calling g mk a) (Vm.Alike.refl U.vm) qK, qD⟩, fun U hU hW => ⟨rfl, by rw [hU], by rw [hU]; exact hPc, va_K.moved hW.alike hKc, hDc.weaken (fun _ _ _ _ => trivial)⟩⟩ rfl rfl hl.1 rfl (lv_room (Nat.le_of_ble_eq_true rfl)) dX7_init_10 ⟨Nat.le_of_ble_eq_true rfl, Nat.le_of_ble_eq_true rfl⟩) hS (fun q _ h => hFc q h) hFc (fun u t H1 locs ht hvm hw hB hz1 hk1 hS => ?_)
  obtain ⟨qf2, cf3, hP1, hK1, hD1⟩ := hB
  rw [ht] at hP1
  have hK1 := va_K.moved hvm.symm hK1
  obtain ⟨hP, hD⟩ := va_join (wr := [(h0, .inr (7, [.null, .null, .null, .int 0]))]) (w1 := [(q1, .inr (10, [.ref a1, .int 0, .int 0, .int 0, .int 0, .int 0, .int 0, .int 0, .int 0]))]) hP hD [1] [0] rfl rfl (by decide) (by decide) hk1 hFc hP1 hD1
  have hK := (hK.sub (tys' := []) [] rfl).app hK1
  generalize H1 = H at hP hS ⊢
  have hP : va_P (dC, dI) vwCl [(h0, .inr (7, [.null, .null, .null, .int 0])), (q1, .inr (10, [.ref a1, .int 0, .int 0, .int 0, .int 0, .int 0, .int 0, .int 0, .int 0]))] H := hP
  have hD : va_D A [(h0, .inr (7, [.null, .null, .null, .int 0])), (q1, .inr (10, [.ref a1, .int 0, .int 0, .int 0, .int 0, .int 0, .int 0, .int 0, .int 0]))] := hD
  have hK : va_K (dC, dI) vwCl [] s := hK
  refine W.widen (k := 1) (n := 9) (by omega) (by omega) ?_
  refine va_putF (D := (dC, dI)) (ci := 7) (v := .ref q1) (ty := (.object "LakeMarket$Tokens")) (C := RX7) (T := TX7) (N := 4) hx hb hts cw7 tyX7 tyX7_ok nmX7 hown hK hP hD hS 0 rfl rfl 0 (by decide) (hts _ wk_52) (fun _ h9 => h9) rfl hin rfl (by decide +kernel) rfl rfl (Nat.le_of_ble_eq_true rfl) dX7_init_13 (fun H locs hP hD hS => ?_)
  have hP : va_P (dC, dI) vwCl [(h0, .inr (7, [.ref q1, .null, .null, .int 0])), (q1, .inr (10, [.ref a1, .int 0, .int 0, .int 0, .int 0, .int 0, .int 0, .int 0, .int 0]))] H := hP
  have hD : va_D A [(h0, .inr (7, [.ref q1, .null, .null, .int 0])), (q1, .inr (10, [.ref a1, .int 0, .int 0, .int 0, .int 0, .int 0, .int 0, .int 0, .int 0]))] := hD
  refine lv_aload_n hx hb dX7_init_16 rfl (lv_at hl 0 rfl) ?_
  refine va_new (ci := 8) (fs := [.null, .null, .int 0]) (C := RX8) (T := TX8) (N := 3) hx hb hts cw8 tyX8 tyX8_ok hown (hts _ wk_53) (hts _ wk_54) (hts _ ini_RX8) hK hP hD hS hA rfl (by decide +kernel) (Nat.le_of_ble_eq_true rfl) (Nat.le_of_ble_eq_true rfl) dX7_init_17 (fun q4 H hP hD hS => ?_)
  have hP : va_P (dC, dI) vwCl [(h0, .inr (7, [.ref q1, .null, .null, .int 0])), (q1, .inr (10, [.ref a1, .int 0, .int 0, .int 0, .int 0, .int 0, .int 0, .int 0, .int 0])), (q4, .inr (8, [.null, .null, .int 0]))] H := hP
  have hD : va_D A [(h0, .inr (7, [.ref q1, .null, .null, .int 0])), (q1, .inr (10, [.ref a1, .int 0, .int 0, .int 0, .int 0, .int 0, .int 0, .int 0, .int 0])), (q4, .inr (8, [.null, .null, .int 0]))] := hD
  refine W.widen (k := 2) (n := 12) (by omega) (by omega) ?_
  refine lv_dup hx hb dX7_init_20 rfl ?_
  refine lv_aload_n hx hb dX7_init_21 rfl (lv_at hl 0 rfl) ?_
  refine va_get (D := (dC, dI)) (ci := 7) (v := .ref q1) (C := RX7) (T := TX7) (N := 4) hx hb hts cw7 hown hK hP 0 rfl rfl 0 (by decide) (hts _ wk_52) (fun _ h9 => h9) rfl dX7_init_22 ?_
  have hPc := hP.sub (ws' := [(q4, .inr (8, [.null, .null, .int 0]))]) [2] rfl
  have hDc := hD.sub (ws' := [(q4, .inr (8, [.null, .null, .int 0]))]) [2] (by decide) rfl
  have hKc := hK.sub (tys' := []) [] rfl
  have hFc := va_free (wc := [(q4, .inr (8, [.null, .null, .int 0]))]) hD hS hA [2] rfl
  refine va_callv (va_runI (As := [.ref q1]) (rest := [.ref q4, .ref h0]) ⟨hx, hb, hml, hown, hts⟩ (ct_X8_init l dC dI q4 H.size q1) (cwI 1 hts (TBL_code cd_X8_init) rfl rfl rfl (hts _ ini_RX8) (hts _ wk_55) (hts _ im_X8_init_i) rfl ⟨by decide +kernel, by decide +kernel, by decide +kernel⟩ ⟨Nat.le_of_ble_eq_true rfl, Nat.le_of_ble_eq_true rfl⟩) ⟨fun a U g mk q => by obtain ⟨q0, q1, qP, qK, qD⟩ := q; exact ⟨q0, q1, qP, va_K.moved (u := U) (U := U.calling g mk a) (Vm.Alike.refl U.vm) qK, qD⟩, fun U hU hW => ⟨rfl, by rw [hU], by rw [hU]; exact hPc, va_K.moved hW.alike hKc, hDc.weaken (fun _ _ _ _ => trivial)⟩⟩ rfl rfl hl.1 rfl (lv_room (Nat.le_of_ble_eq_true rfl)) dX7_init_25 ⟨Nat.le_of_ble_eq_true rfl, Nat.le_of_ble_eq_true rfl⟩) hS (fun q _ h => hFc q h) hFc (fun u t H1 locs ht hvm hw hB hz1 hk1 hS => ?_)
  obtain ⟨qf5, cf6, hP1, hK1, hD1⟩ := hB
  rw [ht] at hP1
  have hK1 := va_K.moved hvm.symm hK1
  obtain ⟨hP, hD⟩ := va_join (wr := [(h0, .inr (7, [.ref q1, .null, .null, .int 0])), (q1, .inr (10, [.ref a1, .int 0, .int 0, .int 0, .int 0, .int 0, .int 0, .int 0, .int 0]))]) (w1 := [(q4, .inr (8, [.ref q1, .null, .int 0]))]) hP hD [2] [0, 1] rfl rfl (by decide) (by decide) hk1 hFc hP1 hD1
  have hK := (hK.sub (tys' := []) [] rfl).app hK1
  generalize H1 = H at hP hS ⊢
  have hP : va_P (dC, dI) vwCl [(h0, .inr (7, [.ref q1, .null, .null, .int 0])), (q1, .inr (10, [.ref a1, .int 0, .int 0, .int 0, .int 0, .int 0, .int 0, .int 0, .int 0])), (q4, .inr (8, [.ref q1, .null, .int 0]))] H := hP
  have hD : va_D A [(h0, .inr (7, [.ref q1, .null, .null, .int 0])), (q1, .inr (10, [.ref a1, .int 0, .int 0, .int 0, .int 0, .int 0, .int 0, .int 0, .int 0])), (q4, .inr (8, [.ref q1, .null, .int 0]))] := hD
  have hK : va_K (dC, dI) vwCl [] s := hK
  refine W.widen (k := 2) (n := 12) (by omega) (by omega) ?_
  refine va_putF (D := (dC, dI)) (ci := 7) (v := .ref q4) (ty := (.object "LakeMarket$RuleReader")) (C := RX7) (T := TX7) (N := 4) hx hb hts cw7 tyX7 tyX7_ok nmX7 hown hK hP hD hS 0 rfl rfl 1 (by decide) (hts _ wk_56) (fun _ h9 => h9) rfl hin rfl (by decide +kernel) rfl rfl (Nat.le_of_ble_eq_true rfl) dX7_init_28 (fun H locs hP hD hS => ?_)
  have hP : va_P (dC, dI) vwCl [(h0, .inr (7, [.ref q1, .ref q4, .null, .int 0])), (q1, .inr (10, [.ref a1, .int 0, .int 0, .int 0, .int 0, .int 0, .int 0, .int 0, .int 0])), (q4, .inr (8, [.ref q1, .null, .int 0]))] H := hP
  have hD : va_D A [(h0, .inr (7, [.ref q1, .ref q4, .null, .int 0])), (q1, .inr (10, [.ref a1, .int 0, .int 0, .int 0, .int 0, .int 0, .int 0, .int 0, .int 0])), (q4, .inr (8, [.ref q1, .null, .int 0]))] := hD
  have hP9 := hP.sub (ws' := [(h0, .inr (7, [.ref q1, .ref q4, .null, .int 0])), (q1, .inr (10, [.ref a1, .int 0, .int 0, .int 0, .int 0, .int 0, .int 0, .int 0, .int 0])), (q4, .inr (8, [.ref q1, .null, .int 0]))]) [0, 1, 2] rfl
  have hD9 := hD.sub (ws' := [(h0, .inr (7, [.ref q1, .ref q4, .null, .int 0])), (q1, .inr (10, [.ref a1, .int 0, .int 0, .int 0, .int 0, .int 0, .int 0, .int 0, .int 0])), (q4, .inr (8, [.ref q1, .null, .int 0]))]) [0, 1, 2] (by decide) rfl
  refine W.widen (k := 2) (n := 12) (by omega) (by omega) ?_
  exact W.vret hx hb hr (fun t ht hW => ⟨⟨(), rfl, trivial, fun i => [q1, q4].getD i 0, fun i => [].getD i 0, by rw [ht]; exact hP9, va_K.moved hW.alike hK, hD9⟩, hS.F ht⟩) hS.2.2 dX7_init_31 hlocks

