theorem wt_val : Cond.fieldLink RJ0 9 "java/lang/String" "value" "[B" ∈ TBL := TBL_9 125 rfl rfl
theorem wt_cod : Cond.fieldLink RJ0 15 "java/lang/String" "coder" "B" ∈ TBL := TBL_9 124 rfl rfl
theorem wt_cs : Cond.fieldLink RJ0 38 "java/lang/String" "COMPACT_STRINGS" "Z" ∈ TBL := TBL_3 53 rfl rfl
theorem wt_fm : Cond.fieldLink RJ0 1053 "jdk/internal/util/Preconditions" "SIOOBE_FORMATTER" "Ljava/util/function/BiFunction;" ∈ TBL := TBL_3 61 rfl rfl
/-- the text of the own words -/
def ownC (j : Nat) : Int32 := strB.getD j 0
theorem ownC_ok : ∀ j, j < 200 → (((strB.getD j 0 : Int32) &&& 255).toUInt32 % 65536).toInt32 = ownC j ∧ narrow .char (.int (ownC j)) = .int (ownC j) := by decide +kernel
theorem callW_tbl {Rm : Room} {s : State} {args : Array Value} {own : String} {idx : Nat} {y : MethodName} {cc : ByteArray} {nL : Nat} {ret : Option FieldType} {n d lo : Nat} (hts : ∀ w ∈ TBL, w.before args s = true) (hw : MLv own idx y cc nL ret n) (h1 : d + 1 ≤ Rm.frames) (h2 : 8 + (nL + 11) + lo ≤ Rm.locals) : CallW Rm s args own y.cls idx y cc nL ret (Cond.code y cc nL ret :: TBL) { frames := d, cells := 0, slots := 0, locals := lo } 0 0 n := by
  obtain ⟨w1, w2, w3, w4, w5, w6, w7⟩ := hw
  exact ⟨callB_of n hts (TBL_code w5) rfl rfl rfl (hts _ w4) (hts _ w1) w6 ⟨h1, h2⟩, hts _ w2, hts _ w3⟩
theorem callS_tbl {Rm : Room} {s : State} {args : Array Value} {own : String} {idx : Nat} {y : MethodName} {cc : ByteArray} {nL : Nat} {ret : Option FieldType} {n d lo : Nat} (hts : ∀ w ∈ TBL, w.before args s = true) (hw : MLs own idx y cc nL ret n) (h1 : d + 1 ≤ Rm.frames) (h2 : 8 + (nL + 11) + lo ≤ Rm.locals) : CallB Rm s args own idx y cc nL ret (Cond.code y cc nL ret :: TBL) { frames := d, cells := 0, slots := 0, locals := lo } 0 0 n ∧ (Cond.static y).before args s = true := by
  obtain ⟨w1, w2, w4, w5, w6, w7⟩ := hw
  exact ⟨callB_of n hts (TBL_code w5) rfl rfl rfl (hts _ w4) (hts _ w1) w6 ⟨h1, h2⟩, hts _ w2⟩
def QcVoid : Array Value → State → Outcome → State → Prop := fun _ st o t => o = .returned none ∧ t.heap = st.heap
section CVd
variable {p : Program} {l : Launch} {e : Env} {R : Room} {s : State} {m : MethodId} {args : Array Value} {below : List Frame} {meth : Method} {c : Code} {H : Heap} {locs : List Loc} {cells slots : Nat} {Q : State → Prop} {rest : List Value} {g : JFrame} {a : Array Value}
theorem W.callVd (hr : CallRun p l e R s m args below meth c H locs cells slots 0 0 g rest (QcVoid a) (fun _ => False)) (kk : W p l e R s m args below meth c H locs cells slots Q { g with pc := g.pc + 3, stack := rest }) : W p l e R s m args below meth c H locs cells slots Q g := by
  intro T hT X
  obtain ⟨v, st₀, t, T', L, h0, X', hL, e1, ⟨hv, hh⟩, st⟩ := hr T hT X
  cases hv
  obtain ⟨t2, a1, b1⟩ := kk T' (by rw [e1, hh, h0]) (Stand.forget X' (fun q h => (hL q h).elim))
  exact ⟨t2, st t2 a1, b1⟩
end CVd
set_option maxRecDepth 20000 in
theorem mt_pre (l : Launch) (i n : Int32) (f : Option Nat) (h0 : ¬ i < 0) (hn : i < n) : Met l yJ3_checkIndex_8e157 (Cond.code yJ3_checkIndex_8e157 cJ3_checkIndex_8e157 3 (some .int) :: TBL) { frames := 0, cells := 0, slots := 0, locals := 0 } (fun v _ => v = ([.int i, .int n, va_rf f] : List Value).toArray) (QcRead i) 0 0 (fun _ => False) := by
  cases f with
  | none =>
    refine Met.ofW (cc := cJ3_checkIndex_8e157) (maxL := 3) (ret := some .int) (by decide +kernel) rfl ?_
    intro p e s m args below meth c s₁ B hml hv
    subst hv
    have hx := B.exec
    have hb := B.bytes
    have hr := B.returns
    have hlocks := B.notSynchronized
    have hl := lv_entry ([.int i, .int n, va_rf none]) (n := 3) (Nat.le_of_ble_eq_true rfl)
    rw [lg_entry_eq]
    generalize (lg_sl ([.int i, .int n, va_rf none]) ++ List.replicate (3 - (lg_sl ([.int i, .int n, va_rf none])).length) Slot.unset).toArray = ls at hl ⊢
    have hl : lv_has ls 3 [(0, .int i), (1, .int n), (2, va_rf none)] := hl
    refine lv_iload_n hx hb dJ3_checkIndex_8e157_0 rfl (lv_at hl 0 rfl) ?_
    refine lv_if_lt (tgt := 9) hx hb dJ3_checkIndex_8e157_1 (by decide) (fun h => absurd h h0) (fun _ => ?_)
    refine lv_iload_n hx hb dJ3_checkIndex_8e157_4 rfl (lv_at hl 0 rfl) ?_
    refine lv_iload_n hx hb dJ3_checkIndex_8e157_5 rfl (lv_at hl 1 rfl) ?_
    refine lv_icmp_lt (tgt := 16) hx hb dJ3_checkIndex_8e157_6 (by decide) (fun _ => ?_) (fun h => absurd hn h)
    refine lv_iload_n hx hb dJ3_checkIndex_8e157_16 rfl (lv_at hl 0 rfl) ?_
    exact W.iret hx hb hr (fun t ht hW => ⟨rfl, ht⟩) (fun q h => by cases h) dJ3_checkIndex_8e157_17 hlocks
  | some f =>
    refine Met.ofW (cc := cJ3_checkIndex_8e157) (maxL := 3) (ret := some .int) (by decide +kernel) rfl ?_
    intro p e s m args below meth c s₁ B hml hv
    subst hv
    have hx := B.exec
    have hb := B.bytes
    have hr := B.returns
    have hlocks := B.notSynchronized
    have hl := lv_entry ([.int i, .int n, va_rf (some f)]) (n := 3) (Nat.le_of_ble_eq_true rfl)
    rw [lg_entry_eq]
    generalize (lg_sl ([.int i, .int n, va_rf (some f)]) ++ List.replicate (3 - (lg_sl ([.int i, .int n, va_rf (some f)])).length) Slot.unset).toArray = ls at hl ⊢
    have hl : lv_has ls 3 [(0, .int i), (1, .int n), (2, va_rf (some f))] := hl
    refine lv_iload_n hx hb dJ3_checkIndex_8e157_0 rfl (lv_at hl 0 rfl) ?_
    refine lv_if_lt (tgt := 9) hx hb dJ3_checkIndex_8e157_1 (by decide) (fun h => absurd h h0) (fun _ => ?_)
    refine lv_iload_n hx hb dJ3_checkIndex_8e157_4 rfl (lv_at hl 0 rfl) ?_
    refine lv_iload_n hx hb dJ3_checkIndex_8e157_5 rfl (lv_at hl 1 rfl) ?_
    refine lv_icmp_lt (tgt := 16) hx hb dJ3_checkIndex_8e157_6 (by decide) (fun _ => ?_) (fun h => absurd hn h)
    refine lv_iload_n hx hb dJ3_checkIndex_8e157_16 rfl (lv_at hl 0 rfl) ?_
    exact W.iret hx hb hr (fun t ht hW => ⟨rfl, ht⟩) (fun q h => by cases h) dJ3_checkIndex_8e157_17 hlocks
set_option maxRecDepth 20000 in
theorem mt_chk (l : Launch) (A : Nat → Prop) (f : Option Nat) (i n : Int32) (h0 : ¬ i < 0) (hn : i < n) : Met l yJ0_checkIndex_df160 (Cond.code yJ0_checkIndex_df160 cJ0_checkIndex_df160 2 none :: TBL) { frames := 1, cells := 0, slots := 0, locals := 22 } (fun v U => v = ([.int i, .int n] : List Value).toArray ∧ va_Z "jdk/internal/util/Preconditions" "SIOOBE_FORMATTER" "Ljava/util/function/BiFunction;" (va_rf f) A U U.heap) QcVoid 0 0 (fun _ => False) := by
  refine Met.ofW (cc := cJ0_checkIndex_df160) (maxL := 2) (ret := none) (by decide +kernel) rfl ?_
  intro p e s m args below meth c s₁ B hml hv
  obtain ⟨rfl, hZ⟩ := hv
  have hx := B.exec
  have hb := B.bytes
  have hr := B.returns
  have hlocks := B.notSynchronized
  have hts0 := atoms_spec (ws := Cond.code yJ0_checkIndex_df160 cJ0_checkIndex_df160 2 none :: TBL) B.pre
  have hts : ∀ w ∈ TBL, w.before ([.int i, .int n] : List Value).toArray s = true := fun w h => hts0 w (List.mem_cons_of_mem _ h)
  have hown : s.vm.findClass RJ0 = some m.cls := findClass_of_methodNamed B.named
  have hS : va_S A s.heap s.heap [] := va_S.rf
  have hl := lv_entry ([.int i, .int n]) (n := 2) (Nat.le_of_ble_eq_true rfl)
  rw [lg_entry_eq]
  generalize (lg_sl ([.int i, .int n]) ++ List.replicate (2 - (lg_sl ([.int i, .int n])).length) Slot.unset).toArray = ls at hl ⊢
  have hl : lv_has ls 2 [(0, .int i), (1, .int n)] := hl
  refine lv_iload_n hx hb dJ0_checkIndex_df160_0 rfl (lv_at hl 0 rfl) ?_
  refine lv_iload_n hx hb dJ0_checkIndex_df160_1 rfl (lv_at hl 1 rfl) ?_
  refine va_gets hx hb hZ hS hown (hts _ wt_fm) (fun _ h => h) dJ0_checkIndex_df160_2 ?_
  refine W.callR (r := i) (W.runS (As := [.int i, .int n, va_rf f]) (rest := []) ⟨hx, hb, hml, hown, hts⟩ (mt_pre l i n f h0 hn) (callS_tbl hts ml_J0_1059 (Nat.le_of_ble_eq_true rfl) (Nat.le_of_ble_eq_true rfl)) ⟨fun a U g mk q => q, fun U hU hW => rfl⟩ rfl rfl hl.1 rfl (lv_room (Nat.le_of_ble_eq_true rfl)) dJ0_checkIndex_df160_5 ⟨Nat.zero_le _, Nat.zero_le _⟩) ?_
  refine lv_pop hx hb dJ0_checkIndex_df160_8 rfl ?_
  exact W.vret hx hb hr (fun t ht hW => ⟨rfl, ht⟩) (fun q h => by cases h) dJ0_checkIndex_df160_9 hlocks
set_option maxRecDepth 20000 in
theorem mt_lat (l : Launch) (A : Nat → Prop) (av : Nat) (f : Option Nat) (i : Int32) (hi : vp_in i 200) : Met l yJ1_charAt_3b067 (Cond.code yJ1_charAt_3b067 cJ1_charAt_3b067 2 (some .char) :: TBL) { frames := 2, cells := 0, slots := 0, locals := 60 } (fun v U => v = ([.ref av, .int i] : List Value).toArray ∧ va_T .byte av 200 (fun j => .int (strB.getD j 0)) A U U.heap ∧ va_Z "jdk/internal/util/Preconditions" "SIOOBE_FORMATTER" "Ljava/util/function/BiFunction;" (va_rf f) A U U.heap) (QcRead (ownC i.toNatClampNeg)) 0 0 (fun _ => False) := by
  refine Met.ofW (cc := cJ1_charAt_3b067) (maxL := 2) (ret := some .char) (by decide +kernel) rfl ?_
  intro p e s m args below meth c s₁ B hml hv
  obtain ⟨rfl, hT, hZ⟩ := hv
  have hx := B.exec
  have hb := B.bytes
  have hr := B.returns
  have hlocks := B.notSynchronized
  have hts0 := atoms_spec (ws := Cond.code yJ1_charAt_3b067 cJ1_charAt_3b067 2 (some .char) :: TBL) B.pre
  have hown : s.vm.findClass RJ1 = some m.cls := findClass_of_methodNamed B.named
  have hS : va_S A s.heap s.heap [] := va_S.rf
  obtain ⟨j, hj, rfl⟩ := vp_in_of hi (by decide)
  have hts : ∀ w ∈ TBL, w.before ([.ref av, .int (nI j)] : List Value).toArray s = true := fun w h => hts0 w (List.mem_cons_of_mem _ h)
  have hl := lv_entry ([.ref av, .int (nI j)]) (n := 2) (Nat.le_of_ble_eq_true rfl)
  rw [lg_entry_eq]
  generalize (lg_sl ([.ref av, .int (nI j)]) ++ List.replicate (2 - (lg_sl ([.ref av, .int (nI j)])).length) Slot.unset).toArray = ls at hl ⊢
  have hl : lv_has ls 2 [(0, .ref av), (1, .int (nI j))] := hl
  refine lv_iload_n hx hb dJ1_charAt_3b067_0 rfl (lv_at hl 1 rfl) ?_
  refine lv_aload_n hx hb dJ1_charAt_3b067_1 rfl (lv_at hl 0 rfl) ?_
  refine va_tlen hx hb hT hS rfl dJ1_charAt_3b067_2 ?_
  refine W.callVd (W.runS (As := [.int (nI j), .int (Int32.ofNat 200)]) (rest := []) ⟨hx, hb, hml, hown, hts⟩ (mt_chk l A f (nI j) (Int32.ofNat 200) (fun h => hi (Or.inl h)) (nI_lt hj (by decide))) (callS_tbl hts ml_J1_9 (Nat.le_of_ble_eq_true rfl) (Nat.le_of_ble_eq_true rfl)) ⟨fun a U g mk q => ⟨q.1, q.2.moved (u := U) (U := U.calling g mk a) (Vm.Alike.refl U.vm)⟩, fun U hU hW => ⟨rfl, by rw [hU]; exact hZ.moved hW.alike⟩⟩ rfl rfl hl.1 rfl (lv_room (Nat.le_of_ble_eq_true rfl)) dJ1_charAt_3b067_3 ⟨Nat.zero_le _, Nat.zero_le _⟩) ?_
  refine lv_aload_n hx hb dJ1_charAt_3b067_6 rfl (lv_at hl 0 rfl) ?_
  refine lv_iload_n hx hb dJ1_charAt_3b067_7 rfl (lv_at hl 1 rfl) ?_
  refine va_tb hx hb hT hS hi rfl dJ1_charAt_3b067_8 ?_
  refine lv_sipush (v := 255) hx hb dJ1_charAt_3b067_9 (by decide) ?_
  refine lv_iand hx hb dJ1_charAt_3b067_12 ?_
  refine lv_i2c (v := ownC (nI j).toNatClampNeg) hx hb dJ1_charAt_3b067_13 ?_ ?_
  · rw [nI_clamp (by omega)]; exact (ownC_ok j hj).1
  · exact W.zret hx hb hr (by rw [nI_clamp (by omega)]; exact (ownC_ok j hj).2) (fun t ht hW => ⟨rfl, ht⟩) (fun q h => by cases h) dJ1_charAt_3b067_14 hlocks
set_option maxRecDepth 20000 in
theorem mt_isl (l : Launch) (A : Nat → Prop) (a : Nat) : Met l yJ0_isLatin1_aae02 (Cond.code yJ0_isLatin1_aae02 cJ0_isLatin1_aae02 1 (some .boolean) :: TBL) { frames := 0, cells := 0, slots := 0, locals := 0 } (fun v U => v = ([.ref a] : List Value).toArray ∧ va_OF "java/lang/String" "coder" "B" (.int 0) a A U U.heap ∧ va_Z "java/lang/String" "COMPACT_STRINGS" "Z" (.int 1) A U U.heap) (QcRead 1) 0 0 (fun _ => False) := by
  refine Met.ofW (cc := cJ0_isLatin1_aae02) (maxL := 1) (ret := some .boolean) (by decide +kernel) rfl ?_
  intro p e s m args below meth c s₁ B hml hv
  obtain ⟨rfl, hE, hZ⟩ := hv
  have hx := B.exec
  have hb := B.bytes
  have hr := B.returns
  have hlocks := B.notSynchronized
  have hts := atoms_spec (ws := Cond.code yJ0_isLatin1_aae02 cJ0_isLatin1_aae02 1 (some .boolean) :: TBL) B.pre
  have hown : s.vm.findClass RJ0 = some m.cls := findClass_of_methodNamed B.named
  have hS : va_S A s.heap s.heap [] := va_S.rf
  have hl := lv_entry ([.ref a]) (n := 1) (Nat.le_of_ble_eq_true rfl)
  rw [lg_entry_eq]
  generalize (lg_sl ([.ref a]) ++ List.replicate (1 - (lg_sl ([.ref a])).length) Slot.unset).toArray = ls at hl ⊢
  have hl : lv_has ls 1 [(0, .ref a)] := hl
  refine va_gets hx hb hZ hS hown (hts _ (List.mem_cons_of_mem _ wt_cs)) (fun _ h => h) dJ0_isLatin1_aae02_0 ?_
  refine lv_if_eq (tgt := 17) hx hb dJ0_isLatin1_aae02_3 (by decide) (fun h => absurd h (by decide)) (fun _ => ?_)
  refine lv_aload_n hx hb dJ0_isLatin1_aae02_6 rfl (lv_at hl 0 rfl) ?_
  refine vk_getf hx hb hE hS hown (hts _ (List.mem_cons_of_mem _ wt_cod)) (fun _ h => h) dJ0_isLatin1_aae02_7 ?_
  refine lv_if_ne (tgt := 17) hx hb dJ0_isLatin1_aae02_10 (by decide) (fun h => absurd rfl h) (fun _ => ?_)
  refine lv_iconst (v := 1) hx hb dJ0_isLatin1_aae02_13 (by decide) ?_
  refine lv_goto (tgt := 18) hx hb dJ0_isLatin1_aae02_14 (by decide) ?_
  exact W.zret hx hb hr rfl (fun t ht hW => ⟨rfl, ht⟩) (fun q h => by cases h) dJ0_isLatin1_aae02_18 hlocks
theorem va_OF.blind {o n d : String} {v : Value} {q : Nat} {A : Nat → Prop} {U : State} {g : JFrame} {mk : MethodId} {a : Array Value} (h : va_OF o n d v q A U U.heap) : va_OF o n d v q A (U.calling g mk a) (U.calling g mk a).heap := va_OF.moved (u := U) (U := U.calling g mk a) (Vm.Alike.refl U.vm) h
set_option maxRecDepth 20000 in
theorem mt_chr (l : Launch) (A : Nat → Prop) (ad : Nat → Nat) (i : Int32) (hi : vp_in i 200) : Met l yJ0_charAt_5068e (Cond.code yJ0_charAt_5068e cJ0_charAt_5068e 2 (some .char) :: TBL) { frames := 3, cells := 0, slots := 0, locals := 120 } (fun v U => v = ([.ref (ad 0), .int i] : List Value).toArray ∧ XS ad A U) (QcRead (ownC i.toNatClampNeg)) 0 0 (fun _ => False) := by
  refine Met.ofW (cc := cJ0_charAt_5068e) (maxL := 2) (ret := some .char) (by decide +kernel) rfl ?_
  intro p e s m args below meth c s₁ B hml hv
  obtain ⟨rfl, hX⟩ := hv
  obtain ⟨⟨adV, hE⟩, hR, hZ, hZq⟩ := id hX
  obtain ⟨fm, hZ2⟩ : ∃ fm : Option Nat, va_Z "jdk/internal/util/Preconditions" "SIOOBE_FORMATTER" "Ljava/util/function/BiFunction;" (va_rf fm) A s s.heap := by
    rcases hZq with h | ⟨t, h⟩
    · exact ⟨none, h⟩
    · exact ⟨some t, h⟩
  have hE0 := hE.1 0 (by decide)
  have hx := B.exec
  have hb := B.bytes
  have hr := B.returns
  have hlocks := B.notSynchronized
  have hts0 := atoms_spec (ws := Cond.code yJ0_charAt_5068e cJ0_charAt_5068e 2 (some .char) :: TBL) B.pre
  have hts : ∀ w ∈ TBL, w.before ([.ref (ad 0), .int i] : List Value).toArray s = true := fun w h => hts0 w (List.mem_cons_of_mem _ h)
  have hown : s.vm.findClass RJ0 = some m.cls := findClass_of_methodNamed B.named
  have hS : va_S A s.heap s.heap [] := va_S.rf
  have hl := lv_entry ([.ref (ad 0), .int i]) (n := 2) (Nat.le_of_ble_eq_true rfl)
  rw [lg_entry_eq]
  generalize (lg_sl ([.ref (ad 0), .int i]) ++ List.replicate (2 - (lg_sl ([.ref (ad 0), .int i])).length) Slot.unset).toArray = ls at hl ⊢
  have hl : lv_has ls 2 [(0, .ref (ad 0)), (1, .int i)] := hl
  refine lv_aload_n hx hb dJ0_charAt_5068e_0 rfl (lv_at hl 0 rfl) ?_
  refine W.callR (r := 1) (W.runV (As := []) (b := ad 0) (rest := []) ⟨hx, hb, hml, hown, hts⟩ (mt_isl l A (ad 0)) (callW_tbl hts ml_J0_492 (Nat.le_of_ble_eq_true rfl) (Nat.le_of_ble_eq_true rfl)) ⟨fun a U g mk q => ⟨q.1, q.2.1.blind, q.2.2.moved (u := U) (U := U.calling g mk a) (Vm.Alike.refl U.vm)⟩, vk_recv (adK := fun _ => ad 0) (i := 0) hE (by decide) hS, fun U hU hW => ⟨rfl, by rw [hU]; exact hE0.2.1.moved hW.alike, by rw [hU]; exact hZ.moved hW.alike⟩⟩ rfl rfl hl.1 rfl (lv_room (Nat.le_of_ble_eq_true rfl)) dJ0_charAt_5068e_1 ⟨Nat.zero_le _, Nat.zero_le _⟩) ?_
  refine W.eq (g2 := F0 m 4 ls [.int 1]) rfl ?_
  refine lv_if_eq (tgt := 16) hx hb dJ0_charAt_5068e_4 (by decide) (fun h => absurd h (by decide)) (fun _ => ?_)
  refine lv_aload_n hx hb dJ0_charAt_5068e_7 rfl (lv_at hl 0 rfl) ?_
  refine vk_getf hx hb hE0.2.2.1 hS hown (hts _ wt_val) (fun _ h => h) dJ0_charAt_5068e_8 ?_
  refine lv_iload_n hx hb dJ0_charAt_5068e_11 rfl (lv_at hl 1 rfl) ?_
  refine W.callR (r := ownC i.toNatClampNeg) (W.runS (As := [.ref (adV 0), .int i]) (rest := []) ⟨hx, hb, hml, hown, hts⟩ (mt_lat l A (adV 0) fm i hi) (callS_tbl hts ml_J0_495 (Nat.le_of_ble_eq_true rfl) (Nat.le_of_ble_eq_true rfl)) ⟨fun a U g mk q => ⟨q.1, q.2.1.moved (u := U) (U := U.calling g mk a) (Vm.Alike.refl U.vm), q.2.2.moved (u := U) (U := U.calling g mk a) (Vm.Alike.refl U.vm)⟩, fun U hU hW => ⟨rfl, by rw [hU]; exact hE0.2.2.2.moved hW.alike, by rw [hU]; exact hZ2.moved hW.alike⟩⟩ rfl rfl hl.1 rfl (lv_room (Nat.le_of_ble_eq_true rfl)) dJ0_charAt_5068e_12 ⟨Nat.zero_le _, Nat.zero_le _⟩) ?_
  obtain ⟨j, hj, rfl⟩ := vp_in_of hi (by decide)
  exact W.zret hx hb hr (by rw [nI_clamp (by omega)]; exact (ownC_ok j hj).2) (fun t ht hW => ⟨rfl, ht⟩) (fun q h => by cases h) dJ0_charAt_5068e_15 hlocks
section PWt
variable {α : Type} {lo hi d : Nat} {own : String} {cc : ByteArray} {nL : Nat} {ret : Option FieldType} {pc : Nat} {lv : List (Nat × Value)} {st : List Value} {I : HI} {L : HL} {R : HR} {o : Option α} {N : α → Prop} {F : HF}
theorem PWk.ldcS (hd : decode cc pc = .ok (.ldc 76, 2)) (hown : own = "LakeMarket$Tokens") (k : PWk lo hi d own cc nL ret (pc + 2) lv (.ref 0 :: st) I L R o N F) : PWk lo hi d own cc nL ret pc lv st I L R o N F := by
  intro a ho hN l D cA ad p e Rm s m args below meth c C H locs ls hP hS hl
  subst hown
  exact va_ldcS C.1.1 C.1.2.1 C.1.2.2.2.1 C.2.2.2.2.2.1.2.1 hd (k a ho hN l D cA ad p e Rm s m args below meth c C H locs ls hP hS hl)
theorem PWk.charAt {idx : Nat} {i : Int32} {g : Int32 → Option α} (hd : decode cc pc = .ok (.invokevirtual idx, 3)) (hw : MLv own idx yJ0_charAt_5068e cJ0_charAt_5068e 2 (some .char) 1) (hdd : 4 ≤ d) (hcat : (st.map fun v => v.category).sum ≤ 8) (kk : ∀ v : Int32, PWk lo hi d own cc nL ret (pc + 3) lv (.int v :: st) I L R (g v) N F) : PWk lo hi d own cc nL ret pc lv (.int i :: .ref 0 :: st) I L R (ldI ownC 200 i g) N F := by
  intro x ho hN l D cA ad p e Rm s m args below meth c C H locs ls hP hS hls
  unfold ldI at ho
  by_cases h : i < 0 ∨ 200 ≤ i.toNatClampNeg
  · rw [if_pos h] at ho; cases ho
  · rw [if_neg h] at ho
    have hR := C.2.2.2.2.2.2.1
    have hR2 := C.2.2.2.2.2.2.2
    have hX := C.2.2.2.2.2.1
    obtain ⟨⟨adV, hE⟩, hRr, hZ, hZ2⟩ := id hX
    refine W.callR (r := ownC i.toNatClampNeg) (W.runV (As := [.int i]) (b := ad 0) (rest := st.map (mv ad)) C.1 (mt_chr l (Aof lo hi ad) ad i h) (callW_tbl C.1.2.2.2.2 hw (by omega) (by omega)) ⟨fun a U g mk q => ⟨q.1, q.2.blind⟩, vk_recv (adK := fun _ => ad 0) (i := 0) hE (by decide) hS, fun U hU hW => ⟨rfl, hX.next hS hU hW⟩⟩ rfl rfl hls.1 rfl (lv_room (by rw [cat_map]; exact hcat)) hd ⟨Nat.zero_le _, Nat.zero_le _⟩) ?_
    exact kk _ x ho hN l D cA ad p e Rm s m args below meth c C H locs ls hP hS hls
end PWt
