/-! THE CLAIM OUT OF ONE WALK OF THE LAW'S BODY. Your part is whole_start (and what it stands on); all else here is the same for every law, but numbers. -/
def R_law : String := "LakeMarketLaw"
def lw_P (b : Addr) (xs : List Int32) (args : Array Value) (s : State) : Prop := args = #[.ref b] ∧ s.IntsAt b xs ∧ xs.length ≤ 3072 ∧ (Jvm.Cond.and given_1 narrow_1).before args s = true
def lw_Q (_ : Array Value) (s : State) (o : Outcome) (t : State) : Prop := o = .returned (some (.int 1)) ∧ Framed s o t [] 600000 7302250
def lw_Z (below : List Frame) (a : Array Value) (s : State) : State → Prop := fun t => ∃ o, t.status = .running ∧ Ended t below o ∧ lw_Q a s o t
/-- the law's own end, with 1 on the stack, nothing written that was there before, its room as the claim has it -/
theorem lw_ret {p : Program} {l : Launch} {e : Env} {s : State} {m : MethodId} {below : List Frame} {meth : Method} {c : Code} {b : Nat} (hx : p.tables.exec = Jvm.exec) (hb : c.code = code) (hr : meth.sig.returnType = ret) (hlocks : meth.locks = false) {pc : Nat} {H : Heap} {ls : Array Slot} (hdg : decode code pc = .ok (.ireturn, 1)) : W p l e room_1 s m #[Value.ref b] below meth c H [] 600000 7302250 (lw_Z below #[Value.ref b] s) (F0 m pc ls [.int 1]) := by
  intro T hT X
  obtain ⟨fs, hret, hrun, hended, hW, hframe⟩ := X.leave (v := some (.int 1)) (hlocks := hlocks) (fun h => by rw [hr] at h; cases h)
  have hmeth' : T.vm.method? m = some meth := X.method'
  refine ⟨T.setFrames fs, ?_, .returned (some (.int 1)), hrun, hended, rfl, ⟨_, rfl⟩, hW, hframe⟩
  jvm_step X.here [X.here.top, hx, hb, hdg, hmeth', hr, ret, narrow_b1]
  (try refine ⟨rfl, ?_⟩); (try refine ⟨rfl, ?_⟩)
  first | (intro acts; rw [hret _ acts rfl rfl rfl]) | rw [hret _ _ rfl rfl rfl]
  exact Steps.refl _
/-- what holds at the law's entry: the machine, the code, the tables' words (any of lw_tbl by 'hts w (by decide +kernel)'), the script of L ints xs at the cell b, what the Statement gives of the start (any of its parts by flat_of_before) -/
def lw_At (p : Program) (s : State) (m : MethodId) (meth : Method) (c : Code) (b L : Nat) (xs : Nat → Int32) : Prop :=
  p.tables.exec = Jvm.exec ∧ c.code = code ∧ meth.sig.returnType = ret ∧ c.maxLocals = 4 ∧ s.vm.findClass R_law = some m.cls ∧ (∀ w ∈ lw_tbl, w.before #[Value.ref b] s = true) ∧ va_X b L xs s s.heap ∧ b < s.heap.size ∧ meth.locks = false ∧ (Jvm.Cond.and given_1 narrow_1).before #[Value.ref b] s = true
section LW2
variable {p : Program} {l : Launch} {e : Env} {Rm : Room} {s : State} {m : MethodId} {args : Array Value} {below : List Frame} {meth : Method} {c : Code} {H : Heap} {locs : List Loc} {kc ks : Nat} {Q : State → Prop} {D : va_G} {cA : Nat → ClassId} {ad : Nat → Nat} {lo hi lo' hi' : Nat} {I I' : HI} {L L' : HL} {R R' : HR} {own : String} {cc : ByteArray} {nL pc : Nat} {ls : Array Slot} {A : Nat → Prop}
/-- a call on one of the two systems: the other one stays -/
theorem W.call2 {idx ci b n d : Nat} {y : MethodName} {cc' : ByteArray} {nL' : Nat} {ret' : Option FieldType} {As : List Value} {F1 : HF} {rest st0 : List Value} (C1 : CallFix p m c cc nL s args TBL own) (hM : PC lo hi d y cc' nL' ret' (.ref b :: As) I L R F1) (hw : MLv own idx y cc' nL' ret' n) (hd : decode cc pc = .ok (.invokevirtual idx, 3)) (hK : KN D cA lo hi s) (hadi : Adi lo hi ad) (hX : XS ad A s) (hP : va_P D vwCl (cells lo hi cA ad I L R) H) (hP' : va_P D vwCl (cells lo' hi' cA ad I' L' R') H) (hxx : ∀ i j, lo ≤ i → i < hi → lo' ≤ j → j < hi' → ad j ≠ ad i) (hS : va_S A s.heap H locs) (hAA : ∀ q, Aof lo hi ad q → A q) (hn : As.length = n) (hr : lo ≤ b ∧ b < hi) (hl : (lay b).1 = ci) (hc : ∃ q, vwCl[ci]? = some q ∧ q.1 = y.cls ∧ ci < 13) (hf : d + 1 ≤ Rm.frames) (hlo : 60 * d + 60 ≤ Rm.locals) (hkc : kc ≤ Rm.cells) (hks : ks ≤ Rm.slots) (hls : ls.size = nL) (hst : st0 = (As.map (mv ad)).reverse ++ .ref (ad b) :: rest) (hcat : (rest.map fun v => v.category).sum ≤ 8)
    (kk : ∀ (H1 : Heap) (locs1 : List Loc), va_P D vwCl (cells lo hi cA ad F1.2.1 F1.2.2.1 F1.2.2.2) H1 → va_P D vwCl (cells lo' hi' cA ad I' L' R') H1 → va_S A s.heap H1 locs1 → W p l e Rm s m args below meth c H1 locs1 kc ks Q (F0 m (pc + 3) ls ((F1.1.map (mv ad)).toList ++ rest))) : W p l e Rm s m args below meth c H locs kc ks Q (F0 m pc ls st0) := by
  refine W.callPC C1 hM hw hd hK hadi hX hP hS hAA hn hr hl hc hf hlo hkc hks hls hst hcat (fun H1 locs1 h1 h2 h3 h4 => kk H1 locs1 h1 (hP'.kept (fun k x hx => ?_)) h2)
  have hlt := (hP' k x hx).lt
  obtain ⟨hk, rfl⟩ := cells_in hx
  refine h4 _ hlt (fun hA => ?_)
  obtain ⟨i, a1, a2, a3⟩ := hA
  exact hxx i (lo' + k) a1 a2 (by omega) (by omega) a3
end LW2
theorem law_in {i L a : Nat} (h : i + 6 ≤ L) (ha : a < 6) (hL : L ≤ 3072) : vp_in (nI i + nI a) L := by
  rw [nI_add]
  exact vp_in_nI (by omega) (by omega)
theorem law_lt {i L : Nat} (hL : L ≤ 3072) (hi : i ≤ L + 5) (h : ¬ (Int32.ofNat L - 6 < nI i)) : i + 6 ≤ L := by
  rcases Nat.lt_or_ge L (i + 6) with q | q
  · refine absurd ?_ h
    rw [Int32.lt_iff_toInt_lt]
    have e1 : (Int32.ofNat L - 6).toInt = (L : Int) - 6 := pk_sub_toInt (a := L) (b := 6) (by omega) (by omega)
    rw [e1, nI_toInt (by omega)]
    omega
  · exact q
set_option maxHeartbeats 8000000 in
set_option maxRecDepth 100000 in
theorem law_loop {p : Program} {e : Env} {s : State} {m : MethodId} {below : List Frame} {meth : Method} {c : Code} (l : Launch) {b L : Nat} {xs : Nat → Int32} (hL : L ≤ 3072) (C0 : lw_At p s m meth c b L xs) (Rel : RelT) (Rup : ∀ (n : Nat) (I : HI) (R : HR) (J : HI) (M : HL), Rel n I R J M → Rel (n + 6) I R J M) (E0 : Eq_feed Rel) (E1 : Eq_end Rel) (E2 : Eq_lowland Rel) (E3 : Eq_fault Rel) (E4 : Eq_has Rel) (E5 : Eq_letter Rel) (E6 : Eq_hollow Rel) (E7 : Eq_lake Rel) (E8 : Eq_owner Rel) (E9 : Eq_owes Rel) (E10 : Eq_later Rel) (E11 : Eq_broke Rel) (E12 : Eq_spend Rel) (E13 : Eq_price Rel) (E14 : Eq_moves Rel) (E15 : Eq_pack Rel) (E16 : Eq_net Rel) (E17 : Eq_settling Rel) (E18 : Eq_share Rel) (E19 : Eq_stood Rel) (E20 : Eq_robbed Rel) (E21 : Eq_nights Rel) (E22 : Eq_chance Rel) (E23 : Eq_move Rel) (E24 : Eq_pour Rel) (E25 : Eq_part Rel) (E26 : Eq_pay Rel) (E27 : Eq_strike Rel) (E28 : Eq_undo Rel) (E29 : Eq_seed Rel) (E30 : Eq_kept Rel) (E31 : Eq_image Rel) (E32 : Eq_octet Rel) (E33 : Eq_on Rel) (E34 : Eq_status Rel) (D : va_G) (cA : Nat → ClassId) (ad : Nat → Nat) (kc ks : Nat) (hkc : kc ≤ 600000) (hks : ks ≤ 7302250) (hK1 : KN D cA 1 93 s) (hK2 : KN D cA 100 147 s) (ha1 : Adi 1 93 ad) (ha2 : Adi 100 147 ad) (hxx : ∀ i j, 1 ≤ i → i < 93 → 100 ≤ j → j < 147 → ad j ≠ ad i) (hX : XS ad (fun q : Nat => s.heap.size ≤ q) s) (hA1 : ∀ q, Aof 1 93 ad q → s.heap.size ≤ q) (hA2 : ∀ q, Aof 100 147 ad q → s.heap.size ≤ q) :
    ∀ (n i : Nat), i ≤ L + 5 → L + 6 ≤ i + 6 * n → ∀ (I : HI) (R : HR) (J : HI) (M : HL) (LX : HL) (RM : HR) (H : Heap) (locs : List Loc), Rel i I R J M → va_P D vwCl (cells 1 93 cA ad I LX R) H → va_P D vwCl (cells 100 147 cA ad J M RM) H → va_S (fun q : Nat => s.heap.size ≤ q) s.heap H locs → ∀ ls : Array Slot, lv_has ls 4 [(0, .ref b), (1, .ref (ad 1)), (2, .ref (ad 100)), (3, .int (nI i))] →
      W p l e room_1 s m #[Value.ref b] below meth c H locs kc ks (lw_Z below #[Value.ref b] s) (F0 m 18 ls []) := by
  obtain ⟨hx, hb, hr, hml, hown0, hts0, hXs, hbl, hlocks, hgv⟩ := id C0
  have hown : s.vm.findClass RL = some m.cls := hown0
  have hts : ∀ w ∈ TBL, w.before #[Value.ref b] s = true := fun w h => hts0 w (List.mem_filter.mp h).1
  have C1 : CallFix p m c cL_law 4 s #[Value.ref b] TBL RL := ⟨hx, hb, hml, hown, hts⟩
  have hbA : ¬ (fun q : Nat => s.heap.size ≤ q) b := Nat.not_le.mpr hbl
  intro n
  induction n with
  | zero => intro i h1 h2; exact absurd h2 (by omega)
  | succ n ih =>
    intro i hi0 hin I R J M LX RM H locs hRel hP1 hP2 hS ls hl
    have fin : ∀ (I : HI) (R : HR) (J : HI) (M : HL) (LX : HL) (RM : HR) (H : Heap) (locs : List Loc), i + 6 ≤ L → Rel (i + 6) I R J M → va_P D vwCl (cells 1 93 cA ad I LX R) H → va_P D vwCl (cells 100 147 cA ad J M RM) H → va_S (fun q : Nat => s.heap.size ≤ q) s.heap H locs → W p l e room_1 s m #[Value.ref b] below meth c H locs kc ks (lw_Z below #[Value.ref b] s) (F0 m 1143 ls []) := by
      intro I R J M LX RM H locs h6 hRel hP1 hP2 hS
      refine lv_iinc (v := nI (i + 6)) (lv' := [(3, .int (nI (i + 6))), (0, .ref b), (1, .ref (ad 1)), (2, .ref (ad 100))]) hx hb dL_law_1143 hl (k := 3) rfl (nI_add i 6) (by decide) rfl (fun ls hl => ?_)
      refine lv_goto (tgt := 18) hx hb dL_law_1146 (by decide) ?_
      exact ih (i + 6) (by omega) (by omega) I R J M LX RM H locs hRel hP1 hP2 hS ls (lv_sub hl [1, 2, 3, 0] rfl)
    refine lv_iload_n hx hb dL_law_18 rfl (lv_at hl 3 rfl) ?_
    refine lv_aload_n hx hb dL_law_19 rfl (lv_at hl 0 rfl) ?_
    refine va_slen hx hb hXs hbl hbA hS dL_law_20 ?_
    refine lv_bipush (v := 6) hx hb dL_law_21 (by decide) ?_
    refine lv_isub hx hb dL_law_23 ?_
    refine lv_icmp_gt (tgt := 1149) hx hb dL_law_24 (by decide) (fun hc => ?_) (fun hc => ?_)
    · refine lv_iconst (v := 1) hx hb dL_law_1149 (by decide) ?_
      refine va_forget (fun q hq => hS.2.2 q hq) ?_
      refine W.widen (k := 600000) (n := 7302250) hkc hks ?_
      exact lw_ret hx hb hr hlocks dL_law_1150
    have h6 : i + 6 ≤ L := law_lt hL hi0 hc
    have hin1 : vp_in (nI i + 1) L := law_in (a := 1) h6 (by decide) hL
    have hin2 : vp_in (nI i + 2) L := law_in (a := 2) h6 (by decide) hL
    have hin3 : vp_in (nI i + 3) L := law_in (a := 3) h6 (by decide) hL
    have hin4 : vp_in (nI i + 4) L := law_in (a := 4) h6 (by decide) hL
    have hin5 : vp_in (nI i + 5) L := law_in (a := 5) h6 (by decide) hL
    have hin0 : vp_in (nI i) L := vp_in_nI (by omega) (by omega)
    refine lv_aload_n hx hb dL_law_27 rfl (lv_at hl 0 rfl) ?_
    refine lv_iload_n hx hb dL_law_28 rfl (lv_at hl 3 rfl) ?_
    refine va_sld hx hb hXs hbl hbA hS hin0 dL_law_29 ?_
    refine lv_bipush (v := 63) hx hb dL_law_30 (by decide) ?_
    refine lv_iand hx hb dL_law_32 ?_
    refine lv_topi (fun op eop => ?_)
    by_cases h_0 : op = 0
    · refine lv_tableIn (tgt := 188) (off := 155) hx hb dL_law_33 (by rw [h_0]; decide) (by rw [h_0]; decide) (by rw [h_0]; decide) (by decide) ?_
      obtain ⟨r, I', J', e1, e2, hRel2⟩ := E0 i I R J M (xs (nI i + 1).toNatClampNeg) (xs (nI i + 2).toNatClampNeg) (xs (nI i + 3).toNatClampNeg) (xs (nI i + 4).toNatClampNeg) (xs (nI i + 5).toNatClampNeg) (Nat.le_trans (by omega) hL) hRel
      refine lv_aload_n hx hb dL_law_188 rfl (lv_at hl 1 rfl) ?_
      refine lv_aload_n hx hb dL_law_189 rfl (lv_at hl 0 rfl) ?_
      refine lv_iload_n hx hb dL_law_190 rfl (lv_at hl 3 rfl) ?_
      refine lv_iconst (v := 1) hx hb dL_law_191 (by decide) ?_
      refine lv_iadd hx hb dL_law_192 ?_
      refine va_sld hx hb hXs hbl hbA hS hin1 dL_law_193 ?_
      refine lv_aload_n hx hb dL_law_194 rfl (lv_at hl 0 rfl) ?_
      refine lv_iload_n hx hb dL_law_195 rfl (lv_at hl 3 rfl) ?_
      refine lv_iconst (v := 2) hx hb dL_law_196 (by decide) ?_
      refine lv_iadd hx hb dL_law_197 ?_
      refine va_sld hx hb hXs hbl hbA hS hin2 dL_law_198 ?_
      refine lv_aload_n hx hb dL_law_199 rfl (lv_at hl 0 rfl) ?_
      refine lv_iload_n hx hb dL_law_200 rfl (lv_at hl 3 rfl) ?_
      refine lv_iconst (v := 3) hx hb dL_law_201 (by decide) ?_
      refine lv_iadd hx hb dL_law_202 ?_
      refine va_sld hx hb hXs hbl hbA hS hin3 dL_law_203 ?_
      refine lv_aload_n hx hb dL_law_204 rfl (lv_at hl 0 rfl) ?_
      refine lv_iload_n hx hb dL_law_205 rfl (lv_at hl 3 rfl) ?_
      refine lv_iconst (v := 4) hx hb dL_law_206 (by decide) ?_
      refine lv_iadd hx hb dL_law_207 ?_
      refine va_sld hx hb hXs hbl hbA hS hin4 dL_law_208 ?_
      refine lv_aload_n hx hb dL_law_209 rfl (lv_at hl 0 rfl) ?_
      refine lv_iload_n hx hb dL_law_210 rfl (lv_at hl 3 rfl) ?_
      refine lv_iconst (v := 5) hx hb dL_law_211 (by decide) ?_
      refine lv_iadd hx hb dL_law_212 ?_
      refine va_sld hx hb hXs hbl hbA hS hin5 dL_law_213 ?_
      refine W.call2 (As := [.int (xs (nI i + 1).toNatClampNeg), .int (xs (nI i + 2).toNatClampNeg), .int (xs (nI i + 3).toNatClampNeg), .int (xs (nI i + 4).toNatClampNeg), .int (xs (nI i + 5).toNatClampNeg)]) (b := 1) (rest := []) C1 (pc_X11_feed FU I LX R (xs (nI i + 1).toNatClampNeg) (xs (nI i + 2).toNatClampNeg) (xs (nI i + 3).toNatClampNeg) (xs (nI i + 4).toNatClampNeg) (xs (nI i + 5).toNatClampNeg) _ e1) ml_L_13 dL_law_214 hK1 ha1 hX hP1 hP2 hxx hS hA1 rfl rg_1 lc_1 vq_11 (by decide) (by decide) hkc hks hl.1 rfl (Nat.le_of_ble_eq_true rfl) (fun H locs hP1 hP2 hS => ?_)
      refine W.eq (g2 := F0 m 217 ls [.int r]) rfl ?_
      refine lv_aload_n hx hb dL_law_217 rfl (lv_at hl 2 rfl) ?_
      refine lv_aload_n hx hb dL_law_218 rfl (lv_at hl 0 rfl) ?_
      refine lv_iload_n hx hb dL_law_219 rfl (lv_at hl 3 rfl) ?_
      refine lv_iconst (v := 1) hx hb dL_law_220 (by decide) ?_
      refine lv_iadd hx hb dL_law_221 ?_
      refine va_sld hx hb hXs hbl hbA hS hin1 dL_law_222 ?_
      refine lv_aload_n hx hb dL_law_223 rfl (lv_at hl 0 rfl) ?_
      refine lv_iload_n hx hb dL_law_224 rfl (lv_at hl 3 rfl) ?_
      refine lv_iconst (v := 2) hx hb dL_law_225 (by decide) ?_
      refine lv_iadd hx hb dL_law_226 ?_
      refine va_sld hx hb hXs hbl hbA hS hin2 dL_law_227 ?_
      refine lv_aload_n hx hb dL_law_228 rfl (lv_at hl 0 rfl) ?_
      refine lv_iload_n hx hb dL_law_229 rfl (lv_at hl 3 rfl) ?_
      refine lv_iconst (v := 3) hx hb dL_law_230 (by decide) ?_
      refine lv_iadd hx hb dL_law_231 ?_
      refine va_sld hx hb hXs hbl hbA hS hin3 dL_law_232 ?_
      refine lv_aload_n hx hb dL_law_233 rfl (lv_at hl 0 rfl) ?_
      refine lv_iload_n hx hb dL_law_234 rfl (lv_at hl 3 rfl) ?_
      refine lv_iconst (v := 4) hx hb dL_law_235 (by decide) ?_
      refine lv_iadd hx hb dL_law_236 ?_
      refine va_sld hx hb hXs hbl hbA hS hin4 dL_law_237 ?_
      refine lv_aload_n hx hb dL_law_238 rfl (lv_at hl 0 rfl) ?_
      refine lv_iload_n hx hb dL_law_239 rfl (lv_at hl 3 rfl) ?_
      refine lv_iconst (v := 5) hx hb dL_law_240 (by decide) ?_
      refine lv_iadd hx hb dL_law_241 ?_
      refine va_sld hx hb hXs hbl hbA hS hin5 dL_law_242 ?_
      refine W.call2 (As := [.int (xs (nI i + 1).toNatClampNeg), .int (xs (nI i + 2).toNatClampNeg), .int (xs (nI i + 3).toNatClampNeg), .int (xs (nI i + 4).toNatClampNeg), .int (xs (nI i + 5).toNatClampNeg)]) (b := 100) (rest := [.int r]) C1 (pc_X12_feed FU J M RM (xs (nI i + 1).toNatClampNeg) (xs (nI i + 2).toNatClampNeg) (xs (nI i + 3).toNatClampNeg) (xs (nI i + 4).toNatClampNeg) (xs (nI i + 5).toNatClampNeg) _ e2) ml_L_17 dL_law_243 hK2 ha2 hX hP2 hP1 (fun i j a b a2 b2 h => hxx j i a2 b2 a b h.symm) hS hA2 rfl rg_100 lc_100 vq_12 (by decide) (by decide) hkc hks hl.1 rfl (Nat.le_of_ble_eq_true rfl) (fun H locs hP2 hP1 hS => ?_)
      refine W.eq (g2 := F0 m 246 ls [.int r, .int r]) rfl ?_
      refine lv_icmp_eq (tgt := 1143) hx hb dL_law_246 (by decide) (fun _ => ?_) (fun h => absurd rfl h)
      exact fin _ _ _ _ _ _ _ _ h6 hRel2 hP1 hP2 hS
    by_cases h_1 : op = 1
    · refine lv_tableIn (tgt := 251) (off := 218) hx hb dL_law_33 (by rw [h_1]; decide) (by rw [h_1]; decide) (by rw [h_1]; decide) (by decide) ?_
      obtain ⟨r, I', J', e1, e2, hRel2⟩ := E1 i I R J M (xs (nI i + 1).toNatClampNeg) (Nat.le_trans (by omega) hL) hRel
      refine lv_aload_n hx hb dL_law_251 rfl (lv_at hl 1 rfl) ?_
      refine lv_aload_n hx hb dL_law_252 rfl (lv_at hl 0 rfl) ?_
      refine lv_iload_n hx hb dL_law_253 rfl (lv_at hl 3 rfl) ?_
      refine lv_iconst (v := 1) hx hb dL_law_254 (by decide) ?_
      refine lv_iadd hx hb dL_law_255 ?_
      refine va_sld hx hb hXs hbl hbA hS hin1 dL_law_256 ?_
      refine W.call2 (As := [.int (xs (nI i + 1).toNatClampNeg)]) (b := 1) (rest := []) C1 (pc_X11_end  I LX R (xs (nI i + 1).toNatClampNeg) _ e1) ml_L_18 dL_law_257 hK1 ha1 hX hP1 hP2 hxx hS hA1 rfl rg_1 lc_1 vq_11 (by decide) (by decide) hkc hks hl.1 rfl (Nat.le_of_ble_eq_true rfl) (fun H locs hP1 hP2 hS => ?_)
      refine W.eq (g2 := F0 m 260 ls [.int r]) rfl ?_
      refine lv_aload_n hx hb dL_law_260 rfl (lv_at hl 2 rfl) ?_
      refine lv_aload_n hx hb dL_law_261 rfl (lv_at hl 0 rfl) ?_
      refine lv_iload_n hx hb dL_law_262 rfl (lv_at hl 3 rfl) ?_
      refine lv_iconst (v := 1) hx hb dL_law_263 (by decide) ?_
      refine lv_iadd hx hb dL_law_264 ?_
      refine va_sld hx hb hXs hbl hbA hS hin1 dL_law_265 ?_
      refine W.call2 (As := [.int (xs (nI i + 1).toNatClampNeg)]) (b := 100) (rest := [.int r]) C1 (pc_X12_end  J M RM (xs (nI i + 1).toNatClampNeg) _ e2) ml_L_22 dL_law_266 hK2 ha2 hX hP2 hP1 (fun i j a b a2 b2 h => hxx j i a2 b2 a b h.symm) hS hA2 rfl rg_100 lc_100 vq_12 (by decide) (by decide) hkc hks hl.1 rfl (Nat.le_of_ble_eq_true rfl) (fun H locs hP2 hP1 hS => ?_)
      refine W.eq (g2 := F0 m 269 ls [.int r, .int r]) rfl ?_
      refine lv_icmp_eq (tgt := 1143) hx hb dL_law_269 (by decide) (fun _ => ?_) (fun h => absurd rfl h)
      exact fin _ _ _ _ _ _ _ _ h6 hRel2 hP1 hP2 hS
    by_cases h_2 : op = 2
    · refine lv_tableIn (tgt := 274) (off := 241) hx hb dL_law_33 (by rw [h_2]; decide) (by rw [h_2]; decide) (by rw [h_2]; decide) (by decide) ?_
      obtain ⟨r, I', R', J', M', e1, e2, hRel2⟩ := E2 i I R J M  (Nat.le_trans (by omega) hL) hRel
      refine lv_aload_n hx hb dL_law_274 rfl (lv_at hl 1 rfl) ?_
      refine W.call2 (As := []) (b := 1) (rest := []) C1 (pc_X11_lowland FU I LX R  _ e1) ml_L_23 dL_law_275 hK1 ha1 hX hP1 hP2 hxx hS hA1 rfl rg_1 lc_1 vq_11 (by decide) (by decide) hkc hks hl.1 rfl (Nat.le_of_ble_eq_true rfl) (fun H locs hP1 hP2 hS => ?_)
      refine W.eq (g2 := F0 m 278 ls [.int r]) rfl ?_
      refine lv_aload_n hx hb dL_law_278 rfl (lv_at hl 2 rfl) ?_
      refine W.call2 (As := []) (b := 100) (rest := [.int r]) C1 (pc_X12_lowland FU J M RM  _ e2) ml_L_27 dL_law_279 hK2 ha2 hX hP2 hP1 (fun i j a b a2 b2 h => hxx j i a2 b2 a b h.symm) hS hA2 rfl rg_100 lc_100 vq_12 (by decide) (by decide) hkc hks hl.1 rfl (Nat.le_of_ble_eq_true rfl) (fun H locs hP2 hP1 hS => ?_)
      refine W.eq (g2 := F0 m 282 ls [.int r, .int r]) rfl ?_
      refine lv_icmp_eq (tgt := 1143) hx hb dL_law_282 (by decide) (fun _ => ?_) (fun h => absurd rfl h)
      exact fin _ _ _ _ _ _ _ _ h6 hRel2 hP1 hP2 hS
    by_cases h_3 : op = 3
    · refine lv_tableIn (tgt := 287) (off := 254) hx hb dL_law_33 (by rw [h_3]; decide) (by rw [h_3]; decide) (by rw [h_3]; decide) (by decide) ?_
      obtain ⟨r, e1, e2, hRel2⟩ := E3 i I R J M (xs (nI i + 1).toNatClampNeg) (Nat.le_trans (by omega) hL) hRel
      refine lv_aload_n hx hb dL_law_287 rfl (lv_at hl 1 rfl) ?_
      refine lv_aload_n hx hb dL_law_288 rfl (lv_at hl 0 rfl) ?_
      refine lv_iload_n hx hb dL_law_289 rfl (lv_at hl 3 rfl) ?_
      refine lv_iconst (v := 1) hx hb dL_law_290 (by decide) ?_
      refine lv_iadd hx hb dL_law_291 ?_
      refine va_sld hx hb hXs hbl hbA hS hin1 dL_law_292 ?_
      refine W.call2 (As := [.int (xs (nI i + 1).toNatClampNeg)]) (b := 1) (rest := []) C1 (pc_X11_fault  I LX R (xs (nI i + 1).toNatClampNeg) _ e1) ml_L_28 dL_law_293 hK1 ha1 hX hP1 hP2 hxx hS hA1 rfl rg_1 lc_1 vq_11 (by decide) (by decide) hkc hks hl.1 rfl (Nat.le_of_ble_eq_true rfl) (fun H locs hP1 hP2 hS => ?_)
      refine W.eq (g2 := F0 m 296 ls [.int r]) rfl ?_
      refine lv_aload_n hx hb dL_law_296 rfl (lv_at hl 2 rfl) ?_
      refine lv_aload_n hx hb dL_law_297 rfl (lv_at hl 0 rfl) ?_
      refine lv_iload_n hx hb dL_law_298 rfl (lv_at hl 3 rfl) ?_
      refine lv_iconst (v := 1) hx hb dL_law_299 (by decide) ?_
      refine lv_iadd hx hb dL_law_300 ?_
      refine va_sld hx hb hXs hbl hbA hS hin1 dL_law_301 ?_
      refine W.call2 (As := [.int (xs (nI i + 1).toNatClampNeg)]) (b := 100) (rest := [.int r]) C1 (pc_X12_fault  J M RM (xs (nI i + 1).toNatClampNeg) _ e2) ml_L_32 dL_law_302 hK2 ha2 hX hP2 hP1 (fun i j a b a2 b2 h => hxx j i a2 b2 a b h.symm) hS hA2 rfl rg_100 lc_100 vq_12 (by decide) (by decide) hkc hks hl.1 rfl (Nat.le_of_ble_eq_true rfl) (fun H locs hP2 hP1 hS => ?_)
      refine W.eq (g2 := F0 m 305 ls [.int r, .int r]) rfl ?_
      refine lv_icmp_eq (tgt := 1143) hx hb dL_law_305 (by decide) (fun _ => ?_) (fun h => absurd rfl h)
      exact fin _ _ _ _ _ _ _ _ h6 hRel2 hP1 hP2 hS
    by_cases h_4 : op = 4
    · refine lv_tableIn (tgt := 310) (off := 277) hx hb dL_law_33 (by rw [h_4]; decide) (by rw [h_4]; decide) (by rw [h_4]; decide) (by decide) ?_
      obtain ⟨r, I', J', M', e1, e2, hRel2⟩ := E4 i I R J M (xs (nI i + 1).toNatClampNeg) (Nat.le_trans (by omega) hL) hRel
      refine lv_aload_n hx hb dL_law_310 rfl (lv_at hl 1 rfl) ?_
      refine lv_aload_n hx hb dL_law_311 rfl (lv_at hl 0 rfl) ?_
      refine lv_iload_n hx hb dL_law_312 rfl (lv_at hl 3 rfl) ?_
      refine lv_iconst (v := 1) hx hb dL_law_313 (by decide) ?_
      refine lv_iadd hx hb dL_law_314 ?_
      refine va_sld hx hb hXs hbl hbA hS hin1 dL_law_315 ?_
      refine W.call2 (As := [.int (xs (nI i + 1).toNatClampNeg)]) (b := 1) (rest := []) C1 (pc_X11_has FU I LX R (xs (nI i + 1).toNatClampNeg) _ e1) ml_L_33 dL_law_316 hK1 ha1 hX hP1 hP2 hxx hS hA1 rfl rg_1 lc_1 vq_11 (by decide) (by decide) hkc hks hl.1 rfl (Nat.le_of_ble_eq_true rfl) (fun H locs hP1 hP2 hS => ?_)
      refine W.eq (g2 := F0 m 319 ls [.int r]) rfl ?_
      refine lv_aload_n hx hb dL_law_319 rfl (lv_at hl 2 rfl) ?_
      refine lv_aload_n hx hb dL_law_320 rfl (lv_at hl 0 rfl) ?_
      refine lv_iload_n hx hb dL_law_321 rfl (lv_at hl 3 rfl) ?_
      refine lv_iconst (v := 1) hx hb dL_law_322 (by decide) ?_
      refine lv_iadd hx hb dL_law_323 ?_
      refine va_sld hx hb hXs hbl hbA hS hin1 dL_law_324 ?_
      refine W.call2 (As := [.int (xs (nI i + 1).toNatClampNeg)]) (b := 100) (rest := [.int r]) C1 (pc_X12_has FU J M RM (xs (nI i + 1).toNatClampNeg) _ e2) ml_L_36 dL_law_325 hK2 ha2 hX hP2 hP1 (fun i j a b a2 b2 h => hxx j i a2 b2 a b h.symm) hS hA2 rfl rg_100 lc_100 vq_12 (by decide) (by decide) hkc hks hl.1 rfl (Nat.le_of_ble_eq_true rfl) (fun H locs hP2 hP1 hS => ?_)
      refine W.eq (g2 := F0 m 328 ls [.int r, .int r]) rfl ?_
      refine lv_icmp_eq (tgt := 1143) hx hb dL_law_328 (by decide) (fun _ => ?_) (fun h => absurd rfl h)
      exact fin _ _ _ _ _ _ _ _ h6 hRel2 hP1 hP2 hS
    by_cases h_5 : op = 5
    · refine lv_tableIn (tgt := 333) (off := 300) hx hb dL_law_33 (by rw [h_5]; decide) (by rw [h_5]; decide) (by rw [h_5]; decide) (by decide) ?_
      obtain ⟨r, e1, e2, hRel2⟩ := E5 i I R J M (xs (nI i + 1).toNatClampNeg) (xs (nI i + 2).toNatClampNeg) (xs (nI i + 3).toNatClampNeg) (Nat.le_trans (by omega) hL) hRel
      refine lv_aload_n hx hb dL_law_333 rfl (lv_at hl 1 rfl) ?_
      refine lv_aload_n hx hb dL_law_334 rfl (lv_at hl 0 rfl) ?_
      refine lv_iload_n hx hb dL_law_335 rfl (lv_at hl 3 rfl) ?_
      refine lv_iconst (v := 1) hx hb dL_law_336 (by decide) ?_
      refine lv_iadd hx hb dL_law_337 ?_
      refine va_sld hx hb hXs hbl hbA hS hin1 dL_law_338 ?_
      refine lv_aload_n hx hb dL_law_339 rfl (lv_at hl 0 rfl) ?_
      refine lv_iload_n hx hb dL_law_340 rfl (lv_at hl 3 rfl) ?_
      refine lv_iconst (v := 2) hx hb dL_law_341 (by decide) ?_
      refine lv_iadd hx hb dL_law_342 ?_
      refine va_sld hx hb hXs hbl hbA hS hin2 dL_law_343 ?_
      refine lv_aload_n hx hb dL_law_344 rfl (lv_at hl 0 rfl) ?_
      refine lv_iload_n hx hb dL_law_345 rfl (lv_at hl 3 rfl) ?_
      refine lv_iconst (v := 3) hx hb dL_law_346 (by decide) ?_
      refine lv_iadd hx hb dL_law_347 ?_
      refine va_sld hx hb hXs hbl hbA hS hin3 dL_law_348 ?_
      refine W.call2 (As := [.int (xs (nI i + 1).toNatClampNeg), .int (xs (nI i + 2).toNatClampNeg), .int (xs (nI i + 3).toNatClampNeg)]) (b := 1) (rest := []) C1 (pc_X11_letter  I LX R (xs (nI i + 1).toNatClampNeg) (xs (nI i + 2).toNatClampNeg) (xs (nI i + 3).toNatClampNeg) _ e1) ml_L_37 dL_law_349 hK1 ha1 hX hP1 hP2 hxx hS hA1 rfl rg_1 lc_1 vq_11 (by decide) (by decide) hkc hks hl.1 rfl (Nat.le_of_ble_eq_true rfl) (fun H locs hP1 hP2 hS => ?_)
      refine W.eq (g2 := F0 m 352 ls [.int r]) rfl ?_
      refine lv_aload_n hx hb dL_law_352 rfl (lv_at hl 2 rfl) ?_
      refine lv_aload_n hx hb dL_law_353 rfl (lv_at hl 0 rfl) ?_
      refine lv_iload_n hx hb dL_law_354 rfl (lv_at hl 3 rfl) ?_
      refine lv_iconst (v := 1) hx hb dL_law_355 (by decide) ?_
      refine lv_iadd hx hb dL_law_356 ?_
      refine va_sld hx hb hXs hbl hbA hS hin1 dL_law_357 ?_
      refine lv_aload_n hx hb dL_law_358 rfl (lv_at hl 0 rfl) ?_
      refine lv_iload_n hx hb dL_law_359 rfl (lv_at hl 3 rfl) ?_
      refine lv_iconst (v := 2) hx hb dL_law_360 (by decide) ?_
      refine lv_iadd hx hb dL_law_361 ?_
      refine va_sld hx hb hXs hbl hbA hS hin2 dL_law_362 ?_
      refine lv_aload_n hx hb dL_law_363 rfl (lv_at hl 0 rfl) ?_
      refine lv_iload_n hx hb dL_law_364 rfl (lv_at hl 3 rfl) ?_
      refine lv_iconst (v := 3) hx hb dL_law_365 (by decide) ?_
      refine lv_iadd hx hb dL_law_366 ?_
      refine va_sld hx hb hXs hbl hbA hS hin3 dL_law_367 ?_
      refine W.call2 (As := [.int (xs (nI i + 1).toNatClampNeg), .int (xs (nI i + 2).toNatClampNeg), .int (xs (nI i + 3).toNatClampNeg)]) (b := 100) (rest := [.int r]) C1 (pc_X12_letter FU J M RM (xs (nI i + 1).toNatClampNeg) (xs (nI i + 2).toNatClampNeg) (xs (nI i + 3).toNatClampNeg) _ e2) ml_L_41 dL_law_368 hK2 ha2 hX hP2 hP1 (fun i j a b a2 b2 h => hxx j i a2 b2 a b h.symm) hS hA2 rfl rg_100 lc_100 vq_12 (by decide) (by decide) hkc hks hl.1 rfl (Nat.le_of_ble_eq_true rfl) (fun H locs hP2 hP1 hS => ?_)
      refine W.eq (g2 := F0 m 371 ls [.int r, .int r]) rfl ?_
      refine lv_icmp_eq (tgt := 1143) hx hb dL_law_371 (by decide) (fun _ => ?_) (fun h => absurd rfl h)
      exact fin _ _ _ _ _ _ _ _ h6 hRel2 hP1 hP2 hS
    by_cases h_6 : op = 6
    · refine lv_tableIn (tgt := 376) (off := 343) hx hb dL_law_33 (by rw [h_6]; decide) (by rw [h_6]; decide) (by rw [h_6]; decide) (by decide) ?_
      obtain ⟨r, e1, e2, hRel2⟩ := E6 i I R J M (xs (nI i + 1).toNatClampNeg) (xs (nI i + 2).toNatClampNeg) (Nat.le_trans (by omega) hL) hRel
      refine lv_aload_n hx hb dL_law_376 rfl (lv_at hl 1 rfl) ?_
      refine lv_aload_n hx hb dL_law_377 rfl (lv_at hl 0 rfl) ?_
      refine lv_iload_n hx hb dL_law_378 rfl (lv_at hl 3 rfl) ?_
      refine lv_iconst (v := 1) hx hb dL_law_379 (by decide) ?_
      refine lv_iadd hx hb dL_law_380 ?_
      refine va_sld hx hb hXs hbl hbA hS hin1 dL_law_381 ?_
      refine lv_aload_n hx hb dL_law_382 rfl (lv_at hl 0 rfl) ?_
      refine lv_iload_n hx hb dL_law_383 rfl (lv_at hl 3 rfl) ?_
      refine lv_iconst (v := 2) hx hb dL_law_384 (by decide) ?_
      refine lv_iadd hx hb dL_law_385 ?_
      refine va_sld hx hb hXs hbl hbA hS hin2 dL_law_386 ?_
      refine W.call2 (As := [.int (xs (nI i + 1).toNatClampNeg), .int (xs (nI i + 2).toNatClampNeg)]) (b := 1) (rest := []) C1 (pc_X11_hollow FU I LX R (xs (nI i + 1).toNatClampNeg) (xs (nI i + 2).toNatClampNeg) _ e1) ml_L_42 dL_law_387 hK1 ha1 hX hP1 hP2 hxx hS hA1 rfl rg_1 lc_1 vq_11 (by decide) (by decide) hkc hks hl.1 rfl (Nat.le_of_ble_eq_true rfl) (fun H locs hP1 hP2 hS => ?_)
      refine W.eq (g2 := F0 m 390 ls [.int r]) rfl ?_
      refine lv_aload_n hx hb dL_law_390 rfl (lv_at hl 2 rfl) ?_
      refine lv_aload_n hx hb dL_law_391 rfl (lv_at hl 0 rfl) ?_
      refine lv_iload_n hx hb dL_law_392 rfl (lv_at hl 3 rfl) ?_
      refine lv_iconst (v := 1) hx hb dL_law_393 (by decide) ?_
      refine lv_iadd hx hb dL_law_394 ?_
      refine va_sld hx hb hXs hbl hbA hS hin1 dL_law_395 ?_
      refine lv_aload_n hx hb dL_law_396 rfl (lv_at hl 0 rfl) ?_
      refine lv_iload_n hx hb dL_law_397 rfl (lv_at hl 3 rfl) ?_
      refine lv_iconst (v := 2) hx hb dL_law_398 (by decide) ?_
      refine lv_iadd hx hb dL_law_399 ?_
      refine va_sld hx hb hXs hbl hbA hS hin2 dL_law_400 ?_
      refine W.call2 (As := [.int (xs (nI i + 1).toNatClampNeg), .int (xs (nI i + 2).toNatClampNeg)]) (b := 100) (rest := [.int r]) C1 (pc_X12_hollow FU J M RM (xs (nI i + 1).toNatClampNeg) (xs (nI i + 2).toNatClampNeg) _ e2) ml_L_46 dL_law_401 hK2 ha2 hX hP2 hP1 (fun i j a b a2 b2 h => hxx j i a2 b2 a b h.symm) hS hA2 rfl rg_100 lc_100 vq_12 (by decide) (by decide) hkc hks hl.1 rfl (Nat.le_of_ble_eq_true rfl) (fun H locs hP2 hP1 hS => ?_)
      refine W.eq (g2 := F0 m 404 ls [.int r, .int r]) rfl ?_
      refine lv_icmp_eq (tgt := 1143) hx hb dL_law_404 (by decide) (fun _ => ?_) (fun h => absurd rfl h)
      exact fin _ _ _ _ _ _ _ _ h6 hRel2 hP1 hP2 hS
    by_cases h_7 : op = 7
    · refine lv_tableIn (tgt := 409) (off := 376) hx hb dL_law_33 (by rw [h_7]; decide) (by rw [h_7]; decide) (by rw [h_7]; decide) (by decide) ?_
      obtain ⟨r, I', J', M', e1, e2, hRel2⟩ := E7 i I R J M (xs (nI i + 1).toNatClampNeg) (xs (nI i + 2).toNatClampNeg) (Nat.le_trans (by omega) hL) hRel
      refine lv_aload_n hx hb dL_law_409 rfl (lv_at hl 1 rfl) ?_
      refine lv_aload_n hx hb dL_law_410 rfl (lv_at hl 0 rfl) ?_
      refine lv_iload_n hx hb dL_law_411 rfl (lv_at hl 3 rfl) ?_
      refine lv_iconst (v := 1) hx hb dL_law_412 (by decide) ?_
      refine lv_iadd hx hb dL_law_413 ?_
      refine va_sld hx hb hXs hbl hbA hS hin1 dL_law_414 ?_
      refine lv_aload_n hx hb dL_law_415 rfl (lv_at hl 0 rfl) ?_
      refine lv_iload_n hx hb dL_law_416 rfl (lv_at hl 3 rfl) ?_
      refine lv_iconst (v := 2) hx hb dL_law_417 (by decide) ?_
      refine lv_iadd hx hb dL_law_418 ?_
      refine va_sld hx hb hXs hbl hbA hS hin2 dL_law_419 ?_
      refine W.call2 (As := [.int (xs (nI i + 1).toNatClampNeg), .int (xs (nI i + 2).toNatClampNeg)]) (b := 1) (rest := []) C1 (pc_X11_lake FU I LX R (xs (nI i + 1).toNatClampNeg) (xs (nI i + 2).toNatClampNeg) _ e1) ml_L_47 dL_law_420 hK1 ha1 hX hP1 hP2 hxx hS hA1 rfl rg_1 lc_1 vq_11 (by decide) (by decide) hkc hks hl.1 rfl (Nat.le_of_ble_eq_true rfl) (fun H locs hP1 hP2 hS => ?_)
      refine W.eq (g2 := F0 m 423 ls [.int r]) rfl ?_
      refine lv_aload_n hx hb dL_law_423 rfl (lv_at hl 2 rfl) ?_
      refine lv_aload_n hx hb dL_law_424 rfl (lv_at hl 0 rfl) ?_
      refine lv_iload_n hx hb dL_law_425 rfl (lv_at hl 3 rfl) ?_
      refine lv_iconst (v := 1) hx hb dL_law_426 (by decide) ?_
      refine lv_iadd hx hb dL_law_427 ?_
      refine va_sld hx hb hXs hbl hbA hS hin1 dL_law_428 ?_
      refine lv_aload_n hx hb dL_law_429 rfl (lv_at hl 0 rfl) ?_
      refine lv_iload_n hx hb dL_law_430 rfl (lv_at hl 3 rfl) ?_
      refine lv_iconst (v := 2) hx hb dL_law_431 (by decide) ?_
      refine lv_iadd hx hb dL_law_432 ?_
      refine va_sld hx hb hXs hbl hbA hS hin2 dL_law_433 ?_
      refine W.call2 (As := [.int (xs (nI i + 1).toNatClampNeg), .int (xs (nI i + 2).toNatClampNeg)]) (b := 100) (rest := [.int r]) C1 (pc_X12_lake FU J M RM (xs (nI i + 1).toNatClampNeg) (xs (nI i + 2).toNatClampNeg) _ e2) ml_L_50 dL_law_434 hK2 ha2 hX hP2 hP1 (fun i j a b a2 b2 h => hxx j i a2 b2 a b h.symm) hS hA2 rfl rg_100 lc_100 vq_12 (by decide) (by decide) hkc hks hl.1 rfl (Nat.le_of_ble_eq_true rfl) (fun H locs hP2 hP1 hS => ?_)
      refine W.eq (g2 := F0 m 437 ls [.int r, .int r]) rfl ?_
      refine lv_icmp_eq (tgt := 1143) hx hb dL_law_437 (by decide) (fun _ => ?_) (fun h => absurd rfl h)
      exact fin _ _ _ _ _ _ _ _ h6 hRel2 hP1 hP2 hS
    by_cases h_8 : op = 8
    · refine lv_tableIn (tgt := 442) (off := 409) hx hb dL_law_33 (by rw [h_8]; decide) (by rw [h_8]; decide) (by rw [h_8]; decide) (by decide) ?_
      obtain ⟨r, I', J', M', e1, e2, hRel2⟩ := E8 i I R J M (xs (nI i + 1).toNatClampNeg) (xs (nI i + 2).toNatClampNeg) (Nat.le_trans (by omega) hL) hRel
      refine lv_aload_n hx hb dL_law_442 rfl (lv_at hl 1 rfl) ?_
      refine lv_aload_n hx hb dL_law_443 rfl (lv_at hl 0 rfl) ?_
      refine lv_iload_n hx hb dL_law_444 rfl (lv_at hl 3 rfl) ?_
      refine lv_iconst (v := 1) hx hb dL_law_445 (by decide) ?_
      refine lv_iadd hx hb dL_law_446 ?_
      refine va_sld hx hb hXs hbl hbA hS hin1 dL_law_447 ?_
      refine lv_aload_n hx hb dL_law_448 rfl (lv_at hl 0 rfl) ?_
      refine lv_iload_n hx hb dL_law_449 rfl (lv_at hl 3 rfl) ?_
      refine lv_iconst (v := 2) hx hb dL_law_450 (by decide) ?_
      refine lv_iadd hx hb dL_law_451 ?_
      refine va_sld hx hb hXs hbl hbA hS hin2 dL_law_452 ?_
      refine W.call2 (As := [.int (xs (nI i + 1).toNatClampNeg), .int (xs (nI i + 2).toNatClampNeg)]) (b := 1) (rest := []) C1 (pc_X11_owner FU I LX R (xs (nI i + 1).toNatClampNeg) (xs (nI i + 2).toNatClampNeg) _ e1) ml_L_51 dL_law_453 hK1 ha1 hX hP1 hP2 hxx hS hA1 rfl rg_1 lc_1 vq_11 (by decide) (by decide) hkc hks hl.1 rfl (Nat.le_of_ble_eq_true rfl) (fun H locs hP1 hP2 hS => ?_)
      refine W.eq (g2 := F0 m 456 ls [.int r]) rfl ?_
      refine lv_aload_n hx hb dL_law_456 rfl (lv_at hl 2 rfl) ?_
      refine lv_aload_n hx hb dL_law_457 rfl (lv_at hl 0 rfl) ?_
      refine lv_iload_n hx hb dL_law_458 rfl (lv_at hl 3 rfl) ?_
      refine lv_iconst (v := 1) hx hb dL_law_459 (by decide) ?_
      refine lv_iadd hx hb dL_law_460 ?_
      refine va_sld hx hb hXs hbl hbA hS hin1 dL_law_461 ?_
      refine lv_aload_n hx hb dL_law_462 rfl (lv_at hl 0 rfl) ?_
      refine lv_iload_n hx hb dL_law_463 rfl (lv_at hl 3 rfl) ?_
      refine lv_iconst (v := 2) hx hb dL_law_464 (by decide) ?_
      refine lv_iadd hx hb dL_law_465 ?_
      refine va_sld hx hb hXs hbl hbA hS hin2 dL_law_466 ?_
      refine W.call2 (As := [.int (xs (nI i + 1).toNatClampNeg), .int (xs (nI i + 2).toNatClampNeg)]) (b := 100) (rest := [.int r]) C1 (pc_X12_owner FU J M RM (xs (nI i + 1).toNatClampNeg) (xs (nI i + 2).toNatClampNeg) _ e2) ml_L_54 dL_law_467 hK2 ha2 hX hP2 hP1 (fun i j a b a2 b2 h => hxx j i a2 b2 a b h.symm) hS hA2 rfl rg_100 lc_100 vq_12 (by decide) (by decide) hkc hks hl.1 rfl (Nat.le_of_ble_eq_true rfl) (fun H locs hP2 hP1 hS => ?_)
      refine W.eq (g2 := F0 m 470 ls [.int r, .int r]) rfl ?_
      refine lv_icmp_eq (tgt := 1143) hx hb dL_law_470 (by decide) (fun _ => ?_) (fun h => absurd rfl h)
      exact fin _ _ _ _ _ _ _ _ h6 hRel2 hP1 hP2 hS
    by_cases h_9 : op = 9
    · refine lv_tableIn (tgt := 475) (off := 442) hx hb dL_law_33 (by rw [h_9]; decide) (by rw [h_9]; decide) (by rw [h_9]; decide) (by decide) ?_
      obtain ⟨r, e1, e2, hRel2⟩ := E9 i I R J M (xs (nI i + 1).toNatClampNeg) (xs (nI i + 2).toNatClampNeg) (Nat.le_trans (by omega) hL) hRel
      refine lv_aload_n hx hb dL_law_475 rfl (lv_at hl 1 rfl) ?_
      refine lv_aload_n hx hb dL_law_476 rfl (lv_at hl 0 rfl) ?_
      refine lv_iload_n hx hb dL_law_477 rfl (lv_at hl 3 rfl) ?_
      refine lv_iconst (v := 1) hx hb dL_law_478 (by decide) ?_
      refine lv_iadd hx hb dL_law_479 ?_
      refine va_sld hx hb hXs hbl hbA hS hin1 dL_law_480 ?_
      refine lv_aload_n hx hb dL_law_481 rfl (lv_at hl 0 rfl) ?_
      refine lv_iload_n hx hb dL_law_482 rfl (lv_at hl 3 rfl) ?_
      refine lv_iconst (v := 2) hx hb dL_law_483 (by decide) ?_
      refine lv_iadd hx hb dL_law_484 ?_
      refine va_sld hx hb hXs hbl hbA hS hin2 dL_law_485 ?_
      refine W.call2 (As := [.int (xs (nI i + 1).toNatClampNeg), .int (xs (nI i + 2).toNatClampNeg)]) (b := 1) (rest := []) C1 (pc_X11_owes  I LX R (xs (nI i + 1).toNatClampNeg) (xs (nI i + 2).toNatClampNeg) _ e1) ml_L_55 dL_law_486 hK1 ha1 hX hP1 hP2 hxx hS hA1 rfl rg_1 lc_1 vq_11 (by decide) (by decide) hkc hks hl.1 rfl (Nat.le_of_ble_eq_true rfl) (fun H locs hP1 hP2 hS => ?_)
      refine W.eq (g2 := F0 m 489 ls [.int r]) rfl ?_
      refine lv_aload_n hx hb dL_law_489 rfl (lv_at hl 2 rfl) ?_
      refine lv_aload_n hx hb dL_law_490 rfl (lv_at hl 0 rfl) ?_
      refine lv_iload_n hx hb dL_law_491 rfl (lv_at hl 3 rfl) ?_
      refine lv_iconst (v := 1) hx hb dL_law_492 (by decide) ?_
      refine lv_iadd hx hb dL_law_493 ?_
      refine va_sld hx hb hXs hbl hbA hS hin1 dL_law_494 ?_
      refine lv_aload_n hx hb dL_law_495 rfl (lv_at hl 0 rfl) ?_
      refine lv_iload_n hx hb dL_law_496 rfl (lv_at hl 3 rfl) ?_
      refine lv_iconst (v := 2) hx hb dL_law_497 (by decide) ?_
      refine lv_iadd hx hb dL_law_498 ?_
      refine va_sld hx hb hXs hbl hbA hS hin2 dL_law_499 ?_
      refine W.call2 (As := [.int (xs (nI i + 1).toNatClampNeg), .int (xs (nI i + 2).toNatClampNeg)]) (b := 100) (rest := [.int r]) C1 (pc_X12_owes  J M RM (xs (nI i + 1).toNatClampNeg) (xs (nI i + 2).toNatClampNeg) _ e2) ml_L_58 dL_law_500 hK2 ha2 hX hP2 hP1 (fun i j a b a2 b2 h => hxx j i a2 b2 a b h.symm) hS hA2 rfl rg_100 lc_100 vq_12 (by decide) (by decide) hkc hks hl.1 rfl (Nat.le_of_ble_eq_true rfl) (fun H locs hP2 hP1 hS => ?_)
      refine W.eq (g2 := F0 m 503 ls [.int r, .int r]) rfl ?_
      refine lv_icmp_eq (tgt := 1143) hx hb dL_law_503 (by decide) (fun _ => ?_) (fun h => absurd rfl h)
      exact fin _ _ _ _ _ _ _ _ h6 hRel2 hP1 hP2 hS
    by_cases h_10 : op = 10
    · refine lv_tableIn (tgt := 508) (off := 475) hx hb dL_law_33 (by rw [h_10]; decide) (by rw [h_10]; decide) (by rw [h_10]; decide) (by decide) ?_
      obtain ⟨r, I', R', J', M', e1, e2, hRel2⟩ := E10 i I R J M (xs (nI i + 1).toNatClampNeg) (xs (nI i + 2).toNatClampNeg) (Nat.le_trans (by omega) hL) hRel
      refine lv_aload_n hx hb dL_law_508 rfl (lv_at hl 1 rfl) ?_
      refine lv_aload_n hx hb dL_law_509 rfl (lv_at hl 0 rfl) ?_
      refine lv_iload_n hx hb dL_law_510 rfl (lv_at hl 3 rfl) ?_
      refine lv_iconst (v := 1) hx hb dL_law_511 (by decide) ?_
      refine lv_iadd hx hb dL_law_512 ?_
      refine va_sld hx hb hXs hbl hbA hS hin1 dL_law_513 ?_
      refine lv_aload_n hx hb dL_law_514 rfl (lv_at hl 0 rfl) ?_
      refine lv_iload_n hx hb dL_law_515 rfl (lv_at hl 3 rfl) ?_
      refine lv_iconst (v := 2) hx hb dL_law_516 (by decide) ?_
      refine lv_iadd hx hb dL_law_517 ?_
      refine va_sld hx hb hXs hbl hbA hS hin2 dL_law_518 ?_
      refine W.call2 (As := [.int (xs (nI i + 1).toNatClampNeg), .int (xs (nI i + 2).toNatClampNeg)]) (b := 1) (rest := []) C1 (pc_X11_later FU I LX R (xs (nI i + 1).toNatClampNeg) (xs (nI i + 2).toNatClampNeg) _ e1) ml_L_59 dL_law_519 hK1 ha1 hX hP1 hP2 hxx hS hA1 rfl rg_1 lc_1 vq_11 (by decide) (by decide) hkc hks hl.1 rfl (Nat.le_of_ble_eq_true rfl) (fun H locs hP1 hP2 hS => ?_)
      refine W.eq (g2 := F0 m 522 ls [.int r]) rfl ?_
      refine lv_aload_n hx hb dL_law_522 rfl (lv_at hl 2 rfl) ?_
      refine lv_aload_n hx hb dL_law_523 rfl (lv_at hl 0 rfl) ?_
      refine lv_iload_n hx hb dL_law_524 rfl (lv_at hl 3 rfl) ?_
      refine lv_iconst (v := 1) hx hb dL_law_525 (by decide) ?_
      refine lv_iadd hx hb dL_law_526 ?_
      refine va_sld hx hb hXs hbl hbA hS hin1 dL_law_527 ?_
      refine lv_aload_n hx hb dL_law_528 rfl (lv_at hl 0 rfl) ?_
      refine lv_iload_n hx hb dL_law_529 rfl (lv_at hl 3 rfl) ?_
      refine lv_iconst (v := 2) hx hb dL_law_530 (by decide) ?_
      refine lv_iadd hx hb dL_law_531 ?_
      refine va_sld hx hb hXs hbl hbA hS hin2 dL_law_532 ?_
      refine W.call2 (As := [.int (xs (nI i + 1).toNatClampNeg), .int (xs (nI i + 2).toNatClampNeg)]) (b := 100) (rest := [.int r]) C1 (pc_X12_later FU J M RM (xs (nI i + 1).toNatClampNeg) (xs (nI i + 2).toNatClampNeg) _ e2) ml_L_62 dL_law_533 hK2 ha2 hX hP2 hP1 (fun i j a b a2 b2 h => hxx j i a2 b2 a b h.symm) hS hA2 rfl rg_100 lc_100 vq_12 (by decide) (by decide) hkc hks hl.1 rfl (Nat.le_of_ble_eq_true rfl) (fun H locs hP2 hP1 hS => ?_)
      refine W.eq (g2 := F0 m 536 ls [.int r, .int r]) rfl ?_
      refine lv_icmp_eq (tgt := 1143) hx hb dL_law_536 (by decide) (fun _ => ?_) (fun h => absurd rfl h)
      exact fin _ _ _ _ _ _ _ _ h6 hRel2 hP1 hP2 hS
    by_cases h_11 : op = 11
    · refine lv_tableIn (tgt := 541) (off := 508) hx hb dL_law_33 (by rw [h_11]; decide) (by rw [h_11]; decide) (by rw [h_11]; decide) (by decide) ?_
      obtain ⟨r, I', R', J', M', e1, e2, hRel2⟩ := E11 i I R J M (xs (nI i + 1).toNatClampNeg) (Nat.le_trans (by omega) hL) hRel
      refine lv_aload_n hx hb dL_law_541 rfl (lv_at hl 1 rfl) ?_
      refine lv_aload_n hx hb dL_law_542 rfl (lv_at hl 0 rfl) ?_
      refine lv_iload_n hx hb dL_law_543 rfl (lv_at hl 3 rfl) ?_
      refine lv_iconst (v := 1) hx hb dL_law_544 (by decide) ?_
      refine lv_iadd hx hb dL_law_545 ?_
      refine va_sld hx hb hXs hbl hbA hS hin1 dL_law_546 ?_
      refine W.call2 (As := [.int (xs (nI i + 1).toNatClampNeg)]) (b := 1) (rest := []) C1 (pc_X11_broke FU I LX R (xs (nI i + 1).toNatClampNeg) _ e1) ml_L_63 dL_law_547 hK1 ha1 hX hP1 hP2 hxx hS hA1 rfl rg_1 lc_1 vq_11 (by decide) (by decide) hkc hks hl.1 rfl (Nat.le_of_ble_eq_true rfl) (fun H locs hP1 hP2 hS => ?_)
      refine W.eq (g2 := F0 m 550 ls [.int r]) rfl ?_
      refine lv_aload_n hx hb dL_law_550 rfl (lv_at hl 2 rfl) ?_
      refine lv_aload_n hx hb dL_law_551 rfl (lv_at hl 0 rfl) ?_
      refine lv_iload_n hx hb dL_law_552 rfl (lv_at hl 3 rfl) ?_
      refine lv_iconst (v := 1) hx hb dL_law_553 (by decide) ?_
      refine lv_iadd hx hb dL_law_554 ?_
      refine va_sld hx hb hXs hbl hbA hS hin1 dL_law_555 ?_
      refine W.call2 (As := [.int (xs (nI i + 1).toNatClampNeg)]) (b := 100) (rest := [.int r]) C1 (pc_X12_broke FU J M RM (xs (nI i + 1).toNatClampNeg) _ e2) ml_L_66 dL_law_556 hK2 ha2 hX hP2 hP1 (fun i j a b a2 b2 h => hxx j i a2 b2 a b h.symm) hS hA2 rfl rg_100 lc_100 vq_12 (by decide) (by decide) hkc hks hl.1 rfl (Nat.le_of_ble_eq_true rfl) (fun H locs hP2 hP1 hS => ?_)
      refine W.eq (g2 := F0 m 559 ls [.int r, .int r]) rfl ?_
      refine lv_icmp_eq (tgt := 1143) hx hb dL_law_559 (by decide) (fun _ => ?_) (fun h => absurd rfl h)
      exact fin _ _ _ _ _ _ _ _ h6 hRel2 hP1 hP2 hS
    by_cases h_12 : op = 12
    · refine lv_tableIn (tgt := 564) (off := 531) hx hb dL_law_33 (by rw [h_12]; decide) (by rw [h_12]; decide) (by rw [h_12]; decide) (by decide) ?_
      obtain ⟨r, I', R', J', M', e1, e2, hRel2⟩ := E12 i I R J M (xs (nI i + 1).toNatClampNeg) (xs (nI i + 2).toNatClampNeg) (Nat.le_trans (by omega) hL) hRel
      refine lv_aload_n hx hb dL_law_564 rfl (lv_at hl 1 rfl) ?_
      refine lv_aload_n hx hb dL_law_565 rfl (lv_at hl 0 rfl) ?_
      refine lv_iload_n hx hb dL_law_566 rfl (lv_at hl 3 rfl) ?_
      refine lv_iconst (v := 1) hx hb dL_law_567 (by decide) ?_
      refine lv_iadd hx hb dL_law_568 ?_
      refine va_sld hx hb hXs hbl hbA hS hin1 dL_law_569 ?_
      refine lv_aload_n hx hb dL_law_570 rfl (lv_at hl 0 rfl) ?_
      refine lv_iload_n hx hb dL_law_571 rfl (lv_at hl 3 rfl) ?_
      refine lv_iconst (v := 2) hx hb dL_law_572 (by decide) ?_
      refine lv_iadd hx hb dL_law_573 ?_
      refine va_sld hx hb hXs hbl hbA hS hin2 dL_law_574 ?_
      refine W.call2 (As := [.int (xs (nI i + 1).toNatClampNeg), .int (xs (nI i + 2).toNatClampNeg)]) (b := 1) (rest := []) C1 (pc_X11_spend FU I LX R (xs (nI i + 1).toNatClampNeg) (xs (nI i + 2).toNatClampNeg) _ e1) ml_L_67 dL_law_575 hK1 ha1 hX hP1 hP2 hxx hS hA1 rfl rg_1 lc_1 vq_11 (by decide) (by decide) hkc hks hl.1 rfl (Nat.le_of_ble_eq_true rfl) (fun H locs hP1 hP2 hS => ?_)
      refine W.eq (g2 := F0 m 578 ls [.int r]) rfl ?_
      refine lv_aload_n hx hb dL_law_578 rfl (lv_at hl 2 rfl) ?_
      refine lv_aload_n hx hb dL_law_579 rfl (lv_at hl 0 rfl) ?_
      refine lv_iload_n hx hb dL_law_580 rfl (lv_at hl 3 rfl) ?_
      refine lv_iconst (v := 1) hx hb dL_law_581 (by decide) ?_
      refine lv_iadd hx hb dL_law_582 ?_
      refine va_sld hx hb hXs hbl hbA hS hin1 dL_law_583 ?_
      refine lv_aload_n hx hb dL_law_584 rfl (lv_at hl 0 rfl) ?_
      refine lv_iload_n hx hb dL_law_585 rfl (lv_at hl 3 rfl) ?_
      refine lv_iconst (v := 2) hx hb dL_law_586 (by decide) ?_
      refine lv_iadd hx hb dL_law_587 ?_
      refine va_sld hx hb hXs hbl hbA hS hin2 dL_law_588 ?_
      refine W.call2 (As := [.int (xs (nI i + 1).toNatClampNeg), .int (xs (nI i + 2).toNatClampNeg)]) (b := 100) (rest := [.int r]) C1 (pc_X12_spend FU J M RM (xs (nI i + 1).toNatClampNeg) (xs (nI i + 2).toNatClampNeg) _ e2) ml_L_70 dL_law_589 hK2 ha2 hX hP2 hP1 (fun i j a b a2 b2 h => hxx j i a2 b2 a b h.symm) hS hA2 rfl rg_100 lc_100 vq_12 (by decide) (by decide) hkc hks hl.1 rfl (Nat.le_of_ble_eq_true rfl) (fun H locs hP2 hP1 hS => ?_)
      refine W.eq (g2 := F0 m 592 ls [.int r, .int r]) rfl ?_
      refine lv_icmp_eq (tgt := 1143) hx hb dL_law_592 (by decide) (fun _ => ?_) (fun h => absurd rfl h)
      exact fin _ _ _ _ _ _ _ _ h6 hRel2 hP1 hP2 hS
    by_cases h_13 : op = 13
    · refine lv_tableIn (tgt := 597) (off := 564) hx hb dL_law_33 (by rw [h_13]; decide) (by rw [h_13]; decide) (by rw [h_13]; decide) (by decide) ?_
      obtain ⟨r, I', J', M', e1, e2, hRel2⟩ := E13 i I R J M (xs (nI i + 1).toNatClampNeg) (xs (nI i + 2).toNatClampNeg) (xs (nI i + 3).toNatClampNeg) (Nat.le_trans (by omega) hL) hRel
      refine lv_aload_n hx hb dL_law_597 rfl (lv_at hl 1 rfl) ?_
      refine lv_aload_n hx hb dL_law_598 rfl (lv_at hl 0 rfl) ?_
      refine lv_iload_n hx hb dL_law_599 rfl (lv_at hl 3 rfl) ?_
      refine lv_iconst (v := 1) hx hb dL_law_600 (by decide) ?_
      refine lv_iadd hx hb dL_law_601 ?_
      refine va_sld hx hb hXs hbl hbA hS hin1 dL_law_602 ?_
      refine lv_aload_n hx hb dL_law_603 rfl (lv_at hl 0 rfl) ?_
      refine lv_iload_n hx hb dL_law_604 rfl (lv_at hl 3 rfl) ?_
      refine lv_iconst (v := 2) hx hb dL_law_605 (by decide) ?_
      refine lv_iadd hx hb dL_law_606 ?_
      refine va_sld hx hb hXs hbl hbA hS hin2 dL_law_607 ?_
      refine lv_aload_n hx hb dL_law_608 rfl (lv_at hl 0 rfl) ?_
      refine lv_iload_n hx hb dL_law_609 rfl (lv_at hl 3 rfl) ?_
      refine lv_iconst (v := 3) hx hb dL_law_610 (by decide) ?_
      refine lv_iadd hx hb dL_law_611 ?_
      refine va_sld hx hb hXs hbl hbA hS hin3 dL_law_612 ?_
      refine W.call2 (As := [.int (xs (nI i + 1).toNatClampNeg), .int (xs (nI i + 2).toNatClampNeg), .int (xs (nI i + 3).toNatClampNeg)]) (b := 1) (rest := []) C1 (pc_X11_price FU I LX R (xs (nI i + 1).toNatClampNeg) (xs (nI i + 2).toNatClampNeg) (xs (nI i + 3).toNatClampNeg) _ e1) ml_L_71 dL_law_613 hK1 ha1 hX hP1 hP2 hxx hS hA1 rfl rg_1 lc_1 vq_11 (by decide) (by decide) hkc hks hl.1 rfl (Nat.le_of_ble_eq_true rfl) (fun H locs hP1 hP2 hS => ?_)
      refine W.eq (g2 := F0 m 616 ls [.int r]) rfl ?_
      refine lv_aload_n hx hb dL_law_616 rfl (lv_at hl 2 rfl) ?_
      refine lv_aload_n hx hb dL_law_617 rfl (lv_at hl 0 rfl) ?_
      refine lv_iload_n hx hb dL_law_618 rfl (lv_at hl 3 rfl) ?_
      refine lv_iconst (v := 1) hx hb dL_law_619 (by decide) ?_
      refine lv_iadd hx hb dL_law_620 ?_
      refine va_sld hx hb hXs hbl hbA hS hin1 dL_law_621 ?_
      refine lv_aload_n hx hb dL_law_622 rfl (lv_at hl 0 rfl) ?_
      refine lv_iload_n hx hb dL_law_623 rfl (lv_at hl 3 rfl) ?_
      refine lv_iconst (v := 2) hx hb dL_law_624 (by decide) ?_
      refine lv_iadd hx hb dL_law_625 ?_
      refine va_sld hx hb hXs hbl hbA hS hin2 dL_law_626 ?_
      refine lv_aload_n hx hb dL_law_627 rfl (lv_at hl 0 rfl) ?_
      refine lv_iload_n hx hb dL_law_628 rfl (lv_at hl 3 rfl) ?_
      refine lv_iconst (v := 3) hx hb dL_law_629 (by decide) ?_
      refine lv_iadd hx hb dL_law_630 ?_
      refine va_sld hx hb hXs hbl hbA hS hin3 dL_law_631 ?_
      refine W.call2 (As := [.int (xs (nI i + 1).toNatClampNeg), .int (xs (nI i + 2).toNatClampNeg), .int (xs (nI i + 3).toNatClampNeg)]) (b := 100) (rest := [.int r]) C1 (pc_X12_price FU J M RM (xs (nI i + 1).toNatClampNeg) (xs (nI i + 2).toNatClampNeg) (xs (nI i + 3).toNatClampNeg) _ e2) ml_L_74 dL_law_632 hK2 ha2 hX hP2 hP1 (fun i j a b a2 b2 h => hxx j i a2 b2 a b h.symm) hS hA2 rfl rg_100 lc_100 vq_12 (by decide) (by decide) hkc hks hl.1 rfl (Nat.le_of_ble_eq_true rfl) (fun H locs hP2 hP1 hS => ?_)
      refine W.eq (g2 := F0 m 635 ls [.int r, .int r]) rfl ?_
      refine lv_icmp_eq (tgt := 1143) hx hb dL_law_635 (by decide) (fun _ => ?_) (fun h => absurd rfl h)
      exact fin _ _ _ _ _ _ _ _ h6 hRel2 hP1 hP2 hS
    by_cases h_14 : op = 14
    · refine lv_tableIn (tgt := 640) (off := 607) hx hb dL_law_33 (by rw [h_14]; decide) (by rw [h_14]; decide) (by rw [h_14]; decide) (by decide) ?_
      obtain ⟨r, I', R', J', M', e1, e2, hRel2⟩ := E14 i I R J M  (Nat.le_trans (by omega) hL) hRel
      refine lv_aload_n hx hb dL_law_640 rfl (lv_at hl 1 rfl) ?_
      refine W.call2 (As := []) (b := 1) (rest := []) C1 (pc_X11_moves FU I LX R  _ e1) ml_L_75 dL_law_641 hK1 ha1 hX hP1 hP2 hxx hS hA1 rfl rg_1 lc_1 vq_11 (by decide) (by decide) hkc hks hl.1 rfl (Nat.le_of_ble_eq_true rfl) (fun H locs hP1 hP2 hS => ?_)
      refine W.eq (g2 := F0 m 644 ls [.int r]) rfl ?_
      refine lv_aload_n hx hb dL_law_644 rfl (lv_at hl 2 rfl) ?_
      refine W.call2 (As := []) (b := 100) (rest := [.int r]) C1 (pc_X12_moves FU J M RM  _ e2) ml_L_78 dL_law_645 hK2 ha2 hX hP2 hP1 (fun i j a b a2 b2 h => hxx j i a2 b2 a b h.symm) hS hA2 rfl rg_100 lc_100 vq_12 (by decide) (by decide) hkc hks hl.1 rfl (Nat.le_of_ble_eq_true rfl) (fun H locs hP2 hP1 hS => ?_)
      refine W.eq (g2 := F0 m 648 ls [.int r, .int r]) rfl ?_
      refine lv_icmp_eq (tgt := 1143) hx hb dL_law_648 (by decide) (fun _ => ?_) (fun h => absurd rfl h)
      exact fin _ _ _ _ _ _ _ _ h6 hRel2 hP1 hP2 hS
    by_cases h_15 : op = 15
    · refine lv_tableIn (tgt := 653) (off := 620) hx hb dL_law_33 (by rw [h_15]; decide) (by rw [h_15]; decide) (by rw [h_15]; decide) (by decide) ?_
      obtain ⟨r, I', J', e1, e2, hRel2⟩ := E15 i I R J M (xs (nI i + 1).toNatClampNeg) (xs (nI i + 2).toNatClampNeg) (Nat.le_trans (by omega) hL) hRel
      refine lv_aload_n hx hb dL_law_653 rfl (lv_at hl 1 rfl) ?_
      refine lv_aload_n hx hb dL_law_654 rfl (lv_at hl 0 rfl) ?_
      refine lv_iload_n hx hb dL_law_655 rfl (lv_at hl 3 rfl) ?_
      refine lv_iconst (v := 1) hx hb dL_law_656 (by decide) ?_
      refine lv_iadd hx hb dL_law_657 ?_
      refine va_sld hx hb hXs hbl hbA hS hin1 dL_law_658 ?_
      refine lv_aload_n hx hb dL_law_659 rfl (lv_at hl 0 rfl) ?_
      refine lv_iload_n hx hb dL_law_660 rfl (lv_at hl 3 rfl) ?_
      refine lv_iconst (v := 2) hx hb dL_law_661 (by decide) ?_
      refine lv_iadd hx hb dL_law_662 ?_
      refine va_sld hx hb hXs hbl hbA hS hin2 dL_law_663 ?_
      refine W.call2 (As := [.int (xs (nI i + 1).toNatClampNeg), .int (xs (nI i + 2).toNatClampNeg)]) (b := 1) (rest := []) C1 (pc_X11_pack FU I LX R (xs (nI i + 1).toNatClampNeg) (xs (nI i + 2).toNatClampNeg) _ e1) ml_L_79 dL_law_664 hK1 ha1 hX hP1 hP2 hxx hS hA1 rfl rg_1 lc_1 vq_11 (by decide) (by decide) hkc hks hl.1 rfl (Nat.le_of_ble_eq_true rfl) (fun H locs hP1 hP2 hS => ?_)
      refine W.eq (g2 := F0 m 667 ls [.int r]) rfl ?_
      refine lv_aload_n hx hb dL_law_667 rfl (lv_at hl 2 rfl) ?_
      refine lv_aload_n hx hb dL_law_668 rfl (lv_at hl 0 rfl) ?_
      refine lv_iload_n hx hb dL_law_669 rfl (lv_at hl 3 rfl) ?_
      refine lv_iconst (v := 1) hx hb dL_law_670 (by decide) ?_
      refine lv_iadd hx hb dL_law_671 ?_
      refine va_sld hx hb hXs hbl hbA hS hin1 dL_law_672 ?_
      refine lv_aload_n hx hb dL_law_673 rfl (lv_at hl 0 rfl) ?_
      refine lv_iload_n hx hb dL_law_674 rfl (lv_at hl 3 rfl) ?_
      refine lv_iconst (v := 2) hx hb dL_law_675 (by decide) ?_
      refine lv_iadd hx hb dL_law_676 ?_
      refine va_sld hx hb hXs hbl hbA hS hin2 dL_law_677 ?_
      refine W.call2 (As := [.int (xs (nI i + 1).toNatClampNeg), .int (xs (nI i + 2).toNatClampNeg)]) (b := 100) (rest := [.int r]) C1 (pc_X12_pack FU J M RM (xs (nI i + 1).toNatClampNeg) (xs (nI i + 2).toNatClampNeg) _ e2) ml_L_82 dL_law_678 hK2 ha2 hX hP2 hP1 (fun i j a b a2 b2 h => hxx j i a2 b2 a b h.symm) hS hA2 rfl rg_100 lc_100 vq_12 (by decide) (by decide) hkc hks hl.1 rfl (Nat.le_of_ble_eq_true rfl) (fun H locs hP2 hP1 hS => ?_)
      refine W.eq (g2 := F0 m 681 ls [.int r, .int r]) rfl ?_
      refine lv_icmp_eq (tgt := 1143) hx hb dL_law_681 (by decide) (fun _ => ?_) (fun h => absurd rfl h)
      exact fin _ _ _ _ _ _ _ _ h6 hRel2 hP1 hP2 hS
    by_cases h_16 : op = 16
    · refine lv_tableIn (tgt := 686) (off := 653) hx hb dL_law_33 (by rw [h_16]; decide) (by rw [h_16]; decide) (by rw [h_16]; decide) (by decide) ?_
      obtain ⟨r, e1, e2, hRel2⟩ := E16 i I R J M (xs (nI i + 1).toNatClampNeg) (Nat.le_trans (by omega) hL) hRel
      refine lv_aload_n hx hb dL_law_686 rfl (lv_at hl 1 rfl) ?_
      refine lv_aload_n hx hb dL_law_687 rfl (lv_at hl 0 rfl) ?_
      refine lv_iload_n hx hb dL_law_688 rfl (lv_at hl 3 rfl) ?_
      refine lv_iconst (v := 1) hx hb dL_law_689 (by decide) ?_
      refine lv_iadd hx hb dL_law_690 ?_
      refine va_sld hx hb hXs hbl hbA hS hin1 dL_law_691 ?_
      refine W.call2 (As := [.int (xs (nI i + 1).toNatClampNeg)]) (b := 1) (rest := []) C1 (pc_X11_net FU I LX R (xs (nI i + 1).toNatClampNeg) _ e1) ml_L_83 dL_law_692 hK1 ha1 hX hP1 hP2 hxx hS hA1 rfl rg_1 lc_1 vq_11 (by decide) (by decide) hkc hks hl.1 rfl (Nat.le_of_ble_eq_true rfl) (fun H locs hP1 hP2 hS => ?_)
      refine W.eq (g2 := F0 m 695 ls [.int r]) rfl ?_
      refine lv_aload_n hx hb dL_law_695 rfl (lv_at hl 2 rfl) ?_
      refine lv_aload_n hx hb dL_law_696 rfl (lv_at hl 0 rfl) ?_
      refine lv_iload_n hx hb dL_law_697 rfl (lv_at hl 3 rfl) ?_
      refine lv_iconst (v := 1) hx hb dL_law_698 (by decide) ?_
      refine lv_iadd hx hb dL_law_699 ?_
      refine va_sld hx hb hXs hbl hbA hS hin1 dL_law_700 ?_
      refine W.call2 (As := [.int (xs (nI i + 1).toNatClampNeg)]) (b := 100) (rest := [.int r]) C1 (pc_X12_net FU J M RM (xs (nI i + 1).toNatClampNeg) _ e2) ml_L_86 dL_law_701 hK2 ha2 hX hP2 hP1 (fun i j a b a2 b2 h => hxx j i a2 b2 a b h.symm) hS hA2 rfl rg_100 lc_100 vq_12 (by decide) (by decide) hkc hks hl.1 rfl (Nat.le_of_ble_eq_true rfl) (fun H locs hP2 hP1 hS => ?_)
      refine W.eq (g2 := F0 m 704 ls [.int r, .int r]) rfl ?_
      refine lv_icmp_eq (tgt := 1143) hx hb dL_law_704 (by decide) (fun _ => ?_) (fun h => absurd rfl h)
      exact fin _ _ _ _ _ _ _ _ h6 hRel2 hP1 hP2 hS
    by_cases h_17 : op = 17
    · refine lv_tableIn (tgt := 709) (off := 676) hx hb dL_law_33 (by rw [h_17]; decide) (by rw [h_17]; decide) (by rw [h_17]; decide) (by decide) ?_
      obtain ⟨r, I', J', e1, e2, hRel2⟩ := E17 i I R J M  (Nat.le_trans (by omega) hL) hRel
      refine lv_aload_n hx hb dL_law_709 rfl (lv_at hl 1 rfl) ?_
      refine W.call2 (As := []) (b := 1) (rest := []) C1 (pc_X11_settling FU I LX R  _ e1) ml_L_87 dL_law_710 hK1 ha1 hX hP1 hP2 hxx hS hA1 rfl rg_1 lc_1 vq_11 (by decide) (by decide) hkc hks hl.1 rfl (Nat.le_of_ble_eq_true rfl) (fun H locs hP1 hP2 hS => ?_)
      refine W.eq (g2 := F0 m 713 ls [.int r]) rfl ?_
      refine lv_aload_n hx hb dL_law_713 rfl (lv_at hl 2 rfl) ?_
      refine W.call2 (As := []) (b := 100) (rest := [.int r]) C1 (pc_X12_settling FU J M RM  _ e2) ml_L_90 dL_law_714 hK2 ha2 hX hP2 hP1 (fun i j a b a2 b2 h => hxx j i a2 b2 a b h.symm) hS hA2 rfl rg_100 lc_100 vq_12 (by decide) (by decide) hkc hks hl.1 rfl (Nat.le_of_ble_eq_true rfl) (fun H locs hP2 hP1 hS => ?_)
      refine W.eq (g2 := F0 m 717 ls [.int r, .int r]) rfl ?_
      refine lv_icmp_eq (tgt := 1143) hx hb dL_law_717 (by decide) (fun _ => ?_) (fun h => absurd rfl h)
      exact fin _ _ _ _ _ _ _ _ h6 hRel2 hP1 hP2 hS
    by_cases h_18 : op = 18
    · refine lv_tableIn (tgt := 722) (off := 689) hx hb dL_law_33 (by rw [h_18]; decide) (by rw [h_18]; decide) (by rw [h_18]; decide) (by decide) ?_
      obtain ⟨r, I', J', M', e1, e2, hRel2⟩ := E18 i I R J M (xs (nI i + 1).toNatClampNeg) (xs (nI i + 2).toNatClampNeg) (xs (nI i + 3).toNatClampNeg) (Nat.le_trans (by omega) hL) hRel
      refine lv_aload_n hx hb dL_law_722 rfl (lv_at hl 1 rfl) ?_
      refine lv_aload_n hx hb dL_law_723 rfl (lv_at hl 0 rfl) ?_
      refine lv_iload_n hx hb dL_law_724 rfl (lv_at hl 3 rfl) ?_
      refine lv_iconst (v := 1) hx hb dL_law_725 (by decide) ?_
      refine lv_iadd hx hb dL_law_726 ?_
      refine va_sld hx hb hXs hbl hbA hS hin1 dL_law_727 ?_
      refine lv_aload_n hx hb dL_law_728 rfl (lv_at hl 0 rfl) ?_
      refine lv_iload_n hx hb dL_law_729 rfl (lv_at hl 3 rfl) ?_
      refine lv_iconst (v := 2) hx hb dL_law_730 (by decide) ?_
      refine lv_iadd hx hb dL_law_731 ?_
      refine va_sld hx hb hXs hbl hbA hS hin2 dL_law_732 ?_
      refine lv_aload_n hx hb dL_law_733 rfl (lv_at hl 0 rfl) ?_
      refine lv_iload_n hx hb dL_law_734 rfl (lv_at hl 3 rfl) ?_
      refine lv_iconst (v := 3) hx hb dL_law_735 (by decide) ?_
      refine lv_iadd hx hb dL_law_736 ?_
      refine va_sld hx hb hXs hbl hbA hS hin3 dL_law_737 ?_
      refine W.call2 (As := [.int (xs (nI i + 1).toNatClampNeg), .int (xs (nI i + 2).toNatClampNeg), .int (xs (nI i + 3).toNatClampNeg)]) (b := 1) (rest := []) C1 (pc_X11_share FU I LX R (xs (nI i + 1).toNatClampNeg) (xs (nI i + 2).toNatClampNeg) (xs (nI i + 3).toNatClampNeg) _ e1) ml_L_91 dL_law_738 hK1 ha1 hX hP1 hP2 hxx hS hA1 rfl rg_1 lc_1 vq_11 (by decide) (by decide) hkc hks hl.1 rfl (Nat.le_of_ble_eq_true rfl) (fun H locs hP1 hP2 hS => ?_)
      refine W.eq (g2 := F0 m 741 ls [.int r]) rfl ?_
      refine lv_aload_n hx hb dL_law_741 rfl (lv_at hl 2 rfl) ?_
      refine lv_aload_n hx hb dL_law_742 rfl (lv_at hl 0 rfl) ?_
      refine lv_iload_n hx hb dL_law_743 rfl (lv_at hl 3 rfl) ?_
      refine lv_iconst (v := 1) hx hb dL_law_744 (by decide) ?_
      refine lv_iadd hx hb dL_law_745 ?_
      refine va_sld hx hb hXs hbl hbA hS hin1 dL_law_746 ?_
      refine lv_aload_n hx hb dL_law_747 rfl (lv_at hl 0 rfl) ?_
      refine lv_iload_n hx hb dL_law_748 rfl (lv_at hl 3 rfl) ?_
      refine lv_iconst (v := 2) hx hb dL_law_749 (by decide) ?_
      refine lv_iadd hx hb dL_law_750 ?_
      refine va_sld hx hb hXs hbl hbA hS hin2 dL_law_751 ?_
      refine lv_aload_n hx hb dL_law_752 rfl (lv_at hl 0 rfl) ?_
      refine lv_iload_n hx hb dL_law_753 rfl (lv_at hl 3 rfl) ?_
      refine lv_iconst (v := 3) hx hb dL_law_754 (by decide) ?_
      refine lv_iadd hx hb dL_law_755 ?_
      refine va_sld hx hb hXs hbl hbA hS hin3 dL_law_756 ?_
      refine W.call2 (As := [.int (xs (nI i + 1).toNatClampNeg), .int (xs (nI i + 2).toNatClampNeg), .int (xs (nI i + 3).toNatClampNeg)]) (b := 100) (rest := [.int r]) C1 (pc_X12_share FU J M RM (xs (nI i + 1).toNatClampNeg) (xs (nI i + 2).toNatClampNeg) (xs (nI i + 3).toNatClampNeg) _ e2) ml_L_94 dL_law_757 hK2 ha2 hX hP2 hP1 (fun i j a b a2 b2 h => hxx j i a2 b2 a b h.symm) hS hA2 rfl rg_100 lc_100 vq_12 (by decide) (by decide) hkc hks hl.1 rfl (Nat.le_of_ble_eq_true rfl) (fun H locs hP2 hP1 hS => ?_)
      refine W.eq (g2 := F0 m 760 ls [.int r, .int r]) rfl ?_
      refine lv_icmp_eq (tgt := 1143) hx hb dL_law_760 (by decide) (fun _ => ?_) (fun h => absurd rfl h)
      exact fin _ _ _ _ _ _ _ _ h6 hRel2 hP1 hP2 hS
    by_cases h_19 : op = 19
    · refine lv_tableIn (tgt := 765) (off := 732) hx hb dL_law_33 (by rw [h_19]; decide) (by rw [h_19]; decide) (by rw [h_19]; decide) (by decide) ?_
      obtain ⟨r, I', J', e1, e2, hRel2⟩ := E19 i I R J M  (Nat.le_trans (by omega) hL) hRel
      refine lv_aload_n hx hb dL_law_765 rfl (lv_at hl 1 rfl) ?_
      refine W.call2 (As := []) (b := 1) (rest := []) C1 (pc_X11_stood FU I LX R  _ e1) ml_L_95 dL_law_766 hK1 ha1 hX hP1 hP2 hxx hS hA1 rfl rg_1 lc_1 vq_11 (by decide) (by decide) hkc hks hl.1 rfl (Nat.le_of_ble_eq_true rfl) (fun H locs hP1 hP2 hS => ?_)
      refine W.eq (g2 := F0 m 769 ls [.int r]) rfl ?_
      refine lv_aload_n hx hb dL_law_769 rfl (lv_at hl 2 rfl) ?_
      refine W.call2 (As := []) (b := 100) (rest := [.int r]) C1 (pc_X12_stood FU J M RM  _ e2) ml_L_98 dL_law_770 hK2 ha2 hX hP2 hP1 (fun i j a b a2 b2 h => hxx j i a2 b2 a b h.symm) hS hA2 rfl rg_100 lc_100 vq_12 (by decide) (by decide) hkc hks hl.1 rfl (Nat.le_of_ble_eq_true rfl) (fun H locs hP2 hP1 hS => ?_)
      refine W.eq (g2 := F0 m 773 ls [.int r, .int r]) rfl ?_
      refine lv_icmp_eq (tgt := 1143) hx hb dL_law_773 (by decide) (fun _ => ?_) (fun h => absurd rfl h)
      exact fin _ _ _ _ _ _ _ _ h6 hRel2 hP1 hP2 hS
    by_cases h_20 : op = 20
    · refine lv_tableIn (tgt := 778) (off := 745) hx hb dL_law_33 (by rw [h_20]; decide) (by rw [h_20]; decide) (by rw [h_20]; decide) (by decide) ?_
      obtain ⟨r, I', R', J', M', e1, e2, hRel2⟩ := E20 i I R J M (xs (nI i + 1).toNatClampNeg) (Nat.le_trans (by omega) hL) hRel
      refine lv_aload_n hx hb dL_law_778 rfl (lv_at hl 1 rfl) ?_
      refine lv_aload_n hx hb dL_law_779 rfl (lv_at hl 0 rfl) ?_
      refine lv_iload_n hx hb dL_law_780 rfl (lv_at hl 3 rfl) ?_
      refine lv_iconst (v := 1) hx hb dL_law_781 (by decide) ?_
      refine lv_iadd hx hb dL_law_782 ?_
      refine va_sld hx hb hXs hbl hbA hS hin1 dL_law_783 ?_
      refine W.call2 (As := [.int (xs (nI i + 1).toNatClampNeg)]) (b := 1) (rest := []) C1 (pc_X11_robbed FU I LX R (xs (nI i + 1).toNatClampNeg) _ e1) ml_L_99 dL_law_784 hK1 ha1 hX hP1 hP2 hxx hS hA1 rfl rg_1 lc_1 vq_11 (by decide) (by decide) hkc hks hl.1 rfl (Nat.le_of_ble_eq_true rfl) (fun H locs hP1 hP2 hS => ?_)
      refine W.eq (g2 := F0 m 787 ls [.int r]) rfl ?_
      refine lv_aload_n hx hb dL_law_787 rfl (lv_at hl 2 rfl) ?_
      refine lv_aload_n hx hb dL_law_788 rfl (lv_at hl 0 rfl) ?_
      refine lv_iload_n hx hb dL_law_789 rfl (lv_at hl 3 rfl) ?_
      refine lv_iconst (v := 1) hx hb dL_law_790 (by decide) ?_
      refine lv_iadd hx hb dL_law_791 ?_
      refine va_sld hx hb hXs hbl hbA hS hin1 dL_law_792 ?_
      refine W.call2 (As := [.int (xs (nI i + 1).toNatClampNeg)]) (b := 100) (rest := [.int r]) C1 (pc_X12_robbed FU J M RM (xs (nI i + 1).toNatClampNeg) _ e2) ml_L_102 dL_law_793 hK2 ha2 hX hP2 hP1 (fun i j a b a2 b2 h => hxx j i a2 b2 a b h.symm) hS hA2 rfl rg_100 lc_100 vq_12 (by decide) (by decide) hkc hks hl.1 rfl (Nat.le_of_ble_eq_true rfl) (fun H locs hP2 hP1 hS => ?_)
      refine W.eq (g2 := F0 m 796 ls [.int r, .int r]) rfl ?_
      refine lv_icmp_eq (tgt := 1143) hx hb dL_law_796 (by decide) (fun _ => ?_) (fun h => absurd rfl h)
      exact fin _ _ _ _ _ _ _ _ h6 hRel2 hP1 hP2 hS
    by_cases h_21 : op = 21
    · refine lv_tableIn (tgt := 801) (off := 768) hx hb dL_law_33 (by rw [h_21]; decide) (by rw [h_21]; decide) (by rw [h_21]; decide) (by decide) ?_
      obtain ⟨r, I', J', M', e1, e2, hRel2⟩ := E21 i I R J M (xs (nI i + 1).toNatClampNeg) (Nat.le_trans (by omega) hL) hRel
      refine lv_aload_n hx hb dL_law_801 rfl (lv_at hl 1 rfl) ?_
      refine lv_aload_n hx hb dL_law_802 rfl (lv_at hl 0 rfl) ?_
      refine lv_iload_n hx hb dL_law_803 rfl (lv_at hl 3 rfl) ?_
      refine lv_iconst (v := 1) hx hb dL_law_804 (by decide) ?_
      refine lv_iadd hx hb dL_law_805 ?_
      refine va_sld hx hb hXs hbl hbA hS hin1 dL_law_806 ?_
      refine W.call2 (As := [.int (xs (nI i + 1).toNatClampNeg)]) (b := 1) (rest := []) C1 (pc_X11_nights FU I LX R (xs (nI i + 1).toNatClampNeg) _ e1) ml_L_103 dL_law_807 hK1 ha1 hX hP1 hP2 hxx hS hA1 rfl rg_1 lc_1 vq_11 (by decide) (by decide) hkc hks hl.1 rfl (Nat.le_of_ble_eq_true rfl) (fun H locs hP1 hP2 hS => ?_)
      refine W.eq (g2 := F0 m 810 ls [.int r]) rfl ?_
      refine lv_aload_n hx hb dL_law_810 rfl (lv_at hl 2 rfl) ?_
      refine lv_aload_n hx hb dL_law_811 rfl (lv_at hl 0 rfl) ?_
      refine lv_iload_n hx hb dL_law_812 rfl (lv_at hl 3 rfl) ?_
      refine lv_iconst (v := 1) hx hb dL_law_813 (by decide) ?_
      refine lv_iadd hx hb dL_law_814 ?_
      refine va_sld hx hb hXs hbl hbA hS hin1 dL_law_815 ?_
      refine W.call2 (As := [.int (xs (nI i + 1).toNatClampNeg)]) (b := 100) (rest := [.int r]) C1 (pc_X12_nights FU J M RM (xs (nI i + 1).toNatClampNeg) _ e2) ml_L_106 dL_law_816 hK2 ha2 hX hP2 hP1 (fun i j a b a2 b2 h => hxx j i a2 b2 a b h.symm) hS hA2 rfl rg_100 lc_100 vq_12 (by decide) (by decide) hkc hks hl.1 rfl (Nat.le_of_ble_eq_true rfl) (fun H locs hP2 hP1 hS => ?_)
      refine W.eq (g2 := F0 m 819 ls [.int r, .int r]) rfl ?_
      refine lv_icmp_eq (tgt := 1143) hx hb dL_law_819 (by decide) (fun _ => ?_) (fun h => absurd rfl h)
      exact fin _ _ _ _ _ _ _ _ h6 hRel2 hP1 hP2 hS
    by_cases h_22 : op = 22
    · refine lv_tableIn (tgt := 824) (off := 791) hx hb dL_law_33 (by rw [h_22]; decide) (by rw [h_22]; decide) (by rw [h_22]; decide) (by decide) ?_
      obtain ⟨r, I', J', M', e1, e2, hRel2⟩ := E22 i I R J M (xs (nI i + 1).toNatClampNeg) (Nat.le_trans (by omega) hL) hRel
      refine lv_aload_n hx hb dL_law_824 rfl (lv_at hl 1 rfl) ?_
      refine lv_aload_n hx hb dL_law_825 rfl (lv_at hl 0 rfl) ?_
      refine lv_iload_n hx hb dL_law_826 rfl (lv_at hl 3 rfl) ?_
      refine lv_iconst (v := 1) hx hb dL_law_827 (by decide) ?_
      refine lv_iadd hx hb dL_law_828 ?_
      refine va_sld hx hb hXs hbl hbA hS hin1 dL_law_829 ?_
      refine W.call2 (As := [.int (xs (nI i + 1).toNatClampNeg)]) (b := 1) (rest := []) C1 (pc_X11_chance FU I LX R (xs (nI i + 1).toNatClampNeg) _ e1) ml_L_107 dL_law_830 hK1 ha1 hX hP1 hP2 hxx hS hA1 rfl rg_1 lc_1 vq_11 (by decide) (by decide) hkc hks hl.1 rfl (Nat.le_of_ble_eq_true rfl) (fun H locs hP1 hP2 hS => ?_)
      refine W.eq (g2 := F0 m 833 ls [.int r]) rfl ?_
      refine lv_aload_n hx hb dL_law_833 rfl (lv_at hl 2 rfl) ?_
      refine lv_aload_n hx hb dL_law_834 rfl (lv_at hl 0 rfl) ?_
      refine lv_iload_n hx hb dL_law_835 rfl (lv_at hl 3 rfl) ?_
      refine lv_iconst (v := 1) hx hb dL_law_836 (by decide) ?_
      refine lv_iadd hx hb dL_law_837 ?_
      refine va_sld hx hb hXs hbl hbA hS hin1 dL_law_838 ?_
      refine W.call2 (As := [.int (xs (nI i + 1).toNatClampNeg)]) (b := 100) (rest := [.int r]) C1 (pc_X12_chance FU J M RM (xs (nI i + 1).toNatClampNeg) _ e2) ml_L_110 dL_law_839 hK2 ha2 hX hP2 hP1 (fun i j a b a2 b2 h => hxx j i a2 b2 a b h.symm) hS hA2 rfl rg_100 lc_100 vq_12 (by decide) (by decide) hkc hks hl.1 rfl (Nat.le_of_ble_eq_true rfl) (fun H locs hP2 hP1 hS => ?_)
      refine W.eq (g2 := F0 m 842 ls [.int r, .int r]) rfl ?_
      refine lv_icmp_eq (tgt := 1143) hx hb dL_law_842 (by decide) (fun _ => ?_) (fun h => absurd rfl h)
      exact fin _ _ _ _ _ _ _ _ h6 hRel2 hP1 hP2 hS
    by_cases h_23 : op = 23
    · refine lv_tableIn (tgt := 847) (off := 814) hx hb dL_law_33 (by rw [h_23]; decide) (by rw [h_23]; decide) (by rw [h_23]; decide) (by decide) ?_
      obtain ⟨r, I', J', M', e1, e2, hRel2⟩ := E23 i I R J M (xs (nI i + 1).toNatClampNeg) (xs (nI i + 2).toNatClampNeg) (Nat.le_trans (by omega) hL) hRel
      refine lv_aload_n hx hb dL_law_847 rfl (lv_at hl 1 rfl) ?_
      refine lv_aload_n hx hb dL_law_848 rfl (lv_at hl 0 rfl) ?_
      refine lv_iload_n hx hb dL_law_849 rfl (lv_at hl 3 rfl) ?_
      refine lv_iconst (v := 1) hx hb dL_law_850 (by decide) ?_
      refine lv_iadd hx hb dL_law_851 ?_
      refine va_sld hx hb hXs hbl hbA hS hin1 dL_law_852 ?_
      refine lv_aload_n hx hb dL_law_853 rfl (lv_at hl 0 rfl) ?_
      refine lv_iload_n hx hb dL_law_854 rfl (lv_at hl 3 rfl) ?_
      refine lv_iconst (v := 2) hx hb dL_law_855 (by decide) ?_
      refine lv_iadd hx hb dL_law_856 ?_
      refine va_sld hx hb hXs hbl hbA hS hin2 dL_law_857 ?_
      refine W.call2 (As := [.int (xs (nI i + 1).toNatClampNeg), .int (xs (nI i + 2).toNatClampNeg)]) (b := 1) (rest := []) C1 (pc_X11_move FU I LX R (xs (nI i + 1).toNatClampNeg) (xs (nI i + 2).toNatClampNeg) _ e1) ml_L_111 dL_law_858 hK1 ha1 hX hP1 hP2 hxx hS hA1 rfl rg_1 lc_1 vq_11 (by decide) (by decide) hkc hks hl.1 rfl (Nat.le_of_ble_eq_true rfl) (fun H locs hP1 hP2 hS => ?_)
      refine W.eq (g2 := F0 m 861 ls [.int r]) rfl ?_
      refine lv_aload_n hx hb dL_law_861 rfl (lv_at hl 2 rfl) ?_
      refine lv_aload_n hx hb dL_law_862 rfl (lv_at hl 0 rfl) ?_
      refine lv_iload_n hx hb dL_law_863 rfl (lv_at hl 3 rfl) ?_
      refine lv_iconst (v := 1) hx hb dL_law_864 (by decide) ?_
      refine lv_iadd hx hb dL_law_865 ?_
      refine va_sld hx hb hXs hbl hbA hS hin1 dL_law_866 ?_
      refine lv_aload_n hx hb dL_law_867 rfl (lv_at hl 0 rfl) ?_
      refine lv_iload_n hx hb dL_law_868 rfl (lv_at hl 3 rfl) ?_
      refine lv_iconst (v := 2) hx hb dL_law_869 (by decide) ?_
      refine lv_iadd hx hb dL_law_870 ?_
      refine va_sld hx hb hXs hbl hbA hS hin2 dL_law_871 ?_
      refine W.call2 (As := [.int (xs (nI i + 1).toNatClampNeg), .int (xs (nI i + 2).toNatClampNeg)]) (b := 100) (rest := [.int r]) C1 (pc_X12_move FU J M RM (xs (nI i + 1).toNatClampNeg) (xs (nI i + 2).toNatClampNeg) _ e2) ml_L_115 dL_law_872 hK2 ha2 hX hP2 hP1 (fun i j a b a2 b2 h => hxx j i a2 b2 a b h.symm) hS hA2 rfl rg_100 lc_100 vq_12 (by decide) (by decide) hkc hks hl.1 rfl (Nat.le_of_ble_eq_true rfl) (fun H locs hP2 hP1 hS => ?_)
      refine W.eq (g2 := F0 m 875 ls [.int r, .int r]) rfl ?_
      refine lv_icmp_eq (tgt := 1143) hx hb dL_law_875 (by decide) (fun _ => ?_) (fun h => absurd rfl h)
      exact fin _ _ _ _ _ _ _ _ h6 hRel2 hP1 hP2 hS
    by_cases h_24 : op = 24
    · refine lv_tableIn (tgt := 880) (off := 847) hx hb dL_law_33 (by rw [h_24]; decide) (by rw [h_24]; decide) (by rw [h_24]; decide) (by decide) ?_
      obtain ⟨r, I', J', e1, e2, hRel2⟩ := E24 i I R J M (xs (nI i + 1).toNatClampNeg) (xs (nI i + 2).toNatClampNeg) (Nat.le_trans (by omega) hL) hRel
      refine lv_aload_n hx hb dL_law_880 rfl (lv_at hl 1 rfl) ?_
      refine lv_aload_n hx hb dL_law_881 rfl (lv_at hl 0 rfl) ?_
      refine lv_iload_n hx hb dL_law_882 rfl (lv_at hl 3 rfl) ?_
      refine lv_iconst (v := 1) hx hb dL_law_883 (by decide) ?_
      refine lv_iadd hx hb dL_law_884 ?_
      refine va_sld hx hb hXs hbl hbA hS hin1 dL_law_885 ?_
      refine lv_aload_n hx hb dL_law_886 rfl (lv_at hl 0 rfl) ?_
      refine lv_iload_n hx hb dL_law_887 rfl (lv_at hl 3 rfl) ?_
      refine lv_iconst (v := 2) hx hb dL_law_888 (by decide) ?_
      refine lv_iadd hx hb dL_law_889 ?_
      refine va_sld hx hb hXs hbl hbA hS hin2 dL_law_890 ?_
      refine W.call2 (As := [.int (xs (nI i + 1).toNatClampNeg), .int (xs (nI i + 2).toNatClampNeg)]) (b := 1) (rest := []) C1 (pc_X11_pour  I LX R (xs (nI i + 1).toNatClampNeg) (xs (nI i + 2).toNatClampNeg) _ e1) ml_L_116 dL_law_891 hK1 ha1 hX hP1 hP2 hxx hS hA1 rfl rg_1 lc_1 vq_11 (by decide) (by decide) hkc hks hl.1 rfl (Nat.le_of_ble_eq_true rfl) (fun H locs hP1 hP2 hS => ?_)
      refine W.eq (g2 := F0 m 894 ls [.int r]) rfl ?_
      refine lv_aload_n hx hb dL_law_894 rfl (lv_at hl 2 rfl) ?_
      refine lv_aload_n hx hb dL_law_895 rfl (lv_at hl 0 rfl) ?_
      refine lv_iload_n hx hb dL_law_896 rfl (lv_at hl 3 rfl) ?_
      refine lv_iconst (v := 1) hx hb dL_law_897 (by decide) ?_
      refine lv_iadd hx hb dL_law_898 ?_
      refine va_sld hx hb hXs hbl hbA hS hin1 dL_law_899 ?_
      refine lv_aload_n hx hb dL_law_900 rfl (lv_at hl 0 rfl) ?_
      refine lv_iload_n hx hb dL_law_901 rfl (lv_at hl 3 rfl) ?_
      refine lv_iconst (v := 2) hx hb dL_law_902 (by decide) ?_
      refine lv_iadd hx hb dL_law_903 ?_
      refine va_sld hx hb hXs hbl hbA hS hin2 dL_law_904 ?_
      refine W.call2 (As := [.int (xs (nI i + 1).toNatClampNeg), .int (xs (nI i + 2).toNatClampNeg)]) (b := 100) (rest := [.int r]) C1 (pc_X12_pour FU J M RM (xs (nI i + 1).toNatClampNeg) (xs (nI i + 2).toNatClampNeg) _ e2) ml_L_119 dL_law_905 hK2 ha2 hX hP2 hP1 (fun i j a b a2 b2 h => hxx j i a2 b2 a b h.symm) hS hA2 rfl rg_100 lc_100 vq_12 (by decide) (by decide) hkc hks hl.1 rfl (Nat.le_of_ble_eq_true rfl) (fun H locs hP2 hP1 hS => ?_)
      refine W.eq (g2 := F0 m 908 ls [.int r, .int r]) rfl ?_
      refine lv_icmp_eq (tgt := 1143) hx hb dL_law_908 (by decide) (fun _ => ?_) (fun h => absurd rfl h)
      exact fin _ _ _ _ _ _ _ _ h6 hRel2 hP1 hP2 hS
    by_cases h_25 : op = 25
    · refine lv_tableIn (tgt := 913) (off := 880) hx hb dL_law_33 (by rw [h_25]; decide) (by rw [h_25]; decide) (by rw [h_25]; decide) (by decide) ?_
      obtain ⟨r, I', J', e1, e2, hRel2⟩ := E25 i I R J M (xs (nI i + 1).toNatClampNeg) (xs (nI i + 2).toNatClampNeg) (Nat.le_trans (by omega) hL) hRel
      refine lv_aload_n hx hb dL_law_913 rfl (lv_at hl 1 rfl) ?_
      refine lv_aload_n hx hb dL_law_914 rfl (lv_at hl 0 rfl) ?_
      refine lv_iload_n hx hb dL_law_915 rfl (lv_at hl 3 rfl) ?_
      refine lv_iconst (v := 1) hx hb dL_law_916 (by decide) ?_
      refine lv_iadd hx hb dL_law_917 ?_
      refine va_sld hx hb hXs hbl hbA hS hin1 dL_law_918 ?_
      refine lv_aload_n hx hb dL_law_919 rfl (lv_at hl 0 rfl) ?_
      refine lv_iload_n hx hb dL_law_920 rfl (lv_at hl 3 rfl) ?_
      refine lv_iconst (v := 2) hx hb dL_law_921 (by decide) ?_
      refine lv_iadd hx hb dL_law_922 ?_
      refine va_sld hx hb hXs hbl hbA hS hin2 dL_law_923 ?_
      refine W.call2 (As := [.int (xs (nI i + 1).toNatClampNeg), .int (xs (nI i + 2).toNatClampNeg)]) (b := 1) (rest := []) C1 (pc_X11_part FU I LX R (xs (nI i + 1).toNatClampNeg) (xs (nI i + 2).toNatClampNeg) _ e1) ml_L_120 dL_law_924 hK1 ha1 hX hP1 hP2 hxx hS hA1 rfl rg_1 lc_1 vq_11 (by decide) (by decide) hkc hks hl.1 rfl (Nat.le_of_ble_eq_true rfl) (fun H locs hP1 hP2 hS => ?_)
      refine W.eq (g2 := F0 m 927 ls [.int r]) rfl ?_
      refine lv_aload_n hx hb dL_law_927 rfl (lv_at hl 2 rfl) ?_
      refine lv_aload_n hx hb dL_law_928 rfl (lv_at hl 0 rfl) ?_
      refine lv_iload_n hx hb dL_law_929 rfl (lv_at hl 3 rfl) ?_
      refine lv_iconst (v := 1) hx hb dL_law_930 (by decide) ?_
      refine lv_iadd hx hb dL_law_931 ?_
      refine va_sld hx hb hXs hbl hbA hS hin1 dL_law_932 ?_
      refine lv_aload_n hx hb dL_law_933 rfl (lv_at hl 0 rfl) ?_
      refine lv_iload_n hx hb dL_law_934 rfl (lv_at hl 3 rfl) ?_
      refine lv_iconst (v := 2) hx hb dL_law_935 (by decide) ?_
      refine lv_iadd hx hb dL_law_936 ?_
      refine va_sld hx hb hXs hbl hbA hS hin2 dL_law_937 ?_
      refine W.call2 (As := [.int (xs (nI i + 1).toNatClampNeg), .int (xs (nI i + 2).toNatClampNeg)]) (b := 100) (rest := [.int r]) C1 (pc_X12_part FU J M RM (xs (nI i + 1).toNatClampNeg) (xs (nI i + 2).toNatClampNeg) _ e2) ml_L_123 dL_law_938 hK2 ha2 hX hP2 hP1 (fun i j a b a2 b2 h => hxx j i a2 b2 a b h.symm) hS hA2 rfl rg_100 lc_100 vq_12 (by decide) (by decide) hkc hks hl.1 rfl (Nat.le_of_ble_eq_true rfl) (fun H locs hP2 hP1 hS => ?_)
      refine W.eq (g2 := F0 m 941 ls [.int r, .int r]) rfl ?_
      refine lv_icmp_eq (tgt := 1143) hx hb dL_law_941 (by decide) (fun _ => ?_) (fun h => absurd rfl h)
      exact fin _ _ _ _ _ _ _ _ h6 hRel2 hP1 hP2 hS
    by_cases h_26 : op = 26
    · refine lv_tableIn (tgt := 946) (off := 913) hx hb dL_law_33 (by rw [h_26]; decide) (by rw [h_26]; decide) (by rw [h_26]; decide) (by decide) ?_
      obtain ⟨r, I', J', M', e1, e2, hRel2⟩ := E26 i I R J M (xs (nI i + 1).toNatClampNeg) (xs (nI i + 2).toNatClampNeg) (xs (nI i + 3).toNatClampNeg) (Nat.le_trans (by omega) hL) hRel
      refine lv_aload_n hx hb dL_law_946 rfl (lv_at hl 1 rfl) ?_
      refine lv_aload_n hx hb dL_law_947 rfl (lv_at hl 0 rfl) ?_
      refine lv_iload_n hx hb dL_law_948 rfl (lv_at hl 3 rfl) ?_
      refine lv_iconst (v := 1) hx hb dL_law_949 (by decide) ?_
      refine lv_iadd hx hb dL_law_950 ?_
      refine va_sld hx hb hXs hbl hbA hS hin1 dL_law_951 ?_
      refine lv_aload_n hx hb dL_law_952 rfl (lv_at hl 0 rfl) ?_
      refine lv_iload_n hx hb dL_law_953 rfl (lv_at hl 3 rfl) ?_
      refine lv_iconst (v := 2) hx hb dL_law_954 (by decide) ?_
      refine lv_iadd hx hb dL_law_955 ?_
      refine va_sld hx hb hXs hbl hbA hS hin2 dL_law_956 ?_
      refine lv_aload_n hx hb dL_law_957 rfl (lv_at hl 0 rfl) ?_
      refine lv_iload_n hx hb dL_law_958 rfl (lv_at hl 3 rfl) ?_
      refine lv_iconst (v := 3) hx hb dL_law_959 (by decide) ?_
      refine lv_iadd hx hb dL_law_960 ?_
      refine va_sld hx hb hXs hbl hbA hS hin3 dL_law_961 ?_
      refine W.call2 (As := [.int (xs (nI i + 1).toNatClampNeg), .int (xs (nI i + 2).toNatClampNeg), .int (xs (nI i + 3).toNatClampNeg)]) (b := 1) (rest := []) C1 (pc_X11_pay FU I LX R (xs (nI i + 1).toNatClampNeg) (xs (nI i + 2).toNatClampNeg) (xs (nI i + 3).toNatClampNeg) _ e1) ml_L_124 dL_law_962 hK1 ha1 hX hP1 hP2 hxx hS hA1 rfl rg_1 lc_1 vq_11 (by decide) (by decide) hkc hks hl.1 rfl (Nat.le_of_ble_eq_true rfl) (fun H locs hP1 hP2 hS => ?_)
      refine W.eq (g2 := F0 m 965 ls [.int r]) rfl ?_
      refine lv_aload_n hx hb dL_law_965 rfl (lv_at hl 2 rfl) ?_
      refine lv_aload_n hx hb dL_law_966 rfl (lv_at hl 0 rfl) ?_
      refine lv_iload_n hx hb dL_law_967 rfl (lv_at hl 3 rfl) ?_
      refine lv_iconst (v := 1) hx hb dL_law_968 (by decide) ?_
      refine lv_iadd hx hb dL_law_969 ?_
      refine va_sld hx hb hXs hbl hbA hS hin1 dL_law_970 ?_
      refine lv_aload_n hx hb dL_law_971 rfl (lv_at hl 0 rfl) ?_
      refine lv_iload_n hx hb dL_law_972 rfl (lv_at hl 3 rfl) ?_
      refine lv_iconst (v := 2) hx hb dL_law_973 (by decide) ?_
      refine lv_iadd hx hb dL_law_974 ?_
      refine va_sld hx hb hXs hbl hbA hS hin2 dL_law_975 ?_
      refine lv_aload_n hx hb dL_law_976 rfl (lv_at hl 0 rfl) ?_
      refine lv_iload_n hx hb dL_law_977 rfl (lv_at hl 3 rfl) ?_
      refine lv_iconst (v := 3) hx hb dL_law_978 (by decide) ?_
      refine lv_iadd hx hb dL_law_979 ?_
      refine va_sld hx hb hXs hbl hbA hS hin3 dL_law_980 ?_
      refine W.call2 (As := [.int (xs (nI i + 1).toNatClampNeg), .int (xs (nI i + 2).toNatClampNeg), .int (xs (nI i + 3).toNatClampNeg)]) (b := 100) (rest := [.int r]) C1 (pc_X12_pay FU J M RM (xs (nI i + 1).toNatClampNeg) (xs (nI i + 2).toNatClampNeg) (xs (nI i + 3).toNatClampNeg) _ e2) ml_L_127 dL_law_981 hK2 ha2 hX hP2 hP1 (fun i j a b a2 b2 h => hxx j i a2 b2 a b h.symm) hS hA2 rfl rg_100 lc_100 vq_12 (by decide) (by decide) hkc hks hl.1 rfl (Nat.le_of_ble_eq_true rfl) (fun H locs hP2 hP1 hS => ?_)
      refine W.eq (g2 := F0 m 984 ls [.int r, .int r]) rfl ?_
      refine lv_icmp_eq (tgt := 1143) hx hb dL_law_984 (by decide) (fun _ => ?_) (fun h => absurd rfl h)
      exact fin _ _ _ _ _ _ _ _ h6 hRel2 hP1 hP2 hS
    by_cases h_27 : op = 27
    · refine lv_tableIn (tgt := 989) (off := 956) hx hb dL_law_33 (by rw [h_27]; decide) (by rw [h_27]; decide) (by rw [h_27]; decide) (by decide) ?_
      obtain ⟨r, I', J', e1, e2, hRel2⟩ := E27 i I R J M  (Nat.le_trans (by omega) hL) hRel
      refine lv_aload_n hx hb dL_law_989 rfl (lv_at hl 1 rfl) ?_
      refine W.call2 (As := []) (b := 1) (rest := []) C1 (pc_X11_strike FU I LX R  _ e1) ml_L_128 dL_law_990 hK1 ha1 hX hP1 hP2 hxx hS hA1 rfl rg_1 lc_1 vq_11 (by decide) (by decide) hkc hks hl.1 rfl (Nat.le_of_ble_eq_true rfl) (fun H locs hP1 hP2 hS => ?_)
      refine W.eq (g2 := F0 m 993 ls [.int r]) rfl ?_
      refine lv_aload_n hx hb dL_law_993 rfl (lv_at hl 2 rfl) ?_
      refine W.call2 (As := []) (b := 100) (rest := [.int r]) C1 (pc_X12_strike FU J M RM  _ e2) ml_L_131 dL_law_994 hK2 ha2 hX hP2 hP1 (fun i j a b a2 b2 h => hxx j i a2 b2 a b h.symm) hS hA2 rfl rg_100 lc_100 vq_12 (by decide) (by decide) hkc hks hl.1 rfl (Nat.le_of_ble_eq_true rfl) (fun H locs hP2 hP1 hS => ?_)
      refine W.eq (g2 := F0 m 997 ls [.int r, .int r]) rfl ?_
      refine lv_icmp_eq (tgt := 1143) hx hb dL_law_997 (by decide) (fun _ => ?_) (fun h => absurd rfl h)
      exact fin _ _ _ _ _ _ _ _ h6 hRel2 hP1 hP2 hS
    by_cases h_28 : op = 28
    · refine lv_tableIn (tgt := 1002) (off := 969) hx hb dL_law_33 (by rw [h_28]; decide) (by rw [h_28]; decide) (by rw [h_28]; decide) (by decide) ?_
      obtain ⟨r, I', J', e1, e2, hRel2⟩ := E28 i I R J M  (Nat.le_trans (by omega) hL) hRel
      refine lv_aload_n hx hb dL_law_1002 rfl (lv_at hl 1 rfl) ?_
      refine W.call2 (As := []) (b := 1) (rest := []) C1 (pc_X11_undo  I LX R  _ e1) ml_L_132 dL_law_1003 hK1 ha1 hX hP1 hP2 hxx hS hA1 rfl rg_1 lc_1 vq_11 (by decide) (by decide) hkc hks hl.1 rfl (Nat.le_of_ble_eq_true rfl) (fun H locs hP1 hP2 hS => ?_)
      refine W.eq (g2 := F0 m 1006 ls [.int r]) rfl ?_
      refine lv_aload_n hx hb dL_law_1006 rfl (lv_at hl 2 rfl) ?_
      refine W.call2 (As := []) (b := 100) (rest := [.int r]) C1 (pc_X12_undo FU J M RM  _ e2) ml_L_136 dL_law_1007 hK2 ha2 hX hP2 hP1 (fun i j a b a2 b2 h => hxx j i a2 b2 a b h.symm) hS hA2 rfl rg_100 lc_100 vq_12 (by decide) (by decide) hkc hks hl.1 rfl (Nat.le_of_ble_eq_true rfl) (fun H locs hP2 hP1 hS => ?_)
      refine W.eq (g2 := F0 m 1010 ls [.int r, .int r]) rfl ?_
      refine lv_icmp_eq (tgt := 1143) hx hb dL_law_1010 (by decide) (fun _ => ?_) (fun h => absurd rfl h)
      exact fin _ _ _ _ _ _ _ _ h6 hRel2 hP1 hP2 hS
    by_cases h_29 : op = 29
    · refine lv_tableIn (tgt := 1015) (off := 982) hx hb dL_law_33 (by rw [h_29]; decide) (by rw [h_29]; decide) (by rw [h_29]; decide) (by decide) ?_
      obtain ⟨r, I', J', M', e1, e2, hRel2⟩ := E29 i I R J M (xs (nI i + 1).toNatClampNeg) (Nat.le_trans (by omega) hL) hRel
      refine lv_aload_n hx hb dL_law_1015 rfl (lv_at hl 1 rfl) ?_
      refine lv_aload_n hx hb dL_law_1016 rfl (lv_at hl 0 rfl) ?_
      refine lv_iload_n hx hb dL_law_1017 rfl (lv_at hl 3 rfl) ?_
      refine lv_iconst (v := 1) hx hb dL_law_1018 (by decide) ?_
      refine lv_iadd hx hb dL_law_1019 ?_
      refine va_sld hx hb hXs hbl hbA hS hin1 dL_law_1020 ?_
      refine W.call2 (As := [.int (xs (nI i + 1).toNatClampNeg)]) (b := 1) (rest := []) C1 (pc_X11_seed  I LX R (xs (nI i + 1).toNatClampNeg) _ e1) ml_L_137 dL_law_1021 hK1 ha1 hX hP1 hP2 hxx hS hA1 rfl rg_1 lc_1 vq_11 (by decide) (by decide) hkc hks hl.1 rfl (Nat.le_of_ble_eq_true rfl) (fun H locs hP1 hP2 hS => ?_)
      refine W.eq (g2 := F0 m 1024 ls [.int r]) rfl ?_
      refine lv_aload_n hx hb dL_law_1024 rfl (lv_at hl 2 rfl) ?_
      refine lv_aload_n hx hb dL_law_1025 rfl (lv_at hl 0 rfl) ?_
      refine lv_iload_n hx hb dL_law_1026 rfl (lv_at hl 3 rfl) ?_
      refine lv_iconst (v := 1) hx hb dL_law_1027 (by decide) ?_
      refine lv_iadd hx hb dL_law_1028 ?_
      refine va_sld hx hb hXs hbl hbA hS hin1 dL_law_1029 ?_
      refine W.call2 (As := [.int (xs (nI i + 1).toNatClampNeg)]) (b := 100) (rest := [.int r]) C1 (pc_X12_seed  J M RM (xs (nI i + 1).toNatClampNeg) _ e2) ml_L_140 dL_law_1030 hK2 ha2 hX hP2 hP1 (fun i j a b a2 b2 h => hxx j i a2 b2 a b h.symm) hS hA2 rfl rg_100 lc_100 vq_12 (by decide) (by decide) hkc hks hl.1 rfl (Nat.le_of_ble_eq_true rfl) (fun H locs hP2 hP1 hS => ?_)
      refine W.eq (g2 := F0 m 1033 ls [.int r, .int r]) rfl ?_
      refine lv_icmp_eq (tgt := 1143) hx hb dL_law_1033 (by decide) (fun _ => ?_) (fun h => absurd rfl h)
      exact fin _ _ _ _ _ _ _ _ h6 hRel2 hP1 hP2 hS
    by_cases h_30 : op = 30
    · refine lv_tableIn (tgt := 1038) (off := 1005) hx hb dL_law_33 (by rw [h_30]; decide) (by rw [h_30]; decide) (by rw [h_30]; decide) (by decide) ?_
      obtain ⟨r, e1, e2, hRel2⟩ := E30 i I R J M (xs (nI i + 1).toNatClampNeg) (xs (nI i + 2).toNatClampNeg) (Nat.le_trans (by omega) hL) hRel
      refine lv_aload_n hx hb dL_law_1038 rfl (lv_at hl 1 rfl) ?_
      refine lv_aload_n hx hb dL_law_1039 rfl (lv_at hl 0 rfl) ?_
      refine lv_iload_n hx hb dL_law_1040 rfl (lv_at hl 3 rfl) ?_
      refine lv_iconst (v := 1) hx hb dL_law_1041 (by decide) ?_
      refine lv_iadd hx hb dL_law_1042 ?_
      refine va_sld hx hb hXs hbl hbA hS hin1 dL_law_1043 ?_
      refine lv_aload_n hx hb dL_law_1044 rfl (lv_at hl 0 rfl) ?_
      refine lv_iload_n hx hb dL_law_1045 rfl (lv_at hl 3 rfl) ?_
      refine lv_iconst (v := 2) hx hb dL_law_1046 (by decide) ?_
      refine lv_iadd hx hb dL_law_1047 ?_
      refine va_sld hx hb hXs hbl hbA hS hin2 dL_law_1048 ?_
      refine W.call2 (As := [.int (xs (nI i + 1).toNatClampNeg), .int (xs (nI i + 2).toNatClampNeg)]) (b := 1) (rest := []) C1 (pc_X11_kept  I LX R (xs (nI i + 1).toNatClampNeg) (xs (nI i + 2).toNatClampNeg) _ e1) ml_L_141 dL_law_1049 hK1 ha1 hX hP1 hP2 hxx hS hA1 rfl rg_1 lc_1 vq_11 (by decide) (by decide) hkc hks hl.1 rfl (Nat.le_of_ble_eq_true rfl) (fun H locs hP1 hP2 hS => ?_)
      refine W.eq (g2 := F0 m 1052 ls [.int r]) rfl ?_
      refine lv_aload_n hx hb dL_law_1052 rfl (lv_at hl 2 rfl) ?_
      refine lv_aload_n hx hb dL_law_1053 rfl (lv_at hl 0 rfl) ?_
      refine lv_iload_n hx hb dL_law_1054 rfl (lv_at hl 3 rfl) ?_
      refine lv_iconst (v := 1) hx hb dL_law_1055 (by decide) ?_
      refine lv_iadd hx hb dL_law_1056 ?_
      refine va_sld hx hb hXs hbl hbA hS hin1 dL_law_1057 ?_
      refine lv_aload_n hx hb dL_law_1058 rfl (lv_at hl 0 rfl) ?_
      refine lv_iload_n hx hb dL_law_1059 rfl (lv_at hl 3 rfl) ?_
      refine lv_iconst (v := 2) hx hb dL_law_1060 (by decide) ?_
      refine lv_iadd hx hb dL_law_1061 ?_
      refine va_sld hx hb hXs hbl hbA hS hin2 dL_law_1062 ?_
      refine W.call2 (As := [.int (xs (nI i + 1).toNatClampNeg), .int (xs (nI i + 2).toNatClampNeg)]) (b := 100) (rest := [.int r]) C1 (pc_X12_kept  J M RM (xs (nI i + 1).toNatClampNeg) (xs (nI i + 2).toNatClampNeg) _ e2) ml_L_144 dL_law_1063 hK2 ha2 hX hP2 hP1 (fun i j a b a2 b2 h => hxx j i a2 b2 a b h.symm) hS hA2 rfl rg_100 lc_100 vq_12 (by decide) (by decide) hkc hks hl.1 rfl (Nat.le_of_ble_eq_true rfl) (fun H locs hP2 hP1 hS => ?_)
      refine W.eq (g2 := F0 m 1066 ls [.int r, .int r]) rfl ?_
      refine lv_icmp_eq (tgt := 1143) hx hb dL_law_1066 (by decide) (fun _ => ?_) (fun h => absurd rfl h)
      exact fin _ _ _ _ _ _ _ _ h6 hRel2 hP1 hP2 hS
    by_cases h_31 : op = 31
    · refine lv_tableIn (tgt := 1071) (off := 1038) hx hb dL_law_33 (by rw [h_31]; decide) (by rw [h_31]; decide) (by rw [h_31]; decide) (by decide) ?_
      obtain ⟨r, I', J', e1, e2, hRel2⟩ := E31 i I R J M  (Nat.le_trans (by omega) hL) hRel
      refine lv_aload_n hx hb dL_law_1071 rfl (lv_at hl 1 rfl) ?_
      refine W.call2 (As := []) (b := 1) (rest := []) C1 (pc_X11_image FU I LX R  _ e1) ml_L_145 dL_law_1072 hK1 ha1 hX hP1 hP2 hxx hS hA1 rfl rg_1 lc_1 vq_11 (by decide) (by decide) hkc hks hl.1 rfl (Nat.le_of_ble_eq_true rfl) (fun H locs hP1 hP2 hS => ?_)
      refine W.eq (g2 := F0 m 1075 ls [.int r]) rfl ?_
      refine lv_aload_n hx hb dL_law_1075 rfl (lv_at hl 2 rfl) ?_
      refine W.call2 (As := []) (b := 100) (rest := [.int r]) C1 (pc_X12_image FU J M RM  _ e2) ml_L_148 dL_law_1076 hK2 ha2 hX hP2 hP1 (fun i j a b a2 b2 h => hxx j i a2 b2 a b h.symm) hS hA2 rfl rg_100 lc_100 vq_12 (by decide) (by decide) hkc hks hl.1 rfl (Nat.le_of_ble_eq_true rfl) (fun H locs hP2 hP1 hS => ?_)
      refine W.eq (g2 := F0 m 1079 ls [.int r, .int r]) rfl ?_
      refine lv_icmp_eq (tgt := 1143) hx hb dL_law_1079 (by decide) (fun _ => ?_) (fun h => absurd rfl h)
      exact fin _ _ _ _ _ _ _ _ h6 hRel2 hP1 hP2 hS
    by_cases h_32 : op = 32
    · refine lv_tableIn (tgt := 1084) (off := 1051) hx hb dL_law_33 (by rw [h_32]; decide) (by rw [h_32]; decide) (by rw [h_32]; decide) (by decide) ?_
      obtain ⟨r, e1, e2, hRel2⟩ := E32 i I R J M (xs (nI i + 1).toNatClampNeg) (Nat.le_trans (by omega) hL) hRel
      refine lv_aload_n hx hb dL_law_1084 rfl (lv_at hl 1 rfl) ?_
      refine lv_aload_n hx hb dL_law_1085 rfl (lv_at hl 0 rfl) ?_
      refine lv_iload_n hx hb dL_law_1086 rfl (lv_at hl 3 rfl) ?_
      refine lv_iconst (v := 1) hx hb dL_law_1087 (by decide) ?_
      refine lv_iadd hx hb dL_law_1088 ?_
      refine va_sld hx hb hXs hbl hbA hS hin1 dL_law_1089 ?_
      refine W.call2 (As := [.int (xs (nI i + 1).toNatClampNeg)]) (b := 1) (rest := []) C1 (pc_X11_octet  I LX R (xs (nI i + 1).toNatClampNeg) _ e1) ml_L_149 dL_law_1090 hK1 ha1 hX hP1 hP2 hxx hS hA1 rfl rg_1 lc_1 vq_11 (by decide) (by decide) hkc hks hl.1 rfl (Nat.le_of_ble_eq_true rfl) (fun H locs hP1 hP2 hS => ?_)
      refine W.eq (g2 := F0 m 1093 ls [.int r]) rfl ?_
      refine lv_aload_n hx hb dL_law_1093 rfl (lv_at hl 2 rfl) ?_
      refine lv_aload_n hx hb dL_law_1094 rfl (lv_at hl 0 rfl) ?_
      refine lv_iload_n hx hb dL_law_1095 rfl (lv_at hl 3 rfl) ?_
      refine lv_iconst (v := 1) hx hb dL_law_1096 (by decide) ?_
      refine lv_iadd hx hb dL_law_1097 ?_
      refine va_sld hx hb hXs hbl hbA hS hin1 dL_law_1098 ?_
      refine W.call2 (As := [.int (xs (nI i + 1).toNatClampNeg)]) (b := 100) (rest := [.int r]) C1 (pc_X12_octet  J M RM (xs (nI i + 1).toNatClampNeg) _ e2) ml_L_152 dL_law_1099 hK2 ha2 hX hP2 hP1 (fun i j a b a2 b2 h => hxx j i a2 b2 a b h.symm) hS hA2 rfl rg_100 lc_100 vq_12 (by decide) (by decide) hkc hks hl.1 rfl (Nat.le_of_ble_eq_true rfl) (fun H locs hP2 hP1 hS => ?_)
      refine W.eq (g2 := F0 m 1102 ls [.int r, .int r]) rfl ?_
      refine lv_icmp_eq (tgt := 1143) hx hb dL_law_1102 (by decide) (fun _ => ?_) (fun h => absurd rfl h)
      exact fin _ _ _ _ _ _ _ _ h6 hRel2 hP1 hP2 hS
    by_cases h_33 : op = 33
    · refine lv_tableIn (tgt := 1107) (off := 1074) hx hb dL_law_33 (by rw [h_33]; decide) (by rw [h_33]; decide) (by rw [h_33]; decide) (by decide) ?_
      obtain ⟨r, I', R', J', e1, e2, hRel2⟩ := E33 i I R J M  (Nat.le_trans (by omega) hL) hRel
      refine lv_aload_n hx hb dL_law_1107 rfl (lv_at hl 1 rfl) ?_
      refine W.call2 (As := []) (b := 1) (rest := []) C1 (pc_X11_on FU I LX R  _ e1) ml_L_153 dL_law_1108 hK1 ha1 hX hP1 hP2 hxx hS hA1 rfl rg_1 lc_1 vq_11 (by decide) (by decide) hkc hks hl.1 rfl (Nat.le_of_ble_eq_true rfl) (fun H locs hP1 hP2 hS => ?_)
      refine W.eq (g2 := F0 m 1111 ls [.int r]) rfl ?_
      refine lv_aload_n hx hb dL_law_1111 rfl (lv_at hl 2 rfl) ?_
      refine W.call2 (As := []) (b := 100) (rest := [.int r]) C1 (pc_X12_on FU J M RM  _ e2) ml_L_156 dL_law_1112 hK2 ha2 hX hP2 hP1 (fun i j a b a2 b2 h => hxx j i a2 b2 a b h.symm) hS hA2 rfl rg_100 lc_100 vq_12 (by decide) (by decide) hkc hks hl.1 rfl (Nat.le_of_ble_eq_true rfl) (fun H locs hP2 hP1 hS => ?_)
      refine W.eq (g2 := F0 m 1115 ls [.int r, .int r]) rfl ?_
      refine lv_icmp_eq (tgt := 1143) hx hb dL_law_1115 (by decide) (fun _ => ?_) (fun h => absurd rfl h)
      exact fin _ _ _ _ _ _ _ _ h6 hRel2 hP1 hP2 hS
    by_cases h_34 : op = 34
    · refine lv_tableIn (tgt := 1120) (off := 1087) hx hb dL_law_33 (by rw [h_34]; decide) (by rw [h_34]; decide) (by rw [h_34]; decide) (by decide) ?_
      obtain ⟨r, e1, e2, hRel2⟩ := E34 i I R J M (xs (nI i + 1).toNatClampNeg) (Nat.le_trans (by omega) hL) hRel
      refine lv_aload_n hx hb dL_law_1120 rfl (lv_at hl 1 rfl) ?_
      refine lv_aload_n hx hb dL_law_1121 rfl (lv_at hl 0 rfl) ?_
      refine lv_iload_n hx hb dL_law_1122 rfl (lv_at hl 3 rfl) ?_
      refine lv_iconst (v := 1) hx hb dL_law_1123 (by decide) ?_
      refine lv_iadd hx hb dL_law_1124 ?_
      refine va_sld hx hb hXs hbl hbA hS hin1 dL_law_1125 ?_
      refine W.call2 (As := [.int (xs (nI i + 1).toNatClampNeg)]) (b := 1) (rest := []) C1 (pc_X11_status  I LX R (xs (nI i + 1).toNatClampNeg) _ e1) ml_L_157 dL_law_1126 hK1 ha1 hX hP1 hP2 hxx hS hA1 rfl rg_1 lc_1 vq_11 (by decide) (by decide) hkc hks hl.1 rfl (Nat.le_of_ble_eq_true rfl) (fun H locs hP1 hP2 hS => ?_)
      refine W.eq (g2 := F0 m 1129 ls [.int r]) rfl ?_
      refine lv_aload_n hx hb dL_law_1129 rfl (lv_at hl 2 rfl) ?_
      refine lv_aload_n hx hb dL_law_1130 rfl (lv_at hl 0 rfl) ?_
      refine lv_iload_n hx hb dL_law_1131 rfl (lv_at hl 3 rfl) ?_
      refine lv_iconst (v := 1) hx hb dL_law_1132 (by decide) ?_
      refine lv_iadd hx hb dL_law_1133 ?_
      refine va_sld hx hb hXs hbl hbA hS hin1 dL_law_1134 ?_
      refine W.call2 (As := [.int (xs (nI i + 1).toNatClampNeg)]) (b := 100) (rest := [.int r]) C1 (pc_X12_status  J M RM (xs (nI i + 1).toNatClampNeg) _ e2) ml_L_160 dL_law_1135 hK2 ha2 hX hP2 hP1 (fun i j a b a2 b2 h => hxx j i a2 b2 a b h.symm) hS hA2 rfl rg_100 lc_100 vq_12 (by decide) (by decide) hkc hks hl.1 rfl (Nat.le_of_ble_eq_true rfl) (fun H locs hP2 hP1 hS => ?_)
      refine W.eq (g2 := F0 m 1138 ls [.int r, .int r]) rfl ?_
      refine lv_icmp_eq (tgt := 1143) hx hb dL_law_1138 (by decide) (fun _ => ?_) (fun h => absurd rfl h)
      exact fin _ _ _ _ _ _ _ _ h6 hRel2 hP1 hP2 hS
    have q_0 : op.toInt ≠ 0 := fun e => h_0 (Int32.toInt_inj.mp (e.trans (by decide)))
    have q_1 : op.toInt ≠ 1 := fun e => h_1 (Int32.toInt_inj.mp (e.trans (by decide)))
    have q_2 : op.toInt ≠ 2 := fun e => h_2 (Int32.toInt_inj.mp (e.trans (by decide)))
    have q_3 : op.toInt ≠ 3 := fun e => h_3 (Int32.toInt_inj.mp (e.trans (by decide)))
    have q_4 : op.toInt ≠ 4 := fun e => h_4 (Int32.toInt_inj.mp (e.trans (by decide)))
    have q_5 : op.toInt ≠ 5 := fun e => h_5 (Int32.toInt_inj.mp (e.trans (by decide)))
    have q_6 : op.toInt ≠ 6 := fun e => h_6 (Int32.toInt_inj.mp (e.trans (by decide)))
    have q_7 : op.toInt ≠ 7 := fun e => h_7 (Int32.toInt_inj.mp (e.trans (by decide)))
    have q_8 : op.toInt ≠ 8 := fun e => h_8 (Int32.toInt_inj.mp (e.trans (by decide)))
    have q_9 : op.toInt ≠ 9 := fun e => h_9 (Int32.toInt_inj.mp (e.trans (by decide)))
    have q_10 : op.toInt ≠ 10 := fun e => h_10 (Int32.toInt_inj.mp (e.trans (by decide)))
    have q_11 : op.toInt ≠ 11 := fun e => h_11 (Int32.toInt_inj.mp (e.trans (by decide)))
    have q_12 : op.toInt ≠ 12 := fun e => h_12 (Int32.toInt_inj.mp (e.trans (by decide)))
    have q_13 : op.toInt ≠ 13 := fun e => h_13 (Int32.toInt_inj.mp (e.trans (by decide)))
    have q_14 : op.toInt ≠ 14 := fun e => h_14 (Int32.toInt_inj.mp (e.trans (by decide)))
    have q_15 : op.toInt ≠ 15 := fun e => h_15 (Int32.toInt_inj.mp (e.trans (by decide)))
    have q_16 : op.toInt ≠ 16 := fun e => h_16 (Int32.toInt_inj.mp (e.trans (by decide)))
    have q_17 : op.toInt ≠ 17 := fun e => h_17 (Int32.toInt_inj.mp (e.trans (by decide)))
    have q_18 : op.toInt ≠ 18 := fun e => h_18 (Int32.toInt_inj.mp (e.trans (by decide)))
    have q_19 : op.toInt ≠ 19 := fun e => h_19 (Int32.toInt_inj.mp (e.trans (by decide)))
    have q_20 : op.toInt ≠ 20 := fun e => h_20 (Int32.toInt_inj.mp (e.trans (by decide)))
    have q_21 : op.toInt ≠ 21 := fun e => h_21 (Int32.toInt_inj.mp (e.trans (by decide)))
    have q_22 : op.toInt ≠ 22 := fun e => h_22 (Int32.toInt_inj.mp (e.trans (by decide)))
    have q_23 : op.toInt ≠ 23 := fun e => h_23 (Int32.toInt_inj.mp (e.trans (by decide)))
    have q_24 : op.toInt ≠ 24 := fun e => h_24 (Int32.toInt_inj.mp (e.trans (by decide)))
    have q_25 : op.toInt ≠ 25 := fun e => h_25 (Int32.toInt_inj.mp (e.trans (by decide)))
    have q_26 : op.toInt ≠ 26 := fun e => h_26 (Int32.toInt_inj.mp (e.trans (by decide)))
    have q_27 : op.toInt ≠ 27 := fun e => h_27 (Int32.toInt_inj.mp (e.trans (by decide)))
    have q_28 : op.toInt ≠ 28 := fun e => h_28 (Int32.toInt_inj.mp (e.trans (by decide)))
    have q_29 : op.toInt ≠ 29 := fun e => h_29 (Int32.toInt_inj.mp (e.trans (by decide)))
    have q_30 : op.toInt ≠ 30 := fun e => h_30 (Int32.toInt_inj.mp (e.trans (by decide)))
    have q_31 : op.toInt ≠ 31 := fun e => h_31 (Int32.toInt_inj.mp (e.trans (by decide)))
    have q_32 : op.toInt ≠ 32 := fun e => h_32 (Int32.toInt_inj.mp (e.trans (by decide)))
    have q_33 : op.toInt ≠ 33 := fun e => h_33 (Int32.toInt_inj.mp (e.trans (by decide)))
    have q_34 : op.toInt ≠ 34 := fun e => h_34 (Int32.toInt_inj.mp (e.trans (by decide)))
    refine lv_tableOut (tgt := 1143) hx hb dL_law_33 (by omega) (by decide) ?_
    exact fin I R J M LX RM H locs h6 (Rup i I R J M hRel) hP1 hP2 hS
