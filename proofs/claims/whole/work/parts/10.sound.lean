/-! A functional heap, and the judgement PW: the machine, at a frame told in numbers of cells, comes to a method's end with a told answer and heap. -/
def TBL : List Cond := lw_tbl.filter goodWord
theorem TBL_good {w : Cond} (h : w ∈ TBL) : goodWord w = true := (List.mem_filter.mp h).2
theorem TBL_in {w : Cond} (h : w ∈ lw_tbl) (g : goodWord w = true) : w ∈ TBL := List.mem_filter.mpr ⟨h, g⟩
theorem TBL_t (i : Nat) {w : Cond} (h : tables_1[i]? = some w) (g : goodWord w = true) : w ∈ TBL := TBL_in (List.mem_append_right _ (List.mem_of_getElem? h)) g
theorem TBL_code {y : MethodName} {cc : ByteArray} {nL : Nat} {ret : Option FieldType} (h : Cond.code y cc nL ret ∈ TBL) : GoodIn TBL (Cond.code y cc nL ret :: TBL) := fun w hw => by
  have h1 : w ∈ TBL := by
    rcases List.mem_cons.mp hw with e | e
    · rw [e]; exact h
    · exact e
  exact ⟨h1, good_of_word (TBL_good h1)⟩
abbrev HI : Type := Nat → Nat → Int32
abbrev HL : Type := Nat → Nat → Int64
abbrev HR : Type := Nat → Nat → Nat
abbrev HF : Type := Option Value × HI × HL × HR
def sA (I : HI) (a : Nat) (f : Nat → Int32) : HI := fun x => if x = a then f else I x
def sI (I : HI) (a k : Nat) (v : Int32) : HI := fun x => if x = a then upd (I a) k v else I x
def sL (L : HL) (a k : Nat) (v : Int64) : HL := fun x => if x = a then vp_updL (L a) k v else L x
def sR (R : HR) (a k : Nat) (v : Nat) : HR := fun x => if x = a then (fun j => if j = k then v else R a j) else R x
def mv (ad : Nat → Nat) (v : Value) : Value := match v with
  | .ref a => .ref (ad a)
  | v => v
def lvm (ad : Nat → Nat) (q : Nat × Value) : Nat × Value := (q.1, mv ad q.2)
theorem mv_cat (ad : Nat → Nat) (v : Value) : (mv ad v).category = v.category := by cases v <;> rfl
def refv (ad : Nat → Nat) (n : Nat) : Value := if n = 0 then .null else .ref (ad n)
def pref (n : Nat) : Value := if n = 0 then .null else .ref n
theorem mv_pref (ad : Nat → Nat) (n : Nat) : mv ad (pref n) = refv ad n := by
  unfold pref refv
  split <;> rfl
def fval (ad : Nat → Nat) (I : HI) (L : HL) (R : HR) (i c k : Nat) : Value :=
  if fk c k = 0 then .int (I i k) else if fk c k = 1 then .long (L i k) else if fk c k = 2 then .ref (ad (stt i k)) else refv ad (R i k)
def ccont (cA : Nat → ClassId) (ad : Nat → Nat) (I : HI) (L : HL) (R : HR) (i : Nat) : va_E :=
  if (lay i).1 < 13 then .inr ((lay i).1, (List.range (nf (lay i).1)).map (fval ad I L R i (lay i).1))
  else if (lay i).1 = 14 then .inl (cA i, (lay i).2, .inr (.inl (L i)))
  else if (lay i).1 = 16 then .inl (cA i, (lay i).2, .inr (.inr (.inr (.inr (fun j => some (ad (rowAt j)))))))
  else .inl (cA i, (lay i).2, .inl (I i))
theorem ccont_congr {cA : Nat → ClassId} {ad : Nat → Nat} {I I' : HI} {L L' : HL} {R R' : HR} {i : Nat} (h1 : I' i = I i) (h2 : L' i = L i) (h3 : R' i = R i) : ccont cA ad I' L' R' i = ccont cA ad I L R i := by
  have e : fval ad I' L' R' i (lay i).1 = fval ad I L R i (lay i).1 := by
    funext k
    unfold fval
    rw [h1, h2, h3]
  unfold ccont
  rw [h1, h2, e]
def cells (lo hi : Nat) (cA : Nat → ClassId) (ad : Nat → Nat) (I : HI) (L : HL) (R : HR) : va_W := (List.range (hi - lo)).map (fun j => (ad (lo + j), ccont cA ad I L R (lo + j)))
theorem cells_at {lo hi : Nat} {cA : Nat → ClassId} {ad : Nat → Nat} {I : HI} {L : HL} {R : HR} {i : Nat} (h : lo ≤ i ∧ i < hi) : (cells lo hi cA ad I L R)[i - lo]? = some (ad i, ccont cA ad I L R i) := by
  unfold cells
  rw [List.getElem?_map, List.getElem?_range (by omega)]
  show some (ad (lo + (i - lo)), ccont cA ad I L R (lo + (i - lo))) = _
  rw [show lo + (i - lo) = i by omega]
theorem cells_set {lo hi : Nat} {cA : Nat → ClassId} {ad : Nat → Nat} {I I' : HI} {L L' : HL} {R R' : HR} {i : Nat} (h : lo ≤ i ∧ i < hi) (hI : ∀ x, x ≠ i → I' x = I x) (hL : ∀ x, x ≠ i → L' x = L x) (hR : ∀ x, x ≠ i → R' x = R x) {e : va_E} (he : e = ccont cA ad I' L' R' i) :
    (cells lo hi cA ad I L R).set (i - lo) (ad i, e) = cells lo hi cA ad I' L' R' := by
  subst he
  apply List.ext_getElem?
  intro k
  by_cases hk : k = i - lo
  · subst hk
    rw [cells_at h, List.getElem?_set_self (by unfold cells; rw [List.length_map, List.length_range]; omega)]
  · rw [List.getElem?_set_ne (Ne.symm hk)]
    unfold cells
    rw [List.getElem?_map, List.getElem?_map]
    by_cases hk2 : k < hi - lo
    · rw [List.getElem?_range hk2]
      show some (ad (lo + k), ccont cA ad I L R (lo + k)) = some (ad (lo + k), ccont cA ad I' L' R' (lo + k))
      rw [ccont_congr (hI (lo + k) (by omega)) (hL (lo + k) (by omega)) (hR (lo + k) (by omega))]
    · rw [List.getElem?_eq_none (by rw [List.length_range]; omega)]
      rfl
def Aof (lo hi : Nat) (ad : Nat → Nat) : Nat → Prop := fun q => ∃ i, lo ≤ i ∧ i < hi ∧ q = ad i
def Adi (lo hi : Nat) (ad : Nat → Nat) : Prop := ∀ i j, lo ≤ i → i < hi → lo ≤ j → j < hi → ad i = ad j → i = j
theorem cells_D {lo hi : Nat} {cA : Nat → ClassId} {ad : Nat → Nat} {I : HI} {L : HL} {R : HR} (h : Adi lo hi ad) : va_D (Aof lo hi ad) (cells lo hi cA ad I L R) := by
  have key : ∀ (k : Nat) (q : Nat × va_E), (cells lo hi cA ad I L R)[k]? = some q → k < hi - lo ∧ q.1 = ad (lo + k) := by
    intro k q hq
    unfold cells at hq
    rw [List.getElem?_map] at hq
    by_cases hk2 : k < hi - lo
    · rw [List.getElem?_range hk2] at hq
      cases hq
      exact ⟨hk2, rfl⟩
    · rw [List.getElem?_eq_none (by rw [List.length_range]; omega)] at hq
      cases hq
  refine ⟨fun i j x y hi' hj' hxy => ?_, fun k q hq => ?_⟩
  · obtain ⟨a1, a2⟩ := key i x hi'
    obtain ⟨b1, b2⟩ := key j y hj'
    rw [a2, b2] at hxy
    have := h (lo + i) (lo + j) (by omega) (by omega) (by omega) (by omega) hxy
    omega
  · obtain ⟨a1, a2⟩ := key k q hq
    exact ⟨lo + k, by omega, by omega, a2⟩
def ety (k : Nat) : FieldType := if k = 14 then .long else if k = 15 then .boolean else if k = 16 then .array .int else .int
def KN (D : va_G) (cA : Nat → ClassId) (lo hi : Nat) (U : State) : Prop := (∀ (c : Nat) (q : vw_C), vwCl[c]? = some q → u_Kn U q.1 q.2.1 q.2.2 (D.1 c) (D.2 c)) ∧ ∀ i : Nat, lo ≤ i → i < hi → 13 ≤ (lay i).1 → ArrOfT U (cA i) (ety (lay i).1) ∧ va_RA U (cA i) (ety (lay i).1)
theorem KN.moved {D : va_G} {cA : Nat → ClassId} {lo hi : Nat} {u U : State} (hvm : u.vm.Alike U.vm) (h : KN D cA lo hi u) : KN D cA lo hi U := ⟨fun c q hq => u_Kn_moved hvm (h.1 c q hq), fun i a b e => ⟨arrOfT_moved hvm (h.2 i a b e).1, (h.2 i a b e).2.moved hvm⟩⟩
theorem KN.K {D : va_G} {cA : Nat → ClassId} {lo hi : Nat} {U : State} (h : KN D cA lo hi U) : va_K D vwCl [] U := ⟨h.1, fun k q hq => by simp at hq⟩
theorem KN.Ka {D : va_G} {cA : Nat → ClassId} {lo hi : Nat} {U : State} (h : KN D cA lo hi U) {i : Nat} (hi' : lo ≤ i ∧ i < hi) {ty : FieldType} (hk : 13 ≤ (lay i).1) (hty : ety (lay i).1 = ty) : va_K D vwCl [(cA i, ty)] U := by
  subst hty
  refine ⟨h.1, fun k q hq => ?_⟩
  have hq' : (cA i, ety (lay i).1) = q := by
    match k, hq with
    | 0, hq => exact Option.some.inj hq
    | k + 1, hq => simp at hq
  subst hq'
  exact h.2 i hi'.1 hi'.2 hk
/-- the text of the own words, and what its reading stands on -/
def strB : List Int32 := [104, 111, 108, 108, 111, 119, 32, 32, 104, 111, 108, 100, 115, 32, 32, 32, 97, 116, 32, 32, 32, 32, 32, 32, 111, 119, 110, 101, 114, 32, 32, 32, 108, 97, 107, 101, 32, 32, 32, 32, 104, 97, 115, 32, 32, 32, 32, 32, 105, 110, 32, 32, 32, 32, 32, 32, 111, 102, 32, 32, 32, 32, 32, 32, 111, 119, 101, 115, 32, 32, 32, 32, 108, 101, 97, 107, 115, 32, 32, 32, 119, 111, 114, 116, 104, 32, 32, 32, 109, 97, 121, 32, 32, 32, 32, 32, 99, 97, 114, 116, 115, 32, 32, 32, 110, 105, 103, 104, 116, 32, 32, 32, 98, 101, 115, 105, 100, 101, 32, 32, 115, 116, 101, 112, 115, 32, 32, 32, 102, 114, 101, 101, 32, 32, 32, 32, 105, 102, 32, 32, 32, 32, 32, 32, 111, 114, 32, 32, 32, 32, 32, 32, 97, 110, 100, 32, 32, 32, 32, 32, 110, 111, 116, 32, 32, 32, 32, 32, 97, 108, 108, 32, 32, 32, 32, 32, 109, 105, 110, 32, 32, 32, 32, 32, 109, 97, 120, 32, 32, 32, 32, 32, 100, 114, 111, 117, 103, 104, 116, 32]
def XS (ad : Nat → Nat) (A : Nat → Prop) (U : State) : Prop := (∃ adV : Nat → Nat, vk_S 1 [200] [strB] (fun _ => ad 0) adV A U U.heap) ∧ vk_R "LakeMarket$Tokens" 76 "hollow  holds   at      owner   lake    has     in      of      owes    leaks   worth   may     carts   night   beside  steps   free    if      or      and     not     all     min     max     drought " (ad 0) U ∧ va_Z "java/lang/String" "COMPACT_STRINGS" "Z" (.int 1) A U U.heap ∧ va_Zq "jdk/internal/util/Preconditions" "SIOOBE_FORMATTER" "Ljava/util/function/BiFunction;" A U U.heap
theorem XS.next {ad : Nat → Nat} {A : Nat → Prop} {s U : State} {H : Heap} {locs : List Loc} (h : XS ad A s) (hS : va_S A s.heap H locs) (hU : U.heap = H) (hW : s.WarmedH U.vm) : XS ad A U := by
  obtain ⟨⟨adV, h1⟩, h2, h3, h4⟩ := h
  refine ⟨⟨adV, ?_⟩, vk_R.warm hW h2, ?_, ?_⟩
  · rw [hU]; exact (h1.kept hS.2.1).moved hW.alike
  · rw [hU]; exact (h3.kept hS.2.1).moved hW.alike
  · rw [hU]; exact (h4.kept hS.2.1).moved hW.alike
theorem XS.blind {ad : Nat → Nat} {A : Nat → Prop} {U : State} {g : JFrame} {mk : MethodId} {a : Array Value} (h : XS ad A U) : XS ad A (U.calling g mk a) := by
  obtain ⟨⟨adV, h1⟩, h2, h3, h4⟩ := h
  exact ⟨⟨adV, h1.moved (u := U) (U := U.calling g mk a) (Vm.Alike.refl U.vm)⟩, vk_R.same (u := U) (U := U.calling g mk a) rfl h2, h3.moved (u := U) (U := U.calling g mk a) (Vm.Alike.refl U.vm), h4.moved (u := U) (U := U.calling g mk a) (Vm.Alike.refl U.vm)⟩
def Cx (l : Launch) (D : va_G) (cA : Nat → ClassId) (ad : Nat → Nat) (lo hi d : Nat) (own : String) (cc : ByteArray) (nL : Nat) (ret : Option FieldType) (p : Program) (Rm : Room) (s : State) (m : MethodId) (args : Array Value) (meth : Method) (c : Code) : Prop :=
  CallFix p m c cc nL s args TBL own ∧ meth.sig.returnType = ret ∧ meth.locks = false ∧ KN D cA lo hi s ∧ Adi lo hi ad ∧ XS ad (Aof lo hi ad) s ∧ d ≤ Rm.frames ∧ 60 * d ≤ Rm.locals
def Qf (D : va_G) (cA : Nat → ClassId) (ad : Nat → Nat) (lo hi : Nat) (F : HF) : Array Value → State → Outcome → State → Prop := fun _ st oc t =>
  (oc = .returned (F.1.map (mv ad)) ∧ va_P D vwCl (cells lo hi cA ad F.2.1 F.2.2.1 F.2.2.2) t.heap) ∧ va_F (Aof lo hi ad) st t
def PW (lo hi d : Nat) (own : String) (cc : ByteArray) (nL : Nat) (ret : Option FieldType) (pc : Nat) (lv : List (Nat × Value)) (st : List Value) (I : HI) (L : HL) (R : HR) (F : HF) : Prop :=
  ∀ (l : Launch) (D : va_G) (cA : Nat → ClassId) (ad : Nat → Nat) (p : Program) (e : Env) (Rm : Room) (s : State) (m : MethodId) (args : Array Value) (below : List Frame) (meth : Method) (c : Code), Cx l D cA ad lo hi d own cc nL ret p Rm s m args meth c →
  ∀ (H : Heap) (locs : List Loc) (ls : Array Slot), va_P D vwCl (cells lo hi cA ad I L R) H → va_S (Aof lo hi ad) s.heap H locs → lv_has ls nL (lv.map (lvm ad)) →
    W p l e Rm s m args below meth c H locs 0 0 (MQ below (Qf D cA ad lo hi F) args s 0 0 (Aof lo hi ad)) (F0 m pc ls (st.map (mv ad)))
def PWk {α : Type} (lo hi d : Nat) (own : String) (cc : ByteArray) (nL : Nat) (ret : Option FieldType) (pc : Nat) (lv : List (Nat × Value)) (st : List Value) (I : HI) (L : HL) (R : HR) (o : Option α) (N : α → Prop) (F : HF) : Prop :=
  ∀ a, o = some a → N a → PW lo hi d own cc nL ret pc lv st I L R F
theorem lvA {ad : Nat → Nat} {ls : Array Slot} {nL : Nat} {lv : List (Nat × Value)} (h : lv_has ls nL (lv.map (lvm ad))) {j i : Nat} {v : Value} (hj : lv[j]? = some (i, v)) : ls[i]? = some (.val (mv ad v)) := by
  refine lv_at h j ?_
  rw [List.getElem?_map, hj]
  rfl
def lvs (lv : List (Nat × Value)) (i : Nat) (v : Value) : List (Nat × Value) := (i, v) :: lv.filter (fun q => !(q.1 == i) && !(q.1 + 1 == i && q.2.category == 2))
def lvl (lv : List (Nat × Value)) (i : Nat) (v : Value) : List (Nat × Value) := (i, v) :: lv.filter (fun q => !(q.1 == i) && (!(q.1 == i + 1) && !(q.1 + 1 == i && q.2.category == 2)))
theorem lvs_map (ad : Nat → Nat) (lv : List (Nat × Value)) (i : Nat) (v : Value) : (i, mv ad v) :: (lv.map (lvm ad)).filter (fun q => !(q.1 == i) && !(q.1 + 1 == i && q.2.category == 2)) = (lvs lv i v).map (lvm ad) := by
  unfold lvs
  rw [List.filter_map]
  show _ = (i, mv ad v) :: _
  congr 2
  apply List.filter_congr
  intro q _
  show (!((lvm ad q).1 == i) && !((lvm ad q).1 + 1 == i && (lvm ad q).2.category == 2)) = _
  unfold lvm
  rw [mv_cat]
theorem lvl_map (ad : Nat → Nat) (lv : List (Nat × Value)) (i : Nat) (v : Value) : (i, mv ad v) :: (lv.map (lvm ad)).filter (fun q => !(q.1 == i) && (!(q.1 == i + 1) && !(q.1 + 1 == i && q.2.category == 2))) = (lvl lv i v).map (lvm ad) := by
  unfold lvl
  rw [List.filter_map]
  show _ = (i, mv ad v) :: _
  congr 2
  apply List.filter_congr
  intro q _
  show (!((lvm ad q).1 == i) && (!((lvm ad q).1 == i + 1) && !((lvm ad q).1 + 1 == i && (lvm ad q).2.category == 2))) = _
  unfold lvm
  rw [mv_cat]
theorem lv_args_map (ad : Nat → Nat) : ∀ (vs : List Value) (i : Nat), lv_args i (vs.map (mv ad)) = (lv_args i vs).map (lvm ad)
  | [], _ => rfl
  | v :: vs, i => by
    show (i, mv ad v) :: lv_args (if (mv ad v).category = 2 then i + 2 else i + 1) (vs.map (mv ad)) = (i, mv ad v) :: _
    rw [mv_cat, lv_args_map ad vs]
theorem lg_sl_map (ad : Nat → Nat) (vs : List Value) : (lg_sl (vs.map (mv ad))).length = (lg_sl vs).length := by
  unfold lg_sl
  induction vs with
  | nil => rfl
  | cons v vs ih =>
    rw [List.map_cons, List.flatMap_cons, List.flatMap_cons, List.length_append, List.length_append, ih, mv_cat]
    split <;> rfl
section PWr
variable {α : Type} {lo hi d : Nat} {own : String} {cc : ByteArray} {nL : Nat} {ret : Option FieldType} {pc : Nat} {lv : List (Nat × Value)} {st : List Value} {I : HI} {L : HL} {R : HR} {o : Option α} {N : α → Prop} {F : HF}
theorem PWk.iconst {n : Int} {v : Int32} (hd : decode cc pc = .ok (.iconst n, 1)) (hv : Int32.ofInt n = v) (k : PWk lo hi d own cc nL ret (pc + 1) lv (.int v :: st) I L R o N F) : PWk lo hi d own cc nL ret pc lv (st) I L R o N F := by
  intro a ho hN l D cA ad p e Rm s m args below meth c C H locs ls hP hS hl
  exact lv_iconst C.1.1 C.1.2.1 hd hv (k a ho hN l D cA ad p e Rm s m args below meth c C H locs ls hP hS hl)
theorem PWk.bipush {n : Int} {v : Int32} (hd : decode cc pc = .ok (.bipush n, 2)) (hv : (Int8.ofInt n).toInt32 = v) (k : PWk lo hi d own cc nL ret (pc + 2) lv (.int v :: st) I L R o N F) : PWk lo hi d own cc nL ret pc lv (st) I L R o N F := by
  intro a ho hN l D cA ad p e Rm s m args below meth c C H locs ls hP hS hl
  exact lv_bipush C.1.1 C.1.2.1 hd hv (k a ho hN l D cA ad p e Rm s m args below meth c C H locs ls hP hS hl)
theorem PWk.sipush {n : Int} {v : Int32} (hd : decode cc pc = .ok (.sipush n, 3)) (hv : (Int16.ofInt n).toInt32 = v) (k : PWk lo hi d own cc nL ret (pc + 3) lv (.int v :: st) I L R o N F) : PWk lo hi d own cc nL ret pc lv (st) I L R o N F := by
  intro a ho hN l D cA ad p e Rm s m args below meth c C H locs ls hP hS hl
  exact lv_sipush C.1.1 C.1.2.1 hd hv (k a ho hN l D cA ad p e Rm s m args below meth c C H locs ls hP hS hl)
theorem PWk.lconst {n : Fin 2} {v : Int64} (hd : decode cc pc = .ok (.lconst n, 1)) (hv : Int64.ofNat (n : Nat) = v) (k : PWk lo hi d own cc nL ret (pc + 1) lv (.long v :: st) I L R o N F) : PWk lo hi d own cc nL ret pc lv (st) I L R o N F := by
  intro a ho hN l D cA ad p e Rm s m args below meth c C H locs ls hP hS hl
  exact lv_lconst C.1.1 C.1.2.1 hd hv (k a ho hN l D cA ad p e Rm s m args below meth c C H locs ls hP hS hl)
theorem PWk.iload_n (j : Nat) {k : Fin 4} {x : Int32} (hd : decode cc pc = .ok (.iload_n k, 1)) (hj : lv[j]? = some ((k : Nat), .int x)) (kk : PWk lo hi d own cc nL ret (pc + 1) lv (.int x :: st) I L R o N F) : PWk lo hi d own cc nL ret pc lv st I L R o N F := by
  intro a ho hN l D cA ad p e Rm s m args below meth c C H locs ls hP hS hl
  exact lv_iload_n C.1.1 C.1.2.1 hd rfl (lvA hl hj) (kk a ho hN l D cA ad p e Rm s m args below meth c C H locs ls hP hS hl)
theorem PWk.iload (j : Nat) {i : Nat} {x : Int32} (hd : decode cc pc = .ok (.iload i, 2)) (hj : lv[j]? = some (i, .int x)) (kk : PWk lo hi d own cc nL ret (pc + 2) lv (.int x :: st) I L R o N F) : PWk lo hi d own cc nL ret pc lv st I L R o N F := by
  intro a ho hN l D cA ad p e Rm s m args below meth c C H locs ls hP hS hl
  exact lv_iload C.1.1 C.1.2.1 hd (lvA hl hj) (kk a ho hN l D cA ad p e Rm s m args below meth c C H locs ls hP hS hl)
theorem PWk.lload_n (j : Nat) {k : Fin 4} {x : Int64} (hd : decode cc pc = .ok (.lload_n k, 1)) (hj : lv[j]? = some ((k : Nat), .long x)) (kk : PWk lo hi d own cc nL ret (pc + 1) lv (.long x :: st) I L R o N F) : PWk lo hi d own cc nL ret pc lv st I L R o N F := by
  intro a ho hN l D cA ad p e Rm s m args below meth c C H locs ls hP hS hl
  exact lv_lload_n C.1.1 C.1.2.1 hd rfl (lvA hl hj) (kk a ho hN l D cA ad p e Rm s m args below meth c C H locs ls hP hS hl)
theorem PWk.lload (j : Nat) {i : Nat} {x : Int64} (hd : decode cc pc = .ok (.lload i, 2)) (hj : lv[j]? = some (i, .long x)) (kk : PWk lo hi d own cc nL ret (pc + 2) lv (.long x :: st) I L R o N F) : PWk lo hi d own cc nL ret pc lv st I L R o N F := by
  intro a ho hN l D cA ad p e Rm s m args below meth c C H locs ls hP hS hl
  exact lv_lload C.1.1 C.1.2.1 hd (lvA hl hj) (kk a ho hN l D cA ad p e Rm s m args below meth c C H locs ls hP hS hl)
theorem PWk.aload_n (j : Nat) {k : Fin 4} {x : Nat} (hd : decode cc pc = .ok (.aload_n k, 1)) (hj : lv[j]? = some ((k : Nat), .ref x)) (kk : PWk lo hi d own cc nL ret (pc + 1) lv (.ref x :: st) I L R o N F) : PWk lo hi d own cc nL ret pc lv st I L R o N F := by
  intro a ho hN l D cA ad p e Rm s m args below meth c C H locs ls hP hS hl
  exact lv_aload_n C.1.1 C.1.2.1 hd rfl (lvA hl hj) (kk a ho hN l D cA ad p e Rm s m args below meth c C H locs ls hP hS hl)
theorem PWk.aload (j : Nat) {i : Nat} {x : Nat} (hd : decode cc pc = .ok (.aload i, 2)) (hj : lv[j]? = some (i, .ref x)) (kk : PWk lo hi d own cc nL ret (pc + 2) lv (.ref x :: st) I L R o N F) : PWk lo hi d own cc nL ret pc lv st I L R o N F := by
  intro a ho hN l D cA ad p e Rm s m args below meth c C H locs ls hP hS hl
  exact lv_aload C.1.1 C.1.2.1 hd (lvA hl hj) (kk a ho hN l D cA ad p e Rm s m args below meth c C H locs ls hP hS hl)
theorem PWk.istore_n {k : Fin 4} {x : Int32} (lv' : List (Nat × Value)) (hd : decode cc pc = .ok (.istore_n k, 1)) (hn : (k : Nat) < nL) (hl' : lvs lv (k : Nat) (.int x) = lv') (kk : PWk lo hi d own cc nL ret (pc + 1) lv' st I L R o N F) : PWk lo hi d own cc nL ret pc lv (.int x :: st) I L R o N F := by
  subst hl'
  intro a ho hN l D cA ad p e Rm s m args below meth c C H locs ls hP hS hl
  exact lv_istore_n C.1.1 C.1.2.1 hd rfl hl hn (lvs_map ad lv _ (.int x)) (fun ls hl => kk a ho hN l D cA ad p e Rm s m args below meth c C H locs ls hP hS hl)
theorem PWk.istore {i : Nat} {x : Int32} (lv' : List (Nat × Value)) (hd : decode cc pc = .ok (.istore i, 2)) (hn : i < nL) (hl' : lvs lv i (.int x) = lv') (kk : PWk lo hi d own cc nL ret (pc + 2) lv' st I L R o N F) : PWk lo hi d own cc nL ret pc lv (.int x :: st) I L R o N F := by
  subst hl'
  intro a ho hN l D cA ad p e Rm s m args below meth c C H locs ls hP hS hl
  exact lv_istore C.1.1 C.1.2.1 hd hl hn (lvs_map ad lv _ (.int x)) (fun ls hl => kk a ho hN l D cA ad p e Rm s m args below meth c C H locs ls hP hS hl)
theorem PWk.astore_n {k : Fin 4} {x : Nat} (lv' : List (Nat × Value)) (hd : decode cc pc = .ok (.astore_n k, 1)) (hn : (k : Nat) < nL) (hl' : lvs lv (k : Nat) (.ref x) = lv') (kk : PWk lo hi d own cc nL ret (pc + 1) lv' st I L R o N F) : PWk lo hi d own cc nL ret pc lv (.ref x :: st) I L R o N F := by
  subst hl'
  intro a ho hN l D cA ad p e Rm s m args below meth c C H locs ls hP hS hl
  exact lv_astore_n C.1.1 C.1.2.1 hd rfl hl hn (lvs_map ad lv _ (.ref x)) (fun ls hl => kk a ho hN l D cA ad p e Rm s m args below meth c C H locs ls hP hS hl)
theorem PWk.astore {i : Nat} {x : Nat} (lv' : List (Nat × Value)) (hd : decode cc pc = .ok (.astore i, 2)) (hn : i < nL) (hl' : lvs lv i (.ref x) = lv') (kk : PWk lo hi d own cc nL ret (pc + 2) lv' st I L R o N F) : PWk lo hi d own cc nL ret pc lv (.ref x :: st) I L R o N F := by
  subst hl'
  intro a ho hN l D cA ad p e Rm s m args below meth c C H locs ls hP hS hl
  exact lv_astore C.1.1 C.1.2.1 hd hl hn (lvs_map ad lv _ (.ref x)) (fun ls hl => kk a ho hN l D cA ad p e Rm s m args below meth c C H locs ls hP hS hl)
theorem PWk.lstore_n {k : Fin 4} {x : Int64} (lv' : List (Nat × Value)) (hd : decode cc pc = .ok (.lstore_n k, 1)) (hn : (k : Nat) + 1 < nL) (hl' : lvl lv (k : Nat) (.long x) = lv') (kk : PWk lo hi d own cc nL ret (pc + 1) lv' st I L R o N F) : PWk lo hi d own cc nL ret pc lv (.long x :: st) I L R o N F := by
  subst hl'
  intro a ho hN l D cA ad p e Rm s m args below meth c C H locs ls hP hS hl
  exact lv_lstore_n C.1.1 C.1.2.1 hd rfl hl hn (lvl_map ad lv _ (.long x)) (fun ls hl => kk a ho hN l D cA ad p e Rm s m args below meth c C H locs ls hP hS hl)
theorem PWk.lstore {i : Nat} {x : Int64} (lv' : List (Nat × Value)) (hd : decode cc pc = .ok (.lstore i, 2)) (hn : i + 1 < nL) (hl' : lvl lv i (.long x) = lv') (kk : PWk lo hi d own cc nL ret (pc + 2) lv' st I L R o N F) : PWk lo hi d own cc nL ret pc lv (.long x :: st) I L R o N F := by
  subst hl'
  intro a ho hN l D cA ad p e Rm s m args below meth c C H locs ls hP hS hl
  exact lv_lstore C.1.1 C.1.2.1 hd hl hn (lvl_map ad lv _ (.long x)) (fun ls hl => kk a ho hN l D cA ad p e Rm s m args below meth c C H locs ls hP hS hl)
theorem PWk.iinc (j : Nat) {i : Nat} {n : Int} {x v : Int32} (lv' : List (Nat × Value)) (hd : decode cc pc = .ok (.iinc i n, 3)) (hj : lv[j]? = some (i, .int x)) (hv : x + Int32.ofInt n = v) (hn : i < nL) (hl' : lvs lv i (.int v) = lv') (kk : PWk lo hi d own cc nL ret (pc + 3) lv' st I L R o N F) : PWk lo hi d own cc nL ret pc lv st I L R o N F := by
  subst hl'
  intro a ho hN l D cA ad p e Rm s m args below meth c C H locs ls hP hS hl
  exact lv_iinc C.1.1 C.1.2.1 hd hl (k := j) (by rw [List.getElem?_map, hj]; rfl) hv hn (lvs_map ad lv _ (.int v)) (fun ls hl => kk a ho hN l D cA ad p e Rm s m args below meth c C H locs ls hP hS hl)
theorem PWk.iadd {x y : Int32} (hd : decode cc pc = .ok (.iadd, 1)) (k : PWk lo hi d own cc nL ret (pc + 1) lv (.int (x + y) :: st) I L R o N F) : PWk lo hi d own cc nL ret pc lv (.int y :: .int x :: st) I L R o N F := by
  intro a ho hN l D cA ad p e Rm s m args below meth c C H locs ls hP hS hl
  exact lv_iadd C.1.1 C.1.2.1 hd (k a ho hN l D cA ad p e Rm s m args below meth c C H locs ls hP hS hl)
theorem PWk.isub {x y : Int32} (hd : decode cc pc = .ok (.isub, 1)) (k : PWk lo hi d own cc nL ret (pc + 1) lv (.int (x - y) :: st) I L R o N F) : PWk lo hi d own cc nL ret pc lv (.int y :: .int x :: st) I L R o N F := by
  intro a ho hN l D cA ad p e Rm s m args below meth c C H locs ls hP hS hl
  exact lv_isub C.1.1 C.1.2.1 hd (k a ho hN l D cA ad p e Rm s m args below meth c C H locs ls hP hS hl)
theorem PWk.imul {x y : Int32} (hd : decode cc pc = .ok (.imul, 1)) (k : PWk lo hi d own cc nL ret (pc + 1) lv (.int (x * y) :: st) I L R o N F) : PWk lo hi d own cc nL ret pc lv (.int y :: .int x :: st) I L R o N F := by
  intro a ho hN l D cA ad p e Rm s m args below meth c C H locs ls hP hS hl
  exact lv_imul C.1.1 C.1.2.1 hd (k a ho hN l D cA ad p e Rm s m args below meth c C H locs ls hP hS hl)
theorem PWk.iand {x y : Int32} (hd : decode cc pc = .ok (.iand, 1)) (k : PWk lo hi d own cc nL ret (pc + 1) lv (.int (x &&& y) :: st) I L R o N F) : PWk lo hi d own cc nL ret pc lv (.int y :: .int x :: st) I L R o N F := by
  intro a ho hN l D cA ad p e Rm s m args below meth c C H locs ls hP hS hl
  exact lv_iand C.1.1 C.1.2.1 hd (k a ho hN l D cA ad p e Rm s m args below meth c C H locs ls hP hS hl)
theorem PWk.ior {x y : Int32} (hd : decode cc pc = .ok (.ior, 1)) (k : PWk lo hi d own cc nL ret (pc + 1) lv (.int (x ||| y) :: st) I L R o N F) : PWk lo hi d own cc nL ret pc lv (.int y :: .int x :: st) I L R o N F := by
  intro a ho hN l D cA ad p e Rm s m args below meth c C H locs ls hP hS hl
  exact lv_ior C.1.1 C.1.2.1 hd (k a ho hN l D cA ad p e Rm s m args below meth c C H locs ls hP hS hl)
theorem PWk.ixor {x y : Int32} (hd : decode cc pc = .ok (.ixor, 1)) (k : PWk lo hi d own cc nL ret (pc + 1) lv (.int (x ^^^ y) :: st) I L R o N F) : PWk lo hi d own cc nL ret pc lv (.int y :: .int x :: st) I L R o N F := by
  intro a ho hN l D cA ad p e Rm s m args below meth c C H locs ls hP hS hl
  exact lv_ixor C.1.1 C.1.2.1 hd (k a ho hN l D cA ad p e Rm s m args below meth c C H locs ls hP hS hl)
theorem PWk.ishl {x y : Int32} (hd : decode cc pc = .ok (.ishl, 1)) (k : PWk lo hi d own cc nL ret (pc + 1) lv (.int (x <<< (y &&& 31)) :: st) I L R o N F) : PWk lo hi d own cc nL ret pc lv (.int y :: .int x :: st) I L R o N F := by
  intro a ho hN l D cA ad p e Rm s m args below meth c C H locs ls hP hS hl
  exact lv_ishl C.1.1 C.1.2.1 hd (k a ho hN l D cA ad p e Rm s m args below meth c C H locs ls hP hS hl)
theorem PWk.ishr {x y : Int32} (hd : decode cc pc = .ok (.ishr, 1)) (k : PWk lo hi d own cc nL ret (pc + 1) lv (.int (x >>> (y &&& 31)) :: st) I L R o N F) : PWk lo hi d own cc nL ret pc lv (.int y :: .int x :: st) I L R o N F := by
  intro a ho hN l D cA ad p e Rm s m args below meth c C H locs ls hP hS hl
  exact lv_ishr C.1.1 C.1.2.1 hd (k a ho hN l D cA ad p e Rm s m args below meth c C H locs ls hP hS hl)
theorem PWk.ladd {x y : Int64} (hd : decode cc pc = .ok (.ladd, 1)) (k : PWk lo hi d own cc nL ret (pc + 1) lv (.long (x + y) :: st) I L R o N F) : PWk lo hi d own cc nL ret pc lv (.long y :: .long x :: st) I L R o N F := by
  intro a ho hN l D cA ad p e Rm s m args below meth c C H locs ls hP hS hl
  exact lv_ladd C.1.1 C.1.2.1 hd (k a ho hN l D cA ad p e Rm s m args below meth c C H locs ls hP hS hl)
theorem PWk.lsub {x y : Int64} (hd : decode cc pc = .ok (.lsub, 1)) (k : PWk lo hi d own cc nL ret (pc + 1) lv (.long (x - y) :: st) I L R o N F) : PWk lo hi d own cc nL ret pc lv (.long y :: .long x :: st) I L R o N F := by
  intro a ho hN l D cA ad p e Rm s m args below meth c C H locs ls hP hS hl
  exact lv_lsub C.1.1 C.1.2.1 hd (k a ho hN l D cA ad p e Rm s m args below meth c C H locs ls hP hS hl)
theorem PWk.lmul {x y : Int64} (hd : decode cc pc = .ok (.lmul, 1)) (k : PWk lo hi d own cc nL ret (pc + 1) lv (.long (x * y) :: st) I L R o N F) : PWk lo hi d own cc nL ret pc lv (.long y :: .long x :: st) I L R o N F := by
  intro a ho hN l D cA ad p e Rm s m args below meth c C H locs ls hP hS hl
  exact lv_lmul C.1.1 C.1.2.1 hd (k a ho hN l D cA ad p e Rm s m args below meth c C H locs ls hP hS hl)
theorem PWk.land {x y : Int64} (hd : decode cc pc = .ok (.land, 1)) (k : PWk lo hi d own cc nL ret (pc + 1) lv (.long (x &&& y) :: st) I L R o N F) : PWk lo hi d own cc nL ret pc lv (.long y :: .long x :: st) I L R o N F := by
  intro a ho hN l D cA ad p e Rm s m args below meth c C H locs ls hP hS hl
  exact lv_land C.1.1 C.1.2.1 hd (k a ho hN l D cA ad p e Rm s m args below meth c C H locs ls hP hS hl)
theorem PWk.lor {x y : Int64} (hd : decode cc pc = .ok (.lor, 1)) (k : PWk lo hi d own cc nL ret (pc + 1) lv (.long (x ||| y) :: st) I L R o N F) : PWk lo hi d own cc nL ret pc lv (.long y :: .long x :: st) I L R o N F := by
  intro a ho hN l D cA ad p e Rm s m args below meth c C H locs ls hP hS hl
  exact lv_lor C.1.1 C.1.2.1 hd (k a ho hN l D cA ad p e Rm s m args below meth c C H locs ls hP hS hl)
theorem PWk.lxor {x y : Int64} (hd : decode cc pc = .ok (.lxor, 1)) (k : PWk lo hi d own cc nL ret (pc + 1) lv (.long (x ^^^ y) :: st) I L R o N F) : PWk lo hi d own cc nL ret pc lv (.long y :: .long x :: st) I L R o N F := by
  intro a ho hN l D cA ad p e Rm s m args below meth c C H locs ls hP hS hl
  exact lv_lxor C.1.1 C.1.2.1 hd (k a ho hN l D cA ad p e Rm s m args below meth c C H locs ls hP hS hl)
theorem PWk.ineg {x : Int32} (hd : decode cc pc = .ok (.ineg, 1)) (k : PWk lo hi d own cc nL ret (pc + 1) lv (.int (-x) :: st) I L R o N F) : PWk lo hi d own cc nL ret pc lv (.int x :: st) I L R o N F := by
  intro a ho hN l D cA ad p e Rm s m args below meth c C H locs ls hP hS hl
  exact lv_ineg C.1.1 C.1.2.1 hd (k a ho hN l D cA ad p e Rm s m args below meth c C H locs ls hP hS hl)
theorem PWk.i2l {x : Int32} (hd : decode cc pc = .ok (.i2l, 1)) (k : PWk lo hi d own cc nL ret (pc + 1) lv (.long (x.toInt64) :: st) I L R o N F) : PWk lo hi d own cc nL ret pc lv (.int x :: st) I L R o N F := by
  intro a ho hN l D cA ad p e Rm s m args below meth c C H locs ls hP hS hl
  exact lv_i2l C.1.1 C.1.2.1 hd rfl (k a ho hN l D cA ad p e Rm s m args below meth c C H locs ls hP hS hl)
theorem PWk.l2i {x : Int64} (hd : decode cc pc = .ok (.l2i, 1)) (k : PWk lo hi d own cc nL ret (pc + 1) lv (.int (x.toInt32) :: st) I L R o N F) : PWk lo hi d own cc nL ret pc lv (.long x :: st) I L R o N F := by
  intro a ho hN l D cA ad p e Rm s m args below meth c C H locs ls hP hS hl
  exact lv_l2i C.1.1 C.1.2.1 hd rfl (k a ho hN l D cA ad p e Rm s m args below meth c C H locs ls hP hS hl)
theorem PWk.iushr {x y : Int32} (hd : decode cc pc = .ok (.iushr, 1)) (k : PWk lo hi d own cc nL ret (pc + 1) lv (.int ((x.toUInt32 >>> (y.toUInt32 &&& Int32.toUInt32 31)).toInt32) :: st) I L R o N F) : PWk lo hi d own cc nL ret pc lv (.int y :: .int x :: st) I L R o N F := by
  intro a ho hN l D cA ad p e Rm s m args below meth c C H locs ls hP hS hl
  exact lv_iushr C.1.1 C.1.2.1 hd rfl (k a ho hN l D cA ad p e Rm s m args below meth c C H locs ls hP hS hl)
theorem PWk.lshl {x : Int64} {y : Int32} (hd : decode cc pc = .ok (.lshl, 1)) (k : PWk lo hi d own cc nL ret (pc + 1) lv (.long (x <<< (y.toInt64 &&& 63)) :: st) I L R o N F) : PWk lo hi d own cc nL ret pc lv (.int y :: .long x :: st) I L R o N F := by
  intro a ho hN l D cA ad p e Rm s m args below meth c C H locs ls hP hS hl
  exact lv_lshl C.1.1 C.1.2.1 hd rfl (k a ho hN l D cA ad p e Rm s m args below meth c C H locs ls hP hS hl)
theorem PWk.lshr {x : Int64} {y : Int32} (hd : decode cc pc = .ok (.lshr, 1)) (k : PWk lo hi d own cc nL ret (pc + 1) lv (.long (x >>> (y.toInt64 &&& 63)) :: st) I L R o N F) : PWk lo hi d own cc nL ret pc lv (.int y :: .long x :: st) I L R o N F := by
  intro a ho hN l D cA ad p e Rm s m args below meth c C H locs ls hP hS hl
  exact lv_lshr C.1.1 C.1.2.1 hd rfl (k a ho hN l D cA ad p e Rm s m args below meth c C H locs ls hP hS hl)
theorem PWk.lcmp {x y : Int64} (hd : decode cc pc = .ok (.lcmp, 1)) (k : PWk lo hi d own cc nL ret (pc + 1) lv (.int (lg_cmp x y) :: st) I L R o N F) : PWk lo hi d own cc nL ret pc lv (.long y :: .long x :: st) I L R o N F := by
  intro a ho hN l D cA ad p e Rm s m args below meth c C H locs ls hP hS hl
  exact W.lcmp C.1.1 C.1.2.1 hd (k a ho hN l D cA ad p e Rm s m args below meth c C H locs ls hP hS hl)
theorem PWk.dup {v : Value} (hd : decode cc pc = .ok (.dup, 1)) (hc : v.category = 1) (k : PWk lo hi d own cc nL ret (pc + 1) lv (v :: v :: st) I L R o N F) : PWk lo hi d own cc nL ret pc lv (v :: st) I L R o N F := by
  intro a ho hN l D cA ad p e Rm s m args below meth c C H locs ls hP hS hl
  exact lv_dup C.1.1 C.1.2.1 hd (by rw [mv_cat]; exact hc) (k a ho hN l D cA ad p e Rm s m args below meth c C H locs ls hP hS hl)
theorem PWk.pop {v : Value} (hd : decode cc pc = .ok (.pop, 1)) (hc : v.category = 1) (k : PWk lo hi d own cc nL ret (pc + 1) lv (st) I L R o N F) : PWk lo hi d own cc nL ret pc lv (v :: st) I L R o N F := by
  intro a ho hN l D cA ad p e Rm s m args below meth c C H locs ls hP hS hl
  exact lv_pop C.1.1 C.1.2.1 hd (by rw [mv_cat]; exact hc) (k a ho hN l D cA ad p e Rm s m args below meth c C H locs ls hP hS hl)
theorem PWk.dup_x1 {u v : Value} (hd : decode cc pc = .ok (.dup_x1, 1)) (hc : u.category = 1) (hc2 : v.category = 1) (k : PWk lo hi d own cc nL ret (pc + 1) lv (u :: v :: u :: st) I L R o N F) : PWk lo hi d own cc nL ret pc lv (u :: v :: st) I L R o N F := by
  intro a ho hN l D cA ad p e Rm s m args below meth c C H locs ls hP hS hl
  exact lv_dup_x1 C.1.1 C.1.2.1 hd (by rw [mv_cat]; exact hc) (by rw [mv_cat]; exact hc2) (k a ho hN l D cA ad p e Rm s m args below meth c C H locs ls hP hS hl)
theorem PWk.dup2 {u v : Value} (hd : decode cc pc = .ok (.dup2, 1)) (hc : u.category = 1) (hc2 : v.category = 1) (k : PWk lo hi d own cc nL ret (pc + 1) lv (u :: v :: u :: v :: st) I L R o N F) : PWk lo hi d own cc nL ret pc lv (u :: v :: st) I L R o N F := by
  intro a ho hN l D cA ad p e Rm s m args below meth c C H locs ls hP hS hl
  exact lv_dup2_11 C.1.1 C.1.2.1 hd (by rw [mv_cat]; exact hc) (by rw [mv_cat]; exact hc2) (k a ho hN l D cA ad p e Rm s m args below meth c C H locs ls hP hS hl)
def dvI {α : Type} (y : Int32) (o : Option α) : Option α := if y = 0 then none else o
def dvL {α : Type} (y : Int64) (o : Option α) : Option α := if y = 0 then none else o
theorem PWk.idiv {x y : Int32} (hd : decode cc pc = .ok (.idiv, 1)) (k : PWk lo hi d own cc nL ret (pc + 1) lv (.int (x / y) :: st) I L R o N F) : PWk lo hi d own cc nL ret pc lv (.int y :: .int x :: st) I L R (dvI y o) N F := by
  intro a ho hN l D cA ad p e Rm s m args below meth c C H locs ls hP hS hl
  unfold dvI at ho
  by_cases h0 : y = 0
  · rw [if_pos h0] at ho; cases ho
  · rw [if_neg h0] at ho
    exact lv_idiv C.1.1 C.1.2.1 hd h0 (k a ho hN l D cA ad p e Rm s m args below meth c C H locs ls hP hS hl)
theorem PWk.irem {x y : Int32} (hd : decode cc pc = .ok (.irem, 1)) (k : PWk lo hi d own cc nL ret (pc + 1) lv (.int (x - x / y * y) :: st) I L R o N F) : PWk lo hi d own cc nL ret pc lv (.int y :: .int x :: st) I L R (dvI y o) N F := by
  intro a ho hN l D cA ad p e Rm s m args below meth c C H locs ls hP hS hl
  unfold dvI at ho
  by_cases h0 : y = 0
  · rw [if_pos h0] at ho; cases ho
  · rw [if_neg h0] at ho
    exact lv_irem C.1.1 C.1.2.1 hd h0 (k a ho hN l D cA ad p e Rm s m args below meth c C H locs ls hP hS hl)
theorem PWk.ldiv {x y : Int64} (hd : decode cc pc = .ok (.ldiv, 1)) (k : PWk lo hi d own cc nL ret (pc + 1) lv (.long (x / y) :: st) I L R o N F) : PWk lo hi d own cc nL ret pc lv (.long y :: .long x :: st) I L R (dvL y o) N F := by
  intro a ho hN l D cA ad p e Rm s m args below meth c C H locs ls hP hS hl
  unfold dvL at ho
  by_cases h0 : y = 0
  · rw [if_pos h0] at ho; cases ho
  · rw [if_neg h0] at ho
    exact lv_ldiv C.1.1 C.1.2.1 hd h0 (k a ho hN l D cA ad p e Rm s m args below meth c C H locs ls hP hS hl)
theorem PWk.lrem {x y : Int64} (hd : decode cc pc = .ok (.lrem, 1)) (k : PWk lo hi d own cc nL ret (pc + 1) lv (.long (x - x / y * y) :: st) I L R o N F) : PWk lo hi d own cc nL ret pc lv (.long y :: .long x :: st) I L R (dvL y o) N F := by
  intro a ho hN l D cA ad p e Rm s m args below meth c C H locs ls hP hS hl
  unfold dvL at ho
  by_cases h0 : y = 0
  · rw [if_pos h0] at ho; cases ho
  · rw [if_neg h0] at ho
    exact lv_lrem C.1.1 C.1.2.1 hd h0 (k a ho hN l D cA ad p e Rm s m args below meth c C H locs ls hP hS hl)
theorem PWk.icmp_eq {x y : Int32} {off : Int} (tgt : Nat) {A B : Option α} (hd : decode cc pc = .ok (.if_icmp .eq off, 3)) (ht : (pc : Int) + off = (tgt : Int)) (kt : x = y → PWk lo hi d own cc nL ret tgt lv st I L R A N F) (kf : ¬ x = y → PWk lo hi d own cc nL ret (pc + 3) lv st I L R B N F) : PWk lo hi d own cc nL ret pc lv (.int y :: .int x :: st) I L R (if x = y then A else B) N F := by
  intro a ho hN l D cA ad p e Rm s m args below meth c C H locs ls hP hS hl
  refine lv_icmp_eq C.1.1 C.1.2.1 hd ht (fun h => ?_) (fun h => ?_)
  · rw [if_pos h] at ho; exact kt h a ho hN l D cA ad p e Rm s m args below meth c C H locs ls hP hS hl
  · rw [if_neg h] at ho; exact kf h a ho hN l D cA ad p e Rm s m args below meth c C H locs ls hP hS hl
theorem PWk.if_eq {x : Int32} {off : Int} (tgt : Nat) {A B : Option α} (hd : decode cc pc = .ok (.ifCond .eq off, 3)) (ht : (pc : Int) + off = (tgt : Int)) (kt : x = 0 → PWk lo hi d own cc nL ret tgt lv st I L R A N F) (kf : ¬ x = 0 → PWk lo hi d own cc nL ret (pc + 3) lv st I L R B N F) : PWk lo hi d own cc nL ret pc lv (.int x :: st) I L R (if x = 0 then A else B) N F := by
  intro a ho hN l D cA ad p e Rm s m args below meth c C H locs ls hP hS hl
  refine lv_if_eq C.1.1 C.1.2.1 hd ht (fun h => ?_) (fun h => ?_)
  · rw [if_pos h] at ho; exact kt h a ho hN l D cA ad p e Rm s m args below meth c C H locs ls hP hS hl
  · rw [if_neg h] at ho; exact kf h a ho hN l D cA ad p e Rm s m args below meth c C H locs ls hP hS hl
theorem PWk.icmp_ne {x y : Int32} {off : Int} (tgt : Nat) {A B : Option α} (hd : decode cc pc = .ok (.if_icmp .ne off, 3)) (ht : (pc : Int) + off = (tgt : Int)) (kt : x = y → PWk lo hi d own cc nL ret (pc + 3) lv st I L R A N F) (kf : ¬ x = y → PWk lo hi d own cc nL ret tgt lv st I L R B N F) : PWk lo hi d own cc nL ret pc lv (.int y :: .int x :: st) I L R (if x = y then A else B) N F := by
  intro a ho hN l D cA ad p e Rm s m args below meth c C H locs ls hP hS hl
  refine lv_icmp_ne C.1.1 C.1.2.1 hd ht (fun h => ?_) (fun h => ?_)
  · rw [if_neg h] at ho; exact kf h a ho hN l D cA ad p e Rm s m args below meth c C H locs ls hP hS hl
  · rw [if_pos h] at ho; exact kt h a ho hN l D cA ad p e Rm s m args below meth c C H locs ls hP hS hl
theorem PWk.if_ne {x : Int32} {off : Int} (tgt : Nat) {A B : Option α} (hd : decode cc pc = .ok (.ifCond .ne off, 3)) (ht : (pc : Int) + off = (tgt : Int)) (kt : x = 0 → PWk lo hi d own cc nL ret (pc + 3) lv st I L R A N F) (kf : ¬ x = 0 → PWk lo hi d own cc nL ret tgt lv st I L R B N F) : PWk lo hi d own cc nL ret pc lv (.int x :: st) I L R (if x = 0 then A else B) N F := by
  intro a ho hN l D cA ad p e Rm s m args below meth c C H locs ls hP hS hl
  refine lv_if_ne C.1.1 C.1.2.1 hd ht (fun h => ?_) (fun h => ?_)
  · rw [if_neg h] at ho; exact kf h a ho hN l D cA ad p e Rm s m args below meth c C H locs ls hP hS hl
  · rw [if_pos h] at ho; exact kt h a ho hN l D cA ad p e Rm s m args below meth c C H locs ls hP hS hl
theorem PWk.icmp_lt {x y : Int32} {off : Int} (tgt : Nat) {A B : Option α} (hd : decode cc pc = .ok (.if_icmp .lt off, 3)) (ht : (pc : Int) + off = (tgt : Int)) (kt : x < y → PWk lo hi d own cc nL ret tgt lv st I L R A N F) (kf : ¬ x < y → PWk lo hi d own cc nL ret (pc + 3) lv st I L R B N F) : PWk lo hi d own cc nL ret pc lv (.int y :: .int x :: st) I L R (if x < y then A else B) N F := by
  intro a ho hN l D cA ad p e Rm s m args below meth c C H locs ls hP hS hl
  refine lv_icmp_lt C.1.1 C.1.2.1 hd ht (fun h => ?_) (fun h => ?_)
  · rw [if_pos h] at ho; exact kt h a ho hN l D cA ad p e Rm s m args below meth c C H locs ls hP hS hl
  · rw [if_neg h] at ho; exact kf h a ho hN l D cA ad p e Rm s m args below meth c C H locs ls hP hS hl
theorem PWk.if_lt {x : Int32} {off : Int} (tgt : Nat) {A B : Option α} (hd : decode cc pc = .ok (.ifCond .lt off, 3)) (ht : (pc : Int) + off = (tgt : Int)) (kt : x < 0 → PWk lo hi d own cc nL ret tgt lv st I L R A N F) (kf : ¬ x < 0 → PWk lo hi d own cc nL ret (pc + 3) lv st I L R B N F) : PWk lo hi d own cc nL ret pc lv (.int x :: st) I L R (if x < 0 then A else B) N F := by
  intro a ho hN l D cA ad p e Rm s m args below meth c C H locs ls hP hS hl
  refine lv_if_lt C.1.1 C.1.2.1 hd ht (fun h => ?_) (fun h => ?_)
  · rw [if_pos h] at ho; exact kt h a ho hN l D cA ad p e Rm s m args below meth c C H locs ls hP hS hl
  · rw [if_neg h] at ho; exact kf h a ho hN l D cA ad p e Rm s m args below meth c C H locs ls hP hS hl
theorem PWk.icmp_ge {x y : Int32} {off : Int} (tgt : Nat) {A B : Option α} (hd : decode cc pc = .ok (.if_icmp .ge off, 3)) (ht : (pc : Int) + off = (tgt : Int)) (kt : y ≤ x → PWk lo hi d own cc nL ret tgt lv st I L R A N F) (kf : ¬ y ≤ x → PWk lo hi d own cc nL ret (pc + 3) lv st I L R B N F) : PWk lo hi d own cc nL ret pc lv (.int y :: .int x :: st) I L R (if y ≤ x then A else B) N F := by
  intro a ho hN l D cA ad p e Rm s m args below meth c C H locs ls hP hS hl
  refine lv_icmp_ge C.1.1 C.1.2.1 hd ht (fun h => ?_) (fun h => ?_)
  · rw [if_pos h] at ho; exact kt h a ho hN l D cA ad p e Rm s m args below meth c C H locs ls hP hS hl
  · rw [if_neg h] at ho; exact kf h a ho hN l D cA ad p e Rm s m args below meth c C H locs ls hP hS hl
theorem PWk.if_ge {x : Int32} {off : Int} (tgt : Nat) {A B : Option α} (hd : decode cc pc = .ok (.ifCond .ge off, 3)) (ht : (pc : Int) + off = (tgt : Int)) (kt : 0 ≤ x → PWk lo hi d own cc nL ret tgt lv st I L R A N F) (kf : ¬ 0 ≤ x → PWk lo hi d own cc nL ret (pc + 3) lv st I L R B N F) : PWk lo hi d own cc nL ret pc lv (.int x :: st) I L R (if 0 ≤ x then A else B) N F := by
  intro a ho hN l D cA ad p e Rm s m args below meth c C H locs ls hP hS hl
  refine lv_if_ge C.1.1 C.1.2.1 hd ht (fun h => ?_) (fun h => ?_)
  · rw [if_pos h] at ho; exact kt h a ho hN l D cA ad p e Rm s m args below meth c C H locs ls hP hS hl
  · rw [if_neg h] at ho; exact kf h a ho hN l D cA ad p e Rm s m args below meth c C H locs ls hP hS hl
theorem PWk.icmp_gt {x y : Int32} {off : Int} (tgt : Nat) {A B : Option α} (hd : decode cc pc = .ok (.if_icmp .gt off, 3)) (ht : (pc : Int) + off = (tgt : Int)) (kt : y < x → PWk lo hi d own cc nL ret tgt lv st I L R A N F) (kf : ¬ y < x → PWk lo hi d own cc nL ret (pc + 3) lv st I L R B N F) : PWk lo hi d own cc nL ret pc lv (.int y :: .int x :: st) I L R (if y < x then A else B) N F := by
  intro a ho hN l D cA ad p e Rm s m args below meth c C H locs ls hP hS hl
  refine lv_icmp_gt C.1.1 C.1.2.1 hd ht (fun h => ?_) (fun h => ?_)
  · rw [if_pos h] at ho; exact kt h a ho hN l D cA ad p e Rm s m args below meth c C H locs ls hP hS hl
  · rw [if_neg h] at ho; exact kf h a ho hN l D cA ad p e Rm s m args below meth c C H locs ls hP hS hl
theorem PWk.if_gt {x : Int32} {off : Int} (tgt : Nat) {A B : Option α} (hd : decode cc pc = .ok (.ifCond .gt off, 3)) (ht : (pc : Int) + off = (tgt : Int)) (kt : 0 < x → PWk lo hi d own cc nL ret tgt lv st I L R A N F) (kf : ¬ 0 < x → PWk lo hi d own cc nL ret (pc + 3) lv st I L R B N F) : PWk lo hi d own cc nL ret pc lv (.int x :: st) I L R (if 0 < x then A else B) N F := by
  intro a ho hN l D cA ad p e Rm s m args below meth c C H locs ls hP hS hl
  refine lv_if_gt C.1.1 C.1.2.1 hd ht (fun h => ?_) (fun h => ?_)
  · rw [if_pos h] at ho; exact kt h a ho hN l D cA ad p e Rm s m args below meth c C H locs ls hP hS hl
  · rw [if_neg h] at ho; exact kf h a ho hN l D cA ad p e Rm s m args below meth c C H locs ls hP hS hl
theorem PWk.icmp_le {x y : Int32} {off : Int} (tgt : Nat) {A B : Option α} (hd : decode cc pc = .ok (.if_icmp .le off, 3)) (ht : (pc : Int) + off = (tgt : Int)) (kt : x ≤ y → PWk lo hi d own cc nL ret tgt lv st I L R A N F) (kf : ¬ x ≤ y → PWk lo hi d own cc nL ret (pc + 3) lv st I L R B N F) : PWk lo hi d own cc nL ret pc lv (.int y :: .int x :: st) I L R (if x ≤ y then A else B) N F := by
  intro a ho hN l D cA ad p e Rm s m args below meth c C H locs ls hP hS hl
  refine lv_icmp_le C.1.1 C.1.2.1 hd ht (fun h => ?_) (fun h => ?_)
  · rw [if_pos h] at ho; exact kt h a ho hN l D cA ad p e Rm s m args below meth c C H locs ls hP hS hl
  · rw [if_neg h] at ho; exact kf h a ho hN l D cA ad p e Rm s m args below meth c C H locs ls hP hS hl
theorem PWk.if_le {x : Int32} {off : Int} (tgt : Nat) {A B : Option α} (hd : decode cc pc = .ok (.ifCond .le off, 3)) (ht : (pc : Int) + off = (tgt : Int)) (kt : x ≤ 0 → PWk lo hi d own cc nL ret tgt lv st I L R A N F) (kf : ¬ x ≤ 0 → PWk lo hi d own cc nL ret (pc + 3) lv st I L R B N F) : PWk lo hi d own cc nL ret pc lv (.int x :: st) I L R (if x ≤ 0 then A else B) N F := by
  intro a ho hN l D cA ad p e Rm s m args below meth c C H locs ls hP hS hl
  refine lv_if_le C.1.1 C.1.2.1 hd ht (fun h => ?_) (fun h => ?_)
  · rw [if_pos h] at ho; exact kt h a ho hN l D cA ad p e Rm s m args below meth c C H locs ls hP hS hl
  · rw [if_neg h] at ho; exact kf h a ho hN l D cA ad p e Rm s m args below meth c C H locs ls hP hS hl
theorem PWk.goto {off : Int} (tgt : Nat) (hd : decode cc pc = .ok (.goto off, 3)) (ht : (pc : Int) + off = (tgt : Int)) (k : PWk lo hi d own cc nL ret tgt lv st I L R o N F) : PWk lo hi d own cc nL ret pc lv st I L R o N F := by
  intro a ho hN l D cA ad p e Rm s m args below meth c C H locs ls hP hS hl
  exact lv_goto C.1.1 C.1.2.1 hd ht (k a ho hN l D cA ad p e Rm s m args below meth c C H locs ls hP hS hl)
theorem PWk.tIn {x : Int32} {dflt lo' hi' : Int} {offs : Array Int} {len : Nat} {off : Int} (tgt : Nat) {v : Int} (hd : decode cc pc = .ok (.tableswitch dflt lo' hi' offs, len)) (hx : x.toInt = v) (h1 : ¬ v < lo') (h2 : ¬ hi' < v) (ho' : offs[(v - lo').toNat]? = some off) (ht : (pc : Int) + off = (tgt : Int)) (k : PWk lo hi d own cc nL ret tgt lv st I L R o N F) : PWk lo hi d own cc nL ret pc lv (.int x :: st) I L R o N F := by
  subst hx
  intro a ho hN l D cA ad p e Rm s m args below meth c C H locs ls hP hS hl
  exact lv_tableIn C.1.1 C.1.2.1 hd h1 h2 ho' ht (k a ho hN l D cA ad p e Rm s m args below meth c C H locs ls hP hS hl)
theorem PWk.tOut {x : Int32} {dflt lo' hi' : Int} {offs : Array Int} {len : Nat} (tgt : Nat) (hd : decode cc pc = .ok (.tableswitch dflt lo' hi' offs, len)) (h : x.toInt < lo' ∨ hi' < x.toInt) (ht : (pc : Int) + dflt = (tgt : Int)) (k : PWk lo hi d own cc nL ret tgt lv st I L R o N F) : PWk lo hi d own cc nL ret pc lv (.int x :: st) I L R o N F := by
  intro a ho hN l D cA ad p e Rm s m args below meth c C H locs ls hP hS hl
  exact lv_tableOut C.1.1 C.1.2.1 hd h ht (k a ho hN l D cA ad p e Rm s m args below meth c C H locs ls hP hS hl)
theorem PWk.look {x : Int32} {dflt : Int} {ps : Array (Int × Int)} {len : Nat} {off : Int} (tgt : Nat) (hd : decode cc pc = .ok (.lookupswitch dflt ps, len)) (hp : (ps.toList.zip (ps.toList.drop 1)).all (fun (a, next) => a.1 < next.1) = true) (ho' : Op.lookupswitch.offset ps.toList dflt x.toInt = off) (ht : (pc : Int) + off = (tgt : Int)) (k : PWk lo hi d own cc nL ret tgt lv st I L R o N F) : PWk lo hi d own cc nL ret pc lv (.int x :: st) I L R o N F := by
  intro a ho hN l D cA ad p e Rm s m args below meth c C H locs ls hP hS hl
  exact lv_lookup C.1.1 C.1.2.1 hd hp ho' ht (k a ho hN l D cA ad p e Rm s m args below meth c C H locs ls hP hS hl)
theorem PWk.ite {c : Prop} [Decidable c] {A B : Option α} (kt : c → PWk lo hi d own cc nL ret pc lv st I L R A N F) (kf : ¬ c → PWk lo hi d own cc nL ret pc lv st I L R B N F) : PWk lo hi d own cc nL ret pc lv st I L R (if c then A else B) N F := by
  by_cases h : c
  · rw [if_pos h]; exact kt h
  · rw [if_neg h]; exact kf h
theorem PWk.ldc {idx : Nat} {v : Int32} (hd : decode cc pc = .ok (.ldc idx, 2)) (hw : Cond.constant own idx v ∈ TBL) (k : PWk lo hi d own cc nL ret (pc + 2) lv (.int v :: st) I L R o N F) : PWk lo hi d own cc nL ret pc lv st I L R o N F := by
  intro a ho hN l D cA ad p e Rm s m args below meth c C H locs ls hP hS hl
  exact lv_ldc C.1.1 C.1.2.1 C.1.2.2.2.1 (C.1.2.2.2.2 _ hw) hd (k a ho hN l D cA ad p e Rm s m args below meth c C H locs ls hP hS hl)
theorem PWk.ldcw {idx : Nat} {v : Int32} (hd : decode cc pc = .ok (.ldc_w idx, 3)) (hw : Cond.constant own idx v ∈ TBL) (k : PWk lo hi d own cc nL ret (pc + 3) lv (.int v :: st) I L R o N F) : PWk lo hi d own cc nL ret pc lv st I L R o N F := by
  intro a ho hN l D cA ad p e Rm s m args below meth c C H locs ls hP hS hl
  exact lv_ldcw C.1.1 C.1.2.1 C.1.2.2.2.1 (C.1.2.2.2.2 _ hw) hd (k a ho hN l D cA ad p e Rm s m args below meth c C H locs ls hP hS hl)
theorem PWk.ldc2 {idx : Nat} {v : Int64} (hd : decode cc pc = .ok (.ldc2_w idx, 3)) (hw : Cond.constantLong own idx v ∈ TBL) (k : PWk lo hi d own cc nL ret (pc + 3) lv (.long v :: st) I L R o N F) : PWk lo hi d own cc nL ret pc lv st I L R o N F := by
  intro a ho hN l D cA ad p e Rm s m args below meth c C H locs ls hP hS hl
  exact lv_ldc2 C.1.1 C.1.2.1 C.1.2.2.2.1 (C.1.2.2.2.2 _ hw) hd (k a ho hN l D cA ad p e Rm s m args below meth c C H locs ls hP hS hl)
theorem PWk.sub (ks : List Nat) {lv' : List (Nat × Value)} (hs : lv_pick lv ks = lv') (k : PWk lo hi d own cc nL ret pc lv' st I L R o N F) : PWk lo hi d own cc nL ret pc lv st I L R o N F := by
  subst hs
  intro a ho hN l D cA ad p e Rm s m args below meth c C H locs ls hP hS hl
  refine k a ho hN l D cA ad p e Rm s m args below meth c C H locs ls hP hS (lv_sub hl ks ?_)
  unfold lv_pick
  rw [List.map_filterMap]
  congr 1
  funext i
  rw [List.getElem?_map]
def bnd {α β : Type} (e : β) (k : β → Option α) : Option α := k e
theorem PWk.bi {x : Int32} {g : Int32 → Option α} (k : ∀ v : Int32, PWk lo hi d own cc nL ret pc lv (.int v :: st) I L R (g v) N F) : PWk lo hi d own cc nL ret pc lv (.int x :: st) I L R (bnd x g) N F := k x
theorem PWk.bl {x : Int64} {g : Int64 → Option α} (k : ∀ v : Int64, PWk lo hi d own cc nL ret pc lv (.long v :: st) I L R (g v) N F) : PWk lo hi d own cc nL ret pc lv (.long x :: st) I L R (bnd x g) N F := k x
theorem PWk.bI {J : HI} {g : HI → Option α} (k : ∀ I : HI, PWk lo hi d own cc nL ret pc lv st I L R (g I) N F) : PWk lo hi d own cc nL ret pc lv st J L R (bnd J g) N F := k J
theorem PWk.bL {J : HL} {g : HL → Option α} (k : ∀ L : HL, PWk lo hi d own cc nL ret pc lv st I L R (g L) N F) : PWk lo hi d own cc nL ret pc lv st I J R (bnd J g) N F := k J
theorem PWk.bR {J : HR} {g : HR → Option α} (k : ∀ R : HR, PWk lo hi d own cc nL ret pc lv st I L R (g R) N F) : PWk lo hi d own cc nL ret pc lv st I L J (bnd J g) N F := k J
theorem PWk.done {a : α} (h : N a → PW lo hi d own cc nL ret pc lv st I L R F) : PWk lo hi d own cc nL ret pc lv st I L R (some a) N F := by
  intro b hb hN
  cases hb
  exact h hN
theorem PWk.none' : PWk lo hi d own cc nL ret pc lv st I L R (none : Option α) N F := by
  intro b hb
  cases hb
theorem PWk.bind {β : Type} {g : Option β} {k : β → Option α} (h : PWk lo hi d own cc nL ret pc lv st I L R g (fun b => ∃ a, k b = some a ∧ N a) F) : PWk lo hi d own cc nL ret pc lv st I L R (g.bind k) N F := by
  intro a ha hN
  cases hg : g with
  | none => rw [hg] at ha; cases ha
  | some b => rw [hg] at ha; exact h b hg ⟨a, ha, hN⟩
theorem PWk.iret {a : α} {v : Int32} (hd : decode cc pc = .ok (.ireturn, 1)) (hr : ret = some .int) (hF : N a → F = (some (.int v), I, L, R)) : PWk lo hi d own cc nL ret pc lv [.int v] I L R (some a) N F := by
  intro b hb hN l D cA ad p e Rm s m args below meth c C H locs ls hP hS hl
  cases hb
  have hF := hF hN
  subst hF
  exact W.iret C.1.1 C.1.2.1 (C.2.1.trans hr) (fun t ht hW => ⟨⟨rfl, by rw [ht]; exact hP⟩, hS.F ht⟩) hS.2.2 hd C.2.2.1
def gz {α : Type} (v : Int32) (o : Option α) : Option α := if v = 0 ∨ v = 1 then o else none
theorem nar01 {v : Int32} (h : v = 0 ∨ v = 1) : narrow .boolean (.int v) = .int v := by
  rcases h with rfl | rfl <;> rfl
theorem PWk.zret {a : α} {v : Int32} (hd : decode cc pc = .ok (.ireturn, 1)) (hr : ret = some .boolean) (hF : N a → F = (some (.int v), I, L, R)) : PWk lo hi d own cc nL ret pc lv [.int v] I L R (gz v (some a)) N F := by
  intro b hb hN l D cA ad p e Rm s m args below meth c C H locs ls hP hS hl
  unfold gz at hb
  by_cases h01 : v = 0 ∨ v = 1
  · rw [if_pos h01] at hb
    cases hb
    have hF := hF hN
    subst hF
    exact W.zret C.1.1 C.1.2.1 (C.2.1.trans hr) (nar01 h01) (fun t ht hW => ⟨⟨rfl, by rw [ht]; exact hP⟩, hS.F ht⟩) hS.2.2 hd C.2.2.1
  · rw [if_neg h01] at hb; cases hb
theorem PWk.lret {a : α} {v : Int64} (hd : decode cc pc = .ok (.lreturn, 1)) (hr : ret = some .long) (hF : N a → F = (some (.long v), I, L, R)) : PWk lo hi d own cc nL ret pc lv [.long v] I L R (some a) N F := by
  intro b hb hN l D cA ad p e Rm s m args below meth c C H locs ls hP hS hl
  cases hb
  have hF := hF hN
  subst hF
  exact W.lret C.1.1 C.1.2.1 (C.2.1.trans hr) (fun t ht hW => ⟨⟨rfl, by rw [ht]; exact hP⟩, hS.F ht⟩) hS.2.2 hd C.2.2.1
theorem PWk.vret {a : α} (hd : decode cc pc = .ok (.return_, 1)) (hr : ret = none) (hF : N a → F = (none, I, L, R)) : PWk lo hi d own cc nL ret pc lv [] I L R (some a) N F := by
  intro b hb hN l D cA ad p e Rm s m args below meth c C H locs ls hP hS hl
  cases hb
  have hF := hF hN
  subst hF
  exact W.vret C.1.1 C.1.2.1 (C.2.1.trans hr) (fun t ht hW => ⟨⟨rfl, by rw [ht]; exact hP⟩, hS.F ht⟩) hS.2.2 hd C.2.2.1
end PWr
