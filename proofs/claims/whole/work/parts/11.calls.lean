/-! fields, arrays, calls over the functional heap -/
/-- a pool entry of a class: the field k of class ci -/
def FL (own : String) (idx ci k : Nat) : Prop := ∃ (C : String) (T : u_T) (n : Nat), vwCl[ci]? = some (C, T, n) ∧ k < n ∧ n = nf ci ∧ ci < 13 ∧ (∀ w ∈ u_ws C T n, w ∈ TBL) ∧ Cond.fieldLink own idx C (T k).2.1 (T k).2.2.1 ∈ TBL ∧ (T k).1 = C
/-- what a store to it needs -/
def FP (ci k : Nat) (ty : FieldType) : Prop := ∀ (C : String) (T : u_T) (n : Nat), vwCl[ci]? = some (C, T, n) → (∃ ty0 : Nat → FieldType, ∀ k, k < n → parseFieldDescriptor (T k).2.2.1 = some (ty0 k)) ∧ (∀ a, a < n → ∀ b, b < n → a ≠ b → (T a).2.1 ≠ (T b).2.1) ∧ (T k).2.2.2 = false ∧ parseFieldDescriptor (T k).2.2.1 = some ty
section PWf
variable {α : Type} {lo hi d : Nat} {own : String} {cc : ByteArray} {nL : Nat} {ret : Option FieldType} {pc : Nat} {lv : List (Nat × Value)} {st : List Value} {I : HI} {L : HL} {R : HR} {o : Option α} {N : α → Prop} {F : HF}
theorem cc_obj {cA : Nat → ClassId} {ad : Nat → Nat} {i ci : Nat} (h : (lay i).1 = ci) (hc : ci < 13) : ccont cA ad I L R i = .inr (ci, (List.range (nf ci)).map (fval ad I L R i ci)) := by
  subst h
  unfold ccont
  rw [if_pos hc]
theorem cc_I {cA : Nat → ClassId} {ad : Nat → Nat} {i n : Nat} (h : lay i = (13, n)) : ccont cA ad I L R i = .inl (cA i, n, .inl (I i)) := by
  unfold ccont
  rw [h]
  rfl
theorem cc_Z {cA : Nat → ClassId} {ad : Nat → Nat} {i n : Nat} (h : lay i = (15, n)) : ccont cA ad I L R i = .inl (cA i, n, .inl (I i)) := by
  unfold ccont
  rw [h]
  rfl
theorem cc_L {cA : Nat → ClassId} {ad : Nat → Nat} {i n : Nat} (h : lay i = (14, n)) : ccont cA ad I L R i = .inl (cA i, n, .inr (.inl (L i))) := by
  unfold ccont
  rw [h]
  rfl
theorem cc_Q {cA : Nat → ClassId} {ad : Nat → Nat} {i n : Nat} (h : lay i = (16, n)) : ccont cA ad I L R i = .inl (cA i, n, .inr (.inr (.inr (.inr (fun j => some (ad (rowAt j))))))) := by
  unfold ccont
  rw [h]
  rfl
theorem fs_at {ad : Nat → Nat} {i ci k n : Nat} (hn : k < n) : ((List.range n).map (fval ad I L R i ci))[k]? = some (fval ad I L R i ci k) := by
  rw [List.getElem?_map, List.getElem?_range hn]
  rfl
theorem fs_set {ad : Nat → Nat} {i ci k n : Nat} {I' : HI} {L' : HL} {R' : HR} (hn : k < n) {v : Value} (hv : fval ad I' L' R' i ci k = v) (ho : ∀ j, j ≠ k → fval ad I' L' R' i ci j = fval ad I L R i ci j) : ((List.range n).map (fval ad I L R i ci)).set k v = (List.range n).map (fval ad I' L' R' i ci) := by
  subst hv
  apply List.ext_getElem?
  intro j
  by_cases hj : j = k
  · subst hj
    rw [fs_at hn, List.getElem?_set_self (by rw [List.length_map, List.length_range]; exact hn)]
  · rw [List.getElem?_set_ne (Ne.symm hj), List.getElem?_map, List.getElem?_map]
    by_cases hj2 : j < n
    · rw [List.getElem?_range hj2]
      show some _ = some _
      rw [ho j hj]
    · rw [List.getElem?_eq_none (by rw [List.length_range]; omega)]
      rfl
theorem fval_I {ad : Nat → Nat} {i ci k : Nat} (h : fk ci k = 0) : fval ad I L R i ci k = .int (I i k) := by unfold fval; rw [if_pos h]
theorem fval_L {ad : Nat → Nat} {i ci k : Nat} (h : fk ci k = 1) : fval ad I L R i ci k = .long (L i k) := by unfold fval; rw [if_neg (by rw [h]; decide), if_pos h]
theorem fval_S {ad : Nat → Nat} {i ci k : Nat} (h : fk ci k = 2) : fval ad I L R i ci k = .ref (ad (stt i k)) := by unfold fval; rw [if_neg (by rw [h]; decide), if_neg (by rw [h]; decide), if_pos h]
theorem fval_R {ad : Nat → Nat} {i ci k : Nat} (h : fk ci k = 3) : fval ad I L R i ci k = refv ad (R i k) := by unfold fval; rw [if_neg (by rw [h]; decide), if_neg (by rw [h]; decide), if_neg (by rw [h]; decide)]
theorem fval_cg {ad : Nat → Nat} {i ci k : Nat} {I' : HI} {L' : HL} {R' : HR} (h1 : I' i k = I i k) (h2 : L' i k = L i k) (h3 : R' i k = R i k) : fval ad I' L' R' i ci k = fval ad I L R i ci k := by unfold fval; rw [h1, h2, h3]
theorem sI_at {a k : Nat} {v : Int32} : sI I a k v a = upd (I a) k v := if_pos rfl
theorem sI_ne {a k x : Nat} {v : Int32} (h : x ≠ a) : sI I a k v x = I x := if_neg h
theorem sA_at {a : Nat} {f : Nat → Int32} : sA I a f a = f := if_pos rfl
theorem sA_ne {a x : Nat} {f : Nat → Int32} (h : x ≠ a) : sA I a f x = I x := if_neg h
theorem sL_at {a k : Nat} {v : Int64} : sL L a k v a = vp_updL (L a) k v := if_pos rfl
theorem sL_ne {a k x : Nat} {v : Int64} (h : x ≠ a) : sL L a k v x = L x := if_neg h
theorem sR_at {a k : Nat} {v : Nat} : sR R a k v a = (fun j => if j = k then v else R a j) := if_pos rfl
theorem sR_ne {a k x : Nat} {v : Nat} (h : x ≠ a) : sR R a k v x = R x := if_neg h
/-- getfield in general -/
theorem PWk.getf {idx a ci k : Nat} {v : Value} (hd : decode cc pc = .ok (.getfield idx, 3)) (hr : lo ≤ a ∧ a < hi) (hl : (lay a).1 = ci) (hf : FL own idx ci k) (hv : ∀ ad : Nat → Nat, fval ad I L R a ci k = mv ad v) (kk : PWk lo hi d own cc nL ret (pc + 3) lv (v :: st) I L R o N F) : PWk lo hi d own cc nL ret pc lv (.ref a :: st) I L R o N F := by
  intro x ho hN l D cA ad p e Rm s m args below meth c C H locs ls hP hS hls
  obtain ⟨Cn, T, n, h1, h2, h3, h4, h5, h6, h7⟩ := hf
  have hat := cells_at (cA := cA) (ad := ad) (I := I) (L := L) (R := R) hr
  rw [cc_obj hl h4] at hat
  refine va_get (D := D) (ref := Cn) (C := Cn) (T := T) (N := n) C.1.1 C.1.2.1 C.1.2.2.2.2 h5 C.1.2.2.2.1 C.2.2.2.1.K hP (a - lo) hat h1 k h2 (C.1.2.2.2.2 _ h6) (fun x hx => by rw [h7] at hx; exact hx) (v := mv ad v) ?_ hd (kk x ho hN l D cA ad p e Rm s m args below meth c C H locs ls hP hS hls)
  rw [fs_at (by rw [← h3]; exact h2), hv ad]
theorem PWk.geti {idx a ci k : Nat} (hd : decode cc pc = .ok (.getfield idx, 3)) (hr : lo ≤ a ∧ a < hi) (hl : (lay a).1 = ci) (hf : FL own idx ci k) (hk : fk ci k = 0) (kk : PWk lo hi d own cc nL ret (pc + 3) lv (.int (I a k) :: st) I L R o N F) : PWk lo hi d own cc nL ret pc lv (.ref a :: st) I L R o N F :=
  PWk.getf hd hr hl hf (fun ad => fval_I hk) kk
theorem PWk.getl {idx a ci k : Nat} (hd : decode cc pc = .ok (.getfield idx, 3)) (hr : lo ≤ a ∧ a < hi) (hl : (lay a).1 = ci) (hf : FL own idx ci k) (hk : fk ci k = 1) (kk : PWk lo hi d own cc nL ret (pc + 3) lv (.long (L a k) :: st) I L R o N F) : PWk lo hi d own cc nL ret pc lv (.ref a :: st) I L R o N F :=
  PWk.getf hd hr hl hf (fun ad => fval_L hk) kk
theorem PWk.gets {idx a ci k b : Nat} (hd : decode cc pc = .ok (.getfield idx, 3)) (hr : lo ≤ a ∧ a < hi) (hl : (lay a).1 = ci) (hf : FL own idx ci k) (hk : fk ci k = 2) (hb : stt a k = b) (kk : PWk lo hi d own cc nL ret (pc + 3) lv (.ref b :: st) I L R o N F) : PWk lo hi d own cc nL ret pc lv (.ref a :: st) I L R o N F :=
  PWk.getf hd hr hl hf (fun ad => by rw [fval_S hk, hb]; rfl) kk
/-- a reference that may change: the reading asks that it leads where it may -/
def gr {α : Type} (ok : Bool) (o : Option α) : Option α := if ok = true then o else none
theorem PWk.getr {idx a ci k : Nat} {ok : Bool} (hd : decode cc pc = .ok (.getfield idx, 3)) (hr : lo ≤ a ∧ a < hi) (hl : (lay a).1 = ci) (hf : FL own idx ci k) (hk : fk ci k = 3) (hok : ok = true → R a k ≠ 0) (kk : ok = true → PWk lo hi d own cc nL ret (pc + 3) lv (.ref (R a k) :: st) I L R o N F) : PWk lo hi d own cc nL ret pc lv (.ref a :: st) I L R (gr ok o) N F := by
  intro x ho hN
  unfold gr at ho
  by_cases h : ok = true
  · rw [if_pos h] at ho
    exact PWk.getf hd hr hl hf (v := .ref (R a k)) (fun ad => by rw [fval_R hk]; unfold refv; rw [if_neg (hok h)]; rfl) (kk h) x ho hN
  · rw [if_neg h] at ho; cases ho
/-- putfield in general -/
theorem PWk.putf {idx a ci k : Nat} {v : Value} {ty : FieldType} {I' : HI} {L' : HL} {R' : HR} (hd : decode cc pc = .ok (.putfield idx, 3)) (hr : lo ≤ a ∧ a < hi) (hl : (lay a).1 = ci) (hf : FL own idx ci k) (hp : FP ci k ty) (hn : ∀ ad : Nat → Nat, narrow ty (mv ad v) = mv ad v ∧ fits ty (mv ad v) = true)
    (hI : ∀ x, x ≠ a → I' x = I x) (hL : ∀ x, x ≠ a → L' x = L x) (hR : ∀ x, x ≠ a → R' x = R x) (hv : ∀ ad : Nat → Nat, fval ad I' L' R' a ci k = mv ad v) (ho' : ∀ (ad : Nat → Nat) (j : Nat), j ≠ k → fval ad I' L' R' a ci j = fval ad I L R a ci j)
    (kk : PWk lo hi d own cc nL ret (pc + 3) lv st I' L' R' o N F) : PWk lo hi d own cc nL ret pc lv (v :: .ref a :: st) I L R o N F := by
  intro x ho hN l D cA ad p e Rm s m args below meth c C H locs ls hP hS hls
  obtain ⟨Cn, T, n, h1, h2, h3, h4, h5, h6, h7⟩ := hf
  obtain ⟨⟨ty0, hty⟩, hnm, hfin, hpd⟩ := hp Cn T n h1
  have hat := cells_at (cA := cA) (ad := ad) (I := I) (L := L) (R := R) hr
  rw [cc_obj hl h4] at hat
  refine va_put (D := D) (ref := Cn) (C := Cn) (T := T) (N := n) (v := mv ad v) C.1.1 C.1.2.1 C.1.2.2.2.2 h5 ty0 hty hnm C.1.2.2.2.1 C.2.2.2.1.K hP (cells_D C.2.2.2.2.1) hS (a - lo) hat h1 k h2 (C.1.2.2.2.2 _ h6) (fun x hx => by rw [h7] at hx; exact hx) hfin hpd (hn ad).1 (hn ad).2 (by rw [List.length_map, List.length_range, ← h3]; exact h2) hd (fun H1 locs1 hP1 hD1 hS1 => ?_)
  rw [fs_set (n := nf ci) (by rw [← h3]; exact h2) (hv ad) (ho' ad)] at hP1
  rw [cells_set hr hI hL hR (cc_obj hl h4).symm] at hP1
  exact kk x ho hN l D cA ad p e Rm s m args below meth c C H1 locs1 ls hP1 hS1 hls
theorem upd_s {f : Nat → Int32} {k : Nat} {v : Int32} : upd f k v k = v := if_pos rfl
theorem upd_n {f : Nat → Int32} {k j : Nat} {v : Int32} (h : j ≠ k) : upd f k v j = f j := if_neg h
theorem PWk.puti {idx a ci k : Nat} {v : Int32} (hd : decode cc pc = .ok (.putfield idx, 3)) (hr : lo ≤ a ∧ a < hi) (hl : (lay a).1 = ci) (hf : FL own idx ci k) (hp : FP ci k .int) (hk : fk ci k = 0) (kk : PWk lo hi d own cc nL ret (pc + 3) lv st (sI I a k v) L R o N F) : PWk lo hi d own cc nL ret pc lv (.int v :: .ref a :: st) I L R o N F :=
  PWk.putf hd hr hl hf hp (fun ad => ⟨rfl, rfl⟩) (fun x h => sI_ne h) (fun _ _ => rfl) (fun _ _ => rfl) (fun ad => by rw [fval_I hk, sI_at, upd_s]; rfl) (fun ad j hj => fval_cg (by rw [sI_at, upd_n hj]) rfl rfl) kk
theorem PWk.putz {idx a ci k : Nat} {v : Int32} (hd : decode cc pc = .ok (.putfield idx, 3)) (hr : lo ≤ a ∧ a < hi) (hl : (lay a).1 = ci) (hf : FL own idx ci k) (hp : FP ci k .boolean) (hk : fk ci k = 0) (kk : PWk lo hi d own cc nL ret (pc + 3) lv st (sI I a k v) L R o N F) : PWk lo hi d own cc nL ret pc lv (.int v :: .ref a :: st) I L R (gz v o) N F := by
  intro x ho hN
  unfold gz at ho
  by_cases h01 : v = 0 ∨ v = 1
  · rw [if_pos h01] at ho
    exact PWk.putf hd hr hl hf hp (fun ad => ⟨nar01 h01, by rcases h01 with rfl | rfl <;> rfl⟩) (fun x h => sI_ne h) (fun _ _ => rfl) (fun _ _ => rfl) (fun ad => by rw [fval_I hk, sI_at, upd_s]; rfl) (fun ad j hj => fval_cg (by rw [sI_at, upd_n hj]) rfl rfl) kk x ho hN
  · rw [if_neg h01] at ho; cases ho
theorem PWk.putl {idx a ci k : Nat} {v : Int64} (hd : decode cc pc = .ok (.putfield idx, 3)) (hr : lo ≤ a ∧ a < hi) (hl : (lay a).1 = ci) (hf : FL own idx ci k) (hp : FP ci k .long) (hk : fk ci k = 1) (kk : PWk lo hi d own cc nL ret (pc + 3) lv st I (sL L a k v) R o N F) : PWk lo hi d own cc nL ret pc lv (.long v :: .ref a :: st) I L R o N F :=
  PWk.putf hd hr hl hf hp (fun ad => ⟨rfl, rfl⟩) (fun _ _ => rfl) (fun x h => sL_ne h) (fun _ _ => rfl) (fun ad => by rw [fval_L hk, sL_at]; show Value.long _ = Value.long _; rw [show vp_updL (L a) k v k = v from if_pos rfl]) (fun ad j hj => fval_cg rfl (by rw [sL_at]; exact if_neg hj) rfl) kk
theorem PWk.putr {idx a ci k b : Nat} {Cr : String} (hd : decode cc pc = .ok (.putfield idx, 3)) (hr : lo ≤ a ∧ a < hi) (hl : (lay a).1 = ci) (hf : FL own idx ci k) (hp : FP ci k (.object Cr)) (hk : fk ci k = 3) (hb : b ≠ 0) (kk : PWk lo hi d own cc nL ret (pc + 3) lv st I L (sR R a k b) o N F) : PWk lo hi d own cc nL ret pc lv (.ref b :: .ref a :: st) I L R o N F :=
  PWk.putf hd hr hl hf hp (fun ad => ⟨rfl, rfl⟩) (fun _ _ => rfl) (fun _ _ => rfl) (fun x h => sR_ne h) (fun ad => by rw [fval_R hk, sR_at]; show refv ad (if k = k then b else R a k) = _; rw [if_pos rfl]; unfold refv; rw [if_neg hb]; rfl) (fun ad j hj => fval_cg rfl rfl (by rw [sR_at]; exact if_neg hj)) kk
/-- array reads and stores: the reading asks that the index is in the array -/
def ldI {α : Type} (f : Nat → Int32) (n : Nat) (i : Int32) (k : Int32 → Option α) : Option α := if i < 0 ∨ n ≤ i.toNatClampNeg then none else k (f i.toNatClampNeg)
def ldL {α : Type} (f : Nat → Int64) (n : Nat) (i : Int32) (k : Int64 → Option α) : Option α := if i < 0 ∨ n ≤ i.toNatClampNeg then none else k (f i.toNatClampNeg)
def inb {α : Type} (n : Nat) (i : Int32) (k : Option α) : Option α := if i < 0 ∨ n ≤ i.toNatClampNeg then none else k
theorem PWk.iald {a n : Nat} {i : Int32} {g : Int32 → Option α} (hd : decode cc pc = .ok (.iaload, 1)) (hr : lo ≤ a ∧ a < hi) (hl : lay a = (13, n)) (kk : ∀ v : Int32, PWk lo hi d own cc nL ret (pc + 1) lv (.int v :: st) I L R (g v) N F) : PWk lo hi d own cc nL ret pc lv (.int i :: .ref a :: st) I L R (ldI (I a) n i g) N F := by
  intro x ho hN l D cA ad p e Rm s m args below meth c C H locs ls hP hS hls
  unfold ldI at ho
  by_cases h : i < 0 ∨ n ≤ i.toNatClampNeg
  · rw [if_pos h] at ho; cases ho
  · rw [if_neg h] at ho
    have hat := cells_at (cA := cA) (ad := ad) (I := I) (L := L) (R := R) hr
    rw [cc_I hl] at hat
    exact va_iald C.1.1 C.1.2.1 (C.2.2.2.1.Ka hr (by rw [hl]; exact Nat.le_of_ble_eq_true rfl) (by rw [hl]; rfl)) hP (a - lo) 0 hat rfl h hd (kk _ x ho hN l D cA ad p e Rm s m args below meth c C H locs ls hP hS hls)
theorem PWk.zald {a n : Nat} {i : Int32} {g : Int32 → Option α} (hd : decode cc pc = .ok (.baload, 1)) (hr : lo ≤ a ∧ a < hi) (hl : lay a = (15, n)) (kk : ∀ v : Int32, PWk lo hi d own cc nL ret (pc + 1) lv (.int v :: st) I L R (g v) N F) : PWk lo hi d own cc nL ret pc lv (.int i :: .ref a :: st) I L R (ldI (I a) n i g) N F := by
  intro x ho hN l D cA ad p e Rm s m args below meth c C H locs ls hP hS hls
  unfold ldI at ho
  by_cases h : i < 0 ∨ n ≤ i.toNatClampNeg
  · rw [if_pos h] at ho; cases ho
  · rw [if_neg h] at ho
    have hat := cells_at (cA := cA) (ad := ad) (I := I) (L := L) (R := R) hr
    rw [cc_Z hl] at hat
    exact va_zald C.1.1 C.1.2.1 (C.2.2.2.1.Ka hr (by rw [hl]; exact Nat.le_of_ble_eq_true rfl) (by rw [hl]; rfl)) hP (a - lo) 0 hat rfl h hd (kk _ x ho hN l D cA ad p e Rm s m args below meth c C H locs ls hP hS hls)
theorem PWk.lald {a n : Nat} {i : Int32} {g : Int64 → Option α} (hd : decode cc pc = .ok (.laload, 1)) (hr : lo ≤ a ∧ a < hi) (hl : lay a = (14, n)) (kk : ∀ v : Int64, PWk lo hi d own cc nL ret (pc + 1) lv (.long v :: st) I L R (g v) N F) : PWk lo hi d own cc nL ret pc lv (.int i :: .ref a :: st) I L R (ldL (L a) n i g) N F := by
  intro x ho hN l D cA ad p e Rm s m args below meth c C H locs ls hP hS hls
  unfold ldL at ho
  by_cases h : i < 0 ∨ n ≤ i.toNatClampNeg
  · rw [if_pos h] at ho; cases ho
  · rw [if_neg h] at ho
    have hat := cells_at (cA := cA) (ad := ad) (I := I) (L := L) (R := R) hr
    rw [cc_L hl] at hat
    exact va_lald C.1.1 C.1.2.1 (C.2.2.2.1.Ka hr (by rw [hl]; exact Nat.le_of_ble_eq_true rfl) (by rw [hl]; rfl)) hP (a - lo) 0 hat rfl h hd (kk _ x ho hN l D cA ad p e Rm s m args below meth c C H locs ls hP hS hls)
/-- a row of an int[][] -/
theorem PWk.aald {a n : Nat} {i : Int32} (hd : decode cc pc = .ok (.aaload, 1)) (hr : lo ≤ a ∧ a < hi) (hl : lay a = (16, n)) (kk : PWk lo hi d own cc nL ret (pc + 1) lv (.ref (rowAt i.toNatClampNeg) :: st) I L R o N F) : PWk lo hi d own cc nL ret pc lv (.int i :: .ref a :: st) I L R (inb n i o) N F := by
  intro x ho hN l D cA ad p e Rm s m args below meth c C H locs ls hP hS hls
  unfold inb at ho
  by_cases h : i < 0 ∨ n ≤ i.toNatClampNeg
  · rw [if_pos h] at ho; cases ho
  · rw [if_neg h] at ho
    have hat := cells_at (cA := cA) (ad := ad) (I := I) (L := L) (R := R) hr
    rw [cc_Q hl] at hat
    have hlt : i.toNatClampNeg < n := Nat.not_le.mp fun q => h (Or.inr q)
    have hK := C.2.2.2.1.2 a hr.1 hr.2 (by rw [hl]; exact Nat.le_of_ble_eq_true rfl)
    rw [hl] at hK
    exact W.aald (v := .ref (ad (rowAt i.toNatClampNeg))) (ty := .array .int) C.1.1 C.1.2.1 (hP (a - lo) _ hat) (hK.1 n (fun j => va_rf (some (ad (rowAt j))))) rfl (fun q => by cases q) (by show ¬ (i < 0 ∨ (arrV _ _ _).slots.size ≤ _); rw [arrV_size]; exact h) (by show (arrV _ _ _).slots[_]? = _; rw [arrV_read _ _ hlt]; rfl) rfl rfl hd (kk x ho hN l D cA ad p e Rm s m args below meth c C H locs ls hP hS hls)
theorem PWk.iast {a n : Nat} {i v : Int32} (hd : decode cc pc = .ok (.iastore, 1)) (hr : lo ≤ a ∧ a < hi) (hl : lay a = (13, n)) (kk : PWk lo hi d own cc nL ret (pc + 1) lv st (sI I a i.toNatClampNeg v) L R o N F) : PWk lo hi d own cc nL ret pc lv (.int v :: .int i :: .ref a :: st) I L R (inb n i o) N F := by
  intro x ho hN l D cA ad p e Rm s m args below meth c C H locs ls hP hS hls
  unfold inb at ho
  by_cases h : i < 0 ∨ n ≤ i.toNatClampNeg
  · rw [if_pos h] at ho; cases ho
  · rw [if_neg h] at ho
    have hat := cells_at (cA := cA) (ad := ad) (I := I) (L := L) (R := R) hr
    rw [cc_I hl] at hat
    refine va_iast C.1.1 C.1.2.1 (C.2.2.2.1.Ka hr (by rw [hl]; exact Nat.le_of_ble_eq_true rfl) (by rw [hl]; rfl)) hP (cells_D C.2.2.2.2.1) hS (a - lo) 0 hat rfl h hd (fun H1 locs1 hP1 hD1 hS1 => ?_)
    rw [cells_set (I' := sI I a i.toNatClampNeg v) (L' := L) (R' := R) hr (fun x h => sI_ne h) (fun _ _ => rfl) (fun _ _ => rfl) (by rw [cc_I hl, sI_at])] at hP1
    exact kk x ho hN l D cA ad p e Rm s m args below meth c C H1 locs1 ls hP1 hS1 hls
def nz (v : Int32) : Int32 := vp_nar .boolean v
theorem PWk.zast {a n : Nat} {i v : Int32} (hd : decode cc pc = .ok (.bastore, 1)) (hr : lo ≤ a ∧ a < hi) (hl : lay a = (15, n)) (kk : PWk lo hi d own cc nL ret (pc + 1) lv st (sI I a i.toNatClampNeg (nz v)) L R o N F) : PWk lo hi d own cc nL ret pc lv (.int v :: .int i :: .ref a :: st) I L R (inb n i o) N F := by
  intro x ho hN l D cA ad p e Rm s m args below meth c C H locs ls hP hS hls
  unfold inb at ho
  by_cases h : i < 0 ∨ n ≤ i.toNatClampNeg
  · rw [if_pos h] at ho; cases ho
  · rw [if_neg h] at ho
    have hat := cells_at (cA := cA) (ad := ad) (I := I) (L := L) (R := R) hr
    rw [cc_Z hl] at hat
    refine va_zast C.1.1 C.1.2.1 (C.2.2.2.1.Ka hr (by rw [hl]; exact Nat.le_of_ble_eq_true rfl) (by rw [hl]; rfl)) hP (cells_D C.2.2.2.2.1) hS (a - lo) 0 hat rfl h hd (fun H1 locs1 hP1 hD1 hS1 => ?_)
    rw [cells_set (I' := sI I a i.toNatClampNeg (nz v)) (L' := L) (R' := R) hr (fun x h => sI_ne h) (fun _ _ => rfl) (fun _ _ => rfl) (by rw [cc_Z hl, sI_at]; rfl)] at hP1
    exact kk x ho hN l D cA ad p e Rm s m args below meth c C H1 locs1 ls hP1 hS1 hls
theorem PWk.last {a n : Nat} {i : Int32} {v : Int64} (hd : decode cc pc = .ok (.lastore, 1)) (hr : lo ≤ a ∧ a < hi) (hl : lay a = (14, n)) (kk : PWk lo hi d own cc nL ret (pc + 1) lv st I (sL L a i.toNatClampNeg v) R o N F) : PWk lo hi d own cc nL ret pc lv (.long v :: .int i :: .ref a :: st) I L R (inb n i o) N F := by
  intro x ho hN l D cA ad p e Rm s m args below meth c C H locs ls hP hS hls
  unfold inb at ho
  by_cases h : i < 0 ∨ n ≤ i.toNatClampNeg
  · rw [if_pos h] at ho; cases ho
  · rw [if_neg h] at ho
    have hat := cells_at (cA := cA) (ad := ad) (I := I) (L := L) (R := R) hr
    rw [cc_L hl] at hat
    refine va_last C.1.1 C.1.2.1 (C.2.2.2.1.Ka hr (by rw [hl]; exact Nat.le_of_ble_eq_true rfl) (by rw [hl]; rfl)) hP (cells_D C.2.2.2.2.1) hS (a - lo) 0 hat rfl h hd (fun H1 locs1 hP1 hD1 hS1 => ?_)
    rw [cells_set (I' := I) (L' := sL L a i.toNatClampNeg v) (R' := R) hr (fun _ _ => rfl) (fun x h => sL_ne h) (fun _ _ => rfl) (by rw [cc_L hl, sL_at])] at hP1
    exact kk x ho hN l D cA ad p e Rm s m args below meth c C H1 locs1 ls hP1 hS1 hls
/-- arraylength of an int array -/
theorem PWk.alen {a n : Nat} {v : Int32} (hd : decode cc pc = .ok (.arraylength, 1)) (hr : lo ≤ a ∧ a < hi) (hl : lay a = (13, n)) (hv : Int32.ofNat n = v) (kk : PWk lo hi d own cc nL ret (pc + 1) lv (.int v :: st) I L R o N F) : PWk lo hi d own cc nL ret pc lv (.ref a :: st) I L R o N F := by
  intro x ho hN l D cA ad p e Rm s m args below meth c C H locs ls hP hS hls
  have hat := cells_at (cA := cA) (ad := ad) (I := I) (L := L) (R := R) hr
  rw [cc_I hl] at hat
  exact va_alen C.1.1 C.1.2.1 (C.2.2.2.1.Ka hr (ty := .int) (by rw [hl]; exact Nat.le_of_ble_eq_true rfl) (by rw [hl]; rfl)) hP (a - lo) 0 hat rfl hv hd (kk x ho hN l D cA ad p e Rm s m args below meth c C H locs ls hP hS hls)
/-- System.arraycopy of two int arrays -/
def WCopy (own : String) (idx : Nat) : Prop := Cond.methodLink own idx arraycopyName ∈ TBL ∧ Cond.native arraycopyName ∈ TBL ∧ Cond.static arraycopyName ∈ TBL ∧ Cond.initialized "java/lang/System" ∈ TBL
theorem PWk.copy {idx a b n0 n1 : Nat} {sp dp n : Int32} (hd : decode cc pc = .ok (.invokestatic idx, 3)) (hw : WCopy own idx) (ha : lo ≤ a ∧ a < hi) (hb : lo ≤ b ∧ b < hi) (hla : lay a = (13, n0)) (hlb : lay b = (13, n1)) (h1 : ¬ sp < 0) (h2 : ¬ dp < 0) (h3 : ¬ n < 0) (h4 : sp.toNatClampNeg + n.toNatClampNeg ≤ n0) (h5 : dp.toNatClampNeg + n.toNatClampNeg ≤ n1) (hd1 : 1 ≤ d) (hst : st = [])
    (kk : PWk lo hi d own cc nL ret (pc + 3) lv st (sA I b (va_cpy (I a) (I b) sp.toNatClampNeg dp.toNatClampNeg n.toNatClampNeg)) L R o N F) : PWk lo hi d own cc nL ret pc lv (.int n :: .int dp :: .ref b :: .int sp :: .ref a :: st) I L R o N F := by
  intro x ho hN l D cA ad p e Rm s m args below meth c C H locs ls hP hS hls
  have hata := cells_at (cA := cA) (ad := ad) (I := I) (L := L) (R := R) ha
  have hatb := cells_at (cA := cA) (ad := ad) (I := I) (L := L) (R := R) hb
  rw [cc_I hla] at hata
  rw [cc_I hlb] at hatb
  have hK : va_K D vwCl [(cA a, .int), (cA b, .int)] s := (C.2.2.2.1.Ka ha (by rw [hla]; exact Nat.le_of_ble_eq_true rfl) (by rw [hla]; rfl)).app (C.2.2.2.1.Ka hb (by rw [hlb]; exact Nat.le_of_ble_eq_true rfl) (by rw [hlb]; rfl))
  subst hst
  have hR := C.2.2.2.2.2.2.1
  have hR2 := C.2.2.2.2.2.2.2
  have hnf : nativeFrameWords "java/lang/System" "arraycopy" 5 ≤ 40 := by decide +kernel
  have hfr : 1 ≤ Rm.frames := by omega
  have hlo' : (([] : List Value).map fun v => v.category).sum + (nativeFrameWords "java/lang/System" "arraycopy" 5 + 11) ≤ Rm.locals := by
    simp only [List.map_nil, List.sum_nil]
    omega
  refine va_copyi (ty := .int) C.1.1 C.1.2.1 (C.1.2.2.1.trans hls.1.symm) C.1.2.2.2.1 (C.1.2.2.2.2 _ hw.1) (C.1.2.2.2.2 _ hw.2.1) (C.1.2.2.2.2 _ hw.2.2.1) (C.1.2.2.2.2 _ hw.2.2.2) hK hP (cells_D C.2.2.2.2.1) hS (a - lo) (b - lo) 0 1 hata hatb rfl rfl rfl h1 h2 h3 h4 h5 (fun i hi => rfl) hfr hlo' hd (fun H1 locs1 hP1 hD1 hS1 => ?_)
  rw [cells_set (I' := sA I b (va_cpy (I a) (I b) sp.toNatClampNeg dp.toNatClampNeg n.toNatClampNeg)) (L' := L) (R' := R) hb (fun x h => sA_ne h) (fun _ _ => rfl) (fun _ _ => rfl) (by rw [cc_I hlb, sA_at])] at hP1
  exact kk x ho hN l D cA ad p e Rm s m args below meth c C H1 locs1 ls hP1 hS1 hls
end PWf
/-! contracts -/
def cPre (D : va_G) (cA : Nat → ClassId) (ad : Nat → Nat) (lo hi : Nat) (I : HI) (L : HL) (R : HR) (As : List Value) : Array Value → State → Prop := fun v U =>
  v = (As.map (mv ad)).toArray ∧ va_P D vwCl (cells lo hi cA ad I L R) U.heap ∧ KN D cA lo hi U ∧ XS ad (Aof lo hi ad) U
theorem cPre.blind {D : va_G} {cA : Nat → ClassId} {ad : Nat → Nat} {lo hi : Nat} {I : HI} {L : HL} {R : HR} {As : List Value} : FrameBlind (cPre D cA ad lo hi I L R As) := fun a U g mk h =>
  ⟨h.1, h.2.1, h.2.2.1.moved (u := U) (U := U.calling g mk a) (Vm.Alike.refl U.vm), h.2.2.2.blind⟩
def PC (lo hi d : Nat) (y : MethodName) (cc : ByteArray) (nL : Nat) (ret : Option FieldType) (As : List Value) (I : HI) (L : HL) (R : HR) (F : HF) : Prop :=
  ∀ (l : Launch) (D : va_G) (cA : Nat → ClassId) (ad : Nat → Nat), Adi lo hi ad → Met l y (Cond.code y cc nL ret :: TBL) { frames := d, cells := 0, slots := 0, locals := 60 * d } (cPre D cA ad lo hi I L R As) (Qf D cA ad lo hi F) 0 0 (Aof lo hi ad)
def PCo {α : Type} (lo hi d : Nat) (y : MethodName) (cc : ByteArray) (nL : Nat) (ret : Option FieldType) (As : List Value) (I : HI) (L : HL) (R : HR) (o : Option α) (K : α → HF) : Prop := ∀ a, o = some a → PC lo hi d y cc nL ret As I L R (K a)
theorem PC.of {lo hi d : Nat} {y : MethodName} {cc : ByteArray} {nL : Nat} {ret : Option FieldType} {As : List Value} {I : HI} {L : HL} {R : HR} {F : HF} (hy : plainName y.cls = true) (hn : (lg_sl As).length ≤ nL) (h : PW lo hi d y.cls cc nL ret 0 (lv_args 0 As) [] I L R F) : PC lo hi d y cc nL ret As I L R F := by
  intro l D cA ad hadi
  refine Met.ofW (cc := cc) (maxL := nL) (ret := ret) hy rfl ?_
  intro p e s m args below meth c s₁ B hml hv
  obtain ⟨rfl, hP, hK, hX⟩ := hv
  have hts := atoms_spec (ws := Cond.code y cc nL ret :: TBL) B.pre
  have hown : s.vm.findClass y.cls = some m.cls := findClass_of_methodNamed B.named
  have hl := lv_entry (As.map (mv ad)) (n := nL) (by rw [lg_sl_map]; exact hn)
  rw [lg_entry_eq]
  generalize (lg_sl (As.map (mv ad)) ++ List.replicate (nL - (lg_sl (As.map (mv ad))).length) Slot.unset).toArray = ls at hl ⊢
  rw [lv_args_map] at hl
  exact h l D cA ad p e _ s m _ below meth c ⟨⟨B.exec, B.bytes, hml, hown, fun w hw => hts w (List.mem_cons_of_mem _ hw)⟩, B.returns, B.notSynchronized, hK, hadi, hX, Nat.le_refl _, Nat.le_refl _⟩ s.heap [] ls hP va_S.rf hl
theorem PCo.of {α : Type} {lo hi d : Nat} {y : MethodName} {cc : ByteArray} {nL : Nat} {ret : Option FieldType} {As : List Value} {I : HI} {L : HL} {R : HR} {o : Option α} {K : α → HF} (hy : plainName y.cls = true) (hn : (lg_sl As).length ≤ nL) {lv : List (Nat × Value)} (hlv : lv_args 0 As = lv) {own : String} (hown : y.cls = own) (h : ∀ F, PWk lo hi d own cc nL ret 0 lv [] I L R o (fun a => F = K a) F) : PCo lo hi d y cc nL ret As I L R o K := by
  subst hlv
  subst hown
  intro a ha
  exact PC.of hy hn (h (K a) a ha rfl)
section PWc
variable {α : Type} {lo hi d : Nat} {own : String} {cc : ByteArray} {nL : Nat} {ret : Option FieldType} {pc : Nat} {lv : List (Nat × Value)} {st : List Value} {I : HI} {L : HL} {R : HR} {o : Option α} {N : α → Prop} {F : HF}
theorem run_cont {l : Launch} {D : va_G} {cA : Nat → ClassId} {ad : Nat → Nat} {p : Program} {e : Env} {Rm : Room} {s : State} {m : MethodId} {args : Array Value} {below : List Frame} {meth : Method} {c : Code} {H : Heap} {locs : List Loc} {ls : Array Slot} {st0 rest : List Value} {F1 : HF} {a : Array Value} {Q : State → Prop}
    (hr : va_Run p l e Rm s m args below meth c H locs 0 0 0 0 (F0 m pc ls st0) (rest.map (mv ad)) (Qf D cA ad lo hi F1 a) (Aof lo hi ad)) (hS : va_S (Aof lo hi ad) s.heap H locs)
    (kk : ∀ (H1 : Heap) (locs1 : List Loc), va_P D vwCl (cells lo hi cA ad F1.2.1 F1.2.2.1 F1.2.2.2) H1 → va_S (Aof lo hi ad) s.heap H1 locs1 → W p l e Rm s m args below meth c H1 locs1 0 0 Q (F0 m (pc + 3) ls ((F1.1.toList ++ rest).map (mv ad)))) : W p l e Rm s m args below meth c H locs 0 0 Q (F0 m pc ls st0) := by
  intro T hT X
  obtain ⟨v, st₀, t, T', L1, h0, X', hL, e1, e2, ⟨⟨hv, hp⟩, hz, hk⟩, st1⟩ := hr T hT X
  cases hv
  rw [h0] at hz hk
  have es : (F1.1.map (mv ad)).toList ++ rest.map (mv ad) = (F1.1.toList ++ rest).map (mv ad) := by
    cases F1.1 <;> simp
  rw [es] at st1
  obtain ⟨t2, a1, b1⟩ := kk T'.heap (locs ++ L1) (by rw [e1]; exact hp)
    ⟨Nat.le_trans hS.1 (by rw [e1]; exact hz), fun q h1 h2 => by rw [e1, hk q (Nat.lt_of_lt_of_le h1 hS.1) h2]; exact hS.2.1 q h1 h2, fun q hq => by
      rcases List.mem_append.mp hq with h | h
      · exact hS.2.2 q h
      · exact hL q h⟩ T' rfl X'
  exact ⟨t2, st1 t2 a1, b1⟩
theorem cat_map (ad : Nat → Nat) (rest : List Value) : ((rest.map (mv ad)).map fun v => v.category) = rest.map fun v => v.category := by
  rw [List.map_map]
  apply List.map_congr_left
  intro v _
  exact mv_cat ad v
/-- the words of a call -/
def MLv (own : String) (idx : Nat) (y : MethodName) (cc : ByteArray) (nL : Nat) (ret : Option FieldType) (n : Nat) : Prop :=
  Cond.methodLink own idx y ∈ TBL ∧ Cond.instanceMethod y ∈ TBL ∧ Cond.selects y.cls y y ∈ TBL ∧ Cond.initialized y.cls ∈ TBL ∧ Cond.code y cc nL ret ∈ TBL ∧ (y.cls ≠ "java/lang/invoke/MethodHandle" ∧ y.cls ≠ "java/lang/invoke/VarHandle" ∧ (parseMethodDescriptor y.desc).map (fun d => d.parameters.length) = some n) ∧ nL ≤ 41
def MLs (own : String) (idx : Nat) (y : MethodName) (cc : ByteArray) (nL : Nat) (ret : Option FieldType) (n : Nat) : Prop :=
  Cond.methodLink own idx y ∈ TBL ∧ Cond.static y ∈ TBL ∧ Cond.initialized y.cls ∈ TBL ∧ Cond.code y cc nL ret ∈ TBL ∧ (y.cls ≠ "java/lang/invoke/MethodHandle" ∧ y.cls ≠ "java/lang/invoke/VarHandle" ∧ (parseMethodDescriptor y.desc).map (fun d => d.parameters.length) = some n) ∧ nL ≤ 41
theorem PWk.callV {β : Type} {idx ci b n d' : Nat} {y : MethodName} {cc' : ByteArray} {nL' : Nat} {ret' : Option FieldType} {As rest : List Value} {g : Option β} {K : β → HF} {k : β → Option α} (hM : PCo lo hi d' y cc' nL' ret' (.ref b :: As) I L R g K) (hd : decode cc pc = .ok (.invokevirtual idx, 3)) (hw : MLv own idx y cc' nL' ret' n) (hn : As.length = n) (hr : lo ≤ b ∧ b < hi) (hl : (lay b).1 = ci) (hc : ∃ q, vwCl[ci]? = some q ∧ q.1 = y.cls ∧ ci < 13) (hdd : d' + 1 ≤ d) (hst : st = As.reverse ++ .ref b :: rest) (hcat : (rest.map fun v => v.category).sum ≤ 8)
    (kk : ∀ a : β, PWk lo hi d own cc nL ret (pc + 3) lv ((K a).1.toList ++ rest) (K a).2.1 (K a).2.2.1 (K a).2.2.2 (k a) N F) : PWk lo hi d own cc nL ret pc lv st I L R (g.bind k) N F := by
  subst hst
  intro x ho hN l D cA ad p e Rm s m args below meth c C H locs ls hP hS hls
  cases hg : g with
  | none => rw [hg] at ho; cases ho
  | some a =>
    rw [hg] at ho
    obtain ⟨q, hq, hq1, hc13⟩ := hc
    obtain ⟨w1, w2, w3, w4, w5, w6, w7⟩ := hw
    have hat := cells_at (cA := cA) (ad := ad) (I := I) (L := L) (R := R) hr
    rw [cc_obj hl hc13] at hat
    have hrec := va_recv C.2.2.2.1.K hP hq hat
    rw [hq1] at hrec
    have hR := C.2.2.2.2.2.2.1
    have hR2 := C.2.2.2.2.2.2.2
    have hts := C.1.2.2.2.2
    have cw : CallW Rm s args own y.cls idx y cc' nL' ret' (Cond.code y cc' nL' ret' :: TBL) { frames := d', cells := 0, slots := 0, locals := 60 * d' } 0 0 n := ⟨callB_of n hts (TBL_code w5) rfl rfl rfl (hts _ w4) (hts _ w1) w6 ⟨by show d' + 1 ≤ _; omega, by show 8 + (nL' + 11) + 60 * d' ≤ _; omega⟩, hts _ w2, hts _ w3⟩
    refine run_cont (F1 := K a) (rest := rest) (va_runV (As := As.map (mv ad)) (b := ad b) C.1 (hM a hg l D cA ad C.2.2.2.2.1) cw ⟨cPre.blind, hrec, fun U hU hW => ⟨by simp [mv], by rw [hU]; exact hP, C.2.2.2.1.moved hW.alike, C.2.2.2.2.2.1.next hS hU hW⟩⟩ rfl (by rw [List.length_map]; exact hn) hls.1 (by show List.map (mv ad) (As.reverse ++ Value.ref b :: rest) = _; rw [List.map_append, List.map_reverse]; rfl) (lv_room (by rw [cat_map]; exact hcat)) hd ⟨Nat.zero_le _, Nat.zero_le _⟩) hS (fun H1 locs1 hP1 hS1 => ?_)
    exact kk a x ho hN l D cA ad p e Rm s m args below meth c C H1 locs1 ls hP1 hS1 hls
theorem PWk.callS {β : Type} {idx n d' : Nat} {y : MethodName} {cc' : ByteArray} {nL' : Nat} {ret' : Option FieldType} {As rest : List Value} {g : Option β} {K : β → HF} {k : β → Option α} (hM : PCo lo hi d' y cc' nL' ret' As I L R g K) (hd : decode cc pc = .ok (.invokestatic idx, 3)) (hw : MLs own idx y cc' nL' ret' n) (hn : As.length = n) (hdd : d' + 1 ≤ d) (hst : st = As.reverse ++ rest) (hcat : (rest.map fun v => v.category).sum ≤ 8)
    (kk : ∀ a : β, PWk lo hi d own cc nL ret (pc + 3) lv ((K a).1.toList ++ rest) (K a).2.1 (K a).2.2.1 (K a).2.2.2 (k a) N F) : PWk lo hi d own cc nL ret pc lv st I L R (g.bind k) N F := by
  subst hst
  intro x ho hN l D cA ad p e Rm s m args below meth c C H locs ls hP hS hls
  cases hg : g with
  | none => rw [hg] at ho; cases ho
  | some a =>
    rw [hg] at ho
    obtain ⟨w1, w2, w4, w5, w6, w7⟩ := hw
    have hR := C.2.2.2.2.2.2.1
    have hR2 := C.2.2.2.2.2.2.2
    have hts := C.1.2.2.2.2
    have cw : CallB Rm s args own idx y cc' nL' ret' (Cond.code y cc' nL' ret' :: TBL) { frames := d', cells := 0, slots := 0, locals := 60 * d' } 0 0 n ∧ (Cond.static y).before args s = true := ⟨callB_of n hts (TBL_code w5) rfl rfl rfl (hts _ w4) (hts _ w1) w6 ⟨by show d' + 1 ≤ _; omega, by show 8 + (nL' + 11) + 60 * d' ≤ _; omega⟩, hts _ w2⟩
    refine run_cont (F1 := K a) (rest := rest) (va_runS (As := As.map (mv ad)) C.1 (hM a hg l D cA ad C.2.2.2.2.1) cw ⟨cPre.blind, fun U hU hW => ⟨rfl, by rw [hU]; exact hP, C.2.2.2.1.moved hW.alike, C.2.2.2.2.2.1.next hS hU hW⟩⟩ rfl (by rw [List.length_map]; exact hn) hls.1 (by show List.map (mv ad) (As.reverse ++ rest) = _; rw [List.map_append, List.map_reverse]) (lv_room (by rw [cat_map]; exact hcat)) hd ⟨Nat.zero_le _, Nat.zero_le _⟩) hS (fun H1 locs1 hP1 hS1 => ?_)
    exact kk a x ho hN l D cA ad p e Rm s m args below meth c C H1 locs1 ls hP1 hS1 hls
end PWc
