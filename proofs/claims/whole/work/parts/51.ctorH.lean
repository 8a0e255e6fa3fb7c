/-! arrays of arrays: what the class tables say of them -/
def va_AOA (t : FieldType) (U : State) : Prop := (Cond.arrayOver (.array t)).before #[] U = true
theorem va_AOA.of {t : FieldType} {A : Array Value} {U : State} (h : (Cond.arrayOver (.array t)).before A U = true) : va_AOA t U := h
theorem va_AOA.use {t : FieldType} {A : Array Value} {U : State} (h : va_AOA t U) : (Cond.arrayOver (.array t)).before A U = true := h
theorem va_AOA.moved {t : FieldType} {u U : State} (hvm : u.vm.Alike U.vm) (h : va_AOA t u) : va_AOA t U := by
  obtain ⟨comp, c, k, h1, h2, h3, h4, h5⟩ := arrayOverA_spec h
  obtain ⟨k', hk', he⟩ := hvm.2.2 _ _ h3
  have hi : (U.vm.classes.findIdx? fun (x : Class) => match x.kind with | .array component _ => component == comp | _ => false) = some c := by
    refine (va_idx_bare U.vm comp).symm.trans ?_
    first | rw [hvm.bare_eq] | rw [← hvm.bare_eq]
    exact (va_idx_bare u.vm comp).trans h2
  have hkind : k'.kind = .array comp (.array t) := by rw [he]; exact h4
  have f1 : U.vm.findClass (FieldType.array t).toString = some comp := by rw [hvm.findClass]; exact h1
  have f2 : U.vm.findClass ("[" ++ (FieldType.array t).toString) = some c := by rw [hvm.findClass]; exact h5
  unfold va_AOA Cond.before Cond.holds
  simp only [Cond.value]
  rw [f1, Option.bind_some]
  refine (congrArg (fun o : Option Nat => (o.bind (fun c => (U.vm.classes[c]?).map fun (k : Class) => match k.kind with | .array _ ty => decide (ty = FieldType.array t) && decide (U.vm.findClass ("[" ++ (FieldType.array t).toString) = some c) | _ => false) == some true)) hi).trans ?_
  simp [hk', hkind, f2]
/-! ===== BEGIN new T[n][m]: the outer array a place, the inner ones among the pooled ===== -/
/-- f, but v at every address of l -/
def vr_up {α : Type} (f : Nat → α) (l : List Nat) (v : α) : Nat → α := fun a => if a ∈ l then v else f a
theorem vr_up_in {α : Type} {f : Nat → α} {l : List Nat} {v : α} {a : Nat} (h : a ∈ l) : vr_up f l v a = v := if_pos h
theorem vr_up_ne {α : Type} {f : Nat → α} {l : List Nat} {v : α} {a : Nat} (h : a ∉ l) : vr_up f l v a = f a := if_neg h
theorem vr_rows {L l : List Nat} {f : Nat → va_E} {e : va_E} (h : ∀ a, a ∈ l → a ∉ L) : va_pl L f ++ l.map (fun a => (a, e)) = va_pl (L ++ l) (vr_up f l e) := by
  unfold va_pl
  rw [List.map_append]
  congr 1
  · apply List.map_congr_left
    intro a ha
    rw [vr_up_ne (fun q => h a q ha)]
  · apply List.map_congr_left
    intro a ha
    rw [vr_up_in ha]
theorem vr_lay {X rows : va_W} {x : Nat × va_E} {pl : va_W} {D : va_G} {cl : List vw_C} {H : Heap} (hP : va_P D cl (((X ++ pl) ++ [x]) ++ rows) H) : va_P D cl ((X ++ [x]) ++ (pl ++ rows)) H := by
  rw [List.append_assoc (X ++ pl)] at hP
  have h := va_P.swap hP
  rw [← List.append_assoc X] at h
  have h2 := va_P.swap h
  rw [List.append_assoc (X ++ [x])] at h2
  exact h2
theorem vr_layD {X rows : va_W} {x : Nat × va_E} {pl : va_W} {A : Nat → Prop} (hD : va_D A (((X ++ pl) ++ [x]) ++ rows)) : va_D A ((X ++ [x]) ++ (pl ++ rows)) := by
  rw [List.append_assoc (X ++ pl)] at hD
  have h := va_D.swap hD
  rw [← List.append_assoc X] at h
  have h2 := va_D.swap h
  rw [List.append_assoc (X ++ [x])] at h2
  exact h2
theorem vr_outer (c : ClassId) (N h0 : Nat) : ∀ i : Nat, Jvm.Free.Multi.outerC c N h0 i = arrV c N (fun j => va_rf (if j < i then some (h0 + 1 + j) else none))
  | 0 => by
    show ({ cls := c, slots := Array.replicate N .null, vm := .none } : Cell) = _
    rw [arrV_new]
    refine congrArg (arrV c N) (funext fun j => ?_)
    simp [va_rf]
  | i + 1 => by
    show (Jvm.Free.Multi.outerC c N h0 i).setSlot i (.ref (h0 + 1 + i)) = _
    rw [vr_outer c N h0 i, arrV_store]
    refine congrArg (arrV c N) (funext fun j => ?_)
    by_cases e : j = i
    · subst e
      simp [updV, va_rf]
    · by_cases h : j < i
      · simp [updV, e, h, Nat.lt_succ_of_lt h]
      · simp [updV, e, h, show ¬ j < i + 1 by omega]
section VGM
variable {p : Program} {l : Launch} {e : Env} {R : Room} {s : State} {m : MethodId} {args : Array Value} {below : List Frame} {meth : Method} {c : Code} {H : Heap} {locs : List Loc} {cells slots : Nat} {Q : State → Prop}
variable {cc : ByteArray} {pc : Nat} {ls : Array Slot} {rest : List Value} {D : va_G} {cl : List vw_C} {A : Nat → Prop} {a : Nat} {tys : List (ClassId × FieldType)} {ws : va_W} {H0 : Heap}
theorem va_mna {X : va_W} {L : List Nat} {f : Nat → va_E} {cc : ByteArray} (hexec : p.tables.exec = Jvm.exec) (hb : c.code = cc) {own : String} {index : Nat} {ty : FieldType} {cy : ClassId} (hown : s.vm.findClass own = some m.cls) (hclink : (Cond.classLink own index ("[" ++ (FieldType.array ty).toString)).before args s = true) (hover : va_AOA ty s) (harr : (Cond.arrayClass ty).before args s = true) (hcy : s.vm.findClass (FieldType.array ty).toString = some cy)
    (hK : va_K D cl tys s) (hP : va_P D cl (X ++ va_pl L f) H) (hD : va_D A (X ++ va_pl L f)) (hS : va_S A H0 H locs) (hA : ∀ q, H0.size ≤ q → A q) {n k : Int32} {N' K' : Nat} {z : vp_A} (hn : ¬ n < 0) (hk : ¬ k < 0) (hN : n.toNatClampNeg = N') (hM : k.toNatClampNeg = K')
    (hb1 : N' * 4 ≤ 536870912) (hb2 : K' * componentBytes ty ≤ 536870912) (hb3 : K' ≤ 536870912) (hdf : fits ty (defaultValue ty) = true) (hdd : (defaultValue ty).isDefault = true) (hcells : cells + (1 + N') ≤ R.cells) (hslots : slots + (N' + N' * K') ≤ R.slots) (hz : ∀ c : ClassId, Jvm.Free.Multi.innerC c K' (defaultValue ty) = vp_cell c z) (hdg : decode cc pc = .ok (.multianewarray index 2, 4))
    (kk : ∀ (q : Nat) (r : Nat → Nat) (cA : ClassId) (H1 : Heap), (∀ i j : Nat, i < N' → j < N' → r i = r j → i = j) → (∀ i : Nat, i < N' → r i ∉ L) → va_K D cl (tys ++ [(cA, .array ty)]) s →
      va_P D cl ((X ++ [(q, .inl (cA, N', .inr (.inr (.inr (.inr (fun i => if i < N' then some (r i) else none))))))]) ++ va_pl (L ++ (List.range N').map r) (vr_up f ((List.range N').map r) (.inl (cy, z)))) H1 → va_D A ((X ++ [(q, .inl (cA, N', .inr (.inr (.inr (.inr (fun i => if i < N' then some (r i) else none))))))]) ++ va_pl (L ++ (List.range N').map r) (vr_up f ((List.range N').map r) (.inl (cy, z)))) → va_S A H0 H1 locs →
      W p l e R s m args below meth c H1 locs (cells + 1 + N') (slots + N' + N' * K') Q (F0 m (pc + 4) ls (.ref q :: rest))) : W p l e R s m args below meth c H locs cells slots Q (F0 m pc ls (.int k :: .int n :: rest)) := by
  subst hN
  subst hM
  intro T hT Xs
  obtain ⟨vm₁, cA, comp, -, fA, fC, hO, -, X', step⟩ := Xs.multianewarray2F hexec hown hclink (va_AOA.use hover) harr (g := F0 m pc ls (.int k :: .int n :: rest)) rfl (by rw [hb]; exact hdg) rfl hn hk hb1 hb2 hb3 hdf hdd hcells hslots
  have ec : some cy = some comp := hcy.symm.trans fC
  cases ec
  generalize hF : Jvm.Free.Multi.fill (T.setVm vm₁) cA cy n.toNatClampNeg k.toNatClampNeg (defaultValue ty) n.toNatClampNeg = F at X' step
  have hTh : (T.setVm vm₁).heap = H := hT
  obtain ⟨f1, f2, -, -⟩ := Jvm.Free.Multi.fill_facts (T.setVm vm₁) cA cy n.toNatClampNeg k.toNatClampNeg (defaultValue ty) n.toNatClampNeg
  rw [hF, hTh] at f1 f2
  have hold : ∀ x : Nat, x < H.size → F.heap[x]? = H[x]? := fun x hx => by
    have := Jvm.Free.Multi.fill_old (T.setVm vm₁) cA cy n.toNatClampNeg k.toNatClampNeg (defaultValue ty) (a := x) (by rw [hTh]; exact hx) n.toNatClampNeg
    rw [hF, hTh] at this
    exact this
  have hrow : ∀ j : Nat, j < n.toNatClampNeg → F.heap[H.size + 1 + j]? = some (vp_cell cy z) := fun j hj => by
    have := Jvm.Free.Multi.fill_inner (T.setVm vm₁) cA cy n.toNatClampNeg k.toNatClampNeg (defaultValue ty) n.toNatClampNeg j hj
    rw [hF, hTh, hz] at this
    exact this
  have hout : Jvm.Free.Multi.outerC cA n.toNatClampNeg H.size n.toNatClampNeg = vp_cell cA (n.toNatClampNeg, .inr (.inr (.inr (.inr (fun i => if i < n.toNatClampNeg then some (H.size + 1 + i) else none))))) := by
    rw [vp_cell_q]
    exact vr_outer cA n.toNatClampNeg H.size n.toNatClampNeg
  rw [hout] at f2
  have hlt : ∀ a, a ∈ L → a < H.size := fun a ha => by
    obtain ⟨k9, hk9⟩ := va_pl_get (X := X) (f := f) ha
    exact (hP k9 _ hk9).lt
  have hnl : ∀ i : Nat, i < n.toNatClampNeg → H.size + 1 + i ∉ L := fun i _ h => by
    have := hlt _ h
    omega
  have hnm : ∀ a, a ∈ (List.range n.toNatClampNeg).map (fun i => H.size + 1 + i) → a ∉ L := fun a ha h => by
    obtain ⟨i, -, rfl⟩ := List.mem_map.mp ha
    have := hlt _ h
    omega
  have hP0 : va_P D cl (X ++ va_pl L f) F.heap := hP.kept (fun k9 x hx => hold x.1 ((hP k9 x hx).lt))
  have hP1 : va_P D cl ((X ++ va_pl L f) ++ [(H.size, .inl (cA, n.toNatClampNeg, .inr (.inr (.inr (.inr (fun i => if i < n.toNatClampNeg then some (H.size + 1 + i) else none))))))]) F.heap := hP0.app (fun k9 x hx => by
    have h0 : k9 < 1 := (List.getElem?_eq_some_iff.mp hx).1
    rw [show k9 = 0 by omega] at hx
    cases hx
    exact f2)
  have hP2 : va_P D cl (((X ++ va_pl L f) ++ [(H.size, .inl (cA, n.toNatClampNeg, .inr (.inr (.inr (.inr (fun i => if i < n.toNatClampNeg then some (H.size + 1 + i) else none))))))]) ++ ((List.range n.toNatClampNeg).map (fun i => H.size + 1 + i)).map (fun a => (a, .inl (cy, z)))) F.heap := hP1.app (fun k9 x hx => by
    obtain ⟨a, ha, rfl⟩ := List.mem_map.mp (List.mem_of_getElem? hx)
    obtain ⟨i, hi, rfl⟩ := List.mem_map.mp ha
    exact hrow i (List.mem_range.mp hi))
  have hD2 : va_D A (((X ++ va_pl L f) ++ [(H.size, .inl (cA, n.toNatClampNeg, .inr (.inr (.inr (.inr (fun i => if i < n.toNatClampNeg then some (H.size + 1 + i) else none))))))]) ++ ((List.range n.toNatClampNeg).map (fun i => H.size + 1 + i)).map (fun a => (a, .inl (cy, z)))) := by
    have hD1 := hD.push (e := .inl (cA, n.toNatClampNeg, .inr (.inr (.inr (.inr (fun i => if i < n.toNatClampNeg then some (H.size + 1 + i) else none)))))) hP rfl (hA _ hS.1)
    generalize hW1 : (X ++ va_pl L f) ++ [(H.size, .inl (cA, n.toNatClampNeg, .inr (.inr (.inr (.inr (fun i => if i < n.toNatClampNeg then some (H.size + 1 + i) else none))))))] = W1 at hD1 hP1 ⊢
    have hle : ∀ (k9 : Nat) (x : Nat × va_E), W1[k9]? = some x → x.1 ≤ H.size := fun k9 x hx => by
      rw [← hW1] at hx
      by_cases hl : k9 < (X ++ va_pl L f).length
      · rw [List.getElem?_append_left hl] at hx
        exact Nat.le_of_lt ((hP k9 x hx).lt)
      · rw [List.getElem?_append_right (by omega)] at hx
        have h0 : k9 - (X ++ va_pl L f).length < 1 := (List.getElem?_eq_some_iff.mp hx).1
        rw [show k9 - (X ++ va_pl L f).length = 0 by omega] at hx
        cases hx
        exact Nat.le_refl _
    have hr : ∀ (k9 : Nat) (x : Nat × va_E), (((List.range n.toNatClampNeg).map (fun i => H.size + 1 + i)).map (fun a => ((a, .inl (cy, z)) : Nat × va_E)))[k9]? = some x → x.1 = H.size + 1 + k9 := fun k9 x hx => by
      rw [List.getElem?_map, List.getElem?_map] at hx
      by_cases h9 : k9 < n.toNatClampNeg
      · rw [List.getElem?_range h9] at hx
        cases hx
        rfl
      · have hn0 : (List.range n.toNatClampNeg)[k9]? = none := List.getElem?_eq_none (by rw [List.length_range]; omega)
        rw [hn0] at hx
        cases hx
    refine ⟨fun i j x y hi hj hxy => ?_, fun k9 x hx => ?_⟩
    · by_cases h1 : i < W1.length <;> by_cases h2 : j < W1.length
      · rw [List.getElem?_append_left h1] at hi
        rw [List.getElem?_append_left h2] at hj
        exact hD1.1 i j x y hi hj hxy
      · rw [List.getElem?_append_left h1] at hi
        rw [List.getElem?_append_right (by omega)] at hj
        have := hle _ _ hi
        have := hr _ _ hj
        omega
      · rw [List.getElem?_append_right (by omega)] at hi
        rw [List.getElem?_append_left h2] at hj
        have := hle _ _ hj
        have := hr _ _ hi
        omega
      · rw [List.getElem?_append_right (by omega)] at hi hj
        have := hr _ _ hi
        have := hr _ _ hj
        omega
    · by_cases h1 : k9 < W1.length
      · rw [List.getElem?_append_left h1] at hx
        exact hD1.2 k9 x hx
      · rw [List.getElem?_append_right (by omega)] at hx
        have := hr _ _ hx
        exact hA _ (by have := hS.1; omega)
  have hAr : ArrOfT s cA (.array ty) := fun N9 z9 => by
    obtain ⟨-, k9, hk9, cm9, hkk9⟩ := (hO 0 0 0).1
    exact ⟨(fun q hq => by cases hq), k9, hk9, cm9, hkk9⟩
  have hK2 : va_K D cl (tys ++ [(cA, .array ty)]) s := ⟨hK.1, fun k9 x hx => by
    by_cases hl : k9 < tys.length
    · rw [List.getElem?_append_left hl] at hx
      exact hK.2 k9 x hx
    · rw [List.getElem?_append_right (by omega)] at hx
      have h0 : k9 - tys.length < 1 := (List.getElem?_eq_some_iff.mp hx).1
      rw [show k9 - tys.length = 0 by omega] at hx
      cases hx
      exact ⟨hAr, fA⟩⟩
  obtain ⟨t, a1, b1⟩ := kk H.size (fun i => H.size + 1 + i) cA F.heap (fun i j _ _ h => by have h9 : H.size + 1 + i = H.size + 1 + j := h; omega) hnl hK2 (by rw [← vr_rows hnm]; exact vr_lay hP2) (by rw [← vr_rows hnm]; exact vr_layD hD2) ⟨by rw [f1]; have := hS.1; omega, fun x h1 h2 => (hold x (Nat.lt_of_lt_of_le h1 hS.1)).trans (hS.2.1 x h1 h2), hS.2.2⟩ F rfl X'
  refine ⟨t, step t ?_, b1⟩
  have e : T.heap.size = H.size := by rw [hT]
  rw [e]
  exact a1
end VGM
/-! ===== END ===== -/
theorem innerC_eq (c : ClassId) : Jvm.Free.Multi.innerC c 61 (defaultValue .int) = vp_cell c (61, .inl (fun _ => 0)) := by
  show ({ cls := c, slots := Array.replicate 61 (defaultValue .int), vm := .none } : Cell) = _
  rw [arrV_new]
  rfl
theorem mna_rows {f : Nat → va_E} {e : va_E} {r : Nat → Nat} : va_pl ([] ++ (List.range 20).map r) (vr_up f ((List.range 20).map r) e) = ((List.range 20).map r).map (fun a => (a, e)) := by
  unfold va_pl
  rw [List.nil_append]
  apply List.map_congr_left
  intro a ha
  rw [vr_up_in ha]
theorem rows_chg {D : va_G} {cl : List vw_C} {ws : va_W} {H : Heap} (hP : va_P D cl ws H) (k : Nat) {a n : Nat} {cA : ClassId} {f : Nat → Option Nat} (hk : ws[k]? = some (a, .inl (cA, n, .inr (.inr (.inr (.inr f)))))) {g : Nat → Option Nat} (h : ∀ j, j < n → f j = g j) : va_P D cl (ws.set k (a, .inl (cA, n, .inr (.inr (.inr (.inr g)))))) H := by
  intro j q hq
  by_cases hj : j = k
  · subst hj
    rw [List.getElem?_set_self (List.getElem?_eq_some_iff.mp hk).1] at hq
    cases hq
    have h1 : H[a]? = some (vp_cell cA (n, .inr (.inr (.inr (.inr f))))) := hP j _ hk
    show H[a]? = some (vp_cell cA (n, .inr (.inr (.inr (.inr g)))))
    rw [h1, vp_cell_q, vp_cell_q]
    unfold arrV
    congr 3
    funext x
    show va_rf (f x.val) = va_rf (g x.val)
    rw [h x.val x.isLt]
  · rw [List.getElem?_set_ne (Ne.symm hj)] at hq
    exact hP j q hq
theorem wk_57 : Cond.methodLink RX1 1 Lib.objectInit ∈ TBL := TBL_2 51 rfl rfl
theorem wk_58 : Cond.classLink RX1 11 "[[I" ∈ TBL := TBL_2 52 rfl rfl
theorem wk_59 : Cond.fieldLink RX1 13 "LakeMarket$History" "rows" "[[I" ∈ TBL := TBL_2 54 rfl rfl
theorem wk_60 : Cond.fieldLink RX1 16 "LakeMarket$History" "payments" "[I" ∈ TBL := TBL_2 55 rfl rfl
set_option maxHeartbeats 4000000 in
set_option maxRecDepth 100000 in
theorem ct_X1_init (l : Launch) (dC : Nat → ClassId) (dI : Nat → Nat → Nat) (h0 : Nat) (sz : Nat) : Met l yX1_init (Cond.code yX1_init cX1_init 1 none :: TBL) { frames := 1, cells := 22, slots := 1260, locals := 12 } (va_Pc [.ref h0] (fun U => U.heap.size = sz ∧ va_P (dC, dI) vwCl [(h0, .inr (1, [.null, .null, .int 0, .int 0]))] U.heap ∧ va_K (dC, dI) vwCl [] U ∧ va_D (fun _ => True) [(h0, .inr (1, [.null, .null, .int 0, .int 0]))] ∧ va_AOA .int U)) (va_Qv (fun _ : Unit => True) (fun _ t => ∃ (q : Nat → Nat) (c : Nat → ClassId), va_P (dC, dI) vwCl [(h0, .inr (1, [.ref (q 0), .ref (q 1), .int 0, .int 0])), ((q 0), .inl ((c 0), 20, .inr (.inr (.inr (.inr (fun j => some (q (j + 2)))))))), ((q 1), .inl ((c 2), 20, .inl (fun _ => 0))), ((q 2), .inl ((c 1), 61, .inl (fun _ => 0))), ((q 3), .inl ((c 1), 61, .inl (fun _ => 0))), ((q 4), .inl ((c 1), 61, .inl (fun _ => 0))), ((q 5), .inl ((c 1), 61, .inl (fun _ => 0))), ((q 6), .inl ((c 1), 61, .inl (fun _ => 0))), ((q 7), .inl ((c 1), 61, .inl (fun _ => 0))), ((q 8), .inl ((c 1), 61, .inl (fun _ => 0))), ((q 9), .inl ((c 1), 61, .inl (fun _ => 0))), ((q 10), .inl ((c 1), 61, .inl (fun _ => 0))), ((q 11), .inl ((c 1), 61, .inl (fun _ => 0))), ((q 12), .inl ((c 1), 61, .inl (fun _ => 0))), ((q 13), .inl ((c 1), 61, .inl (fun _ => 0))), ((q 14), .inl ((c 1), 61, .inl (fun _ => 0))), ((q 15), .inl ((c 1), 61, .inl (fun _ => 0))), ((q 16), .inl ((c 1), 61, .inl (fun _ => 0))), ((q 17), .inl ((c 1), 61, .inl (fun _ => 0))), ((q 18), .inl ((c 1), 61, .inl (fun _ => 0))), ((q 19), .inl ((c 1), 61, .inl (fun _ => 0))), ((q 20), .inl ((c 1), 61, .inl (fun _ => 0))), ((q 21), .inl ((c 1), 61, .inl (fun _ => 0)))] t.heap ∧ va_K (dC, dI) vwCl [((c 0), .array .int), ((c 1), .int), ((c 2), .int)] t ∧ va_D (va_A [(h0, .inr (1, [.null, .null, .int 0, .int 0]))] sz) [(h0, .inr (1, [.ref (q 0), .ref (q 1), .int 0, .int 0])), ((q 0), .inl ((c 0), 20, .inr (.inr (.inr (.inr (fun j => some (q (j + 2)))))))), ((q 1), .inl ((c 2), 20, .inl (fun _ => 0))), ((q 2), .inl ((c 1), 61, .inl (fun _ => 0))), ((q 3), .inl ((c 1), 61, .inl (fun _ => 0))), ((q 4), .inl ((c 1), 61, .inl (fun _ => 0))), ((q 5), .inl ((c 1), 61, .inl (fun _ => 0))), ((q 6), .inl ((c 1), 61, .inl (fun _ => 0))), ((q 7), .inl ((c 1), 61, .inl (fun _ => 0))), ((q 8), .inl ((c 1), 61, .inl (fun _ => 0))), ((q 9), .inl ((c 1), 61, .inl (fun _ => 0))), ((q 10), .inl ((c 1), 61, .inl (fun _ => 0))), ((q 11), .inl ((c 1), 61, .inl (fun _ => 0))), ((q 12), .inl ((c 1), 61, .inl (fun _ => 0))), ((q 13), .inl ((c 1), 61, .inl (fun _ => 0))), ((q 14), .inl ((c 1), 61, .inl (fun _ => 0))), ((q 15), .inl ((c 1), 61, .inl (fun _ => 0))), ((q 16), .inl ((c 1), 61, .inl (fun _ => 0))), ((q 17), .inl ((c 1), 61, .inl (fun _ => 0))), ((q 18), .inl ((c 1), 61, .inl (fun _ => 0))), ((q 19), .inl ((c 1), 61, .inl (fun _ => 0))), ((q 20), .inl ((c 1), 61, .inl (fun _ => 0))), ((q 21), .inl ((c 1), 61, .inl (fun _ => 0)))]) (va_A [(h0, .inr (1, [.null, .null, .int 0, .int 0]))] sz)) 22 1260 (va_A [(h0, .inr (1, [.null, .null, .int 0, .int 0]))] sz) := by
  refine Met.ofW (cc := cX1_init) (maxL := 1) (ret := none) (by decide +kernel) rfl ?_
  intro p e s m args below meth c s₁ B hml hv
  obtain ⟨rfl, hsz, hP, hK, hD0, hov⟩ := hv
  have hx := B.exec
  have hb := B.bytes
  have hr := B.returns
  have hts0 := atoms_spec (ws := Cond.code yX1_init cX1_init 1 none :: TBL) B.pre
  have hts : ∀ w ∈ TBL, w.before ([.ref h0] : List Value).toArray s = true := fun w h => hts0 w (List.mem_cons_of_mem _ h)
  have hown : s.vm.findClass RX1 = some m.cls := findClass_of_methodNamed B.named
  have hlocks := B.notSynchronized
  have hin : meth.name = "<init>" := (name_of_methodNamed B.named B.method).1
  subst hsz
  have hD := hD0.self (sz := s.heap.size)
  generalize hAe : va_A [(h0, .inr (1, [.null, .null, .int 0, .int 0]))] s.heap.size = A at hD ⊢
  have hA : ∀ q : Nat, s.heap.size ≤ q → A q := fun q h => by rw [← hAe]; exact Or.inr h
  have hS : va_S A s.heap s.heap [] := va_S.rf
  have hP : va_P (dC, dI) vwCl [(h0, .inr (1, [.null, .null, .int 0, .int 0]))] s.heap := hP
  have hl := lv_entry ([.ref h0]) (n := 1) (Nat.le_of_ble_eq_true rfl)
  rw [lg_entry_eq]
  generalize (lg_sl ([.ref h0]) ++ List.replicate (1 - (lg_sl ([.ref h0])).length) Slot.unset).toArray = ls at hl ⊢
  have hl : lv_has ls 1 [(0, .ref h0)] := hl
  refine lv_aload_n hx hb dX1_init_0 rfl (lv_at hl 0 rfl) ?_
  refine W.objInit hx hb hown (hts _ wk_57) (hts _ oi_inst) (hts _ oi_code) rfl (by rw [hml]; exact hl.1) rfl dX1_init_1 (Nat.le_of_ble_eq_true rfl) (Nat.le_of_ble_eq_true rfl) ?_
  refine W.eq (g2 := F0 m 4 ls []) rfl ?_
  refine lv_aload_n hx hb dX1_init_4 rfl (lv_at hl 0 rfl) ?_
  refine lv_bipush (v := 20) hx hb dX1_init_5 (by decide) ?_
  refine lv_bipush (v := 61) hx hb dX1_init_7 (by decide) ?_
  obtain ⟨cy, kcy, compy, hy1, hy2, hy3⟩ := Cond.arrayClass_spec (hts _ wk_1)
  have hP0 : va_P (dC, dI) vwCl ([(h0, .inr (1, [.null, .null, .int 0, .int 0]))] ++ va_pl [] (fun _ => .inr (0, []))) s.heap := hP
  have hD0 : va_D A ([(h0, .inr (1, [.null, .null, .int 0, .int 0]))] ++ va_pl [] (fun _ => .inr (0, []))) := hD
  refine va_mna (ty := .int) (cy := cy) (N' := 20) (K' := 61) (z := (61, .inl (fun _ => 0))) hx hb hown (hts _ wk_58) hov (hts _ wk_1) hy1 hK hP0 hD0 hS hA (by decide) (by decide) (by decide) (by decide) (by decide) (by decide) (by decide) rfl rfl (Nat.le_of_ble_eq_true rfl) (Nat.le_of_ble_eq_true rfl) (fun c => innerC_eq c) dX1_init_9 (fun q1 r2 c3 H hinj hnl hK hP hD hS => ?_)
  rw [mna_rows] at hP hD
  have hP := rows_chg hP 1 rfl (g := fun j => some (r2 j)) (fun j hj => if_pos hj)
  have hD := hD.set (p := 1) (e := .inl (c3, 20, .inr (.inr (.inr (.inr (fun j => some (r2 j))))))) rfl
  have hP : va_P (dC, dI) vwCl [(h0, .inr (1, [.null, .null, .int 0, .int 0])), (q1, .inl (c3, 20, .inr (.inr (.inr (.inr (fun j => some (r2 j))))))), ((r2 0), .inl (cy, 61, .inl (fun _ => 0))), ((r2 1), .inl (cy, 61, .inl (fun _ => 0))), ((r2 2), .inl (cy, 61, .inl (fun _ => 0))), ((r2 3), .inl (cy, 61, .inl (fun _ => 0))), ((r2 4), .inl (cy, 61, .inl (fun _ => 0))), ((r2 5), .inl (cy, 61, .inl (fun _ => 0))), ((r2 6), .inl (cy, 61, .inl (fun _ => 0))), ((r2 7), .inl (cy, 61, .inl (fun _ => 0))), ((r2 8), .inl (cy, 61, .inl (fun _ => 0))), ((r2 9), .inl (cy, 61, .inl (fun _ => 0))), ((r2 10), .inl (cy, 61, .inl (fun _ => 0))), ((r2 11), .inl (cy, 61, .inl (fun _ => 0))), ((r2 12), .inl (cy, 61, .inl (fun _ => 0))), ((r2 13), .inl (cy, 61, .inl (fun _ => 0))), ((r2 14), .inl (cy, 61, .inl (fun _ => 0))), ((r2 15), .inl (cy, 61, .inl (fun _ => 0))), ((r2 16), .inl (cy, 61, .inl (fun _ => 0))), ((r2 17), .inl (cy, 61, .inl (fun _ => 0))), ((r2 18), .inl (cy, 61, .inl (fun _ => 0))), ((r2 19), .inl (cy, 61, .inl (fun _ => 0)))] H := hP
  have hD : va_D A [(h0, .inr (1, [.null, .null, .int 0, .int 0])), (q1, .inl (c3, 20, .inr (.inr (.inr (.inr (fun j => some (r2 j))))))), ((r2 0), .inl (cy, 61, .inl (fun _ => 0))), ((r2 1), .inl (cy, 61, .inl (fun _ => 0))), ((r2 2), .inl (cy, 61, .inl (fun _ => 0))), ((r2 3), .inl (cy, 61, .inl (fun _ => 0))), ((r2 4), .inl (cy, 61, .inl (fun _ => 0))), ((r2 5), .inl (cy, 61, .inl (fun _ => 0))), ((r2 6), .inl (cy, 61, .inl (fun _ => 0))), ((r2 7), .inl (cy, 61, .inl (fun _ => 0))), ((r2 8), .inl (cy, 61, .inl (fun _ => 0))), ((r2 9), .inl (cy, 61, .inl (fun _ => 0))), ((r2 10), .inl (cy, 61, .inl (fun _ => 0))), ((r2 11), .inl (cy, 61, .inl (fun _ => 0))), ((r2 12), .inl (cy, 61, .inl (fun _ => 0))), ((r2 13), .inl (cy, 61, .inl (fun _ => 0))), ((r2 14), .inl (cy, 61, .inl (fun _ => 0))), ((r2 15), .inl (cy, 61, .inl (fun _ => 0))), ((r2 16), .inl (cy, 61, .inl (fun _ => 0))), ((r2 17), .inl (cy, 61, .inl (fun _ => 0))), ((r2 18), .inl (cy, 61, .inl (fun _ => 0))), ((r2 19), .inl (cy, 61, .inl (fun _ => 0)))] := hD
  have hK : va_K (dC, dI) vwCl [(c3, .array .int), (cy, .int)] s := hK.app ⟨hK.1, fun k9 x9 h9 => by
    match k9, h9 with
    | 0, h9 => cases h9; exact ⟨fun N9 z9 => ⟨(fun q9 hq9 => by cases hq9), kcy, hy2, compy, hy3⟩, hy1⟩
    | k9 + 1, h9 => simp at h9⟩
  refine W.widen (k := 21) (n := 1240) (by omega) (by omega) ?_
  refine va_putF (D := (dC, dI)) (ci := 1) (v := .ref q1) (ty := (.array (.array .int))) (C := RX1) (T := TX1) (N := 4) hx hb hts cw1 tyX1 tyX1_ok nmX1 hown hK hP hD hS 0 rfl rfl 0 (by decide) (hts _ wk_59) (fun _ h9 => h9) rfl hin rfl (by decide +kernel) rfl rfl (Nat.le_of_ble_eq_true rfl) dX1_init_13 (fun H locs hP hD hS => ?_)
  have hP : va_P (dC, dI) vwCl [(h0, .inr (1, [.ref q1, .null, .int 0, .int 0])), (q1, .inl (c3, 20, .inr (.inr (.inr (.inr (fun j => some (r2 j))))))), ((r2 0), .inl (cy, 61, .inl (fun _ => 0))), ((r2 1), .inl (cy, 61, .inl (fun _ => 0))), ((r2 2), .inl (cy, 61, .inl (fun _ => 0))), ((r2 3), .inl (cy, 61, .inl (fun _ => 0))), ((r2 4), .inl (cy, 61, .inl (fun _ => 0))), ((r2 5), .inl (cy, 61, .inl (fun _ => 0))), ((r2 6), .inl (cy, 61, .inl (fun _ => 0))), ((r2 7), .inl (cy, 61, .inl (fun _ => 0))), ((r2 8), .inl (cy, 61, .inl (fun _ => 0))), ((r2 9), .inl (cy, 61, .inl (fun _ => 0))), ((r2 10), .inl (cy, 61, .inl (fun _ => 0))), ((r2 11), .inl (cy, 61, .inl (fun _ => 0))), ((r2 12), .inl (cy, 61, .inl (fun _ => 0))), ((r2 13), .inl (cy, 61, .inl (fun _ => 0))), ((r2 14), .inl (cy, 61, .inl (fun _ => 0))), ((r2 15), .inl (cy, 61, .inl (fun _ => 0))), ((r2 16), .inl (cy, 61, .inl (fun _ => 0))), ((r2 17), .inl (cy, 61, .inl (fun _ => 0))), ((r2 18), .inl (cy, 61, .inl (fun _ => 0))), ((r2 19), .inl (cy, 61, .inl (fun _ => 0)))] H := hP
  have hD : va_D A [(h0, .inr (1, [.ref q1, .null, .int 0, .int 0])), (q1, .inl (c3, 20, .inr (.inr (.inr (.inr (fun j => some (r2 j))))))), ((r2 0), .inl (cy, 61, .inl (fun _ => 0))), ((r2 1), .inl (cy, 61, .inl (fun _ => 0))), ((r2 2), .inl (cy, 61, .inl (fun _ => 0))), ((r2 3), .inl (cy, 61, .inl (fun _ => 0))), ((r2 4), .inl (cy, 61, .inl (fun _ => 0))), ((r2 5), .inl (cy, 61, .inl (fun _ => 0))), ((r2 6), .inl (cy, 61, .inl (fun _ => 0))), ((r2 7), .inl (cy, 61, .inl (fun _ => 0))), ((r2 8), .inl (cy, 61, .inl (fun _ => 0))), ((r2 9), .inl (cy, 61, .inl (fun _ => 0))), ((r2 10), .inl (cy, 61, .inl (fun _ => 0))), ((r2 11), .inl (cy, 61, .inl (fun _ => 0))), ((r2 12), .inl (cy, 61, .inl (fun _ => 0))), ((r2 13), .inl (cy, 61, .inl (fun _ => 0))), ((r2 14), .inl (cy, 61, .inl (fun _ => 0))), ((r2 15), .inl (cy, 61, .inl (fun _ => 0))), ((r2 16), .inl (cy, 61, .inl (fun _ => 0))), ((r2 17), .inl (cy, 61, .inl (fun _ => 0))), ((r2 18), .inl (cy, 61, .inl (fun _ => 0))), ((r2 19), .inl (cy, 61, .inl (fun _ => 0)))] := hD
  refine lv_aload_n hx hb dX1_init_16 rfl (lv_at hl 0 rfl) ?_
  refine lv_bipush (v := 20) hx hb dX1_init_17 (by decide) ?_
  refine va_newa (atype := .int) (a0 := (20, .inl (fun _ => 0))) hx hb (hts _ wk_1) rfl hK hP hD hS hA (fun _ => rfl) (by decide) (by decide) (by decide) (Nat.le_of_ble_eq_true rfl) (Nat.le_of_ble_eq_true rfl) dX1_init_19 (fun q4 c5 H hK hP hD hS => ?_)
  have hP : va_P (dC, dI) vwCl [(h0, .inr (1, [.ref q1, .null, .int 0, .int 0])), (q1, .inl (c3, 20, .inr (.inr (.inr (.inr (fun j => some (r2 j))))))), ((r2 0), .inl (cy, 61, .inl (fun _ => 0))), ((r2 1), .inl (cy, 61, .inl (fun _ => 0))), ((r2 2), .inl (cy, 61, .inl (fun _ => 0))), ((r2 3), .inl (cy, 61, .inl (fun _ => 0))), ((r2 4), .inl (cy, 61, .inl (fun _ => 0))), ((r2 5), .inl (cy, 61, .inl (fun _ => 0))), ((r2 6), .inl (cy, 61, .inl (fun _ => 0))), ((r2 7), .inl (cy, 61, .inl (fun _ => 0))), ((r2 8), .inl (cy, 61, .inl (fun _ => 0))), ((r2 9), .inl (cy, 61, .inl (fun _ => 0))), ((r2 10), .inl (cy, 61, .inl (fun _ => 0))), ((r2 11), .inl (cy, 61, .inl (fun _ => 0))), ((r2 12), .inl (cy, 61, .inl (fun _ => 0))), ((r2 13), .inl (cy, 61, .inl (fun _ => 0))), ((r2 14), .inl (cy, 61, .inl (fun _ => 0))), ((r2 15), .inl (cy, 61, .inl (fun _ => 0))), ((r2 16), .inl (cy, 61, .inl (fun _ => 0))), ((r2 17), .inl (cy, 61, .inl (fun _ => 0))), ((r2 18), .inl (cy, 61, .inl (fun _ => 0))), ((r2 19), .inl (cy, 61, .inl (fun _ => 0))), (q4, .inl (c5, 20, .inl (fun _ => 0)))] H := hP
  have hD : va_D A [(h0, .inr (1, [.ref q1, .null, .int 0, .int 0])), (q1, .inl (c3, 20, .inr (.inr (.inr (.inr (fun j => some (r2 j))))))), ((r2 0), .inl (cy, 61, .inl (fun _ => 0))), ((r2 1), .inl (cy, 61, .inl (fun _ => 0))), ((r2 2), .inl (cy, 61, .inl (fun _ => 0))), ((r2 3), .inl (cy, 61, .inl (fun _ => 0))), ((r2 4), .inl (cy, 61, .inl (fun _ => 0))), ((r2 5), .inl (cy, 61, .inl (fun _ => 0))), ((r2 6), .inl (cy, 61, .inl (fun _ => 0))), ((r2 7), .inl (cy, 61, .inl (fun _ => 0))), ((r2 8), .inl (cy, 61, .inl (fun _ => 0))), ((r2 9), .inl (cy, 61, .inl (fun _ => 0))), ((r2 10), .inl (cy, 61, .inl (fun _ => 0))), ((r2 11), .inl (cy, 61, .inl (fun _ => 0))), ((r2 12), .inl (cy, 61, .inl (fun _ => 0))), ((r2 13), .inl (cy, 61, .inl (fun _ => 0))), ((r2 14), .inl (cy, 61, .inl (fun _ => 0))), ((r2 15), .inl (cy, 61, .inl (fun _ => 0))), ((r2 16), .inl (cy, 61, .inl (fun _ => 0))), ((r2 17), .inl (cy, 61, .inl (fun _ => 0))), ((r2 18), .inl (cy, 61, .inl (fun _ => 0))), ((r2 19), .inl (cy, 61, .inl (fun _ => 0))), (q4, .inl (c5, 20, .inl (fun _ => 0)))] := hD
  have hK : va_K (dC, dI) vwCl [(c3, .array .int), (cy, .int), (c5, .int)] s := hK
  refine W.widen (k := 22) (n := 1260) (by omega) (by omega) ?_
  refine va_putF (D := (dC, dI)) (ci := 1) (v := .ref q4) (ty := (.array .int)) (C := RX1) (T := TX1) (N := 4) hx hb hts cw1 tyX1 tyX1_ok nmX1 hown hK hP hD hS 0 rfl rfl 1 (by decide) (hts _ wk_60) (fun _ h9 => h9) rfl hin rfl (by decide +kernel) rfl rfl (Nat.le_of_ble_eq_true rfl) dX1_init_21 (fun H locs hP hD hS => ?_)
  have hP : va_P (dC, dI) vwCl [(h0, .inr (1, [.ref q1, .ref q4, .int 0, .int 0])), (q1, .inl (c3, 20, .inr (.inr (.inr (.inr (fun j => some (r2 j))))))), ((r2 0), .inl (cy, 61, .inl (fun _ => 0))), ((r2 1), .inl (cy, 61, .inl (fun _ => 0))), ((r2 2), .inl (cy, 61, .inl (fun _ => 0))), ((r2 3), .inl (cy, 61, .inl (fun _ => 0))), ((r2 4), .inl (cy, 61, .inl (fun _ => 0))), ((r2 5), .inl (cy, 61, .inl (fun _ => 0))), ((r2 6), .inl (cy, 61, .inl (fun _ => 0))), ((r2 7), .inl (cy, 61, .inl (fun _ => 0))), ((r2 8), .inl (cy, 61, .inl (fun _ => 0))), ((r2 9), .inl (cy, 61, .inl (fun _ => 0))), ((r2 10), .inl (cy, 61, .inl (fun _ => 0))), ((r2 11), .inl (cy, 61, .inl (fun _ => 0))), ((r2 12), .inl (cy, 61, .inl (fun _ => 0))), ((r2 13), .inl (cy, 61, .inl (fun _ => 0))), ((r2 14), .inl (cy, 61, .inl (fun _ => 0))), ((r2 15), .inl (cy, 61, .inl (fun _ => 0))), ((r2 16), .inl (cy, 61, .inl (fun _ => 0))), ((r2 17), .inl (cy, 61, .inl (fun _ => 0))), ((r2 18), .inl (cy, 61, .inl (fun _ => 0))), ((r2 19), .inl (cy, 61, .inl (fun _ => 0))), (q4, .inl (c5, 20, .inl (fun _ => 0)))] H := hP
  have hD : va_D A [(h0, .inr (1, [.ref q1, .ref q4, .int 0, .int 0])), (q1, .inl (c3, 20, .inr (.inr (.inr (.inr (fun j => some (r2 j))))))), ((r2 0), .inl (cy, 61, .inl (fun _ => 0))), ((r2 1), .inl (cy, 61, .inl (fun _ => 0))), ((r2 2), .inl (cy, 61, .inl (fun _ => 0))), ((r2 3), .inl (cy, 61, .inl (fun _ => 0))), ((r2 4), .inl (cy, 61, .inl (fun _ => 0))), ((r2 5), .inl (cy, 61, .inl (fun _ => 0))), ((r2 6), .inl (cy, 61, .inl (fun _ => 0))), ((r2 7), .inl (cy, 61, .inl (fun _ => 0))), ((r2 8), .inl (cy, 61, .inl (fun _ => 0))), ((r2 9), .inl (cy, 61, .inl (fun _ => 0))), ((r2 10), .inl (cy, 61, .inl (fun _ => 0))), ((r2 11), .inl (cy, 61, .inl (fun _ => 0))), ((r2 12), .inl (cy, 61, .inl (fun _ => 0))), ((r2 13), .inl (cy, 61, .inl (fun _ => 0))), ((r2 14), .inl (cy, 61, .inl (fun _ => 0))), ((r2 15), .inl (cy, 61, .inl (fun _ => 0))), ((r2 16), .inl (cy, 61, .inl (fun _ => 0))), ((r2 17), .inl (cy, 61, .inl (fun _ => 0))), ((r2 18), .inl (cy, 61, .inl (fun _ => 0))), ((r2 19), .inl (cy, 61, .inl (fun _ => 0))), (q4, .inl (c5, 20, .inl (fun _ => 0)))] := hD
  have hP9 := hP.sub (ws' := [(h0, .inr (1, [.ref q1, .ref q4, .int 0, .int 0])), (q1, .inl (c3, 20, .inr (.inr (.inr (.inr (fun j => some (r2 j))))))), (q4, .inl (c5, 20, .inl (fun _ => 0))), ((r2 0), .inl (cy, 61, .inl (fun _ => 0))), ((r2 1), .inl (cy, 61, .inl (fun _ => 0))), ((r2 2), .inl (cy, 61, .inl (fun _ => 0))), ((r2 3), .inl (cy, 61, .inl (fun _ => 0))), ((r2 4), .inl (cy, 61, .inl (fun _ => 0))), ((r2 5), .inl (cy, 61, .inl (fun _ => 0))), ((r2 6), .inl (cy, 61, .inl (fun _ => 0))), ((r2 7), .inl (cy, 61, .inl (fun _ => 0))), ((r2 8), .inl (cy, 61, .inl (fun _ => 0))), ((r2 9), .inl (cy, 61, .inl (fun _ => 0))), ((r2 10), .inl (cy, 61, .inl (fun _ => 0))), ((r2 11), .inl (cy, 61, .inl (fun _ => 0))), ((r2 12), .inl (cy, 61, .inl (fun _ => 0))), ((r2 13), .inl (cy, 61, .inl (fun _ => 0))), ((r2 14), .inl (cy, 61, .inl (fun _ => 0))), ((r2 15), .inl (cy, 61, .inl (fun _ => 0))), ((r2 16), .inl (cy, 61, .inl (fun _ => 0))), ((r2 17), .inl (cy, 61, .inl (fun _ => 0))), ((r2 18), .inl (cy, 61, .inl (fun _ => 0))), ((r2 19), .inl (cy, 61, .inl (fun _ => 0)))]) [0, 1, 22, 2, 3, 4, 5, 6, 7, 8, 9, 10, 11, 12, 13, 14, 15, 16, 17, 18, 19, 20, 21] rfl
  have hD9 := hD.sub (ws' := [(h0, .inr (1, [.ref q1, .ref q4, .int 0, .int 0])), (q1, .inl (c3, 20, .inr (.inr (.inr (.inr (fun j => some (r2 j))))))), (q4, .inl (c5, 20, .inl (fun _ => 0))), ((r2 0), .inl (cy, 61, .inl (fun _ => 0))), ((r2 1), .inl (cy, 61, .inl (fun _ => 0))), ((r2 2), .inl (cy, 61, .inl (fun _ => 0))), ((r2 3), .inl (cy, 61, .inl (fun _ => 0))), ((r2 4), .inl (cy, 61, .inl (fun _ => 0))), ((r2 5), .inl (cy, 61, .inl (fun _ => 0))), ((r2 6), .inl (cy, 61, .inl (fun _ => 0))), ((r2 7), .inl (cy, 61, .inl (fun _ => 0))), ((r2 8), .inl (cy, 61, .inl (fun _ => 0))), ((r2 9), .inl (cy, 61, .inl (fun _ => 0))), ((r2 10), .inl (cy, 61, .inl (fun _ => 0))), ((r2 11), .inl (cy, 61, .inl (fun _ => 0))), ((r2 12), .inl (cy, 61, .inl (fun _ => 0))), ((r2 13), .inl (cy, 61, .inl (fun _ => 0))), ((r2 14), .inl (cy, 61, .inl (fun _ => 0))), ((r2 15), .inl (cy, 61, .inl (fun _ => 0))), ((r2 16), .inl (cy, 61, .inl (fun _ => 0))), ((r2 17), .inl (cy, 61, .inl (fun _ => 0))), ((r2 18), .inl (cy, 61, .inl (fun _ => 0))), ((r2 19), .inl (cy, 61, .inl (fun _ => 0)))]) [0, 1, 22, 2, 3, 4, 5, 6, 7, 8, 9, 10, 11, 12, 13, 14, 15, 16, 17, 18, 19, 20, 21] (by decide) rfl
  refine W.widen (k := 22) (n := 1260) (by omega) (by omega) ?_
  exact W.vret hx hb hr (fun t ht hW => ⟨⟨(), rfl, trivial, (fun i => match i with | 0 => q1 | 1 => q4 | n + 2 => r2 n), fun i => [c3, cy, c5].getD i 0, by rw [ht]; exact hP9, va_K.moved hW.alike hK, hD9⟩, hS.F ht⟩) hS.2.2 dX1_init_24 hlocks

