theorem PC.ofF {lo hi d : Nat} {y : MethodName} {cc : ByteArray} {nL : Nat} {ret : Option FieldType} {As : List Value} {I : HI} {L : HL} {R : HR} {F : HF} (hy : plainFor y = true) (hn : (lg_sl As).length ≤ nL) (h : PW lo hi d y.cls cc nL ret 0 (lv_args 0 As) [] I L R F) : PC lo hi d y cc nL ret As I L R F := by
  intro l D cA ad hadi
  refine MetFree.of_bodySF (code := cc) (maxLocals := nL) (ret := ret) hy ?_ ?_
  · intro args s m h hn
    obtain ⟨meth, c, h1, h2, h3, h4, h5, h6, -, -⟩ := Cond.code_spec hn (atoms_spec (ws := Cond.code y cc nL ret :: TBL) h _ List.mem_cons_self)
    exact ⟨meth, c, h1, h2, h3, h4, h5, h6⟩
  · intro p e s m args below meth c s₁ B hml hv _
    have hh0 : s₁.heap = s.heap := by rw [B.state]; rfl
    obtain ⟨rfl, hP, hK, hX⟩ := hv
    have hts := atoms_spec (ws := Cond.code y cc nL ret :: TBL) B.pre
    have hown : s.vm.findClass y.cls = some m.cls := findClass_of_methodNamed B.named
    have hl := lv_entry (As.map (mv ad)) (n := nL) (by rw [lg_sl_map]; exact hn)
    rw [lg_entry_eq]
    generalize (lg_sl (As.map (mv ad)) ++ List.replicate (nL - (lg_sl (As.map (mv ad))).length) Slot.unset).toArray = ls at hl ⊢
    rw [lv_args_map] at hl
    obtain ⟨t, a1, o, b1, b2, b3⟩ := h l D cA ad p e _ s m _ below meth c ⟨⟨B.exec, B.bytes, hml, hown, fun w hw => hts w (List.mem_cons_of_mem _ hw)⟩, B.returns, B.notSynchronized, hK, hadi, hX, Nat.le_refl _, Nat.le_refl _⟩ s.heap [] ls hP va_S.rf hl s₁ hh0 (Stand.of_body B)
    exact ⟨t, o, a1, b1, b2, ⟨b3.1, b3.2⟩⟩
theorem PCo.ofF {α : Type} {lo hi d : Nat} {y : MethodName} {cc : ByteArray} {nL : Nat} {ret : Option FieldType} {As : List Value} {I : HI} {L : HL} {R : HR} {o : Option α} {K : α → HF} (hy : plainFor y = true) (hn : (lg_sl As).length ≤ nL) {lv : List (Nat × Value)} (hlv : lv_args 0 As = lv) {own : String} (hown : y.cls = own) (h : ∀ F, PWk lo hi d own cc nL ret 0 lv [] I L R o (fun a => F = K a) F) : PCo lo hi d y cc nL ret As I L R o K := by
  subst hlv
  subst hown
  intro a ha
  exact PC.ofF hy hn (h (K a) a ha rfl)
section PWm
variable {α : Type} {lo hi d : Nat} {own : String} {cc : ByteArray} {nL : Nat} {ret : Option FieldType} {pc : Nat} {lv : List (Nat × Value)} {st : List Value} {I : HI} {L : HL} {R : HR} {o : Option α} {N : α → Prop} {F : HF}
theorem PWk.getrk {idx a ci k : Nat} (hd : decode cc pc = .ok (.getfield idx, 3)) (hr : lo ≤ a ∧ a < hi) (hl : (lay a).1 = ci) (hf : FL own idx ci k) (hk : fk ci k = 3) (hok : R a k ≠ 0) (kk : PWk lo hi d own cc nL ret (pc + 3) lv (.ref (R a k) :: st) I L R o N F) : PWk lo hi d own cc nL ret pc lv (.ref a :: st) I L R o N F :=
  PWk.getf hd hr hl hf (v := .ref (R a k)) (fun ad => by rw [fval_R hk]; unfold refv; rw [if_neg hok]; rfl) kk
theorem PWk.aaldh {a n : Nat} {i : Int32} (hd : decode cc pc = .ok (.aaload, 1)) (hr : lo ≤ a ∧ a < hi) (hl : lay a = (16, n)) (kk : i.toNatClampNeg < n → PWk lo hi d own cc nL ret (pc + 1) lv (.ref (rowAt i.toNatClampNeg) :: st) I L R o N F) : PWk lo hi d own cc nL ret pc lv (.int i :: .ref a :: st) I L R (inb n i o) N F := by
  intro x ho hN
  have ho2 := ho
  unfold inb at ho2
  by_cases h : i < 0 ∨ n ≤ i.toNatClampNeg
  · rw [if_pos h] at ho2; cases ho2
  · exact PWk.aald hd hr hl (kk (Nat.not_le.mp fun q => h (Or.inr q))) x ho hN
/-- a place where ways meet -/
def jnt {α β : Type} (f : β → Option α) (k : (β → Option α) → Option α) : Option α := k f
theorem PWk.jn {β : Type} {f : β → Option α} {k : (β → Option α) → Option α} {pc' : Nat} {lv' : β → List (Nat × Value)} {st' : β → List Value} {I' : β → HI} {L' : β → HL} {R' : β → HR}
    (h : ∀ j : β → Option α, (∀ v, PWk lo hi d own cc nL ret pc' (lv' v) (st' v) (I' v) (L' v) (R' v) (j v) N F) → PWk lo hi d own cc nL ret pc lv st I L R (k j) N F) (hj : ∀ v, PWk lo hi d own cc nL ret pc' (lv' v) (st' v) (I' v) (L' v) (R' v) (f v) N F) : PWk lo hi d own cc nL ret pc lv st I L R (jnt f k) N F := h f hj
theorem PWk.loopV {V : Type} {g : Option V} {k : V → Option α} {pc' : Nat} {lv' : V → List (Nat × Value)} {st' : V → List Value} {I' : V → HI} {L' : V → HL} {R' : V → HR}
    (h : ∀ N' : V → Prop, (∀ v, N' v → PW lo hi d own cc nL ret pc' (lv' v) (st' v) (I' v) (L' v) (R' v) F) → PWk lo hi d own cc nL ret pc lv st I L R g N' F) (hr : ∀ v, PWk lo hi d own cc nL ret pc' (lv' v) (st' v) (I' v) (L' v) (R' v) (k v) N F) : PWk lo hi d own cc nL ret pc lv st I L R (g.bind k) N F :=
  PWk.bind (h _ (fun v ⟨a, e, hN⟩ => hr v a e hN))
theorem PWk.loopS {ρ V : Type} {K : ρ → HF} {g : Option (ρ ⊕ V)} {kl : ρ → Option α} {kr : V → Option α} {pc' : Nat} {lv' : V → List (Nat × Value)} {st' : V → List Value} {I' : V → HI} {L' : V → HL} {R' : V → HR}
    (h : ∀ N' : ρ ⊕ V → Prop, (∀ v, N' (.inr v) → PW lo hi d own cc nL ret pc' (lv' v) (st' v) (I' v) (L' v) (R' v) F) → (∀ r, N' (.inl r) → F = K r) → PWk lo hi d own cc nL ret pc lv st I L R g N' F) (hl : ∀ r a, kl r = some a → N a → F = K r) (hr : ∀ v, PWk lo hi d own cc nL ret pc' (lv' v) (st' v) (I' v) (L' v) (R' v) (kr v) N F) : PWk lo hi d own cc nL ret pc lv st I L R (g.bind (Sum.elim kl kr)) N F :=
  PWk.bind (h _ (fun v ⟨a, e, hN⟩ => hr v a e hN) (fun r ⟨a, e, hN⟩ => hl r a e hN))
theorem PWk.callSi {idx n d' : Nat} {y : MethodName} {cc' : ByteArray} {nL' : Nat} {ret' : Option FieldType} {As rest : List Value} {g : Option (Int32)} {k : Int32 → Option α} (hM : PCo lo hi d' y cc' nL' ret' As I L R g (fun x : Int32 => ((some (.int x), I, L, R) : HF))) (hd : decode cc pc = .ok (.invokestatic idx, 3)) (hw : MLs own idx y cc' nL' ret' n) (hn : As.length = n) (hdd : d' + 1 ≤ d) (hst : st = As.reverse ++ rest) (hcat : (rest.map fun v => v.category).sum ≤ 8) (kk : ∀ x : Int32, PWk lo hi d own cc nL ret (pc + 3) lv (.int x :: rest) I L R (k x) N F) : PWk lo hi d own cc nL ret pc lv st I L R (g.bind k) N F := PWk.callS hM hd hw hn hdd hst hcat kk
theorem PWk.callSl {idx n d' : Nat} {y : MethodName} {cc' : ByteArray} {nL' : Nat} {ret' : Option FieldType} {As rest : List Value} {g : Option (Int64)} {k : Int64 → Option α} (hM : PCo lo hi d' y cc' nL' ret' As I L R g (fun x : Int64 => ((some (.long x), I, L, R) : HF))) (hd : decode cc pc = .ok (.invokestatic idx, 3)) (hw : MLs own idx y cc' nL' ret' n) (hn : As.length = n) (hdd : d' + 1 ≤ d) (hst : st = As.reverse ++ rest) (hcat : (rest.map fun v => v.category).sum ≤ 8) (kk : ∀ x : Int64, PWk lo hi d own cc nL ret (pc + 3) lv (.long x :: rest) I L R (k x) N F) : PWk lo hi d own cc nL ret pc lv st I L R (g.bind k) N F := PWk.callS hM hd hw hn hdd hst hcat kk
theorem PWk.callSvI {idx n d' : Nat} {y : MethodName} {cc' : ByteArray} {nL' : Nat} {ret' : Option FieldType} {As rest : List Value} {g : Option (HI)} {k : HI → Option α} (hM : PCo lo hi d' y cc' nL' ret' As I L R g (fun x : HI => ((none, x, L, R) : HF))) (hd : decode cc pc = .ok (.invokestatic idx, 3)) (hw : MLs own idx y cc' nL' ret' n) (hn : As.length = n) (hdd : d' + 1 ≤ d) (hst : st = As.reverse ++ rest) (hcat : (rest.map fun v => v.category).sum ≤ 8) (kk : ∀ x : HI, PWk lo hi d own cc nL ret (pc + 3) lv (rest) x L R (k x) N F) : PWk lo hi d own cc nL ret pc lv st I L R (g.bind k) N F := PWk.callS hM hd hw hn hdd hst hcat kk
theorem PWk.callVi {idx ci b n d' : Nat} {y : MethodName} {cc' : ByteArray} {nL' : Nat} {ret' : Option FieldType} {As rest : List Value} {g : Option (Int32)} {k : Int32 → Option α} (hM : PCo lo hi d' y cc' nL' ret' (.ref b :: As) I L R g (fun x : Int32 => ((some (.int x), I, L, R) : HF))) (hd : decode cc pc = .ok (.invokevirtual idx, 3)) (hw : MLv own idx y cc' nL' ret' n) (hn : As.length = n) (hr : lo ≤ b ∧ b < hi) (hl : (lay b).1 = ci) (hc : ∃ q, vwCl[ci]? = some q ∧ q.1 = y.cls ∧ ci < 13) (hdd : d' + 1 ≤ d) (hst : st = As.reverse ++ .ref b :: rest) (hcat : (rest.map fun v => v.category).sum ≤ 8) (kk : ∀ x : Int32, PWk lo hi d own cc nL ret (pc + 3) lv (.int x :: rest) I L R (k x) N F) : PWk lo hi d own cc nL ret pc lv st I L R (g.bind k) N F := PWk.callV hM hd hw hn hr hl hc hdd hst hcat kk
theorem PWk.callViI {idx ci b n d' : Nat} {y : MethodName} {cc' : ByteArray} {nL' : Nat} {ret' : Option FieldType} {As rest : List Value} {g : Option (Int32 × HI)} {k : Int32 × HI → Option α} (hM : PCo lo hi d' y cc' nL' ret' (.ref b :: As) I L R g (fun x : Int32 × HI => ((some (.int x.1), x.2, L, R) : HF))) (hd : decode cc pc = .ok (.invokevirtual idx, 3)) (hw : MLv own idx y cc' nL' ret' n) (hn : As.length = n) (hr : lo ≤ b ∧ b < hi) (hl : (lay b).1 = ci) (hc : ∃ q, vwCl[ci]? = some q ∧ q.1 = y.cls ∧ ci < 13) (hdd : d' + 1 ≤ d) (hst : st = As.reverse ++ .ref b :: rest) (hcat : (rest.map fun v => v.category).sum ≤ 8) (kk : ∀ x : Int32 × HI, PWk lo hi d own cc nL ret (pc + 3) lv (.int x.1 :: rest) x.2 L R (k x) N F) : PWk lo hi d own cc nL ret pc lv st I L R (g.bind k) N F := PWk.callV hM hd hw hn hr hl hc hdd hst hcat kk
theorem PWk.callViIL {idx ci b n d' : Nat} {y : MethodName} {cc' : ByteArray} {nL' : Nat} {ret' : Option FieldType} {As rest : List Value} {g : Option (Int32 × HI × HL)} {k : Int32 × HI × HL → Option α} (hM : PCo lo hi d' y cc' nL' ret' (.ref b :: As) I L R g (fun x : Int32 × HI × HL => ((some (.int x.1), x.2.1, x.2.2, R) : HF))) (hd : decode cc pc = .ok (.invokevirtual idx, 3)) (hw : MLv own idx y cc' nL' ret' n) (hn : As.length = n) (hr : lo ≤ b ∧ b < hi) (hl : (lay b).1 = ci) (hc : ∃ q, vwCl[ci]? = some q ∧ q.1 = y.cls ∧ ci < 13) (hdd : d' + 1 ≤ d) (hst : st = As.reverse ++ .ref b :: rest) (hcat : (rest.map fun v => v.category).sum ≤ 8) (kk : ∀ x : Int32 × HI × HL, PWk lo hi d own cc nL ret (pc + 3) lv (.int x.1 :: rest) x.2.1 x.2.2 R (k x) N F) : PWk lo hi d own cc nL ret pc lv st I L R (g.bind k) N F := PWk.callV hM hd hw hn hr hl hc hdd hst hcat kk
theorem PWk.callViIR {idx ci b n d' : Nat} {y : MethodName} {cc' : ByteArray} {nL' : Nat} {ret' : Option FieldType} {As rest : List Value} {g : Option (Int32 × HI × HR)} {k : Int32 × HI × HR → Option α} (hM : PCo lo hi d' y cc' nL' ret' (.ref b :: As) I L R g (fun x : Int32 × HI × HR => ((some (.int x.1), x.2.1, L, x.2.2) : HF))) (hd : decode cc pc = .ok (.invokevirtual idx, 3)) (hw : MLv own idx y cc' nL' ret' n) (hn : As.length = n) (hr : lo ≤ b ∧ b < hi) (hl : (lay b).1 = ci) (hc : ∃ q, vwCl[ci]? = some q ∧ q.1 = y.cls ∧ ci < 13) (hdd : d' + 1 ≤ d) (hst : st = As.reverse ++ .ref b :: rest) (hcat : (rest.map fun v => v.category).sum ≤ 8) (kk : ∀ x : Int32 × HI × HR, PWk lo hi d own cc nL ret (pc + 3) lv (.int x.1 :: rest) x.2.1 L x.2.2 (k x) N F) : PWk lo hi d own cc nL ret pc lv st I L R (g.bind k) N F := PWk.callV hM hd hw hn hr hl hc hdd hst hcat kk
theorem PWk.callViL {idx ci b n d' : Nat} {y : MethodName} {cc' : ByteArray} {nL' : Nat} {ret' : Option FieldType} {As rest : List Value} {g : Option (Int32 × HL)} {k : Int32 × HL → Option α} (hM : PCo lo hi d' y cc' nL' ret' (.ref b :: As) I L R g (fun x : Int32 × HL => ((some (.int x.1), I, x.2, R) : HF))) (hd : decode cc pc = .ok (.invokevirtual idx, 3)) (hw : MLv own idx y cc' nL' ret' n) (hn : As.length = n) (hr : lo ≤ b ∧ b < hi) (hl : (lay b).1 = ci) (hc : ∃ q, vwCl[ci]? = some q ∧ q.1 = y.cls ∧ ci < 13) (hdd : d' + 1 ≤ d) (hst : st = As.reverse ++ .ref b :: rest) (hcat : (rest.map fun v => v.category).sum ≤ 8) (kk : ∀ x : Int32 × HL, PWk lo hi d own cc nL ret (pc + 3) lv (.int x.1 :: rest) I x.2 R (k x) N F) : PWk lo hi d own cc nL ret pc lv st I L R (g.bind k) N F := PWk.callV hM hd hw hn hr hl hc hdd hst hcat kk
theorem PWk.callVl {idx ci b n d' : Nat} {y : MethodName} {cc' : ByteArray} {nL' : Nat} {ret' : Option FieldType} {As rest : List Value} {g : Option (Int64)} {k : Int64 → Option α} (hM : PCo lo hi d' y cc' nL' ret' (.ref b :: As) I L R g (fun x : Int64 => ((some (.long x), I, L, R) : HF))) (hd : decode cc pc = .ok (.invokevirtual idx, 3)) (hw : MLv own idx y cc' nL' ret' n) (hn : As.length = n) (hr : lo ≤ b ∧ b < hi) (hl : (lay b).1 = ci) (hc : ∃ q, vwCl[ci]? = some q ∧ q.1 = y.cls ∧ ci < 13) (hdd : d' + 1 ≤ d) (hst : st = As.reverse ++ .ref b :: rest) (hcat : (rest.map fun v => v.category).sum ≤ 8) (kk : ∀ x : Int64, PWk lo hi d own cc nL ret (pc + 3) lv (.long x :: rest) I L R (k x) N F) : PWk lo hi d own cc nL ret pc lv st I L R (g.bind k) N F := PWk.callV hM hd hw hn hr hl hc hdd hst hcat kk
theorem PWk.callVlIL {idx ci b n d' : Nat} {y : MethodName} {cc' : ByteArray} {nL' : Nat} {ret' : Option FieldType} {As rest : List Value} {g : Option (Int64 × HI × HL)} {k : Int64 × HI × HL → Option α} (hM : PCo lo hi d' y cc' nL' ret' (.ref b :: As) I L R g (fun x : Int64 × HI × HL => ((some (.long x.1), x.2.1, x.2.2, R) : HF))) (hd : decode cc pc = .ok (.invokevirtual idx, 3)) (hw : MLv own idx y cc' nL' ret' n) (hn : As.length = n) (hr : lo ≤ b ∧ b < hi) (hl : (lay b).1 = ci) (hc : ∃ q, vwCl[ci]? = some q ∧ q.1 = y.cls ∧ ci < 13) (hdd : d' + 1 ≤ d) (hst : st = As.reverse ++ .ref b :: rest) (hcat : (rest.map fun v => v.category).sum ≤ 8) (kk : ∀ x : Int64 × HI × HL, PWk lo hi d own cc nL ret (pc + 3) lv (.long x.1 :: rest) x.2.1 x.2.2 R (k x) N F) : PWk lo hi d own cc nL ret pc lv st I L R (g.bind k) N F := PWk.callV hM hd hw hn hr hl hc hdd hst hcat kk
theorem PWk.callVlL {idx ci b n d' : Nat} {y : MethodName} {cc' : ByteArray} {nL' : Nat} {ret' : Option FieldType} {As rest : List Value} {g : Option (Int64 × HL)} {k : Int64 × HL → Option α} (hM : PCo lo hi d' y cc' nL' ret' (.ref b :: As) I L R g (fun x : Int64 × HL => ((some (.long x.1), I, x.2, R) : HF))) (hd : decode cc pc = .ok (.invokevirtual idx, 3)) (hw : MLv own idx y cc' nL' ret' n) (hn : As.length = n) (hr : lo ≤ b ∧ b < hi) (hl : (lay b).1 = ci) (hc : ∃ q, vwCl[ci]? = some q ∧ q.1 = y.cls ∧ ci < 13) (hdd : d' + 1 ≤ d) (hst : st = As.reverse ++ .ref b :: rest) (hcat : (rest.map fun v => v.category).sum ≤ 8) (kk : ∀ x : Int64 × HL, PWk lo hi d own cc nL ret (pc + 3) lv (.long x.1 :: rest) I x.2 R (k x) N F) : PWk lo hi d own cc nL ret pc lv st I L R (g.bind k) N F := PWk.callV hM hd hw hn hr hl hc hdd hst hcat kk
theorem PWk.callVvI {idx ci b n d' : Nat} {y : MethodName} {cc' : ByteArray} {nL' : Nat} {ret' : Option FieldType} {As rest : List Value} {g : Option (HI)} {k : HI → Option α} (hM : PCo lo hi d' y cc' nL' ret' (.ref b :: As) I L R g (fun x : HI => ((none, x, L, R) : HF))) (hd : decode cc pc = .ok (.invokevirtual idx, 3)) (hw : MLv own idx y cc' nL' ret' n) (hn : As.length = n) (hr : lo ≤ b ∧ b < hi) (hl : (lay b).1 = ci) (hc : ∃ q, vwCl[ci]? = some q ∧ q.1 = y.cls ∧ ci < 13) (hdd : d' + 1 ≤ d) (hst : st = As.reverse ++ .ref b :: rest) (hcat : (rest.map fun v => v.category).sum ≤ 8) (kk : ∀ x : HI, PWk lo hi d own cc nL ret (pc + 3) lv (rest) x L R (k x) N F) : PWk lo hi d own cc nL ret pc lv st I L R (g.bind k) N F := PWk.callV hM hd hw hn hr hl hc hdd hst hcat kk
theorem PWk.callVvIL {idx ci b n d' : Nat} {y : MethodName} {cc' : ByteArray} {nL' : Nat} {ret' : Option FieldType} {As rest : List Value} {g : Option (HI × HL)} {k : HI × HL → Option α} (hM : PCo lo hi d' y cc' nL' ret' (.ref b :: As) I L R g (fun x : HI × HL => ((none, x.1, x.2, R) : HF))) (hd : decode cc pc = .ok (.invokevirtual idx, 3)) (hw : MLv own idx y cc' nL' ret' n) (hn : As.length = n) (hr : lo ≤ b ∧ b < hi) (hl : (lay b).1 = ci) (hc : ∃ q, vwCl[ci]? = some q ∧ q.1 = y.cls ∧ ci < 13) (hdd : d' + 1 ≤ d) (hst : st = As.reverse ++ .ref b :: rest) (hcat : (rest.map fun v => v.category).sum ≤ 8) (kk : ∀ x : HI × HL, PWk lo hi d own cc nL ret (pc + 3) lv (rest) x.1 x.2 R (k x) N F) : PWk lo hi d own cc nL ret pc lv st I L R (g.bind k) N F := PWk.callV hM hd hw hn hr hl hc hdd hst hcat kk
theorem PWk.callVvIR {idx ci b n d' : Nat} {y : MethodName} {cc' : ByteArray} {nL' : Nat} {ret' : Option FieldType} {As rest : List Value} {g : Option (HI × HR)} {k : HI × HR → Option α} (hM : PCo lo hi d' y cc' nL' ret' (.ref b :: As) I L R g (fun x : HI × HR => ((none, x.1, L, x.2) : HF))) (hd : decode cc pc = .ok (.invokevirtual idx, 3)) (hw : MLv own idx y cc' nL' ret' n) (hn : As.length = n) (hr : lo ≤ b ∧ b < hi) (hl : (lay b).1 = ci) (hc : ∃ q, vwCl[ci]? = some q ∧ q.1 = y.cls ∧ ci < 13) (hdd : d' + 1 ≤ d) (hst : st = As.reverse ++ .ref b :: rest) (hcat : (rest.map fun v => v.category).sum ≤ 8) (kk : ∀ x : HI × HR, PWk lo hi d own cc nL ret (pc + 3) lv (rest) x.1 L x.2 (k x) N F) : PWk lo hi d own cc nL ret pc lv st I L R (g.bind k) N F := PWk.callV hM hd hw hn hr hl hc hdd hst hcat kk
end PWm
theorem rg_1 : 1 ≤ 1 ∧ 1 < 93 := by decide
theorem lc_1 : (lay 1).1 = 11 := rfl
theorem st_1_0 : stt 1 0 = 2 := by decide
theorem st_1_4 : stt 1 4 = 6 := by decide
theorem st_1_7 : stt 1 7 = 49 := by decide
theorem st_1_8 : stt 1 8 = 58 := by decide
theorem st_1_9 : stt 1 9 = 9 := by decide
theorem st_1_10 : stt 1 10 = 32 := by decide
theorem st_1_11 : stt 1 11 = 34 := by decide
theorem st_1_12 : stt 1 12 = 42 := by decide
theorem st_1_13 : stt 1 13 = 47 := by decide
theorem st_1_14 : stt 1 14 = 3 := by decide
theorem st_1_15 : stt 1 15 = 4 := by decide
theorem st_1_18 : stt 1 18 = 5 := by decide
theorem rg_2 : 1 ≤ 2 ∧ 2 < 93 := by decide
theorem ly_2 : lay 2 = (13, 1600) := rfl
theorem rg_3 : 1 ≤ 3 ∧ 3 < 93 := by decide
theorem ly_3 : lay 3 = (13, 8) := rfl
theorem rg_4 : 1 ≤ 4 ∧ 4 < 93 := by decide
theorem ly_4 : lay 4 = (13, 8) := rfl
theorem rg_5 : 1 ≤ 5 ∧ 5 < 93 := by decide
theorem ly_5 : lay 5 = (13, 6) := rfl
theorem rg_6 : 1 ≤ 6 ∧ 6 < 93 := by decide
theorem lc_6 : (lay 6).1 = 7 := rfl
theorem st_6_0 : stt 6 0 = 7 := by decide
theorem st_6_1 : stt 6 1 = 8 := by decide
theorem rg_7 : 1 ≤ 7 ∧ 7 < 93 := by decide
theorem lc_7 : (lay 7).1 = 10 := rfl
theorem st_7_0 : stt 7 0 = 2 := by decide
theorem rg_8 : 1 ≤ 8 ∧ 8 < 93 := by decide
theorem lc_8 : (lay 8).1 = 8 := rfl
theorem st_8_0 : stt 8 0 = 7 := by decide
theorem rg_9 : 1 ≤ 9 ∧ 9 < 93 := by decide
theorem lc_9 : (lay 9).1 = 1 := rfl
theorem st_9_0 : stt 9 0 = 10 := by decide
theorem st_9_1 : stt 9 1 = 11 := by decide
theorem rg_10 : 1 ≤ 10 ∧ 10 < 93 := by decide
theorem ly_10 : lay 10 = (16, 20) := rfl
theorem rg_11 : 1 ≤ 11 ∧ 11 < 93 := by decide
theorem ly_11 : lay 11 = (13, 20) := rfl
theorem rg_12 : 1 ≤ 12 ∧ 12 < 93 := by decide
theorem ly_12 : lay 12 = (13, 61) := rfl
theorem rg_13 : 1 ≤ 13 ∧ 13 < 93 := by decide
theorem ly_13 : lay 13 = (13, 61) := rfl
theorem rg_14 : 1 ≤ 14 ∧ 14 < 93 := by decide
theorem ly_14 : lay 14 = (13, 61) := rfl
theorem rg_15 : 1 ≤ 15 ∧ 15 < 93 := by decide
theorem ly_15 : lay 15 = (13, 61) := rfl
theorem rg_16 : 1 ≤ 16 ∧ 16 < 93 := by decide
theorem ly_16 : lay 16 = (13, 61) := rfl
theorem rg_17 : 1 ≤ 17 ∧ 17 < 93 := by decide
theorem ly_17 : lay 17 = (13, 61) := rfl
theorem rg_18 : 1 ≤ 18 ∧ 18 < 93 := by decide
theorem ly_18 : lay 18 = (13, 61) := rfl
theorem rg_19 : 1 ≤ 19 ∧ 19 < 93 := by decide
theorem ly_19 : lay 19 = (13, 61) := rfl
theorem rg_20 : 1 ≤ 20 ∧ 20 < 93 := by decide
theorem ly_20 : lay 20 = (13, 61) := rfl
theorem rg_21 : 1 ≤ 21 ∧ 21 < 93 := by decide
theorem ly_21 : lay 21 = (13, 61) := rfl
theorem rg_22 : 1 ≤ 22 ∧ 22 < 93 := by decide
theorem ly_22 : lay 22 = (13, 61) := rfl
theorem rg_23 : 1 ≤ 23 ∧ 23 < 93 := by decide
theorem ly_23 : lay 23 = (13, 61) := rfl
theorem rg_24 : 1 ≤ 24 ∧ 24 < 93 := by decide
theorem ly_24 : lay 24 = (13, 61) := rfl
theorem rg_25 : 1 ≤ 25 ∧ 25 < 93 := by decide
theorem ly_25 : lay 25 = (13, 61) := rfl
theorem rg_26 : 1 ≤ 26 ∧ 26 < 93 := by decide
theorem ly_26 : lay 26 = (13, 61) := rfl
theorem rg_27 : 1 ≤ 27 ∧ 27 < 93 := by decide
theorem ly_27 : lay 27 = (13, 61) := rfl
theorem rg_28 : 1 ≤ 28 ∧ 28 < 93 := by decide
theorem ly_28 : lay 28 = (13, 61) := rfl
theorem rg_29 : 1 ≤ 29 ∧ 29 < 93 := by decide
theorem ly_29 : lay 29 = (13, 61) := rfl
theorem rg_30 : 1 ≤ 30 ∧ 30 < 93 := by decide
theorem ly_30 : lay 30 = (13, 61) := rfl
theorem rg_31 : 1 ≤ 31 ∧ 31 < 93 := by decide
theorem ly_31 : lay 31 = (13, 61) := rfl
theorem rg_32 : 1 ≤ 32 ∧ 32 < 93 := by decide
theorem lc_32 : (lay 32).1 = 5 := rfl
theorem st_32_0 : stt 32 0 = 33 := by decide
theorem rg_33 : 1 ≤ 33 ∧ 33 < 93 := by decide
theorem ly_33 : lay 33 = (13, 240) := rfl
theorem rg_34 : 1 ≤ 34 ∧ 34 < 93 := by decide
theorem lc_34 : (lay 34).1 = 0 := rfl
theorem st_34_0 : stt 34 0 = 35 := by decide
theorem st_34_1 : stt 34 1 = 36 := by decide
theorem st_34_3 : stt 34 3 = 37 := by decide
theorem st_34_4 : stt 34 4 = 38 := by decide
theorem st_34_5 : stt 34 5 = 39 := by decide
theorem st_34_6 : stt 34 6 = 40 := by decide
theorem st_34_7 : stt 34 7 = 41 := by decide
theorem rg_35 : 1 ≤ 35 ∧ 35 < 93 := by decide
theorem ly_35 : lay 35 = (13, 8) := rfl
theorem rg_36 : 1 ≤ 36 ∧ 36 < 93 := by decide
theorem ly_36 : lay 36 = (13, 8) := rfl
theorem rg_37 : 1 ≤ 37 ∧ 37 < 93 := by decide
theorem ly_37 : lay 37 = (13, 256) := rfl
theorem rg_38 : 1 ≤ 38 ∧ 38 < 93 := by decide
theorem ly_38 : lay 38 = (13, 256) := rfl
theorem rg_39 : 1 ≤ 39 ∧ 39 < 93 := by decide
theorem ly_39 : lay 39 = (13, 3) := rfl
theorem rg_40 : 1 ≤ 40 ∧ 40 < 93 := by decide
theorem ly_40 : lay 40 = (13, 8) := rfl
theorem rg_41 : 1 ≤ 41 ∧ 41 < 93 := by decide
theorem ly_41 : lay 41 = (13, 8) := rfl
theorem rg_42 : 1 ≤ 42 ∧ 42 < 93 := by decide
theorem lc_42 : (lay 42).1 = 4 := rfl
theorem st_42_0 : stt 42 0 = 43 := by decide
theorem st_42_1 : stt 42 1 = 44 := by decide
theorem st_42_2 : stt 42 2 = 45 := by decide
theorem st_42_3 : stt 42 3 = 46 := by decide
theorem rg_43 : 1 ≤ 43 ∧ 43 < 93 := by decide
theorem ly_43 : lay 43 = (13, 8) := rfl
theorem rg_44 : 1 ≤ 44 ∧ 44 < 93 := by decide
theorem ly_44 : lay 44 = (13, 8) := rfl
theorem rg_45 : 1 ≤ 45 ∧ 45 < 93 := by decide
theorem ly_45 : lay 45 = (13, 8) := rfl
theorem rg_46 : 1 ≤ 46 ∧ 46 < 93 := by decide
theorem ly_46 : lay 46 = (13, 2048) := rfl
theorem rg_47 : 1 ≤ 47 ∧ 47 < 93 := by decide
theorem lc_47 : (lay 47).1 = 6 := rfl
theorem st_47_0 : stt 47 0 = 48 := by decide
theorem rg_48 : 1 ≤ 48 ∧ 48 < 93 := by decide
theorem ly_48 : lay 48 = (13, 107) := rfl
theorem rg_49 : 1 ≤ 49 ∧ 49 < 93 := by decide
theorem lc_49 : (lay 49).1 = 9 := rfl
theorem st_49_2 : stt 49 2 = 50 := by decide
theorem st_49_3 : stt 49 3 = 51 := by decide
theorem st_49_4 : stt 49 4 = 52 := by decide
theorem st_49_5 : stt 49 5 = 53 := by decide
theorem st_49_6 : stt 49 6 = 54 := by decide
theorem st_49_7 : stt 49 7 = 55 := by decide
theorem rg_50 : 1 ≤ 50 ∧ 50 < 93 := by decide
theorem ly_50 : lay 50 = (13, 8) := rfl
theorem rg_51 : 1 ≤ 51 ∧ 51 < 93 := by decide
theorem ly_51 : lay 51 = (13, 8) := rfl
theorem rg_52 : 1 ≤ 52 ∧ 52 < 93 := by decide
theorem ly_52 : lay 52 = (13, 8) := rfl
theorem rg_53 : 1 ≤ 53 ∧ 53 < 93 := by decide
theorem ly_53 : lay 53 = (13, 36) := rfl
theorem rg_54 : 1 ≤ 54 ∧ 54 < 93 := by decide
theorem ly_54 : lay 54 = (13, 8) := rfl
theorem rg_55 : 1 ≤ 55 ∧ 55 < 93 := by decide
theorem lc_55 : (lay 55).1 = 3 := rfl
theorem st_55_0 : stt 55 0 = 56 := by decide
theorem st_55_2 : stt 55 2 = 57 := by decide
theorem rg_56 : 1 ≤ 56 ∧ 56 < 93 := by decide
theorem ly_56 : lay 56 = (13, 128) := rfl
theorem rg_57 : 1 ≤ 57 ∧ 57 < 93 := by decide
theorem ly_57 : lay 57 = (13, 6) := rfl
theorem rg_58 : 1 ≤ 58 ∧ 58 < 93 := by decide
theorem lc_58 : (lay 58).1 = 9 := rfl
theorem st_58_2 : stt 58 2 = 59 := by decide
theorem st_58_3 : stt 58 3 = 60 := by decide
theorem st_58_4 : stt 58 4 = 61 := by decide
theorem st_58_5 : stt 58 5 = 62 := by decide
theorem st_58_6 : stt 58 6 = 63 := by decide
theorem st_58_7 : stt 58 7 = 64 := by decide
theorem rg_59 : 1 ≤ 59 ∧ 59 < 93 := by decide
theorem ly_59 : lay 59 = (13, 8) := rfl
theorem rg_60 : 1 ≤ 60 ∧ 60 < 93 := by decide
theorem ly_60 : lay 60 = (13, 8) := rfl
theorem rg_61 : 1 ≤ 61 ∧ 61 < 93 := by decide
theorem ly_61 : lay 61 = (13, 8) := rfl
theorem rg_62 : 1 ≤ 62 ∧ 62 < 93 := by decide
theorem ly_62 : lay 62 = (13, 36) := rfl
theorem rg_63 : 1 ≤ 63 ∧ 63 < 93 := by decide
theorem ly_63 : lay 63 = (13, 8) := rfl
theorem rg_64 : 1 ≤ 64 ∧ 64 < 93 := by decide
theorem lc_64 : (lay 64).1 = 3 := rfl
theorem st_64_0 : stt 64 0 = 65 := by decide
theorem st_64_2 : stt 64 2 = 66 := by decide
theorem rg_65 : 1 ≤ 65 ∧ 65 < 93 := by decide
theorem ly_65 : lay 65 = (13, 128) := rfl
theorem rg_66 : 1 ≤ 66 ∧ 66 < 93 := by decide
theorem ly_66 : lay 66 = (13, 6) := rfl
theorem rg_67 : 1 ≤ 67 ∧ 67 < 93 := by decide
theorem lc_67 : (lay 67).1 = 2 := rfl
theorem st_67_6 : stt 67 6 = 68 := by decide
theorem st_67_7 : stt 67 7 = 69 := by decide
theorem st_67_8 : stt 67 8 = 70 := by decide
theorem st_67_9 : stt 67 9 = 71 := by decide
theorem st_67_10 : stt 67 10 = 72 := by decide
theorem st_67_11 : stt 67 11 = 73 := by decide
theorem st_67_12 : stt 67 12 = 74 := by decide
theorem st_67_13 : stt 67 13 = 75 := by decide
theorem st_67_14 : stt 67 14 = 76 := by decide
theorem st_67_15 : stt 67 15 = 77 := by decide
theorem st_67_17 : stt 67 17 = 78 := by decide
theorem st_67_18 : stt 67 18 = 79 := by decide
theorem rg_68 : 1 ≤ 68 ∧ 68 < 93 := by decide
theorem ly_68 : lay 68 = (13, 8) := rfl
theorem rg_69 : 1 ≤ 69 ∧ 69 < 93 := by decide
theorem ly_69 : lay 69 = (13, 6) := rfl
theorem rg_70 : 1 ≤ 70 ∧ 70 < 93 := by decide
theorem ly_70 : lay 70 = (13, 8) := rfl
theorem rg_71 : 1 ≤ 71 ∧ 71 < 93 := by decide
theorem ly_71 : lay 71 = (13, 8) := rfl
theorem rg_72 : 1 ≤ 72 ∧ 72 < 93 := by decide
theorem ly_72 : lay 72 = (13, 8) := rfl
theorem rg_73 : 1 ≤ 73 ∧ 73 < 93 := by decide
theorem ly_73 : lay 73 = (13, 8) := rfl
theorem rg_74 : 1 ≤ 74 ∧ 74 < 93 := by decide
theorem ly_74 : lay 74 = (13, 8) := rfl
theorem rg_75 : 1 ≤ 75 ∧ 75 < 93 := by decide
theorem ly_75 : lay 75 = (13, 8) := rfl
theorem rg_76 : 1 ≤ 76 ∧ 76 < 93 := by decide
theorem ly_76 : lay 76 = (13, 36) := rfl
theorem rg_77 : 1 ≤ 77 ∧ 77 < 93 := by decide
theorem ly_77 : lay 77 = (13, 1600) := rfl
theorem rg_78 : 1 ≤ 78 ∧ 78 < 93 := by decide
theorem ly_78 : lay 78 = (13, 3) := rfl
theorem rg_79 : 1 ≤ 79 ∧ 79 < 93 := by decide
theorem ly_79 : lay 79 = (13, 3) := rfl
theorem rg_80 : 1 ≤ 80 ∧ 80 < 93 := by decide
theorem lc_80 : (lay 80).1 = 2 := rfl
theorem st_80_6 : stt 80 6 = 81 := by decide
theorem st_80_7 : stt 80 7 = 82 := by decide
theorem st_80_8 : stt 80 8 = 83 := by decide
theorem st_80_9 : stt 80 9 = 84 := by decide
theorem st_80_10 : stt 80 10 = 85 := by decide
theorem st_80_11 : stt 80 11 = 86 := by decide
theorem st_80_12 : stt 80 12 = 87 := by decide
theorem st_80_13 : stt 80 13 = 88 := by decide
theorem st_80_14 : stt 80 14 = 89 := by decide
theorem st_80_15 : stt 80 15 = 90 := by decide
theorem st_80_17 : stt 80 17 = 91 := by decide
theorem st_80_18 : stt 80 18 = 92 := by decide
theorem rg_81 : 1 ≤ 81 ∧ 81 < 93 := by decide
theorem ly_81 : lay 81 = (13, 8) := rfl
theorem rg_82 : 1 ≤ 82 ∧ 82 < 93 := by decide
theorem ly_82 : lay 82 = (13, 6) := rfl
theorem rg_83 : 1 ≤ 83 ∧ 83 < 93 := by decide
theorem ly_83 : lay 83 = (13, 8) := rfl
theorem rg_84 : 1 ≤ 84 ∧ 84 < 93 := by decide
theorem ly_84 : lay 84 = (13, 8) := rfl
theorem rg_85 : 1 ≤ 85 ∧ 85 < 93 := by decide
theorem ly_85 : lay 85 = (13, 8) := rfl
theorem rg_86 : 1 ≤ 86 ∧ 86 < 93 := by decide
theorem ly_86 : lay 86 = (13, 8) := rfl
theorem rg_87 : 1 ≤ 87 ∧ 87 < 93 := by decide
theorem ly_87 : lay 87 = (13, 8) := rfl
theorem rg_88 : 1 ≤ 88 ∧ 88 < 93 := by decide
theorem ly_88 : lay 88 = (13, 8) := rfl
theorem rg_89 : 1 ≤ 89 ∧ 89 < 93 := by decide
theorem ly_89 : lay 89 = (13, 36) := rfl
theorem rg_90 : 1 ≤ 90 ∧ 90 < 93 := by decide
theorem ly_90 : lay 90 = (13, 1600) := rfl
theorem rg_91 : 1 ≤ 91 ∧ 91 < 93 := by decide
theorem ly_91 : lay 91 = (13, 3) := rfl
theorem rg_92 : 1 ≤ 92 ∧ 92 < 93 := by decide
theorem ly_92 : lay 92 = (13, 3) := rfl
theorem rg_100 : 100 ≤ 100 ∧ 100 < 147 := by decide
theorem lc_100 : (lay 100).1 = 12 := rfl
theorem st_100_0 : stt 100 0 = 101 := by decide
theorem st_100_14 : stt 100 14 = 102 := by decide
theorem st_100_15 : stt 100 15 = 103 := by decide
theorem st_100_16 : stt 100 16 = 104 := by decide
theorem st_100_17 : stt 100 17 = 105 := by decide
theorem st_100_18 : stt 100 18 = 106 := by decide
theorem st_100_19 : stt 100 19 = 107 := by decide
theorem st_100_20 : stt 100 20 = 108 := by decide
theorem st_100_21 : stt 100 21 = 109 := by decide
theorem st_100_22 : stt 100 22 = 110 := by decide
theorem st_100_23 : stt 100 23 = 111 := by decide
theorem st_100_24 : stt 100 24 = 112 := by decide
theorem st_100_25 : stt 100 25 = 113 := by decide
theorem st_100_26 : stt 100 26 = 114 := by decide
theorem st_100_27 : stt 100 27 = 115 := by decide
theorem st_100_28 : stt 100 28 = 116 := by decide
theorem st_100_29 : stt 100 29 = 117 := by decide
theorem st_100_30 : stt 100 30 = 118 := by decide
theorem st_100_31 : stt 100 31 = 119 := by decide
theorem st_100_35 : stt 100 35 = 120 := by decide
theorem st_100_36 : stt 100 36 = 121 := by decide
theorem st_100_37 : stt 100 37 = 122 := by decide
theorem st_100_38 : stt 100 38 = 123 := by decide
theorem st_100_39 : stt 100 39 = 124 := by decide
theorem st_100_42 : stt 100 42 = 125 := by decide
theorem st_100_45 : stt 100 45 = 126 := by decide
theorem st_100_46 : stt 100 46 = 127 := by decide
theorem st_100_47 : stt 100 47 = 128 := by decide
theorem st_100_48 : stt 100 48 = 129 := by decide
theorem st_100_49 : stt 100 49 = 130 := by decide
theorem st_100_50 : stt 100 50 = 131 := by decide
theorem st_100_51 : stt 100 51 = 132 := by decide
theorem st_100_52 : stt 100 52 = 133 := by decide
theorem st_100_56 : stt 100 56 = 134 := by decide
theorem st_100_57 : stt 100 57 = 135 := by decide
theorem st_100_58 : stt 100 58 = 136 := by decide
theorem st_100_59 : stt 100 59 = 137 := by decide
theorem st_100_60 : stt 100 60 = 138 := by decide
theorem st_100_61 : stt 100 61 = 139 := by decide
theorem st_100_62 : stt 100 62 = 140 := by decide
theorem st_100_63 : stt 100 63 = 141 := by decide
theorem st_100_64 : stt 100 64 = 142 := by decide
theorem st_100_65 : stt 100 65 = 143 := by decide
theorem st_100_67 : stt 100 67 = 144 := by decide
theorem st_100_68 : stt 100 68 = 145 := by decide
theorem st_100_69 : stt 100 69 = 146 := by decide
theorem rg_101 : 100 ≤ 101 ∧ 101 < 147 := by decide
theorem ly_101 : lay 101 = (13, 1800) := rfl
theorem rg_102 : 100 ≤ 102 ∧ 102 < 147 := by decide
theorem ly_102 : lay 102 = (13, 2) := rfl
theorem rg_103 : 100 ≤ 103 ∧ 103 < 147 := by decide
theorem ly_103 : lay 103 = (13, 16) := rfl
theorem rg_104 : 100 ≤ 104 ∧ 104 < 147 := by decide
theorem ly_104 : lay 104 = (13, 16) := rfl
theorem rg_105 : 100 ≤ 105 ∧ 105 < 147 := by decide
theorem ly_105 : lay 105 = (13, 2) := rfl
theorem rg_106 : 100 ≤ 106 ∧ 106 < 147 := by decide
theorem ly_106 : lay 106 = (13, 2) := rfl
theorem rg_107 : 100 ≤ 107 ∧ 107 < 147 := by decide
theorem ly_107 : lay 107 = (13, 16) := rfl
theorem rg_108 : 100 ≤ 108 ∧ 108 < 147 := by decide
theorem ly_108 : lay 108 = (13, 16) := rfl
theorem rg_109 : 100 ≤ 109 ∧ 109 < 147 := by decide
theorem ly_109 : lay 109 = (13, 16) := rfl
theorem rg_110 : 100 ≤ 110 ∧ 110 < 147 := by decide
theorem ly_110 : lay 110 = (13, 72) := rfl
theorem rg_111 : 100 ≤ 111 ∧ 111 < 147 := by decide
theorem ly_111 : lay 111 = (13, 2) := rfl
theorem rg_112 : 100 ≤ 112 ∧ 112 < 147 := by decide
theorem ly_112 : lay 112 = (13, 2) := rfl
theorem rg_113 : 100 ≤ 113 ∧ 113 < 147 := by decide
theorem ly_113 : lay 113 = (13, 6) := rfl
theorem rg_114 : 100 ≤ 114 ∧ 114 < 147 := by decide
theorem ly_114 : lay 114 = (13, 6) := rfl
theorem rg_115 : 100 ≤ 115 ∧ 115 < 147 := by decide
theorem ly_115 : lay 115 = (13, 3200) := rfl
theorem rg_116 : 100 ≤ 116 ∧ 116 < 147 := by decide
theorem ly_116 : lay 116 = (13, 3200) := rfl
theorem rg_117 : 100 ≤ 117 ∧ 117 < 147 := by decide
theorem ly_117 : lay 117 = (14, 16) := rfl
theorem rg_118 : 100 ≤ 118 ∧ 118 < 147 := by decide
theorem ly_118 : lay 118 = (14, 12) := rfl
theorem rg_119 : 100 ≤ 119 ∧ 119 < 147 := by decide
theorem ly_119 : lay 119 = (14, 16) := rfl
theorem rg_120 : 100 ≤ 120 ∧ 120 < 147 := by decide
theorem ly_120 : lay 120 = (13, 20) := rfl
theorem rg_121 : 100 ≤ 121 ∧ 121 < 147 := by decide
theorem ly_121 : lay 121 = (13, 20) := rfl
theorem rg_122 : 100 ≤ 122 ∧ 122 < 147 := by decide
theorem ly_122 : lay 122 = (15, 20) := rfl
theorem rg_123 : 100 ≤ 123 ∧ 123 < 147 := by decide
theorem ly_123 : lay 123 = (13, 20) := rfl
theorem rg_124 : 100 ≤ 124 ∧ 124 < 147 := by decide
theorem ly_124 : lay 124 = (13, 20) := rfl
theorem rg_125 : 100 ≤ 125 ∧ 125 < 147 := by decide
theorem ly_125 : lay 125 = (13, 500) := rfl
theorem rg_126 : 100 ≤ 126 ∧ 126 < 147 := by decide
theorem ly_126 : lay 126 = (13, 6) := rfl
theorem rg_127 : 100 ≤ 127 ∧ 127 < 147 := by decide
theorem ly_127 : lay 127 = (13, 26) := rfl
theorem rg_128 : 100 ≤ 128 ∧ 128 < 147 := by decide
theorem ly_128 : lay 128 = (13, 208) := rfl
theorem rg_129 : 100 ≤ 129 ∧ 129 < 147 := by decide
theorem ly_129 : lay 129 = (13, 208) := rfl
theorem rg_130 : 100 ≤ 130 ∧ 130 < 147 := by decide
theorem ly_130 : lay 130 = (13, 208) := rfl
theorem rg_131 : 100 ≤ 131 ∧ 131 < 147 := by decide
theorem ly_131 : lay 131 = (13, 936) := rfl
theorem rg_132 : 100 ≤ 132 ∧ 132 < 147 := by decide
theorem ly_132 : lay 132 = (13, 26) := rfl
theorem rg_133 : 100 ≤ 133 ∧ 133 < 147 := by decide
theorem ly_133 : lay 133 = (13, 4160) := rfl
theorem rg_134 : 100 ≤ 134 ∧ 134 < 147 := by decide
theorem ly_134 : lay 134 = (14, 500) := rfl
theorem rg_135 : 100 ≤ 135 ∧ 135 < 147 := by decide
theorem ly_135 : lay 135 = (13, 10) := rfl
theorem rg_136 : 100 ≤ 136 ∧ 136 < 147 := by decide
theorem ly_136 : lay 136 = (13, 8) := rfl
theorem rg_137 : 100 ≤ 137 ∧ 137 < 147 := by decide
theorem ly_137 : lay 137 = (13, 8) := rfl
theorem rg_138 : 100 ≤ 138 ∧ 138 < 147 := by decide
theorem ly_138 : lay 138 = (13, 5) := rfl
theorem rg_139 : 100 ≤ 139 ∧ 139 < 147 := by decide
theorem ly_139 : lay 139 = (15, 65536) := rfl
theorem rg_140 : 100 ≤ 140 ∧ 140 < 147 := by decide
theorem ly_140 : lay 140 = (13, 256) := rfl
theorem rg_141 : 100 ≤ 141 ∧ 141 < 147 := by decide
theorem ly_141 : lay 141 = (13, 64) := rfl
theorem rg_142 : 100 ≤ 142 ∧ 142 < 147 := by decide
theorem ly_142 : lay 142 = (13, 3) := rfl
theorem rg_143 : 100 ≤ 143 ∧ 143 < 147 := by decide
theorem ly_143 : lay 143 = (13, 8) := rfl
theorem rg_144 : 100 ≤ 144 ∧ 144 < 147 := by decide
theorem ly_144 : lay 144 = (13, 8) := rfl
theorem rg_145 : 100 ≤ 145 ∧ 145 < 147 := by decide
theorem ly_145 : lay 145 = (13, 8) := rfl
theorem rg_146 : 100 ≤ 146 ∧ 146 < 147 := by decide
theorem ly_146 : lay 146 = (13, 120) := rfl
def isSc (x : Nat) : Prop := x = 49 ∨ x = 58
theorem isSc_49 : isSc 49 := Or.inl rfl
theorem isSc_58 : isSc 58 := Or.inr rfl
def okSc (x : Nat) : Bool := x == 49 || x == 58
theorem okSc_is {x : Nat} (h : okSc x = true) : isSc x := by
  unfold okSc at h
  unfold isSc
  simpa using h
theorem neSc {x : Nat} (h : isSc x) : x ≠ 0 := by
  rcases h with rfl | rfl <;> decide
theorem okSc_ne {x : Nat} (h : okSc x = true) : x ≠ 0 := neSc (okSc_is h)
theorem lcSc {x : Nat} (h : isSc x) : (lay x).1 = 9 := by
  rcases h with rfl | rfl <;> rfl
theorem rgSc_0 {x : Nat} (h : isSc x) : 1 ≤ x ∧ x < 93 := by
  rcases h with rfl | rfl <;> decide
theorem rgSc_1 {x : Nat} (h : isSc x) : 1 ≤ x + 1 ∧ x + 1 < 93 := by
  rcases h with rfl | rfl <;> decide
theorem lySc_1 {x : Nat} (h : isSc x) : lay (x + 1) = (13, 8) := by
  rcases h with rfl | rfl <;> rfl
theorem rgSc_2 {x : Nat} (h : isSc x) : 1 ≤ x + 2 ∧ x + 2 < 93 := by
  rcases h with rfl | rfl <;> decide
theorem lySc_2 {x : Nat} (h : isSc x) : lay (x + 2) = (13, 8) := by
  rcases h with rfl | rfl <;> rfl
theorem rgSc_3 {x : Nat} (h : isSc x) : 1 ≤ x + 3 ∧ x + 3 < 93 := by
  rcases h with rfl | rfl <;> decide
theorem lySc_3 {x : Nat} (h : isSc x) : lay (x + 3) = (13, 8) := by
  rcases h with rfl | rfl <;> rfl
theorem rgSc_4 {x : Nat} (h : isSc x) : 1 ≤ x + 4 ∧ x + 4 < 93 := by
  rcases h with rfl | rfl <;> decide
theorem lySc_4 {x : Nat} (h : isSc x) : lay (x + 4) = (13, 36) := by
  rcases h with rfl | rfl <;> rfl
theorem rgSc_5 {x : Nat} (h : isSc x) : 1 ≤ x + 5 ∧ x + 5 < 93 := by
  rcases h with rfl | rfl <;> decide
theorem lySc_5 {x : Nat} (h : isSc x) : lay (x + 5) = (13, 8) := by
  rcases h with rfl | rfl <;> rfl
theorem rgSc_6 {x : Nat} (h : isSc x) : 1 ≤ x + 6 ∧ x + 6 < 93 := by
  rcases h with rfl | rfl <;> decide
theorem rgSc_7 {x : Nat} (h : isSc x) : 1 ≤ x + 7 ∧ x + 7 < 93 := by
  rcases h with rfl | rfl <;> decide
theorem lySc_7 {x : Nat} (h : isSc x) : lay (x + 7) = (13, 128) := by
  rcases h with rfl | rfl <;> rfl
theorem rgSc_8 {x : Nat} (h : isSc x) : 1 ≤ x + 8 ∧ x + 8 < 93 := by
  rcases h with rfl | rfl <;> decide
theorem lySc_8 {x : Nat} (h : isSc x) : lay (x + 8) = (13, 6) := by
  rcases h with rfl | rfl <;> rfl
theorem stSc_2 {x : Nat} (h : isSc x) : stt x 2 = x + 1 := by
  rcases h with rfl | rfl <;> decide
theorem stSc_3 {x : Nat} (h : isSc x) : stt x 3 = x + 2 := by
  rcases h with rfl | rfl <;> decide
theorem stSc_4 {x : Nat} (h : isSc x) : stt x 4 = x + 3 := by
  rcases h with rfl | rfl <;> decide
theorem stSc_5 {x : Nat} (h : isSc x) : stt x 5 = x + 4 := by
  rcases h with rfl | rfl <;> decide
theorem stSc_6 {x : Nat} (h : isSc x) : stt x 6 = x + 5 := by
  rcases h with rfl | rfl <;> decide
theorem stSc_7 {x : Nat} (h : isSc x) : stt x 7 = x + 6 := by
  rcases h with rfl | rfl <;> decide
def isLd (x : Nat) : Prop := x = 67 ∨ x = 80
theorem isLd_67 : isLd 67 := Or.inl rfl
theorem isLd_80 : isLd 80 := Or.inr rfl
def okLd (x : Nat) : Bool := x == 67 || x == 80
theorem okLd_is {x : Nat} (h : okLd x = true) : isLd x := by
  unfold okLd at h
  unfold isLd
  simpa using h
theorem neLd {x : Nat} (h : isLd x) : x ≠ 0 := by
  rcases h with rfl | rfl <;> decide
theorem okLd_ne {x : Nat} (h : okLd x = true) : x ≠ 0 := neLd (okLd_is h)
theorem lcLd {x : Nat} (h : isLd x) : (lay x).1 = 2 := by
  rcases h with rfl | rfl <;> rfl
theorem rgLd_0 {x : Nat} (h : isLd x) : 1 ≤ x ∧ x < 93 := by
  rcases h with rfl | rfl <;> decide
theorem rgLd_1 {x : Nat} (h : isLd x) : 1 ≤ x + 1 ∧ x + 1 < 93 := by
  rcases h with rfl | rfl <;> decide
theorem lyLd_1 {x : Nat} (h : isLd x) : lay (x + 1) = (13, 8) := by
  rcases h with rfl | rfl <;> rfl
theorem rgLd_2 {x : Nat} (h : isLd x) : 1 ≤ x + 2 ∧ x + 2 < 93 := by
  rcases h with rfl | rfl <;> decide
theorem lyLd_2 {x : Nat} (h : isLd x) : lay (x + 2) = (13, 6) := by
  rcases h with rfl | rfl <;> rfl
theorem rgLd_3 {x : Nat} (h : isLd x) : 1 ≤ x + 3 ∧ x + 3 < 93 := by
  rcases h with rfl | rfl <;> decide
theorem lyLd_3 {x : Nat} (h : isLd x) : lay (x + 3) = (13, 8) := by
  rcases h with rfl | rfl <;> rfl
theorem rgLd_4 {x : Nat} (h : isLd x) : 1 ≤ x + 4 ∧ x + 4 < 93 := by
  rcases h with rfl | rfl <;> decide
theorem lyLd_4 {x : Nat} (h : isLd x) : lay (x + 4) = (13, 8) := by
  rcases h with rfl | rfl <;> rfl
theorem rgLd_5 {x : Nat} (h : isLd x) : 1 ≤ x + 5 ∧ x + 5 < 93 := by
  rcases h with rfl | rfl <;> decide
theorem lyLd_5 {x : Nat} (h : isLd x) : lay (x + 5) = (13, 8) := by
  rcases h with rfl | rfl <;> rfl
theorem rgLd_6 {x : Nat} (h : isLd x) : 1 ≤ x + 6 ∧ x + 6 < 93 := by
  rcases h with rfl | rfl <;> decide
theorem lyLd_6 {x : Nat} (h : isLd x) : lay (x + 6) = (13, 8) := by
  rcases h with rfl | rfl <;> rfl
theorem rgLd_7 {x : Nat} (h : isLd x) : 1 ≤ x + 7 ∧ x + 7 < 93 := by
  rcases h with rfl | rfl <;> decide
theorem lyLd_7 {x : Nat} (h : isLd x) : lay (x + 7) = (13, 8) := by
  rcases h with rfl | rfl <;> rfl
theorem rgLd_8 {x : Nat} (h : isLd x) : 1 ≤ x + 8 ∧ x + 8 < 93 := by
  rcases h with rfl | rfl <;> decide
theorem lyLd_8 {x : Nat} (h : isLd x) : lay (x + 8) = (13, 8) := by
  rcases h with rfl | rfl <;> rfl
theorem rgLd_9 {x : Nat} (h : isLd x) : 1 ≤ x + 9 ∧ x + 9 < 93 := by
  rcases h with rfl | rfl <;> decide
theorem lyLd_9 {x : Nat} (h : isLd x) : lay (x + 9) = (13, 36) := by
  rcases h with rfl | rfl <;> rfl
theorem rgLd_10 {x : Nat} (h : isLd x) : 1 ≤ x + 10 ∧ x + 10 < 93 := by
  rcases h with rfl | rfl <;> decide
theorem lyLd_10 {x : Nat} (h : isLd x) : lay (x + 10) = (13, 1600) := by
  rcases h with rfl | rfl <;> rfl
theorem rgLd_11 {x : Nat} (h : isLd x) : 1 ≤ x + 11 ∧ x + 11 < 93 := by
  rcases h with rfl | rfl <;> decide
theorem lyLd_11 {x : Nat} (h : isLd x) : lay (x + 11) = (13, 3) := by
  rcases h with rfl | rfl <;> rfl
theorem rgLd_12 {x : Nat} (h : isLd x) : 1 ≤ x + 12 ∧ x + 12 < 93 := by
  rcases h with rfl | rfl <;> decide
theorem lyLd_12 {x : Nat} (h : isLd x) : lay (x + 12) = (13, 3) := by
  rcases h with rfl | rfl <;> rfl
theorem stLd_6 {x : Nat} (h : isLd x) : stt x 6 = x + 1 := by
  rcases h with rfl | rfl <;> decide
theorem stLd_7 {x : Nat} (h : isLd x) : stt x 7 = x + 2 := by
  rcases h with rfl | rfl <;> decide
theorem stLd_8 {x : Nat} (h : isLd x) : stt x 8 = x + 3 := by
  rcases h with rfl | rfl <;> decide
theorem stLd_9 {x : Nat} (h : isLd x) : stt x 9 = x + 4 := by
  rcases h with rfl | rfl <;> decide
theorem stLd_10 {x : Nat} (h : isLd x) : stt x 10 = x + 5 := by
  rcases h with rfl | rfl <;> decide
theorem stLd_11 {x : Nat} (h : isLd x) : stt x 11 = x + 6 := by
  rcases h with rfl | rfl <;> decide
theorem stLd_12 {x : Nat} (h : isLd x) : stt x 12 = x + 7 := by
  rcases h with rfl | rfl <;> decide
theorem stLd_13 {x : Nat} (h : isLd x) : stt x 13 = x + 8 := by
  rcases h with rfl | rfl <;> decide
theorem stLd_14 {x : Nat} (h : isLd x) : stt x 14 = x + 9 := by
  rcases h with rfl | rfl <;> decide
theorem stLd_15 {x : Nat} (h : isLd x) : stt x 15 = x + 10 := by
  rcases h with rfl | rfl <;> decide
theorem stLd_17 {x : Nat} (h : isLd x) : stt x 17 = x + 11 := by
  rcases h with rfl | rfl <;> decide
theorem stLd_18 {x : Nat} (h : isLd x) : stt x 18 = x + 12 := by
  rcases h with rfl | rfl <;> decide
def isMc (x : Nat) : Prop := x = 55 ∨ x = 64
theorem isMc_55 : isMc 55 := Or.inl rfl
theorem isMc_64 : isMc 64 := Or.inr rfl
def okMc (x : Nat) : Bool := x == 55 || x == 64
theorem okMc_is {x : Nat} (h : okMc x = true) : isMc x := by
  unfold okMc at h
  unfold isMc
  simpa using h
theorem neMc {x : Nat} (h : isMc x) : x ≠ 0 := by
  rcases h with rfl | rfl <;> decide
theorem okMc_ne {x : Nat} (h : okMc x = true) : x ≠ 0 := neMc (okMc_is h)
theorem lcMc {x : Nat} (h : isMc x) : (lay x).1 = 3 := by
  rcases h with rfl | rfl <;> rfl
theorem rgMc_0 {x : Nat} (h : isMc x) : 1 ≤ x ∧ x < 93 := by
  rcases h with rfl | rfl <;> decide
theorem rgMc_1 {x : Nat} (h : isMc x) : 1 ≤ x + 1 ∧ x + 1 < 93 := by
  rcases h with rfl | rfl <;> decide
theorem lyMc_1 {x : Nat} (h : isMc x) : lay (x + 1) = (13, 128) := by
  rcases h with rfl | rfl <;> rfl
theorem rgMc_2 {x : Nat} (h : isMc x) : 1 ≤ x + 2 ∧ x + 2 < 93 := by
  rcases h with rfl | rfl <;> decide
theorem lyMc_2 {x : Nat} (h : isMc x) : lay (x + 2) = (13, 6) := by
  rcases h with rfl | rfl <;> rfl
theorem stMc_0 {x : Nat} (h : isMc x) : stt x 0 = x + 1 := by
  rcases h with rfl | rfl <;> decide
theorem stMc_2 {x : Nat} (h : isMc x) : stt x 2 = x + 2 := by
  rcases h with rfl | rfl <;> decide
theorem mcSc {x : Nat} (h : isSc x) : isMc (x + 6) := by
  rcases h with rfl | rfl
  · exact Or.inl rfl
  · exact Or.inr rfl
theorem lyRow {j : Nat} (h : j < 20) : lay (rowAt j) = (13, 61) := by
  have h2 : ∀ j, j < 20 → lay (rowAt j) = (13, 61) := by decide
  exact h2 j h
theorem rgRow {j : Nat} (h : j < 20) : 1 ≤ rowAt j ∧ rowAt j < 93 := by unfold rowAt; omega
theorem vq_0 : ∃ q, vwCl[0]? = some q ∧ q.1 = RX0 ∧ 0 < 13 := ⟨_, rfl, rfl, by decide⟩
theorem vq_1 : ∃ q, vwCl[1]? = some q ∧ q.1 = RX1 ∧ 1 < 13 := ⟨_, rfl, rfl, by decide⟩
theorem vq_2 : ∃ q, vwCl[2]? = some q ∧ q.1 = RX2 ∧ 2 < 13 := ⟨_, rfl, rfl, by decide⟩
theorem vq_3 : ∃ q, vwCl[3]? = some q ∧ q.1 = RX3 ∧ 3 < 13 := ⟨_, rfl, rfl, by decide⟩
theorem vq_4 : ∃ q, vwCl[4]? = some q ∧ q.1 = RX4 ∧ 4 < 13 := ⟨_, rfl, rfl, by decide⟩
theorem vq_5 : ∃ q, vwCl[5]? = some q ∧ q.1 = RX5 ∧ 5 < 13 := ⟨_, rfl, rfl, by decide⟩
theorem vq_6 : ∃ q, vwCl[6]? = some q ∧ q.1 = RX6 ∧ 6 < 13 := ⟨_, rfl, rfl, by decide⟩
theorem vq_7 : ∃ q, vwCl[7]? = some q ∧ q.1 = RX7 ∧ 7 < 13 := ⟨_, rfl, rfl, by decide⟩
theorem vq_8 : ∃ q, vwCl[8]? = some q ∧ q.1 = RX8 ∧ 8 < 13 := ⟨_, rfl, rfl, by decide⟩
theorem vq_9 : ∃ q, vwCl[9]? = some q ∧ q.1 = RX9 ∧ 9 < 13 := ⟨_, rfl, rfl, by decide⟩
theorem vq_10 : ∃ q, vwCl[10]? = some q ∧ q.1 = RX10 ∧ 10 < 13 := ⟨_, rfl, rfl, by decide⟩
theorem vq_11 : ∃ q, vwCl[11]? = some q ∧ q.1 = RX11 ∧ 11 < 13 := ⟨_, rfl, rfl, by decide⟩
theorem vq_12 : ∃ q, vwCl[12]? = some q ∧ q.1 = RX12 ∧ 12 < 13 := ⟨_, rfl, rfl, by decide⟩
theorem bp_m20 : (Int8.ofInt (-20)).toInt32 = (-20) := by decide
theorem bp_m19 : (Int8.ofInt (-19)).toInt32 = (-19) := by decide
theorem bp_m18 : (Int8.ofInt (-18)).toInt32 = (-18) := by decide
theorem bp_m17 : (Int8.ofInt (-17)).toInt32 = (-17) := by decide
theorem bp_m16 : (Int8.ofInt (-16)).toInt32 = (-16) := by decide
theorem bp_m15 : (Int8.ofInt (-15)).toInt32 = (-15) := by decide
theorem bp_m14 : (Int8.ofInt (-14)).toInt32 = (-14) := by decide
theorem bp_m13 : (Int8.ofInt (-13)).toInt32 = (-13) := by decide
theorem bp_m12 : (Int8.ofInt (-12)).toInt32 = (-12) := by decide
theorem bp_m11 : (Int8.ofInt (-11)).toInt32 = (-11) := by decide
theorem bp_m10 : (Int8.ofInt (-10)).toInt32 = (-10) := by decide
theorem bp_m9 : (Int8.ofInt (-9)).toInt32 = (-9) := by decide
theorem bp_m8 : (Int8.ofInt (-8)).toInt32 = (-8) := by decide
theorem bp_m7 : (Int8.ofInt (-7)).toInt32 = (-7) := by decide
theorem bp_m6 : (Int8.ofInt (-6)).toInt32 = (-6) := by decide
theorem bp_m5 : (Int8.ofInt (-5)).toInt32 = (-5) := by decide
theorem bp_m4 : (Int8.ofInt (-4)).toInt32 = (-4) := by decide
theorem bp_m3 : (Int8.ofInt (-3)).toInt32 = (-3) := by decide
theorem bp_m2 : (Int8.ofInt (-2)).toInt32 = (-2) := by decide
theorem bp_6 : (Int8.ofInt 6).toInt32 = 6 := by decide
theorem bp_7 : (Int8.ofInt 7).toInt32 = 7 := by decide
theorem bp_8 : (Int8.ofInt 8).toInt32 = 8 := by decide
theorem bp_9 : (Int8.ofInt 9).toInt32 = 9 := by decide
theorem bp_10 : (Int8.ofInt 10).toInt32 = 10 := by decide
theorem bp_14 : (Int8.ofInt 14).toInt32 = 14 := by decide
theorem bp_16 : (Int8.ofInt 16).toInt32 = 16 := by decide
theorem bp_17 : (Int8.ofInt 17).toInt32 = 17 := by decide
theorem bp_18 : (Int8.ofInt 18).toInt32 = 18 := by decide
theorem bp_19 : (Int8.ofInt 19).toInt32 = 19 := by decide
theorem bp_20 : (Int8.ofInt 20).toInt32 = 20 := by decide
theorem bp_21 : (Int8.ofInt 21).toInt32 = 21 := by decide
theorem bp_24 : (Int8.ofInt 24).toInt32 = 24 := by decide
theorem bp_25 : (Int8.ofInt 25).toInt32 = 25 := by decide
theorem bp_30 : (Int8.ofInt 30).toInt32 = 30 := by decide
theorem bp_31 : (Int8.ofInt 31).toInt32 = 31 := by decide
theorem bp_32 : (Int8.ofInt 32).toInt32 = 32 := by decide
theorem bp_33 : (Int8.ofInt 33).toInt32 = 33 := by decide
theorem bp_34 : (Int8.ofInt 34).toInt32 = 34 := by decide
theorem bp_35 : (Int8.ofInt 35).toInt32 = 35 := by decide
theorem bp_36 : (Int8.ofInt 36).toInt32 = 36 := by decide
theorem bp_37 : (Int8.ofInt 37).toInt32 = 37 := by decide
theorem bp_38 : (Int8.ofInt 38).toInt32 = 38 := by decide
theorem bp_39 : (Int8.ofInt 39).toInt32 = 39 := by decide
theorem bp_40 : (Int8.ofInt 40).toInt32 = 40 := by decide
theorem bp_41 : (Int8.ofInt 41).toInt32 = 41 := by decide
theorem bp_42 : (Int8.ofInt 42).toInt32 = 42 := by decide
theorem bp_43 : (Int8.ofInt 43).toInt32 = 43 := by decide
theorem bp_44 : (Int8.ofInt 44).toInt32 = 44 := by decide
theorem bp_45 : (Int8.ofInt 45).toInt32 = 45 := by decide
theorem bp_47 : (Int8.ofInt 47).toInt32 = 47 := by decide
theorem bp_48 : (Int8.ofInt 48).toInt32 = 48 := by decide
theorem bp_57 : (Int8.ofInt 57).toInt32 = 57 := by decide
theorem bp_59 : (Int8.ofInt 59).toInt32 = 59 := by decide
theorem bp_60 : (Int8.ofInt 60).toInt32 = 60 := by decide
theorem bp_61 : (Int8.ofInt 61).toInt32 = 61 := by decide
theorem bp_62 : (Int8.ofInt 62).toInt32 = 62 := by decide
theorem bp_63 : (Int8.ofInt 63).toInt32 = 63 := by decide
theorem bp_64 : (Int8.ofInt 64).toInt32 = 64 := by decide
theorem bp_80 : (Int8.ofInt 80).toInt32 = 80 := by decide
theorem bp_91 : (Int8.ofInt 91).toInt32 = 91 := by decide
theorem bp_93 : (Int8.ofInt 93).toInt32 = 93 := by decide
theorem bp_97 : (Int8.ofInt 97).toInt32 = 97 := by decide
theorem bp_99 : (Int8.ofInt 99).toInt32 = 99 := by decide
theorem bp_100 : (Int8.ofInt 100).toInt32 = 100 := by decide
theorem bp_107 : (Int8.ofInt 107).toInt32 = 107 := by decide
theorem bp_110 : (Int8.ofInt 110).toInt32 = 110 := by decide
theorem bp_122 : (Int8.ofInt 122).toInt32 = 122 := by decide
theorem ic_m8 : Int32.ofInt (-8) = (-8) := by decide
theorem ic_m2 : Int32.ofInt (-2) = (-2) := by decide
theorem ic_m1 : Int32.ofInt (-1) = (-1) := by decide
theorem ic_0 : Int32.ofInt 0 = 0 := by decide
theorem ic_1 : Int32.ofInt 1 = 1 := by decide
theorem ic_2 : Int32.ofInt 2 = 2 := by decide
theorem ic_3 : Int32.ofInt 3 = 3 := by decide
theorem ic_4 : Int32.ofInt 4 = 4 := by decide
theorem ic_5 : Int32.ofInt 5 = 5 := by decide
theorem sp_128 : (Int16.ofInt 128).toInt32 = 128 := by decide
theorem sp_149 : (Int16.ofInt 149).toInt32 = 149 := by decide
theorem sp_156 : (Int16.ofInt 156).toInt32 = 156 := by decide
theorem sp_160 : (Int16.ofInt 160).toInt32 = 160 := by decide
theorem sp_251 : (Int16.ofInt 251).toInt32 = 251 := by decide
theorem sp_255 : (Int16.ofInt 255).toInt32 = 255 := by decide
theorem sp_256 : (Int16.ofInt 256).toInt32 = 256 := by decide
theorem sp_999 : (Int16.ofInt 999).toInt32 = 999 := by decide
theorem sp_1600 : (Int16.ofInt 1600).toInt32 = 1600 := by decide
theorem sp_2048 : (Int16.ofInt 2048).toInt32 = 2048 := by decide
theorem sp_9999 : (Int16.ofInt 9999).toInt32 = 9999 := by decide
theorem sp_12345 : (Int16.ofInt 12345).toInt32 = 12345 := by decide
