theorem LT_1 (i : Nat) {w : Cond} (h : tables_1_1[i]? = some w) : w ∈ lw_tbl := List.mem_append_right _ (show w ∈ tables_1 from (List.mem_append_left _ (List.mem_of_getElem? h)))
theorem LT_2 (i : Nat) {w : Cond} (h : tables_1_2[i]? = some w) : w ∈ lw_tbl := List.mem_append_right _ (show w ∈ tables_1 from (List.mem_append_right _ (List.mem_append_left _ (List.mem_of_getElem? h))))
theorem LT_3 (i : Nat) {w : Cond} (h : tables_1_3[i]? = some w) : w ∈ lw_tbl := List.mem_append_right _ (show w ∈ tables_1 from (List.mem_append_right _ (List.mem_append_right _ (List.mem_append_left _ (List.mem_of_getElem? h)))))
theorem LT_4 (i : Nat) {w : Cond} (h : tables_1_4[i]? = some w) : w ∈ lw_tbl := List.mem_append_right _ (show w ∈ tables_1 from (List.mem_append_right _ (List.mem_append_right _ (List.mem_append_right _ (List.mem_append_left _ (List.mem_of_getElem? h))))))
theorem LT_5 (i : Nat) {w : Cond} (h : tables_1_5[i]? = some w) : w ∈ lw_tbl := List.mem_append_right _ (show w ∈ tables_1 from (List.mem_append_right _ (List.mem_append_right _ (List.mem_append_right _ (List.mem_append_right _ (List.mem_append_left _ (List.mem_of_getElem? h)))))))
theorem LT_6 (i : Nat) {w : Cond} (h : tables_1_6[i]? = some w) : w ∈ lw_tbl := List.mem_append_right _ (show w ∈ tables_1 from (List.mem_append_right _ (List.mem_append_right _ (List.mem_append_right _ (List.mem_append_right _ (List.mem_append_right _ (List.mem_append_left _ (List.mem_of_getElem? h))))))))
theorem LT_7 (i : Nat) {w : Cond} (h : tables_1_7[i]? = some w) : w ∈ lw_tbl := List.mem_append_right _ (show w ∈ tables_1 from (List.mem_append_right _ (List.mem_append_right _ (List.mem_append_right _ (List.mem_append_right _ (List.mem_append_right _ (List.mem_append_right _ (List.mem_append_left _ (List.mem_of_getElem? h)))))))))
theorem LT_8 (i : Nat) {w : Cond} (h : tables_1_8[i]? = some w) : w ∈ lw_tbl := List.mem_append_right _ (show w ∈ tables_1 from (List.mem_append_right _ (List.mem_append_right _ (List.mem_append_right _ (List.mem_append_right _ (List.mem_append_right _ (List.mem_append_right _ (List.mem_append_right _ (List.mem_append_left _ (List.mem_of_getElem? h))))))))))
theorem LT_9 (i : Nat) {w : Cond} (h : tables_1_9[i]? = some w) : w ∈ lw_tbl := List.mem_append_right _ (show w ∈ tables_1 from (List.mem_append_right _ (List.mem_append_right _ (List.mem_append_right _ (List.mem_append_right _ (List.mem_append_right _ (List.mem_append_right _ (List.mem_append_right _ (List.mem_append_right _ (List.mem_of_getElem? h))))))))))
set_option maxRecDepth 100000 in
theorem law_hmL : ((flatC (Jvm.Cond.and given_1 narrow_1)).drop 13).take 200 = (List.range 200).map (fun j => Cond.eq (.elem (.field (.string "LakeMarket$Tokens" 76) "java/lang/String" "value" "[B") (.int (Int32.ofNat j))) (.int (strB.getD j 0))) := rfl
theorem law_hm : ∀ j, j < 200 → Cond.eq (.elem (.field (.string "LakeMarket$Tokens" 76) "java/lang/String" "value" "[B") (.int (Int32.ofNat j))) (.int (strB.getD j 0)) ∈ flatC (Jvm.Cond.and given_1 narrow_1) := by
  intro j hj
  apply List.mem_of_mem_drop (i := 13)
  apply List.mem_of_mem_take (i := 200)
  rw [law_hmL]
  exact List.mem_map.mpr ⟨j, List.mem_range.mpr hj, rfl⟩
theorem law_XS {s : State} {b : Nat} (hgv : (Jvm.Cond.and given_1 narrow_1).before #[Value.ref b] s = true) (hts : ∀ w ∈ lw_tbl, w.before #[Value.ref b] s = true) : ∃ s0 : Nat, XS (fun _ => s0) (fun q : Nat => s.heap.size ≤ q) s := by
  have hs := flat_of_before _ hgv
  have hA : ∀ a : Nat, a < s.heap.size → ¬ (fun q : Nat => s.heap.size ≤ q) a := fun a h => Nat.not_le.mpr h
  have one : ∀ i : Nat, i < 1 → i = 0 := fun i h => by omega
  obtain ⟨adK, adV, h1, h2⟩ := vk_Sof (args := #[Value.ref b]) (s := s) (N := 1) (tm := fun _ => Term.string "LakeMarket$Tokens" 76) (len := [200]) (byt := [strB]) (A := fun q : Nat => s.heap.size ≤ q)
    (fun i hi => by rw [one i hi]; decide)
    (fun i hi => hs _ (by decide +kernel))
    (fun i hi => hs _ (by decide +kernel))
    (fun i hi => hs _ (by decide +kernel))
    (fun i hi => by rw [one i hi]; exact hs _ (by decide +kernel))
    (fun i hi j hj => by
      rw [one i hi] at hj ⊢
      exact hs _ (law_hm j hj))
    (fun i j hi hj hne => absurd ((one i hi).trans (one j hj).symm) hne) hA
  refine ⟨adK 0, ⟨adV, ?_⟩, vk_R.of (hts _ (LT_3 44 rfl)) (h2 0 (by decide)), va_Zof (hts _ (LT_3 54 rfl)) (hts _ (LT_1 16 rfl)) (va_eqi (hs _ (by decide +kernel))) hA, va_Zqof (hts _ (LT_3 62 rfl)) (hts _ (LT_1 18 rfl)) (hs _ (by decide +kernel)) hA⟩
  refine ⟨fun i hi => ?_, fun i j hi hj _ => (one i hi).trans (one j hj).symm⟩
  have h := h1.1 i hi
  rw [one i hi] at h ⊢
  exact h
def IM0 : HI := fun i => if i = 100 then (fun k => if k = 9 then (-1) else if k = 11 then (-1) else if k = 12 then (-1) else if k = 33 then 1 else 0) else if i = 113 then (upd ((upd ((upd ((upd ((upd ((upd ((fun _ => 0)) (0 : Int32).toNatClampNeg (-1))) (1 : Int32).toNatClampNeg (-1))) (2 : Int32).toNatClampNeg (-1))) (3 : Int32).toNatClampNeg (-1))) (4 : Int32).toNatClampNeg (-1))) (5 : Int32).toNatClampNeg (-1)) else (fun _ => 0)
def LM0 : HL := fun i => if i = 100 then (fun k => if k = 55 then 1 else 0) else (fun _ => 0)
def RM0 : HR := fun _ _ => 0
def arM : List Nat := [101, 102, 103, 104, 105, 106, 107, 108, 109, 110, 111, 112, 113, 114, 115, 116, 117, 118, 119, 120, 121, 122, 123, 124, 125, 126, 127, 128, 129, 130, 131, 132, 133, 134, 135, 136, 137, 138, 139, 140, 141, 142, 143, 144, 145, 146]
theorem gr_some {α : Type} {ok : Bool} {o : Option α} {x : α} (h : gr ok o = some x) : o = some x := by
  unfold gr at h
  split at h
  · exact h
  · cases h
theorem bind_snd {α β γ : Type} {o : Option α} {g : α → β} {c : γ} {x : β × γ} (h : (o.bind fun a => some (g a, c)) = some x) : x.2 = c := by
  cases o with
  | none => cases h
  | some a => cases h; rfl
theorem beg_R {fu : Nat} {I : HI} {R : HR} {a0 a1 : Nat} {x : HI × HR} (h : f_X9_begin fu I R a0 a1 = some x) : x.2 = sR R a0 0 a1 := bind_snd (gr_some h)
theorem RR1_eq : RR1 = sR (sR RR0 49 0 67) 58 0 67 := by
  have h1 : (beg1.get beg1_s).2 = sR RR0 49 0 67 := beg_R (Option.some_get beg1_s).symm
  have h2 : RR1 = sR (beg1.get beg1_s).2 58 0 67 := beg_R (Option.some_get beg2_s).symm
  rw [h2, h1]
theorem RR1_in (i k : Nat) : RR1 i k = 0 ∨ (1 ≤ RR1 i k ∧ RR1 i k < 93) := by
  rw [RR1_eq]
  unfold sR RR0
  by_cases h1 : i = 58
  · subst h1; simp only [if_true]; split <;> (try simp) <;> (repeat' split) <;> omega
  · by_cases h2 : i = 49
    · subst h2; simp; split <;> omega
    · by_cases h3 : i = 1
      · subst h3; simp; (repeat' split) <;> omega
      · simp [h1, h2, h3]
theorem st_in : ∀ i, 1 ≤ i → i < 93 → ∀ k, fk (lay i).1 k = 2 → 1 ≤ stt i k ∧ stt i k < 93 := by
  intro i h1 h2 k hk
  have hlen : ∀ i, i < 93 → 1 ≤ i → (fkT.getD (lay i).1 []).length ≤ 20 := by decide +kernel
  by_cases hk2 : k < 20
  · have hall : ∀ i, i < 93 → ∀ k, k < 20 → 1 ≤ i → fk (lay i).1 k = 2 → 1 ≤ stt i k ∧ stt i k < 93 := by decide +kernel
    exact hall i h2 k hk2 h1 hk
  · unfold fk at hk
    have hl := hlen i h2 h1
    rw [List.getD_eq_getElem?_getD, List.getElem?_eq_none (by omega)] at hk
    cases hk
theorem row_in : ∀ i, 1 ≤ i → i < 93 → (lay i).1 = 16 → ∀ j, j < (lay i).2 → 1 ≤ rowAt j ∧ rowAt j < 93 := by
  intro i h1 h2 h3 j hj
  have hl : ∀ i, i < 93 → 1 ≤ i → (lay i).1 = 16 → (lay i).2 = 20 := by decide +kernel
  rw [hl i h2 h1 h3] at hj
  unfold rowAt
  omega
def cAm (cA cm : Nat → ClassId) : Nat → ClassId := fun i => if i < 100 then cA i else cm (i - 101)
def adm (ad : Nat → Nat) (qm : Nat) (q : Nat → Nat) : Nat → Nat := fun i => if i < 100 then ad i else if i = 100 then qm else q (i - 101)
def worldM (qm : Nat) (q : Nat → Nat) (cm : Nat → ClassId) : va_W := [(qm, .inr (12, [.ref (q 0), .int 0, .int 0, .int 0, .int 0, .int 0, .int 0, .long 0, .int 0, .int (-1), .int 0, .int (-1), .int (-1), .int 0, .ref (q 1), .ref (q 2), .ref (q 3), .ref (q 4), .ref (q 5), .ref (q 6), .ref (q 7), .ref (q 8), .ref (q 9), .ref (q 10), .ref (q 11), .ref (q 12), .ref (q 13), .ref (q 14), .ref (q 15), .ref (q 16), .ref (q 17), .ref (q 18), .int 0, .int 1, .int 0, .ref (q 19), .ref (q 20), .ref (q 21), .ref (q 22), .ref (q 23), .int 0, .int 0, .ref (q 24), .int 0, .int 0, .ref (q 25), .ref (q 26), .ref (q 27), .ref (q 28), .ref (q 29), .ref (q 30), .ref (q 31), .ref (q 32), .int 0, .int 0, .long 1, .ref (q 33), .ref (q 34), .ref (q 35), .ref (q 36), .ref (q 37), .ref (q 38), .ref (q 39), .ref (q 40), .ref (q 41), .ref (q 42), .int 0, .ref (q 43), .ref (q 44), .ref (q 45), .int 0])), ((q 0), .inl ((cm 0), 1800, .inl (fun _ => 0))), ((q 1), .inl ((cm 1), 2, .inl (fun _ => 0))), ((q 2), .inl ((cm 2), 16, .inl (fun _ => 0))), ((q 3), .inl ((cm 3), 16, .inl (fun _ => 0))), ((q 4), .inl ((cm 4), 2, .inl (fun _ => 0))), ((q 5), .inl ((cm 5), 2, .inl (fun _ => 0))), ((q 6), .inl ((cm 6), 16, .inl (fun _ => 0))), ((q 7), .inl ((cm 7), 16, .inl (fun _ => 0))), ((q 8), .inl ((cm 8), 16, .inl (fun _ => 0))), ((q 9), .inl ((cm 9), 72, .inl (fun _ => 0))), ((q 10), .inl ((cm 10), 2, .inl (fun _ => 0))), ((q 11), .inl ((cm 11), 2, .inl (fun _ => 0))), ((q 12), .inl ((cm 12), 6, .inl (upd ((upd ((upd ((upd ((upd ((upd ((fun _ => 0)) (0 : Int32).toNatClampNeg (-1))) (1 : Int32).toNatClampNeg (-1))) (2 : Int32).toNatClampNeg (-1))) (3 : Int32).toNatClampNeg (-1))) (4 : Int32).toNatClampNeg (-1))) (5 : Int32).toNatClampNeg (-1)))), ((q 13), .inl ((cm 13), 6, .inl (fun _ => 0))), ((q 14), .inl ((cm 14), 3200, .inl (fun _ => 0))), ((q 15), .inl ((cm 15), 3200, .inl (fun _ => 0))), ((q 16), .inl ((cm 16), 16, .inr (.inl (fun _ => 0)))), ((q 17), .inl ((cm 17), 12, .inr (.inl (fun _ => 0)))), ((q 18), .inl ((cm 18), 16, .inr (.inl (fun _ => 0)))), ((q 19), .inl ((cm 19), 20, .inl (fun _ => 0))), ((q 20), .inl ((cm 20), 20, .inl (fun _ => 0))), ((q 21), .inl ((cm 21), 20, .inl (fun _ => 0))), ((q 22), .inl ((cm 22), 20, .inl (fun _ => 0))), ((q 23), .inl ((cm 23), 20, .inl (fun _ => 0))), ((q 24), .inl ((cm 24), 500, .inl (fun _ => 0))), ((q 25), .inl ((cm 25), 6, .inl (fun _ => 0))), ((q 26), .inl ((cm 26), 26, .inl (fun _ => 0))), ((q 27), .inl ((cm 27), 208, .inl (fun _ => 0))), ((q 28), .inl ((cm 28), 208, .inl (fun _ => 0))), ((q 29), .inl ((cm 29), 208, .inl (fun _ => 0))), ((q 30), .inl ((cm 30), 936, .inl (fun _ => 0))), ((q 31), .inl ((cm 31), 26, .inl (fun _ => 0))), ((q 32), .inl ((cm 32), 4160, .inl (fun _ => 0))), ((q 33), .inl ((cm 33), 500, .inr (.inl (fun _ => 0)))), ((q 34), .inl ((cm 34), 10, .inl (fun _ => 0))), ((q 35), .inl ((cm 35), 8, .inl (fun _ => 0))), ((q 36), .inl ((cm 36), 8, .inl (fun _ => 0))), ((q 37), .inl ((cm 37), 5, .inl (fun _ => 0))), ((q 38), .inl ((cm 38), 65536, .inl (fun _ => 0))), ((q 39), .inl ((cm 39), 256, .inl (fun _ => 0))), ((q 40), .inl ((cm 40), 64, .inl (fun _ => 0))), ((q 41), .inl ((cm 41), 3, .inl (fun _ => 0))), ((q 42), .inl ((cm 42), 8, .inl (fun _ => 0))), ((q 43), .inl ((cm 43), 8, .inl (fun _ => 0))), ((q 44), .inl ((cm 44), 8, .inl (fun _ => 0))), ((q 45), .inl ((cm 45), 120, .inl (fun _ => 0)))]
def typesM (cm : Nat → ClassId) : List (ClassId × FieldType) := [((cm 0), .int), ((cm 1), .int), ((cm 2), .int), ((cm 3), .int), ((cm 4), .int), ((cm 5), .int), ((cm 6), .int), ((cm 7), .int), ((cm 8), .int), ((cm 9), .int), ((cm 10), .int), ((cm 11), .int), ((cm 12), .int), ((cm 13), .int), ((cm 14), .int), ((cm 15), .int), ((cm 16), .long), ((cm 17), .long), ((cm 18), .long), ((cm 19), .int), ((cm 20), .int), ((cm 21), .boolean), ((cm 22), .int), ((cm 23), .int), ((cm 24), .int), ((cm 25), .int), ((cm 26), .int), ((cm 27), .int), ((cm 28), .int), ((cm 29), .int), ((cm 30), .int), ((cm 31), .int), ((cm 32), .int), ((cm 33), .long), ((cm 34), .int), ((cm 35), .int), ((cm 36), .int), ((cm 37), .int), ((cm 38), .boolean), ((cm 39), .int), ((cm 40), .int), ((cm 41), .int), ((cm 42), .int), ((cm 43), .int), ((cm 44), .int), ((cm 45), .int)]
set_option maxRecDepth 100000 in
theorem cellsM_eq (cA cm : Nat → ClassId) (ad : Nat → Nat) (qm : Nat) (q : Nat → Nat) : cells 100 147 (cAm cA cm) (adm ad qm q) IM0 LM0 RM0 = worldM qm q cm := rfl
set_option maxRecDepth 100000 in
theorem typesM_eq (cA cm : Nat → ClassId) : arM.map (fun i => ((cAm cA cm) i, ety (lay i).1)) = typesM cm := rfl
set_option maxHeartbeats 8000000 in
set_option maxRecDepth 100000 in
theorem law_fin {p : Program} {e : Env} {s : State} {m : MethodId} {below : List Frame} {meth : Method} {c : Code} (l : Launch) {b L : Nat} {xs : Nat → Int32} (hL : L ≤ 3072) (C0 : lw_At p s m meth c b L xs) (Rel : RelT) (Rup : ∀ (n : Nat) (I : HI) (R : HR) (J : HI) (M : HL), Rel n I R J M → Rel (n + 6) I R J M) (E0 : Eq_feed Rel) (E1 : Eq_end Rel) (E2 : Eq_lowland Rel) (E3 : Eq_fault Rel) (E4 : Eq_has Rel) (E5 : Eq_letter Rel) (E6 : Eq_hollow Rel) (E7 : Eq_lake Rel) (E8 : Eq_owner Rel) (E9 : Eq_owes Rel) (E10 : Eq_later Rel) (E11 : Eq_broke Rel) (E12 : Eq_spend Rel) (E13 : Eq_price Rel) (E14 : Eq_moves Rel) (E15 : Eq_pack Rel) (E16 : Eq_net Rel) (E17 : Eq_settling Rel) (E18 : Eq_share Rel) (E19 : Eq_stood Rel) (E20 : Eq_robbed Rel) (E21 : Eq_nights Rel) (E22 : Eq_chance Rel) (E23 : Eq_move Rel) (E24 : Eq_pour Rel) (E25 : Eq_part Rel) (E26 : Eq_pay Rel) (E27 : Eq_strike Rel) (E28 : Eq_undo Rel) (E29 : Eq_seed Rel) (E30 : Eq_kept Rel) (E31 : Eq_image Rel) (E32 : Eq_octet Rel) (E33 : Eq_on Rel) (E34 : Eq_status Rel) (hRel : Rel 0 IX1 RR1 IM0 LM0) (dC : Nat → ClassId) (dI : Nat → Nat → Nat) (ad : Nat → Nat) (cA : Nat → ClassId) (hKc : ∀ (k : Nat) (q : vw_C), vwCl[k]? = some q → u_Kn s q.1 q.2.1 q.2.2 (dC k) (dI k)) (hK1 : KN (dC, dI) cA 1 93 s) (ha1 : Adi 1 93 ad) (hA1 : ∀ q, Aof 1 93 ad q → s.heap.size ≤ q) (hX : XS ad (fun q : Nat => s.heap.size ≤ q) s) {H : Heap} {locs : List Loc} {ls : Array Slot} (qm : Nat) (q : Nat → Nat) (cm : Nat → ClassId) (hP1 : va_P (dC, dI) vwCl (cells 1 93 cA ad IX1 LX0 RR1) H) (hPM : va_P (dC, dI) vwCl (worldM qm q cm) H) (hKM : va_K (dC, dI) vwCl (typesM cm) s) (AM : Nat → Prop) (hDM : va_D AM (worldM qm q cm)) (hAM : ∀ x, AM x → s.heap.size ≤ x) (hne : ∀ i, 1 ≤ i → i < 93 → ¬ AM (ad i)) (hS : va_S (fun q : Nat => s.heap.size ≤ q) s.heap H locs) (hl : lv_has ls 4 [(2, .ref qm), (1, .ref (ad 1)), (0, .ref b)]) :
    W p l e room_1 s m #[Value.ref b] below meth c H locs 139 91179 (lw_Z below #[Value.ref b] s) (F0 m 16 ls []) := by
  obtain ⟨hx, hb, hr, hml, hown0, hts0, hXs, hbl, hlocks, hgv⟩ := id C0
  have hPm2 : va_P (dC, dI) vwCl (cells 100 147 (cAm cA cm) (adm ad qm q) IM0 LM0 RM0) H := by rw [cellsM_eq]; exact hPM
  have hDm2 : va_D AM (cells 100 147 (cAm cA cm) (adm ad qm q) IM0 LM0 RM0) := by rw [cellsM_eq]; exact hDM
  have hKm2 : va_K (dC, dI) vwCl (arM.map (fun i => ((cAm cA cm) i, ety (lay i).1))) s := by rw [typesM_eq]; exact hKM
  have hag : ∀ i, 1 ≤ i → i < 93 → (adm ad qm q) i = ad i ∧ (cAm cA cm) i = cA i := fun i h1 h2 => ⟨if_pos (by omega), if_pos (by omega)⟩
  have hPx2 := cells_ad (ad' := (adm ad qm q)) (cA' := (cAm cA cm)) hP1 hag st_in RR1_in row_in
  have hKx2 : KN (dC, dI) (cAm cA cm) 1 93 s := ⟨hK1.1, fun i h1 h2 h3 => by rw [(hag i h1 h2).2]; exact hK1.2 i h1 h2 h3⟩
  have hKM2 : KN (dC, dI) (cAm cA cm) 100 147 s := KN_of arM hKm2 (by decide +kernel)
  obtain ⟨hadM, hAofM⟩ := Adi_of_D hDm2
  have hadX : Adi 1 93 (adm ad qm q) := fun i j a1 a2 a3 a4 he => ha1 i j a1 a2 a3 a4 (by rw [← (hag i a1 a2).1, ← (hag j a3 a4).1]; exact he)
  have hAofX : ∀ x, Aof 1 93 (adm ad qm q) x → s.heap.size ≤ x := fun x hx => by
    obtain ⟨i, a1, a2, rfl⟩ := hx
    exact hA1 _ ⟨i, a1, a2, (hag i a1 a2).1⟩
  refine lv_iconst (v := 0) hx hb dL_law_16 (by decide) ?_
  refine lv_istore_n (lv' := [(3, .int 0), (2, .ref qm), (1, .ref (ad 1)), (0, .ref b)]) hx hb dL_law_17 rfl hl (by decide) rfl (fun ls hl => ?_)
  exact law_loop l hL C0 Rel Rup E0 E1 E2 E3 E4 E5 E6 E7 E8 E9 E10 E11 E12 E13 E14 E15 E16 E17 E18 E19 E20 E21 E22 E23 E24 E25 E26 E27 E28 E29 E30 E31 E32 E33 E34 (dC, dI) (cAm cA cm) (adm ad qm q) 139 91179 (by decide) (by decide) hKx2 hKM2 hadX hadM (fun i j a1 a2 a3 a4 he => hne i a1 a2 (by rw [← (hag i a1 a2).1, ← he]; exact hAofM _ ⟨j, a3, a4, rfl⟩)) (hX.ad rfl) hAofX (fun x hx => hAM x (hAofM x hx)) (L + 7) 0 (by omega) (by omega) IX1 RR1 IM0 LM0 LX0 RM0 H locs hRel hPx2 hPm2 hS ls (lv_sub hl [3, 2, 1, 0] rfl)
theorem lk_clM : Cond.classLink RL 10 RX12 ∈ TBL := TBL_6 113 rfl rfl
theorem lk_inM : Cond.instantiable RX12 71 ∈ TBL := TBL_6 114 rfl rfl
theorem lk_mlM : Cond.methodLink RL 12 yX12_init ∈ TBL := TBL_6 115 rfl rfl
theorem lk_clX : Cond.classLink RL 7 RX11 ∈ TBL := TBL_1 22 rfl rfl
theorem lk_inX : Cond.instantiable RX11 19 ∈ TBL := TBL_1 23 rfl rfl
theorem lk_mlX : Cond.methodLink RL 9 yX11_init ∈ TBL := TBL_1 24 rfl rfl
theorem lk_in0 : Cond.instantiable RX0 10 ∈ TBL := TBL_2 83 rfl rfl
theorem lk_in1 : Cond.instantiable RX1 4 ∈ TBL := TBL_2 47 rfl rfl
theorem lk_in2 : Cond.instantiable RX2 19 ∈ TBL := TBL_1 31 rfl rfl
theorem lk_in3 : Cond.instantiable RX3 3 ∈ TBL := TBL_1 228 rfl rfl
theorem lk_in4 : Cond.instantiable RX4 5 ∈ TBL := TBL_2 121 rfl rfl
theorem lk_in5 : Cond.instantiable RX5 2 ∈ TBL := TBL_2 69 rfl rfl
theorem lk_in6 : Cond.instantiable RX6 2 ∈ TBL := TBL_2 143 rfl rfl
theorem lk_in7 : Cond.instantiable RX7 4 ∈ TBL := TBL_1 146 rfl rfl
theorem lk_in8 : Cond.instantiable RX8 3 ∈ TBL := TBL_1 192 rfl rfl
theorem lk_in9 : Cond.instantiable RX9 8 ∈ TBL := TBL_1 222 rfl rfl
theorem lk_in10 : Cond.instantiable RX10 9 ∈ TBL := TBL_1 152 rfl rfl
set_option maxHeartbeats 8000000 in
set_option maxRecDepth 100000 in
theorem law_mid {p : Program} {e : Env} {s : State} {m : MethodId} {below : List Frame} {meth : Method} {c : Code} (l : Launch) {b L : Nat} {xs : Nat → Int32} (hL : L ≤ 3072) (C0 : lw_At p s m meth c b L xs) (Rel : RelT) (Rup : ∀ (n : Nat) (I : HI) (R : HR) (J : HI) (M : HL), Rel n I R J M → Rel (n + 6) I R J M) (E0 : Eq_feed Rel) (E1 : Eq_end Rel) (E2 : Eq_lowland Rel) (E3 : Eq_fault Rel) (E4 : Eq_has Rel) (E5 : Eq_letter Rel) (E6 : Eq_hollow Rel) (E7 : Eq_lake Rel) (E8 : Eq_owner Rel) (E9 : Eq_owes Rel) (E10 : Eq_later Rel) (E11 : Eq_broke Rel) (E12 : Eq_spend Rel) (E13 : Eq_price Rel) (E14 : Eq_moves Rel) (E15 : Eq_pack Rel) (E16 : Eq_net Rel) (E17 : Eq_settling Rel) (E18 : Eq_share Rel) (E19 : Eq_stood Rel) (E20 : Eq_robbed Rel) (E21 : Eq_nights Rel) (E22 : Eq_chance Rel) (E23 : Eq_move Rel) (E24 : Eq_pour Rel) (E25 : Eq_part Rel) (E26 : Eq_pay Rel) (E27 : Eq_strike Rel) (E28 : Eq_undo Rel) (E29 : Eq_seed Rel) (E30 : Eq_kept Rel) (E31 : Eq_image Rel) (E32 : Eq_octet Rel) (E33 : Eq_on Rel) (E34 : Eq_status Rel) (hRel : Rel 0 IX1 RR1 IM0 LM0) (dC : Nat → ClassId) (dI : Nat → Nat → Nat) (ad : Nat → Nat) (cA : Nat → ClassId) (hKc : ∀ (k : Nat) (q : vw_C), vwCl[k]? = some q → u_Kn s q.1 q.2.1 q.2.2 (dC k) (dI k)) (hK1 : KN (dC, dI) cA 1 93 s) (ha1 : Adi 1 93 ad) (hA1 : ∀ q, Aof 1 93 ad q → s.heap.size ≤ q) (hX : XS ad (fun q : Nat => s.heap.size ≤ q) s) {H : Heap} {locs : List Loc} {ls : Array Slot} (hP1 : va_P (dC, dI) vwCl (cells 1 93 cA ad IX1 LX0 RR1) H) (hS : va_S (fun q : Nat => s.heap.size ≤ q) s.heap H locs) (hl : lv_has ls 4 [(0, .ref b)]) :
    W p l e room_1 s m #[Value.ref b] below meth c H locs 92 9778 (lw_Z below #[Value.ref b] s) (F0 m 7 ls [.ref (ad 1)]) := by
  obtain ⟨hx, hb, hr, hml, hown0, hts0, hXs, hbl, hlocks, hgv⟩ := id C0
  have hown : s.vm.findClass RL = some m.cls := hown0
  have hts : ∀ w ∈ TBL, w.before #[Value.ref b] s = true := fun w h => hts0 w (List.mem_filter.mp h).1
  have hA : ∀ q : Nat, s.heap.size ≤ q → (fun q : Nat => s.heap.size ≤ q) q := fun _ h => h
  have hK : va_K (dC, dI) vwCl [] s := ⟨hKc, fun k q h => by simp at h⟩
  have hD1 : va_D (fun q : Nat => s.heap.size ≤ q) (cells 1 93 cA ad IX1 LX0 RR1) := (cells_D ha1).weaken (fun k q _ h => hA1 q.1 h)
  refine lv_astore_n (lv' := [(1, .ref (ad 1)), (0, .ref b)]) hx hb dL_law_7 rfl hl (by decide) rfl (fun ls hl => ?_)
  refine va_new (ci := 12) (fs := [.null, .int 0, .int 0, .int 0, .int 0, .int 0, .int 0, .long 0, .int 0, .int 0, .int 0, .int 0, .int 0, .int 0, .null, .null, .null, .null, .null, .null, .null, .null, .null, .null, .null, .null, .null, .null, .null, .null, .null, .null, .int 0, .int 0, .int 0, .null, .null, .null, .null, .null, .int 0, .int 0, .null, .int 0, .int 0, .null, .null, .null, .null, .null, .null, .null, .null, .int 0, .int 0, .long 0, .null, .null, .null, .null, .null, .null, .null, .null, .null, .null, .int 0, .null, .null, .null, .int 0]) (C := RX12) (T := TX12) (N := 71) hx hb hts cw12 tyX12 tyX12_ok hown (hts _ lk_clM) (hts _ lk_inM) (hts _ ini_RX12) hK hP1 hD1 hS hA rfl (by decide +kernel) (by decide) (by decide) dL_law_8 (fun qm H2 hP hD hS => ?_)
  refine W.widen (k := 93) (n := 9849) (by omega) (by omega) ?_
  refine lv_dup hx hb dL_law_11 rfl ?_
  have hlen : (cells 1 93 cA ad IX1 LX0 RR1).length = 92 := by unfold cells; rw [List.length_map, List.length_range]
  have hlast : (cells 1 93 cA ad IX1 LX0 RR1 ++ [(qm, .inr (12, [.null, .int 0, .int 0, .int 0, .int 0, .int 0, .int 0, .long 0, .int 0, .int 0, .int 0, .int 0, .int 0, .int 0, .null, .null, .null, .null, .null, .null, .null, .null, .null, .null, .null, .null, .null, .null, .null, .null, .null, .null, .int 0, .int 0, .int 0, .null, .null, .null, .null, .null, .int 0, .int 0, .null, .int 0, .int 0, .null, .null, .null, .null, .null, .null, .null, .null, .int 0, .int 0, .long 0, .null, .null, .null, .null, .null, .null, .null, .null, .null, .null, .int 0, .null, .null, .null, .int 0]))])[92]? = some ((qm, .inr (12, [.null, .int 0, .int 0, .int 0, .int 0, .int 0, .int 0, .long 0, .int 0, .int 0, .int 0, .int 0, .int 0, .int 0, .null, .null, .null, .null, .null, .null, .null, .null, .null, .null, .null, .null, .null, .null, .null, .null, .null, .null, .int 0, .int 0, .int 0, .null, .null, .null, .null, .null, .int 0, .int 0, .null, .int 0, .int 0, .null, .null, .null, .null, .null, .null, .null, .null, .int 0, .int 0, .long 0, .null, .null, .null, .null, .null, .null, .null, .null, .null, .null, .int 0, .null, .null, .null, .int 0]))) := by rw [List.getElem?_append_right (by omega), hlen]; rfl
  have hPx : va_P (dC, dI) vwCl (cells 1 93 cA ad IX1 LX0 RR1) H2 := fun k q hk => hP k q (by rw [List.getElem?_append_left (List.getElem?_eq_some_iff.mp hk).1]; exact hk)
  have hPm : va_P (dC, dI) vwCl [(qm, .inr (12, [.null, .int 0, .int 0, .int 0, .int 0, .int 0, .int 0, .long 0, .int 0, .int 0, .int 0, .int 0, .int 0, .int 0, .null, .null, .null, .null, .null, .null, .null, .null, .null, .null, .null, .null, .null, .null, .null, .null, .null, .null, .int 0, .int 0, .int 0, .null, .null, .null, .null, .null, .int 0, .int 0, .null, .int 0, .int 0, .null, .null, .null, .null, .null, .null, .null, .null, .int 0, .int 0, .long 0, .null, .null, .null, .null, .null, .null, .null, .null, .null, .null, .int 0, .null, .null, .null, .int 0]))] H2 := fun k q hk => by
    have h0 : k < 1 := (List.getElem?_eq_some_iff.mp hk).1
    rw [show k = 0 by omega] at hk
    cases hk
    exact hP 92 _ hlast
  have hDm : va_D (fun q : Nat => s.heap.size ≤ q) [(qm, .inr (12, [.null, .int 0, .int 0, .int 0, .int 0, .int 0, .int 0, .long 0, .int 0, .int 0, .int 0, .int 0, .int 0, .int 0, .null, .null, .null, .null, .null, .null, .null, .null, .null, .null, .null, .null, .null, .null, .null, .null, .null, .null, .int 0, .int 0, .int 0, .null, .null, .null, .null, .null, .int 0, .int 0, .null, .int 0, .int 0, .null, .null, .null, .null, .null, .null, .null, .null, .int 0, .int 0, .long 0, .null, .null, .null, .null, .null, .null, .null, .null, .null, .null, .int 0, .null, .null, .null, .int 0]))] := ⟨fun i j a1 a2 h1 h2 _ => by
    have := (List.getElem?_eq_some_iff.mp h1).1
    have := (List.getElem?_eq_some_iff.mp h2).1
    simp at *
    omega, fun k q hk => by
    have h0 : k < 1 := (List.getElem?_eq_some_iff.mp hk).1
    rw [show k = 0 by omega] at hk
    cases hk
    exact hD.2 92 _ hlast⟩
  have hnq : ∀ i, 1 ≤ i → i < 93 → ad i ≠ qm := fun i h1 h2 he => by
    have h3 := hD.1 (i - 1) 92 (ad i, ccont cA ad IX1 LX0 RR1 i) ((qm, .inr (12, [.null, .int 0, .int 0, .int 0, .int 0, .int 0, .int 0, .long 0, .int 0, .int 0, .int 0, .int 0, .int 0, .int 0, .null, .null, .null, .null, .null, .null, .null, .null, .null, .null, .null, .null, .null, .null, .null, .null, .null, .null, .int 0, .int 0, .int 0, .null, .null, .null, .null, .null, .int 0, .int 0, .null, .int 0, .int 0, .null, .null, .null, .null, .null, .null, .null, .null, .int 0, .int 0, .long 0, .null, .null, .null, .null, .null, .null, .null, .null, .null, .null, .int 0, .null, .null, .null, .int 0]))) (by rw [List.getElem?_append_left (by rw [hlen]; omega)]; exact cells_at ⟨h1, h2⟩) hlast he
    omega
  have hFc : ∀ q, va_A [(qm, .inr (12, [.null, .int 0, .int 0, .int 0, .int 0, .int 0, .int 0, .long 0, .int 0, .int 0, .int 0, .int 0, .int 0, .int 0, .null, .null, .null, .null, .null, .null, .null, .null, .null, .null, .null, .null, .null, .null, .null, .null, .null, .null, .int 0, .int 0, .int 0, .null, .null, .null, .null, .null, .int 0, .int 0, .null, .int 0, .int 0, .null, .null, .null, .null, .null, .null, .null, .null, .int 0, .int 0, .long 0, .null, .null, .null, .null, .null, .null, .null, .null, .null, .null, .int 0, .null, .null, .null, .int 0]))] H2.size q → (fun q : Nat => s.heap.size ≤ q) q := fun q h => by
    rcases h with ⟨k, e9, h⟩ | h
    · exact hDm.2 k _ h
    · exact Nat.le_trans hS.1 h
  refine va_callv (va_runI (As := []) (rest := [.ref qm]) ⟨hx, hb, hml, hown, hts⟩ (ct_X12_init l dC dI qm H2.size) (cwI 0 hts (TBL_code cd_X12_init) rfl rfl rfl (hts _ ini_RX12) (hts _ lk_mlM) (hts _ im_X12_init_i) rfl ⟨by decide +kernel, by decide +kernel, by decide +kernel⟩ ⟨by decide, by decide⟩) ⟨fun a U g mk q => by obtain ⟨q0, q1, qP, qK, qD⟩ := q; exact ⟨q0, q1, qP, va_K.moved (u := U) (U := U.calling g mk a) (Vm.Alike.refl U.vm) qK, qD⟩, fun U hU hW => ⟨rfl, by rw [hU], by rw [hU]; exact hPm, va_K.moved hW.alike hK, hDm.weaken (fun _ _ _ _ => trivial)⟩⟩ rfl rfl hl.1 rfl (lv_room (Nat.le_of_ble_eq_true rfl)) dL_law_12 ⟨by decide, by decide⟩) hS (fun q _ h => hFc q h) hFc (fun u t H1 locs ht hvm hw hB hz1 hk1 hS => ?_)
  obtain ⟨q, cm, hPM, hKM, hDM⟩ := hB
  rw [ht] at hPM
  have hKM := va_K.moved hvm.symm hKM
  have hne : ∀ i, 1 ≤ i → i < 93 → ¬ va_A [(qm, .inr (12, [.null, .int 0, .int 0, .int 0, .int 0, .int 0, .int 0, .long 0, .int 0, .int 0, .int 0, .int 0, .int 0, .int 0, .null, .null, .null, .null, .null, .null, .null, .null, .null, .null, .null, .null, .null, .null, .null, .null, .null, .null, .int 0, .int 0, .int 0, .null, .null, .null, .null, .null, .int 0, .int 0, .null, .int 0, .int 0, .null, .null, .null, .null, .null, .null, .null, .null, .int 0, .int 0, .long 0, .null, .null, .null, .null, .null, .null, .null, .null, .null, .null, .int 0, .null, .null, .null, .int 0]))] H2.size (ad i) := fun i h1 h2 h => by
    rcases h with ⟨k, e9, h⟩ | h
    · have h0 : k < 1 := (List.getElem?_eq_some_iff.mp h).1
      rw [show k = 0 by omega] at h
      have h4 := congrArg Prod.fst (Option.some.inj h)
      exact hnq i h1 h2 h4.symm
    · have h5 := (hPx (i - 1) _ (cells_at ⟨h1, h2⟩)).lt
      exact absurd h (Nat.not_le.mpr h5)
  have hPx1 : va_P (dC, dI) vwCl (cells 1 93 cA ad IX1 LX0 RR1) H1 := hPx.kept (fun k x hx9 => by
    have hlt := (hPx k x hx9).lt
    obtain ⟨hk, rfl⟩ := cells_in hx9
    exact hk1 _ hlt (hne (1 + k) (by omega) (by omega)))
  refine lv_astore_n (lv' := [(2, .ref qm), (1, .ref (ad 1)), (0, .ref b)]) hx hb dL_law_15 rfl hl (by decide) rfl (fun ls hl => ?_)
  exact law_fin l hL C0 Rel Rup E0 E1 E2 E3 E4 E5 E6 E7 E8 E9 E10 E11 E12 E13 E14 E15 E16 E17 E18 E19 E20 E21 E22 E23 E24 E25 E26 E27 E28 E29 E30 E31 E32 E33 E34 hRel dC dI ad cA hKc hK1 ha1 hA1 hX qm q cm hPx1 hPM hKM (va_A [(qm, .inr (12, [.null, .int 0, .int 0, .int 0, .int 0, .int 0, .int 0, .long 0, .int 0, .int 0, .int 0, .int 0, .int 0, .int 0, .null, .null, .null, .null, .null, .null, .null, .null, .null, .null, .null, .null, .null, .null, .null, .null, .null, .null, .int 0, .int 0, .int 0, .null, .null, .null, .null, .null, .int 0, .int 0, .null, .int 0, .int 0, .null, .null, .null, .null, .null, .null, .null, .null, .int 0, .int 0, .long 0, .null, .null, .null, .null, .null, .null, .null, .null, .null, .null, .int 0, .null, .null, .null, .int 0]))] H2.size) hDM hFc hne hS hl
set_option maxHeartbeats 8000000 in
set_option maxRecDepth 100000 in
theorem start_open {p : Program} {e : Env} {s : State} {m : MethodId} {below : List Frame} {meth : Method} {c : Code} (l : Launch) {b L : Nat} {xs : Nat → Int32} (hL : L ≤ 3072) (C0 : lw_At p s m meth c b L xs) (Rel : RelT) (Rup : ∀ (n : Nat) (I : HI) (R : HR) (J : HI) (M : HL), Rel n I R J M → Rel (n + 6) I R J M) (E0 : Eq_feed Rel) (E1 : Eq_end Rel) (E2 : Eq_lowland Rel) (E3 : Eq_fault Rel) (E4 : Eq_has Rel) (E5 : Eq_letter Rel) (E6 : Eq_hollow Rel) (E7 : Eq_lake Rel) (E8 : Eq_owner Rel) (E9 : Eq_owes Rel) (E10 : Eq_later Rel) (E11 : Eq_broke Rel) (E12 : Eq_spend Rel) (E13 : Eq_price Rel) (E14 : Eq_moves Rel) (E15 : Eq_pack Rel) (E16 : Eq_net Rel) (E17 : Eq_settling Rel) (E18 : Eq_share Rel) (E19 : Eq_stood Rel) (E20 : Eq_robbed Rel) (E21 : Eq_nights Rel) (E22 : Eq_chance Rel) (E23 : Eq_move Rel) (E24 : Eq_pour Rel) (E25 : Eq_part Rel) (E26 : Eq_pay Rel) (E27 : Eq_strike Rel) (E28 : Eq_undo Rel) (E29 : Eq_seed Rel) (E30 : Eq_kept Rel) (E31 : Eq_image Rel) (E32 : Eq_octet Rel) (E33 : Eq_on Rel) (E34 : Eq_status Rel) (hRel : Rel 0 IX1 RR1 IM0 LM0) : W p l e room_1 s m #[Value.ref b] below meth c s.heap [] 0 0 (lw_Z below #[Value.ref b] s) (entryFrame m ([Value.ref b] : List Value).toArray 4) := by
  obtain ⟨hx, hb, hr, hml, hown0, hts0, hXs, hbl, hlocks, hgv⟩ := id C0
  have hown : s.vm.findClass RL = some m.cls := hown0
  have hts : ∀ w ∈ TBL, w.before #[Value.ref b] s = true := fun w h => hts0 w (List.mem_filter.mp h).1
  have hA : ∀ q : Nat, s.heap.size ≤ q → (fun q : Nat => s.heap.size ≤ q) q := fun _ h => h
  obtain ⟨s0, hX0⟩ := law_XS hgv hts0
  obtain ⟨c0, iS0, hKn0⟩ := u_known (C := RX0) (T := TX0) (N := 10) (n := 10) hts cw0 (hts _ lk_in0)
  obtain ⟨c1, iS1, hKn1⟩ := u_known (C := RX1) (T := TX1) (N := 4) (n := 4) hts cw1 (hts _ lk_in1)
  obtain ⟨c2, iS2, hKn2⟩ := u_known (C := RX2) (T := TX2) (N := 19) (n := 19) hts cw2 (hts _ lk_in2)
  obtain ⟨c3, iS3, hKn3⟩ := u_known (C := RX3) (T := TX3) (N := 3) (n := 3) hts cw3 (hts _ lk_in3)
  obtain ⟨c4, iS4, hKn4⟩ := u_known (C := RX4) (T := TX4) (N := 5) (n := 5) hts cw4 (hts _ lk_in4)
  obtain ⟨c5, iS5, hKn5⟩ := u_known (C := RX5) (T := TX5) (N := 2) (n := 2) hts cw5 (hts _ lk_in5)
  obtain ⟨c6, iS6, hKn6⟩ := u_known (C := RX6) (T := TX6) (N := 2) (n := 2) hts cw6 (hts _ lk_in6)
  obtain ⟨c7, iS7, hKn7⟩ := u_known (C := RX7) (T := TX7) (N := 4) (n := 4) hts cw7 (hts _ lk_in7)
  obtain ⟨c8, iS8, hKn8⟩ := u_known (C := RX8) (T := TX8) (N := 3) (n := 3) hts cw8 (hts _ lk_in8)
  obtain ⟨c9, iS9, hKn9⟩ := u_known (C := RX9) (T := TX9) (N := 8) (n := 8) hts cw9 (hts _ lk_in9)
  obtain ⟨c10, iS10, hKn10⟩ := u_known (C := RX10) (T := TX10) (N := 9) (n := 9) hts cw10 (hts _ lk_in10)
  obtain ⟨c11, iS11, hKn11⟩ := u_known (C := RX11) (T := TX11) (N := 19) (n := 19) hts cw11 (hts _ lk_inX)
  obtain ⟨c12, iS12, hKn12⟩ := u_known (C := RX12) (T := TX12) (N := 71) (n := 71) hts cw12 (hts _ lk_inM)
  obtain ⟨dC, dI, hKc⟩ : ∃ (dC : Nat → ClassId) (dI : Nat → Nat → Nat), ∀ (k : Nat) (q : vw_C), vwCl[k]? = some q → u_Kn s q.1 q.2.1 q.2.2 (dC k) (dI k) := by
    refine ⟨fun k => [c0, c1, c2, c3, c4, c5, c6, c7, c8, c9, c10, c11, c12].getD k 0, fun k => [iS0, iS1, iS2, iS3, iS4, iS5, iS6, iS7, iS8, iS9, iS10, iS11, iS12].getD k (fun _ => 0), ?_⟩
    intro k q hq
    match k, hq with
    | 0, hq => cases hq; exact hKn0
    | 1, hq => cases hq; exact hKn1
    | 2, hq => cases hq; exact hKn2
    | 3, hq => cases hq; exact hKn3
    | 4, hq => cases hq; exact hKn4
    | 5, hq => cases hq; exact hKn5
    | 6, hq => cases hq; exact hKn6
    | 7, hq => cases hq; exact hKn7
    | 8, hq => cases hq; exact hKn8
    | 9, hq => cases hq; exact hKn9
    | 10, hq => cases hq; exact hKn10
    | 11, hq => cases hq; exact hKn11
    | 12, hq => cases hq; exact hKn12
    | k + 13, hq => simp [vwCl] at hq
  have hS : va_S (fun q : Nat => s.heap.size ≤ q) s.heap s.heap [] := va_S.rf
  have hK : va_K (dC, dI) vwCl [] s := ⟨hKc, fun k q h => by simp at h⟩
  have hP : va_P (dC, dI) vwCl [] s.heap := fun k q h => by simp at h
  have hD : va_D (fun q : Nat => s.heap.size ≤ q) [] := ⟨fun i j p q h => by simp at h, fun k q h => by simp at h⟩
  have hl := lv_entry ([.ref b]) (n := 4) (Nat.le_of_ble_eq_true rfl)
  rw [lg_entry_eq]
  generalize (lg_sl ([.ref b]) ++ List.replicate (4 - (lg_sl ([.ref b])).length) Slot.unset).toArray = ls at hl ⊢
  have hl : lv_has ls 4 [(0, .ref b)] := hl
  refine va_new (ci := 11) (fs := [.null, .int 0, .null, .null, .null, .int 0, .int 0, .null, .null, .null, .null, .null, .null, .null, .null, .null, .int 0, .int 0, .null]) (C := RX11) (T := TX11) (N := 19) hx hb hts cw11 tyX11 tyX11_ok hown (hts _ lk_clX) (hts _ lk_inX) (hts _ ini_RX11) hK hP hD hS hA rfl (by decide +kernel) (by decide) (by decide) dL_law_0 (fun h0 H hP hD hS => ?_)
  have hP : va_P (dC, dI) vwCl [(h0, .inr (11, [.null, .int 0, .null, .null, .null, .int 0, .int 0, .null, .null, .null, .null, .null, .null, .null, .null, .null, .int 0, .int 0, .null]))] H := hP
  have hD : va_D (fun q : Nat => s.heap.size ≤ q) [(h0, .inr (11, [.null, .int 0, .null, .null, .null, .int 0, .int 0, .null, .null, .null, .null, .null, .null, .null, .null, .null, .int 0, .int 0, .null]))] := hD
  refine W.widen (k := 1) (n := 19) (by omega) (by omega) ?_
  refine lv_dup hx hb dL_law_3 rfl ?_
  have hFc := va_free (wc := [(h0, .inr (11, [.null, .int 0, .null, .null, .null, .int 0, .int 0, .null, .null, .null, .null, .null, .null, .null, .null, .null, .int 0, .int 0, .null]))]) hD hS hA [0] rfl
  have hnw_X11_15 : va_Nw (.methodLinkNest RX11 15 yX2_init RX11) s := va_Nw.of rfl (hts0 _ (LT_1 32 rfl))
  have hnw_X11_38 : va_Nw (.methodLinkNest RX11 38 yX9_init RX11) s := va_Nw.of rfl (hts0 _ (LT_1 223 rfl))
  have hnw_X9_29 : va_Nw (.methodLinkNest RX9 29 yX3_init RX11) s := va_Nw.of rfl (hts0 _ (LT_1 229 rfl))
  have hnw_X11_48 : va_Nw (.methodLinkNest RX11 48 yX1_init RX11) s := va_Nw.of rfl (hts0 _ (LT_2 48 rfl))
  have hnw_X11_55 : va_Nw (.methodLinkNest RX11 55 yX5_init RX11) s := va_Nw.of rfl (hts0 _ (LT_2 70 rfl))
  have hnw_X11_62 : va_Nw (.methodLinkNest RX11 62 yX0_init RX11) s := va_Nw.of rfl (hts0 _ (LT_2 84 rfl))
  have hnw_X11_69 : va_Nw (.methodLinkNest RX11 69 yX4_init RX11) s := va_Nw.of rfl (hts0 _ (LT_2 122 rfl))
  have hnw_X11_76 : va_Nw (.methodLinkNest RX11 76 yX6_init RX11) s := va_Nw.of rfl (hts0 _ (LT_2 144 rfl))
  have hov : va_AOA .int s := va_AOA.of (hts0 _ (LT_2 53 rfl))
  refine va_callv (va_runI (As := []) (rest := [.ref h0]) ⟨hx, hb, hml, hown, hts⟩ (ct_X11 l dC dI h0 H.size s0) (cwI 0 hts (TBL_code cd_X11_init) rfl rfl rfl (hts _ ini_RX11) (hts _ lk_mlX) (hts _ im_X11_init_i) rfl ⟨by decide +kernel, by decide +kernel, by decide +kernel⟩ ⟨by decide, by decide⟩) ⟨fun a U g mk q => by obtain ⟨q0, q1, qP, qK, qD, qX, e0, e1, e2, e3, e4, e5, e6, e7, eo⟩ := q; exact ⟨q0, q1, qP, va_K.moved (u := U) (U := U.calling g mk a) (Vm.Alike.refl U.vm) qK, qD, qX.blind, va_Nw.same (u := U) (U := U.calling g mk a) rfl rfl e0, va_Nw.same (u := U) (U := U.calling g mk a) rfl rfl e1, va_Nw.same (u := U) (U := U.calling g mk a) rfl rfl e2, va_Nw.same (u := U) (U := U.calling g mk a) rfl rfl e3, va_Nw.same (u := U) (U := U.calling g mk a) rfl rfl e4, va_Nw.same (u := U) (U := U.calling g mk a) rfl rfl e5, va_Nw.same (u := U) (U := U.calling g mk a) rfl rfl e6, va_Nw.same (u := U) (U := U.calling g mk a) rfl rfl e7, va_AOA.moved (u := U) (U := U.calling g mk a) (Vm.Alike.refl U.vm) eo⟩, fun U hU hW => ⟨rfl, by rw [hU], by rw [hU]; exact hP, va_K.moved hW.alike hK, hD.weaken (fun _ _ _ _ => trivial), (hX0.next hS hU hW).narrow hFc, va_Nw.warmM hW hnw_X11_15, va_Nw.warmM hW hnw_X11_38, va_Nw.warmM hW hnw_X9_29, va_Nw.warmM hW hnw_X11_48, va_Nw.warmM hW hnw_X11_55, va_Nw.warmM hW hnw_X11_62, va_Nw.warmM hW hnw_X11_69, va_Nw.warmM hW hnw_X11_76, va_AOA.moved hW.alike hov⟩⟩ rfl rfl hl.1 rfl (lv_room (Nat.le_of_ble_eq_true rfl)) dL_law_4 ⟨by decide, by decide⟩) hS (fun q _ h => hFc q h) hFc (fun u t H1 locs ht hvm hw hB hz1 hk1 hS => ?_)
  obtain ⟨ad, cA, e0, e1, hP1, hK1, ha1, hAof⟩ := hB
  rw [ht] at hP1
  refine W.widen (k := 92) (n := 9778) (by omega) (by omega) ?_
  rw [← e1]
  exact law_mid l hL C0 Rel Rup E0 E1 E2 E3 E4 E5 E6 E7 E8 E9 E10 E11 E12 E13 E14 E15 E16 E17 E18 E19 E20 E21 E22 E23 E24 E25 E26 E27 E28 E29 E30 E31 E32 E33 E34 hRel dC dI ad cA hKc (hK1.moved hvm.symm) ha1 (fun q hq => hFc q (hAof q hq)) (hX0.ad e0) hP1 hS hl
