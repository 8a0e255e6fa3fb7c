/-! an owner that must be told already -/
section
variable {tp : Nat → Nat} {sz fu t b nh no nl k at' e : Nat} {I J : HI} {M : HL} {R : HR}
theorem tob_R (h : StR tp sz I J M k at' e) (hN : NMr I J M t b nh no nl) (hR : R 6 2 = t) (ho : okLd t = true) (hf : 2000 < fu) {q p2 : Int32} (hq : ∀ i, i < no → (nI i = q ∧ f_X12_has2 p2 (nI i) = some 1) ∨ (¬ nI i = q ∧ f_X12_has2 p2 (nI i) = some 0)) : (∃ K J' M' k' at2 e' i, f_X7_takeOwnerBut fu I R q = some (1, K) ∧ f_X12_askedBut fu J M 1 p2 = some (nI i, J', M') ∧ i < no ∧ ¬ nI i = q ∧ K 6 3 = nI i ∧ StR tp sz K J' M' k' at2 e' ∧ e ≤ at2 ∧ TkC I K ∧ AdM J J' ∧ OnL M M') ∨ (∃ K J' f pl, f_X7_takeOwnerBut fu I R q = some (0, K) ∧ f_X12_askedBut fu J M 1 p2 = some (0, J', M) ∧ BadC I K f pl ∧ BadM J J' f pl ∧ okF f pl) := by
  have n3 : ¬ (1 : Int32) = 0 := by decide
  have h8 := h.2.2.1
  have hk5 := h.k5
  have b4 := h.2.1.1.2.2.2
  have j4 := h.2.1.1.2.2.1.2
  unfold f_X7_takeOwnerBut f_X10_needKind
  rcases lexS h with ⟨l1, l2, l3, l4⟩ | ⟨l1, pl, J1, l2, l3, l4, l5⟩
  · by_cases c1 : k = 1
    · have z1 : nI k = 1 := by rw [c1]; rfl
      obtain ⟨w2, w3, w4⟩ := nameT h c1
      have e2 := hN.2.1.1
      have g6 := hN.2.1.2.2
      have tk0 : ∀ v, TkC I (sI I 6 3 v) := fun v => ⟨fun x a _ => zs_ne a, fun s hs => by rw [zs_eq, zs_other hs], fun s _ => by rw [zs_ne (by decide)]⟩
      have k63 : ∀ v, (sI I 6 3 v) 6 3 = v := fun v => by rw [zs_eq, zs_same]
      have bad : ∀ v, ∃ K, f_X10_fail (sI I 6 3 v) 3 = some (0, K) ∧ BadC I K 3 at' := fun v => by
        obtain ⟨K, d1, d2⟩ := failC (I := sI I 6 3 v) (f := 3) (pl := at') (by rw [zs_ne (by decide)]; exact h.2.1.1.2.2.1.1)
        exact ⟨K, d1, BadC.tk (tk0 v) d2⟩
      rcases findO_R hN (fu := fu) (by omega) w3 with ⟨i, hi, f1, f2⟩ | ⟨f1, f2⟩
      · have fo : f_X2_findOwner fu I t (I 7 6) = some (nI i) := by
          unfold f_X2_findOwner
          simp only [e2, f1, Option.bind_some]
        have mi : ¬ nI i = -1 := fun w => (nI_eq_mI (a := i) (b := 1) (by omega) (by decide)).mp w
        rcases hq i hi with ⟨a1, a2⟩ | ⟨a1, a2⟩
        · obtain ⟨K, d1, d2⟩ := bad (nI i)
          obtain ⟨J', m1, m2⟩ := askN (fu := fu) (p1 := 1) (p2 := p2) h8 l2 w2 w4 f2 (Or.inr ⟨mi, a2⟩) j4
          right
          refine ⟨K, J', 3, at', ?_, m1, d2, m2, by decide, l4⟩
          simp only [jnt, b4, if_pos z1, gz_1, Option.bind_some, if_neg n3, hR, zg_ok ho, fo, bnd, k63, if_neg mi, if_pos a1, d1, gz_0]
        · have h' : StR tp sz (sI I 6 3 (nI i)) J M k at' e := StR_tk h (fun x hx => zs_ne (by omega))
          obtain ⟨K, J', M', k', at2, e', q1, q2, q3, q4, q5, q6, q7⟩ := advS h' hf (by omega)
          have m1 := askG (fu := fu) (p1 := 1) (p2 := p2) h8 l2 w2 w4 f2 mi a2 q2 q3.2.2.1
          left
          refine ⟨K, J', M', k', at2, e', i, ?_, m1, hi, a1, by rw [q5.1 6 (by decide)]; exact k63 _, q3, q4, (tk0 _).trans q5.tk, q6, q7⟩
          simp only [jnt, b4, if_pos z1, gz_1, Option.bind_some, if_neg n3, hR, zg_ok ho, fo, bnd, k63, if_neg mi, if_neg a1, q1]
      · have fo : f_X2_findOwner fu I t (I 7 6) = some (-1) := by
          unfold f_X2_findOwner
          simp only [e2, f1, Option.bind_some]
        obtain ⟨K, d1, d2⟩ := bad (-1)
        obtain ⟨J', m1, m2⟩ := askN (fu := fu) (p1 := 1) (p2 := p2) h8 l2 w2 w4 f2 (Or.inl rfl) j4
        right
        refine ⟨K, J', 3, at', ?_, m1, d2, m2, by decide, l4⟩
        simp only [jnt, b4, if_pos z1, gz_1, Option.bind_some, if_neg n3, hR, zg_ok ho, fo, bnd, k63, if_true, d1, gz_0]
    · have z1 : ¬ nI k = 1 := fun w => c1 ((nI_eq (b := 1) (by omega) (by decide)).mp w)
      obtain ⟨K, d1, d2⟩ := failFormC l3
      obtain ⟨J', m1, m2⟩ := askF (fu := fu) (p1 := 1) (p2 := p2) h8 l2 (noName h c1 l1) j4
      right
      refine ⟨K, J', 1, at', ?_, m1, d2, m2, by decide, l4⟩
      simp only [b4, jnt, if_neg z1, d1, Option.bind_some, if_true, gz_0]
  · obtain ⟨K, d1, d2⟩ := failFormC l3
    have z1 : ¬ nI k = 1 := by rw [l1]; decide
    right
    refine ⟨K, J1, 1, pl, ?_, askL l4 l5, d2, l5, by decide, l2⟩
    simp only [b4, jnt, if_neg z1, d1, Option.bind_some, if_true, gz_0]
theorem has2_0 {v : Nat} (hv : v < 9) : f_X12_has2 0 (nI v) = some 0 := by
  have key : ∀ v, v < 9 → f_X12_has2 0 (nI v) = some 0 := by decide
  exact key v hv
theorem has2_1 {a v : Nat} (ha : a < 6) (hv : v < 6) : f_X12_has2 ((1 : Int32) <<< (nI a &&& 31)) (nI v) = some (if v = a then 1 else 0) := by
  have key : ∀ a, a < 6 → ∀ v, v < 6 → f_X12_has2 ((1 : Int32) <<< (nI a &&& 31)) (nI v) = some (if v = a then 1 else 0) := by decide
  exact key a ha v hv
/-- any owner -/
theorem own1_h (hn : no ≤ 6) : ∀ i, i < no → (nI i = (-1 : Int32) ∧ f_X12_has2 0 (nI i) = some 1) ∨ (¬ nI i = (-1 : Int32) ∧ f_X12_has2 0 (nI i) = some 0) := fun i hi => Or.inr ⟨fun w => (nI_eq_mI (a := i) (b := 1) (by omega) (by decide)).mp w, has2_0 (by omega)⟩
/-- any owner but one -/
theorem own2_h {a : Nat} (hn : no ≤ 6) (ha : a < no) : ∀ i, i < no → (nI i = nI a ∧ f_X12_has2 ((1 : Int32) <<< (nI a &&& 31)) (nI i) = some 1) ∨ (¬ nI i = nI a ∧ f_X12_has2 ((1 : Int32) <<< (nI a &&& 31)) (nI i) = some 0) := fun i hi => by
  have z := has2_1 (a := a) (v := i) (by omega) (by omega)
  by_cases c : i = a
  · rw [if_pos c] at z
    exact Or.inl ⟨by rw [c], z⟩
  · rw [if_neg c] at z
    exact Or.inr ⟨fun w => c ((nI_eq (by omega) (by omega)).mp w), z⟩
end
