/-! a hollow that must be told already, with room -/
section
variable {tp : Nat → Nat} {sz fu t b nh no nl k at' e : Nat} {I J : HI} {M : HL} {R : HR}
theorem LKr_c {I' : HI} (h : LKr I J t b nh nl) (hI : ∀ x, t ≤ x → x ≤ t + 7 → I' x = I x) : LKr I' J t b nh nl := by
  obtain ⟨⟨a1, a2, a3⟩, ⟨b1, b2, b3⟩, c, d, f⟩ := h
  exact ⟨⟨by rw [hI t (by omega) (by omega)]; exact a1, a2, a3⟩, ⟨by rw [hI t (by omega) (by omega)]; exact b1, b2, b3⟩, c, fun i hi => by rw [hI (t + 4) (by omega) (by omega)]; exact d i hi, fun j hj => by rw [hI (t + 6) (by omega) (by omega), hI (t + 7) (by omega) (by omega)]; exact f j hj⟩
theorem thr_R (h : StR tp sz I J M k at' e) (hN : NMr I J M t b nh no nl) (hL : LKr I J t b nh nl) (hR : R 6 2 = t) (ho : okLd t = true) (ht : t = 67 ∨ t = 80) (hf : 2000 < fu) (s : Int32) : ∃ B, f_X12_without fu J s = some (nI B) ∧ ((∃ K J' M' k' at2 e' i, f_X7_takeHollowWithRoom fu I R s = some (1, K) ∧ f_X12_askedBut fu J M 0 (nI B) = some (nI i, J', M') ∧ i < nh ∧ (∃ v, f_X2_roomAtFirst fu (sI I 6 3 (nI i)) t (nI i) = some v ∧ s ≤ v) ∧ K 6 3 = nI i ∧ StR tp sz K J' M' k' at2 e' ∧ e ≤ at2 ∧ TkC I K ∧ AdM J J' ∧ OnL M M') ∨ (∃ K J' f pl, f_X7_takeHollowWithRoom fu I R s = some (0, K) ∧ f_X12_askedBut fu J M 0 (nI B) = some (0, J', M) ∧ BadC I K f pl ∧ BadM J J' f pl ∧ okF f pl)) := by
  have n3 : ¬ (1 : Int32) = 0 := by decide
  have h8 := h.2.2.1
  have hk5 := h.k5
  have b4 := h.2.1.1.2.2.2
  have j4 := h.2.1.1.2.2.1.2
  unfold f_X7_takeHollowWithRoom f_X10_needKind
  rcases lexS h with ⟨l1, l2, l3, l4⟩ | ⟨l1, pl, J1, l2, l3, l4, l5⟩
  · by_cases c1 : k = 1
    · have z1 : nI k = 1 := by rw [c1]; rfl
      obtain ⟨w2, w3, w4⟩ := nameT h c1
      have e2 := hN.1.1
      have g6 := hN.1.2.2
      have tk0 : ∀ v, TkC I (sI I 6 3 v) := fun v => ⟨fun x a _ => zs_ne a, fun s hs => by rw [zs_eq, zs_other hs], fun s _ => by rw [zs_ne (by decide)]⟩
      have k63 : ∀ v, (sI I 6 3 v) 6 3 = v := fun v => by rw [zs_eq, zs_same]
      have bad : ∀ v, ∃ K, f_X10_fail (sI I 6 3 v) 3 = some (0, K) ∧ BadC I K 3 at' := fun v => by
        obtain ⟨K, d1, d2⟩ := failC (I := sI I 6 3 v) (f := 3) (pl := at') (by rw [zs_ne (by decide)]; exact h.2.1.1.2.2.1.1)
        exact ⟨K, d1, BadC.tk (tk0 v) d2⟩
      rcases findH_R hN (fu := fu) (by omega) w3 with ⟨i, hi, f1, f2⟩ | ⟨f1, f2⟩
      · have fo : f_X2_findHollow fu I t (I 7 6) = some (nI i) := by
          unfold f_X2_findHollow
          simp only [e2, f1, Option.bind_some]
        have mi : ¬ nI i = -1 := fun w => (nI_eq_mI (a := i) (b := 1) (by omega) (by decide)).mp w
        obtain ⟨B, q1, q2, q3⟩ := wo_R (fu := fu) (LKr_c (I' := sI I 6 3 (nI i)) hL (fun x x1 x2 => zs_ne (by omega))) (by omega) s
        obtain ⟨v, v1, v2⟩ := q3 i hi
        have hh := has2_ok (x := B) (i := i) (by omega) (by omega)
        refine ⟨B, q2, ?_⟩
        by_cases c : s ≤ v
        · have a2 : f_X12_has2 (nI B) (nI i) = some 0 := by
            rw [hh, v2, if_neg (by simp [c])]
          have h' : StR tp sz (sI I 6 3 (nI i)) J M k at' e := StR_tk h (fun x hx => zs_ne (by omega))
          obtain ⟨K, J', M', k', at2, e', r1, r2, r3, r4, r5, r6, r7⟩ := advS h' hf (by omega)
          have m1 := askG (fu := fu) (p1 := 0) (p2 := nI B) h8 l2 w2 w4 f2 mi a2 r2 r3.2.2.1
          left
          refine ⟨K, J', M', k', at2, e', i, ?_, m1, hi, ⟨v, v1, c⟩, by rw [r5.1 6 (by decide)]; exact k63 _, r3, r4, (tk0 _).trans r5.tk, r6, r7⟩
          simp only [jnt, b4, if_pos z1, gz_1, Option.bind_some, if_neg n3, hR, zg_ok ho, fo, bnd, k63, if_neg mi, v1, if_pos c, r1]
        · have a2 : f_X12_has2 (nI B) (nI i) = some 1 := by
            rw [hh, v2, if_pos (by simp [c])]
          obtain ⟨K, d1, d2⟩ := bad (nI i)
          obtain ⟨J', m1, m2⟩ := askN (fu := fu) (p1 := 0) (p2 := nI B) h8 l2 w2 w4 f2 (Or.inr ⟨mi, a2⟩) j4
          right
          refine ⟨K, J', 3, at', ?_, m1, d2, m2, by decide, l4⟩
          simp only [jnt, b4, if_pos z1, gz_1, Option.bind_some, if_neg n3, hR, zg_ok ho, fo, bnd, k63, if_neg mi, v1, if_neg c, d1, gz_0]
      · have fo : f_X2_findHollow fu I t (I 7 6) = some (-1) := by
          unfold f_X2_findHollow
          simp only [e2, f1, Option.bind_some]
        obtain ⟨B, q1, q2, q3⟩ := wo_R (fu := fu) hL (by omega) s
        obtain ⟨K, d1, d2⟩ := bad (-1)
        obtain ⟨J', m1, m2⟩ := askN (fu := fu) (p1 := 0) (p2 := nI B) h8 l2 w2 w4 f2 (Or.inl rfl) j4
        refine ⟨B, q2, Or.inr ⟨K, J', 3, at', ?_, m1, d2, m2, by decide, l4⟩⟩
        simp only [jnt, b4, if_pos z1, gz_1, Option.bind_some, if_neg n3, hR, zg_ok ho, fo, bnd, k63, if_true, d1, gz_0]
    · have z1 : ¬ nI k = 1 := fun w => c1 ((nI_eq (b := 1) (by omega) (by decide)).mp w)
      obtain ⟨B, q1, q2, q3⟩ := wo_R (fu := fu) hL (by omega) s
      obtain ⟨K, d1, d2⟩ := failFormC l3
      obtain ⟨J', m1, m2⟩ := askF (fu := fu) (p1 := 0) (p2 := nI B) h8 l2 (noName h c1 l1) j4
      refine ⟨B, q2, Or.inr ⟨K, J', 1, at', ?_, m1, d2, m2, by decide, l4⟩⟩
      simp only [b4, jnt, if_neg z1, d1, Option.bind_some, if_true, gz_0]
  · obtain ⟨K, d1, d2⟩ := failFormC l3
    have z1 : ¬ nI k = 1 := by rw [l1]; decide
    obtain ⟨B, q1, q2, q3⟩ := wo_R (fu := fu) hL (by omega) s
    refine ⟨B, q2, Or.inr ⟨K, J1, 1, pl, ?_, askL l4 l5, d2, l5, by decide, l2⟩⟩
    simp only [b4, jnt, if_neg z1, d1, Option.bind_some, if_true, gz_0]
end
