/-! the rules' reader: parts -/
section
variable {rec : Nat → HI → HR → Int32 → Int32 → Option (Int32 × HI)} {fu t : Nat} {I K1 K Kb : HI} {R : HR} {p : Int32}
theorem pt_num (h3 : I 7 3 = nI 3) (hok : okLd t = true) (hR : R 8 1 = t) (u1 : f_X2_emit I t (I 7 6) = some (1, K1)) (u2 : f_X10_advance fu K1 = some (1, K)) : f_X8_readPart rec fu I R p = some (1, K) := by
  have n3 : ¬ (1 : Int32) = 0 := by decide
  have z : nI 3 = 3 := rfl
  unfold f_X8_readPart
  rw [h3, if_pos z, hR, zg_ok hok, u1, Option.bind_some, if_neg n3, u2, Option.bind_some, if_neg n3]
  exact gz_1
theorem kind_0 {k pl : Nat} (h3 : I 7 3 = nI k) (hk : k ≠ 2 ∧ k < 6) (h5 : I 7 5 = nI pl) : ∃ Kb, f_X10_needKind I 2 = some (0, Kb) ∧ BadC I Kb 1 pl := by
  have z : ¬ nI k = 2 := fun w => by
    have := (nI_eq (b := 2) (by omega) (by decide)).mp w
    omega
  obtain ⟨Kb, k1, k2⟩ := failFormC h5
  refine ⟨Kb, ?_, k2⟩
  unfold f_X10_needKind
  simp only [jnt, h3, if_neg z, k1, Option.bind_some, if_true, gz_0]
theorem pt_no {k : Nat} (h3 : I 7 3 = nI k) (hk : k ≠ 3 ∧ k < 6) (s40 : f_X10_isSign I 40 = some 0) (h : f_X10_needKind I 2 = some (0, Kb)) : f_X8_readPart rec fu I R p = some (0, Kb) := by
  have z : ¬ nI k = 3 := fun w => by
    have := (nI_eq (b := 3) (by omega) (by decide)).mp w
    omega
  unfold f_X8_readPart
  rw [h3, if_neg z, s40, Option.bind_some, if_pos rfl, h, Option.bind_some, if_pos rfl]
  exact gz_0
theorem kind_1 (h3 : I 7 3 = nI 2) : f_X10_needKind I 2 = some (1, I) := by
  have z : nI 2 = 2 := rfl
  unfold f_X10_needKind
  simp only [jnt, h3, if_pos z, gz_1]
theorem pt_17 {y : Int32} (h3 : I 7 3 = nI 2) (s40 : f_X10_isSign I 40 = some 0) (h6 : I 7 6 = nI 17) (hy : y = 0 ∨ y = 1) (h : rec 1 I R p 0 = some (y, K)) : f_X8_readPart rec fu I R p = some (y, K) := by
  have n3 : ¬ (1 : Int32) = 0 := by decide
  have z : ¬ nI 2 = 3 := by decide
  have z17 : nI 17 = 17 := rfl
  unfold f_X8_readPart
  simp only [h3, if_neg z, s40, Option.bind_some, if_true, kind_1 h3, if_neg n3, h6, if_pos z17, h]
  rcases hy with rfl | rfl
  · exact gz_0
  · exact gz_1
theorem pt_22 {y : Int32} (h3 : I 7 3 = nI 2) (s40 : f_X10_isSign I 40 = some 0) (h6 : I 7 6 = nI 22) (hy : y = 0 ∨ y = 1) (h : rec 3 I R p (-14) = some (y, K)) : f_X8_readPart rec fu I R p = some (y, K) := by
  have n3 : ¬ (1 : Int32) = 0 := by decide
  have z : ¬ nI 2 = 3 := by decide
  have z17 : ¬ nI 22 = 17 := by decide
  have z22 : nI 22 = 22 := rfl
  unfold f_X8_readPart
  simp only [h3, if_neg z, s40, Option.bind_some, if_true, kind_1 h3, if_neg n3, h6, if_neg z17, if_pos z22, h]
  rcases hy with rfl | rfl
  · exact gz_0
  · exact gz_1
theorem pt_23 {y : Int32} (h3 : I 7 3 = nI 2) (s40 : f_X10_isSign I 40 = some 0) (h6 : I 7 6 = nI 23) (hy : y = 0 ∨ y = 1) (h : rec 3 I R p (-15) = some (y, K)) : f_X8_readPart rec fu I R p = some (y, K) := by
  have n3 : ¬ (1 : Int32) = 0 := by decide
  have z : ¬ nI 2 = 3 := by decide
  have z17 : ¬ nI 23 = 17 := by decide
  have z22 : ¬ nI 23 = 22 := by decide
  have z23 : nI 23 = 23 := rfl
  unfold f_X8_readPart
  simp only [h3, if_neg z, s40, Option.bind_some, if_true, kind_1 h3, if_neg n3, h6, if_neg z17, if_neg z22, if_pos z23, h]
  rcases hy with rfl | rfl
  · exact gz_0
  · exact gz_1
theorem pt_fig {w : Nat} {v : Int32} (h3 : I 7 3 = nI 2) (s40 : f_X10_isSign I 40 = some 0) (h6 : I 7 6 = nI w) (hw : w < 25 ∧ w ≠ 17 ∧ w ≠ 22 ∧ w ≠ 23) (hfg : f_X8_figureOp I (nI w) = some v) (hv : ¬ v = 0) (hok : okLd t = true) (hR : R 8 1 = t) (u1 : f_X2_emit I t v = some (1, K1)) (u2 : f_X10_advance fu K1 = some (1, K)) : f_X8_readPart rec fu I R p = some (1, K) := by
  have n3 : ¬ (1 : Int32) = 0 := by decide
  have z : ¬ nI 2 = 3 := by decide
  have z17 : ¬ nI w = 17 := fun q => hw.2.1 ((nI_eq (b := 17) (by omega) (by decide)).mp q)
  have z22 : ¬ nI w = 22 := fun q => hw.2.2.1 ((nI_eq (b := 22) (by omega) (by decide)).mp q)
  have z23 : ¬ nI w = 23 := fun q => hw.2.2.2 ((nI_eq (b := 23) (by omega) (by decide)).mp q)
  unfold f_X8_readPart
  simp only [h3, if_neg z, s40, Option.bind_some, if_true, kind_1 h3, if_neg n3, h6, if_neg z17, if_neg z22, if_neg z23, hfg, if_neg hv, hR, zg_ok hok, u1, u2]
  exact gz_1
theorem pt_bad {w : Nat} (h3 : I 7 3 = nI 2) (s40 : f_X10_isSign I 40 = some 0) (h6 : I 7 6 = nI w) (hw : w < 25 ∧ w ≠ 17 ∧ w ≠ 22 ∧ w ≠ 23) (hfg : f_X8_figureOp I (nI w) = some 0) (hb : f_X10_failForm I = some (0, Kb)) : f_X8_readPart rec fu I R p = some (0, Kb) := by
  have n3 : ¬ (1 : Int32) = 0 := by decide
  have z : ¬ nI 2 = 3 := by decide
  have z17 : ¬ nI w = 17 := fun q => hw.2.1 ((nI_eq (b := 17) (by omega) (by decide)).mp q)
  have z22 : ¬ nI w = 22 := fun q => hw.2.2.1 ((nI_eq (b := 22) (by omega) (by decide)).mp q)
  have z23 : ¬ nI w = 23 := fun q => hw.2.2.2 ((nI_eq (b := 23) (by omega) (by decide)).mp q)
  unfold f_X8_readPart
  simp only [h3, if_neg z, s40, Option.bind_some, if_true, kind_1 h3, if_neg n3, h6, if_neg z17, if_neg z22, if_neg z23, hfg, hb]
  exact gz_0
end
theorem VL_fig {K : HI} {t r0 c0 nd kf : Nat} (hc : (K (t + 10) c0).toInt = -1 - (kf : Int)) (hk : kf < 6) (ha : Ask r0 kf) (hnd : 1 ≤ nd) : VL K t r0 c0 (c0 + 1) nd 0 := by
  refine ⟨by omega, fun fig hf st hs => ?_⟩
  obtain ⟨v, hv⟩ := hf.2 kf ha
  refine ⟨v, ?_, fun w => absurd w (by decide)⟩
  rw [show c0 + 1 - c0 = 1 by omega, ev1, hc]
  unfold evS
  rw [if_neg (by omega), if_neg (by omega), if_pos (by omega), show (-1 - (-1 - (kf : Int))).toNat = kf by omega, hv]
section
variable {tp : Nat → Nat} {sz fu t b r0 : Nat} {R : HR}
theorem OutG_le {I J K : HI} {M : HL} {n at' cj om dp o fk bs ρ nd nd' ts : Nat} {phP : Nat → Prop} {tkP : HI → Nat → Prop} (h : OutG tp sz fu t b r0 I J M K n at' cj om dp o fk bs ρ nd ts phP tkP) (hn : nd ≤ nd') : OutG tp sz fu t b r0 I J M K n at' cj om dp o fk bs ρ nd' ts phP tkP := by
  obtain ⟨J', M', k', at2, e', cj', ph', lg, n', a1, a2, a3, a4, a5, a6, a7, a8, a9, a10, a11, a12, a13⟩ := h
  exact ⟨J', M', k', at2, e', cj', ph', lg, n', a1, a2, a3, a4, a5, a6, a7, a8, a9, a10, VL_le a11 hn, a12, a13⟩
theorem leaf_R {I J : HI} {M : HL} {k at' e cj om dp o fk ph bg bs n nd : Nat} {v s x : Int32} (h : PRx tp sz t b r0 I J M k at' e cj om dp o 0 fk ph bg bs []) (hf : 2000 < fu) (ht : t = 67 ∨ t = 80) (hk : k ≠ 0) (hv : CR v s x) (hop : ∀ J1 J3 M3, f_X12_add (sI J 122 dp 0) s x = some J1 → f_X12_ahead fu J1 M = some (J3, M3) → f_X12_operand fu J M = some (1, J3, M3)) (hVL : ∀ K : HI, K (t + 10) cj = v → VL K t r0 cj (cj + 1) nd 0) (hn : sz + 10 ≤ n + at') : ∃ K1 K, f_X2_emit I t v = some (1, K1) ∧ f_X10_advance fu K1 = some (1, K) ∧ OutG tp sz fu t b r0 I J M K n at' cj om dp o fk bs 7 nd 0 (fun p => p = ph) (fun _ _ => True) := by
  have hP := (setPB h).1
  have hes := h.1.2.1.2.1
  obtain ⟨n1, hn1⟩ : ∃ n1, n = n1 + 1 := ⟨n - 1, by omega⟩
  obtain ⟨K1, K, J1, J3, M3, k3, at3, e3, b1, b2, b3, b4, b5, b6, b7, b8, b9, b10, b11⟩ := lit_R (fu := fu) hP hf hk ht hv
  have step := opR (fu := fu) (n := n1) h.2.1.2.2.2.2.2.1 (hop J1 J3 M3 b3 b4) (Or.inr rfl) b5
  have b6' := set44 b6 1
  refine ⟨K1, K, b1, b2, sI J3 100 44 (nI 1), M3, k3, at3, e3, cj + 1, ph, [], n1, by rw [hn1, step]; rfl, by omega, by omega, b6', fun y hy => absurd hy List.not_mem_nil, by show cj + 1 + 0 + at' ≤ cj + at3; omega, by omega, ?_, b9, b10, hVL K b11, rfl, trivial⟩
  exact ((setPB_fr (Or.inr rfl)).trans b8 (Nat.le_refl _) (Nat.le_refl _)).trans set44_fr (Nat.le_refl _) (Nat.le_refl _)
theorem leaf_B {I J J' Kb : HI} {M : HL} {k at' e cj om dp o fk ph bg bs n pl : Nat} (h : PRx tp sz t b r0 I J M k at' e cj om dp o 0 fk ph bg bs []) (ht : t = 67 ∨ t = 80) (hpl : pl ≤ 1700) (hop : f_X12_operand fu J M = some (1, J', M)) (hb : BadM (sI J 122 dp 0) J' 1 pl ∨ BadM J J' 1 pl) (hk : BadC I Kb 1 pl) (hn : sz + 10 ≤ n + at') : OutB fu t b I J M Kb n := by
  have hes := h.1.2.1.2.1
  obtain ⟨n1, hn1⟩ : ∃ n1, n = n1 + 1 + 1 := ⟨n - 2, by omega⟩
  have h8 : J' 100 8 = nI 1 := by
    rcases hb with z | z
    · exact z.2.1
    · exact z.2.1
  have step := opF (fu := fu) (n := n1) (f := 1) h.2.1.2.2.2.2.2.1 hop (Or.inr rfl) (by decide) h8
  refine ⟨sI J' 100 44 1, M, 1, pl, by rw [hn1, step], BdC.of (PFc.refl (c0 := 0)) ht hk, ?_, ⟨by decide, hpl⟩, OnL.refl⟩
  rcases hb with z | z
  · exact BdR_44 (BdR.of (b := b) (dp := dp) (om := om) (cj := cj) (setPB_fr (Or.inr rfl)) z)
  · exact BdR_44 (BdR.of (b := b) (dp := dp) (om := om) (cj := cj) PFm.refl z)
end
