/-! the nights' and the carts' numbers -/
def BaM (J J' : HI) (f pl : Nat) : Prop := (∀ x, x ≠ 100 → J' x = J x) ∧ J' 100 8 = nI f ∧ J' 100 9 = nI pl ∧ ∀ s, s ≤ 2 ∨ (7 ≤ s ∧ s ≠ 12) → s ≠ 8 → s ≠ 9 → J' 100 s = J 100 s
theorem BaM.of {J J1 J' : HI} {f pl : Nat} (h : AdM J J1) (h' : BadM J1 J' f pl) : BaM J J' f pl := ⟨fun x hx => (h'.1 x hx).trans (h.1 x hx), h'.2.1, h'.2.2.1, fun s a b c => (h'.2.2.2 s b c).trans (h.2 s a)⟩
section
variable {tp : Nat → Nat} {sz fu t b k at' e : Nat} {I J : HI} {M : HL} {R : HR}
theorem drought_R (h : StR tp sz I J M k at' e) (hk : k ≠ 0) (hR : R 6 2 = t) (ho : okLd t = true) (ht : t = 67 ∨ t = 80) (hf : 2000 < fu) (h33 : J 100 33 = nI b) (hb : b < 2) : (∃ K J' M' k' at2 e' v, f_X7_readDrought fu I R = some (1, K) ∧ f_X12_telling fu J M 0 = some (J', M') ∧ 0 ≤ v ∧ v ≤ 100 ∧ StR tp sz K J' M' k' at2 e' ∧ e ≤ at2 ∧ OnL M M' ∧ K t 4 = nI v ∧ J' 111 b = nI v ∧ (∀ x, x ≠ 6 → x ≠ 7 → x ≠ t → K x = I x) ∧ (∀ s, s ≠ 4 → K t s = I t s) ∧ (∀ x, x ≠ 100 → x ≠ 111 → J' x = J x) ∧ (∀ i, i ≠ b → J' 111 i = J 111 i) ∧ ∀ s, s ≤ 2 ∨ (7 ≤ s ∧ s ≠ 12) → J' 100 s = J 100 s) ∨ (∃ K J' M' f pl, f_X7_readDrought fu I R = some (0, K) ∧ f_X12_telling fu J M 0 = some (J', M') ∧ OnL M M' ∧ BadC I K f pl ∧ BaM J J' f pl ∧ okF f pl) := by
  have n3 : ¬ (1 : Int32) = 0 := by decide
  have z8 : (0 : Int32) ≤ 0 := by decide
  obtain ⟨K1, J1, M1, k1, at1, e1, a1, a2, a3, a4, a5, a6, a7⟩ := advS h hf hk
  have cn := cntG (fu := fu) h.2.2.1 a2 a3.2.2.1
  have hae := h.2.1.2.1
  have hae1 := a3.2.1.2.1
  unfold f_X7_readDrought f_X12_telling
  rcases tn_R a3 hf 0 100 (by decide) (by decide) with ⟨K, J', M', k', at2, e', v, b1, b2, b3, b4, b5, b6, b7, b8, b9⟩ | ⟨K, J', v, f, pl, b1, b2, b3, b4, b5⟩
  · have b1' : f_X7_takeNumber fu K1 0 100 = some (1, K) := b1
    have b2' : f_X12_number fu J1 M1 0 100 = some (nI v, J', M') := b2
    have j33 : J' 100 33 = nI b := by rw [b8.2 33 (by omega), a6.2 33 (by omega)]; exact h33
    have ib : ∀ q : Option (HI × HL), inb 2 (nI b) q = q := fun q => by rw [inb_ok (by omega)]
    have td : (nI b).toNatClampNeg = b := nI_clamp (by omega)
    have tk := a5.tk.trans b7
    left
    refine ⟨sI K t 4 (nI v), sI J' 111 b (nI v), M', k', at2, e', v, ?_, ?_, b4.1, b4.2, StR_m (StR_tk b5 (fun x hx => zs_ne (by omega))) (zs_ne (by decide)) (fun x _ => by rw [zs_ne (by decide)]), by omega, a7.trans b9, by rw [zs_eq, zs_same], by rw [zs_eq, zs_same], fun x x1 x2 x3 => by rw [zs_ne x3]; exact tk.1 x x1 x2, fun s hs => by rw [zs_eq, zs_other hs, tk.1 t (by omega) (by omega)], fun x x1 x2 => by rw [zs_ne x2, b8.1 x x1, a6.1 x x1], fun i hi => by rw [zs_eq, zs_other hi, b8.1 111 (by decide), a6.1 111 (by decide)], fun s hs => by rw [zs_ne (by decide), b8.2 s hs, a6.2 s hs]⟩
    · simp only [a1, Option.bind_some, b1', if_neg n3, hR, zg_ok ho, bnd, b3, gz_1]
    · simp only [cn, Option.bind_some, if_neg n3, jnt, if_true, b2', b5.2.2.1, if_pos z8, j33, ib, td, bnd]
  · have b1' : f_X7_takeNumber fu K1 0 100 = some (0, K) := b1
    have b2' : f_X12_number fu J1 M1 0 100 = some (v, J', M1) := b2
    have z3 : ¬ J' 100 8 ≤ 0 := by rw [b4.2.1]; exact nI_nle (by have := b5.1; omega) (by have := b5.1; omega)
    right
    refine ⟨K, J', M1, f, pl, ?_, ?_, a7, BadC.tk a5.tk b3, BaM.of a6 b4, b5⟩
    · simp only [a1, Option.bind_some, b1', if_true, gz_0]
    · simp only [cn, Option.bind_some, if_neg n3, jnt, if_true, b2', if_neg z3]
theorem carts_R (h : StR tp sz I J M k at' e) (hk : k ≠ 0) (hR : R 6 2 = t) (ho : okLd t = true) (ht : t = 67 ∨ t = 80) (hf : 2000 < fu) (h33 : J 100 33 = nI b) (hb : b < 2) : (∃ K J' M' k' at2 e' v, f_X7_readCarts fu I R = some (1, K) ∧ f_X12_telling fu J M 1 = some (J', M') ∧ 1 ≤ v ∧ v ≤ 999 ∧ StR tp sz K J' M' k' at2 e' ∧ e ≤ at2 ∧ OnL M M' ∧ K t 5 = nI v ∧ J' 112 b = nI v ∧ (∀ x, x ≠ 6 → x ≠ 7 → x ≠ t → K x = I x) ∧ (∀ s, s ≠ 5 → K t s = I t s) ∧ (∀ x, x ≠ 100 → x ≠ 112 → J' x = J x) ∧ (∀ i, i ≠ b → J' 112 i = J 112 i) ∧ ∀ s, s ≤ 2 ∨ (7 ≤ s ∧ s ≠ 12) → J' 100 s = J 100 s) ∨ (∃ K J' M' f pl, f_X7_readCarts fu I R = some (0, K) ∧ f_X12_telling fu J M 1 = some (J', M') ∧ OnL M M' ∧ BadC I K f pl ∧ BaM J J' f pl ∧ okF f pl) := by
  have n3 : ¬ (1 : Int32) = 0 := by decide
  have z8 : (0 : Int32) ≤ 0 := by decide
  obtain ⟨K1, J1, M1, k1, at1, e1, a1, a2, a3, a4, a5, a6, a7⟩ := advS h hf hk
  have cn := cntG (fu := fu) h.2.2.1 a2 a3.2.2.1
  have hae := h.2.1.2.1
  have hae1 := a3.2.1.2.1
  unfold f_X7_readCarts f_X12_telling
  rcases tn_R a3 hf 1 999 (by decide) (by decide) with ⟨K, J', M', k', at2, e', v, b1, b2, b3, b4, b5, b6, b7, b8, b9⟩ | ⟨K, J', v, f, pl, b1, b2, b3, b4, b5⟩
  · have b1' : f_X7_takeNumber fu K1 1 999 = some (1, K) := b1
    have b2' : f_X12_number fu J1 M1 1 999 = some (nI v, J', M') := b2
    have j33 : J' 100 33 = nI b := by rw [b8.2 33 (by omega), a6.2 33 (by omega)]; exact h33
    have ib : ∀ q : Option (HI × HL), inb 2 (nI b) q = q := fun q => by rw [inb_ok (by omega)]
    have td : (nI b).toNatClampNeg = b := nI_clamp (by omega)
    have tk := a5.tk.trans b7
    left
    refine ⟨sI K t 5 (nI v), sI J' 112 b (nI v), M', k', at2, e', v, ?_, ?_, b4.1, b4.2, StR_m (StR_tk b5 (fun x hx => zs_ne (by omega))) (zs_ne (by decide)) (fun x _ => by rw [zs_ne (by decide)]), by omega, a7.trans b9, by rw [zs_eq, zs_same], by rw [zs_eq, zs_same], fun x x1 x2 x3 => by rw [zs_ne x3]; exact tk.1 x x1 x2, fun s hs => by rw [zs_eq, zs_other hs, tk.1 t (by omega) (by omega)], fun x x1 x2 => by rw [zs_ne x2, b8.1 x x1, a6.1 x x1], fun i hi => by rw [zs_eq, zs_other hi, b8.1 112 (by decide), a6.1 112 (by decide)], fun s hs => by rw [zs_ne (by decide), b8.2 s hs, a6.2 s hs]⟩
    · simp only [a1, Option.bind_some, b1', if_neg n3, hR, zg_ok ho, bnd, b3, gz_1]
    · simp only [cn, Option.bind_some, if_neg n3, jnt, if_true, b2', b5.2.2.1, if_pos z8, j33, ib, td, bnd]
  · have b1' : f_X7_takeNumber fu K1 1 999 = some (0, K) := b1
    have b2' : f_X12_number fu J1 M1 1 999 = some (v, J', M1) := b2
    have z3 : ¬ J' 100 8 ≤ 0 := by rw [b4.2.1]; exact nI_nle (by have := b5.1; omega) (by have := b5.1; omega)
    right
    refine ⟨K, J', M1, f, pl, ?_, ?_, a7, BadC.tk a5.tk b3, BaM.of a6 b4, b5⟩
    · simp only [a1, Option.bind_some, b1', if_true, gz_0]
    · simp only [cn, Option.bind_some, if_neg n3, jnt, if_true, b2', if_neg z3]
end
