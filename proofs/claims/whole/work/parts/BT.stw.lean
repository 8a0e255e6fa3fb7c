/-! a statement, by its word -/
theorem oW0 : lN (ownL 0) = (114827769704311 : Int64) := by
  rw [show ownL 0 = 114827769704311 from by decide +kernel]
  rfl
theorem oW3 : lN (ownL 3) = (478745093490 : Int64) := by
  rw [show ownL 3 = 478745093490 from by decide +kernel]
  rfl
theorem oW4 : lN (ownL 4) = (1818323813 : Int64) := by
  rw [show ownL 4 = 1818323813 from by decide +kernel]
  rfl
theorem oW8 : lN (ownL 8) = (1870095731 : Int64) := by
  rw [show ownL 8 = 1870095731 from by decide +kernel]
  rfl
theorem oW9 : lN (ownL 9) = (465557351283 : Int64) := by
  rw [show ownL 9 = 465557351283 from by decide +kernel]
  rfl
theorem oW10 : lN (ownL 10) = (512970880104 : Int64) := by
  rw [show ownL 10 = 512970880104 from by decide +kernel]
  rfl
theorem oW11 : lN (ownL 11) = (7168377 : Int64) := by
  rw [show ownL 11 = 7168377 from by decide +kernel]
  rfl
theorem oW12 : lN (ownL 12) = (426836653171 : Int64) := by
  rw [show ownL 12 = 426836653171 from by decide +kernel]
  rfl
theorem oW24 : lN (ownL 24) = (28273320707713140 : Int64) := by
  rw [show ownL 24 = 28273320707713140 from by decide +kernel]
  rfl
section
variable {fu t n : Nat} {I J : HI} {M : HL} {R : HR}
theorem n80_ne (hn : n < 80) : ¬ nI n = (80 : Int32) := fun w => by
  have := (nI_eq (a := n) (b := 80) (by omega) (by decide)).mp w
  omega
theorem tail_z {K : HI} : tailC fu 0 K R = some (0, K, R) := by
  unfold tailC
  rw [if_pos rfl, gz_0]
theorem stC0 {K : HI} {y : Int32} (hR : R 6 2 = t) (ho : okLd t = true) (h0 : I t 0 = nI n) (hn : n < 80) (h3 : I 7 3 = nI 2) (h6 : I 7 6 = nI 0) (hm : f_X7_isOneTooMany I R (nI 0) = some 0) (hr : f_X7_readHollow fu I R = some (y, K)) : f_X7_readStatement fu I R = tailC fu y K R := by
  have n3 : ¬ (1 : Int32) = 0 := by decide
  have z2 : (nI 2 : Int32) = 2 := rfl
  unfold f_X7_readStatement f_X10_needKind tailC
  simp only [hR, zg_ok ho, h0, if_neg (n80_ne hn), h3, if_pos z2, jnt, gz_1, Option.bind_some, if_neg n3, h6, hm, if_true, if_pos (show (nI 0 : Int32) = 0 from rfl), hr, bnd]
theorem stC3 {K : HI} {y : Int32} (hR : R 6 2 = t) (ho : okLd t = true) (h0 : I t 0 = nI n) (hn : n < 80) (h3 : I 7 3 = nI 2) (h6 : I 7 6 = nI 3) (hm : f_X7_isOneTooMany I R (nI 3) = some 0) (hr : f_X7_readOwner fu I R = some (y, K)) : f_X7_readStatement fu I R = tailC fu y K R := by
  have n3 : ¬ (1 : Int32) = 0 := by decide
  have z2 : (nI 2 : Int32) = 2 := rfl
  unfold f_X7_readStatement f_X10_needKind tailC
  simp only [hR, zg_ok ho, h0, if_neg (n80_ne hn), h3, if_pos z2, jnt, gz_1, Option.bind_some, if_neg n3, h6, hm, if_true, if_neg (show ¬ (nI 3 : Int32) = 0 by decide), if_pos (show (nI 3 : Int32) = 3 from rfl), hr, bnd]
theorem stC4 {K : HI} {y : Int32} (hR : R 6 2 = t) (ho : okLd t = true) (h0 : I t 0 = nI n) (hn : n < 80) (h3 : I 7 3 = nI 2) (h6 : I 7 6 = nI 4) (hm : f_X7_isOneTooMany I R (nI 4) = some 0) (hr : f_X7_readLake fu I R = some (y, K)) : f_X7_readStatement fu I R = tailC fu y K R := by
  have n3 : ¬ (1 : Int32) = 0 := by decide
  have z2 : (nI 2 : Int32) = 2 := rfl
  unfold f_X7_readStatement f_X10_needKind tailC
  simp only [hR, zg_ok ho, h0, if_neg (n80_ne hn), h3, if_pos z2, jnt, gz_1, Option.bind_some, if_neg n3, h6, hm, if_true, if_neg (show ¬ (nI 4 : Int32) = 0 by decide), if_neg (show ¬ (nI 4 : Int32) = 3 by decide), if_pos (show (nI 4 : Int32) = 4 from rfl), hr, bnd]
theorem stC8 {K : HI} {y : Int32} (hR : R 6 2 = t) (ho : okLd t = true) (h0 : I t 0 = nI n) (hn : n < 80) (h3 : I 7 3 = nI 2) (h6 : I 7 6 = nI 8) (hm : f_X7_isOneTooMany I R (nI 8) = some 0) (hr : f_X7_readDebt fu I R = some (y, K)) : f_X7_readStatement fu I R = tailC fu y K R := by
  have n3 : ¬ (1 : Int32) = 0 := by decide
  have z2 : (nI 2 : Int32) = 2 := rfl
  unfold f_X7_readStatement f_X10_needKind tailC
  simp only [hR, zg_ok ho, h0, if_neg (n80_ne hn), h3, if_pos z2, jnt, gz_1, Option.bind_some, if_neg n3, h6, hm, if_true, if_neg (show ¬ (nI 8 : Int32) = 0 by decide), if_neg (show ¬ (nI 8 : Int32) = 3 by decide), if_neg (show ¬ (nI 8 : Int32) = 4 by decide), if_pos (show (nI 8 : Int32) = 8 from rfl), hr, bnd]
theorem stC9 {K : HI} {y : Int32} {R' : HR} (hR : R 6 2 = t) (ho : okLd t = true) (h0 : I t 0 = nI n) (hn : n < 80) (h3 : I 7 3 = nI 2) (h6 : I 7 6 = nI 9) (hm : f_X7_isOneTooMany I R (nI 9) = some 0) (hr : f_X8_readRule fu I R 0 t = some (y, K, R')) : f_X7_readStatement fu I R = tailC fu y K R' := by
  have n3 : ¬ (1 : Int32) = 0 := by decide
  have z2 : (nI 2 : Int32) = 2 := rfl
  unfold f_X7_readStatement f_X10_needKind tailC
  simp only [hR, zg_ok ho, h0, if_neg (n80_ne hn), h3, if_pos z2, jnt, gz_1, Option.bind_some, if_neg n3, h6, hm, if_true, if_neg (show ¬ (nI 9 : Int32) = 0 by decide), if_neg (show ¬ (nI 9 : Int32) = 3 by decide), if_neg (show ¬ (nI 9 : Int32) = 4 by decide), if_neg (show ¬ (nI 9 : Int32) = 8 by decide), if_pos (show (nI 9 : Int32) = 9 from rfl), hr, bnd]
theorem stC10 {K : HI} {y : Int32} {R' : HR} (hR : R 6 2 = t) (ho : okLd t = true) (h0 : I t 0 = nI n) (hn : n < 80) (h3 : I 7 3 = nI 2) (h6 : I 7 6 = nI 10) (hm : f_X7_isOneTooMany I R (nI 10) = some 0) (hr : f_X8_readRule fu I R 1 t = some (y, K, R')) : f_X7_readStatement fu I R = tailC fu y K R' := by
  have n3 : ¬ (1 : Int32) = 0 := by decide
  have z2 : (nI 2 : Int32) = 2 := rfl
  unfold f_X7_readStatement f_X10_needKind tailC
  simp only [hR, zg_ok ho, h0, if_neg (n80_ne hn), h3, if_pos z2, jnt, gz_1, Option.bind_some, if_neg n3, h6, hm, if_true, if_neg (show ¬ (nI 10 : Int32) = 0 by decide), if_neg (show ¬ (nI 10 : Int32) = 3 by decide), if_neg (show ¬ (nI 10 : Int32) = 4 by decide), if_neg (show ¬ (nI 10 : Int32) = 8 by decide), if_neg (show ¬ (nI 10 : Int32) = 9 by decide), if_pos (show (nI 10 : Int32) = 10 from rfl), hr, bnd]
theorem stC11 {K : HI} {y : Int32} {R' : HR} (hR : R 6 2 = t) (ho : okLd t = true) (h0 : I t 0 = nI n) (hn : n < 80) (h3 : I 7 3 = nI 2) (h6 : I 7 6 = nI 11) (hm : f_X7_isOneTooMany I R (nI 11) = some 0) (hr : f_X8_readRule fu I R 2 t = some (y, K, R')) : f_X7_readStatement fu I R = tailC fu y K R' := by
  have n3 : ¬ (1 : Int32) = 0 := by decide
  have z2 : (nI 2 : Int32) = 2 := rfl
  unfold f_X7_readStatement f_X10_needKind tailC
  simp only [hR, zg_ok ho, h0, if_neg (n80_ne hn), h3, if_pos z2, jnt, gz_1, Option.bind_some, if_neg n3, h6, hm, if_true, if_neg (show ¬ (nI 11 : Int32) = 0 by decide), if_neg (show ¬ (nI 11 : Int32) = 3 by decide), if_neg (show ¬ (nI 11 : Int32) = 4 by decide), if_neg (show ¬ (nI 11 : Int32) = 8 by decide), if_neg (show ¬ (nI 11 : Int32) = 9 by decide), if_neg (show ¬ (nI 11 : Int32) = 10 by decide), if_pos (show (nI 11 : Int32) = 11 from rfl), hr, bnd]
theorem stC12 {K : HI} {y : Int32} (hR : R 6 2 = t) (ho : okLd t = true) (h0 : I t 0 = nI n) (hn : n < 80) (h3 : I 7 3 = nI 2) (h6 : I 7 6 = nI 12) (hm : f_X7_isOneTooMany I R (nI 12) = some 0) (hr : f_X7_readCarts fu I R = some (y, K)) : f_X7_readStatement fu I R = tailC fu y K R := by
  have n3 : ¬ (1 : Int32) = 0 := by decide
  have z2 : (nI 2 : Int32) = 2 := rfl
  unfold f_X7_readStatement f_X10_needKind tailC
  simp only [hR, zg_ok ho, h0, if_neg (n80_ne hn), h3, if_pos z2, jnt, gz_1, Option.bind_some, if_neg n3, h6, hm, if_true, if_neg (show ¬ (nI 12 : Int32) = 0 by decide), if_neg (show ¬ (nI 12 : Int32) = 3 by decide), if_neg (show ¬ (nI 12 : Int32) = 4 by decide), if_neg (show ¬ (nI 12 : Int32) = 8 by decide), if_neg (show ¬ (nI 12 : Int32) = 9 by decide), if_neg (show ¬ (nI 12 : Int32) = 10 by decide), if_neg (show ¬ (nI 12 : Int32) = 11 by decide), if_pos (show (nI 12 : Int32) = 12 from rfl), hr, bnd]
theorem stC24 {K : HI} {y : Int32} (hR : R 6 2 = t) (ho : okLd t = true) (h0 : I t 0 = nI n) (hn : n < 80) (h3 : I 7 3 = nI 2) (h6 : I 7 6 = nI 24) (hm : f_X7_isOneTooMany I R (nI 24) = some 0) (hr : f_X7_readDrought fu I R = some (y, K)) : f_X7_readStatement fu I R = tailC fu y K R := by
  have n3 : ¬ (1 : Int32) = 0 := by decide
  have z2 : (nI 2 : Int32) = 2 := rfl
  unfold f_X7_readStatement f_X10_needKind tailC
  simp only [hR, zg_ok ho, h0, if_neg (n80_ne hn), h3, if_pos z2, jnt, gz_1, Option.bind_some, if_neg n3, h6, hm, if_true, if_neg (show ¬ (nI 24 : Int32) = 0 by decide), if_neg (show ¬ (nI 24 : Int32) = 3 by decide), if_neg (show ¬ (nI 24 : Int32) = 4 by decide), if_neg (show ¬ (nI 24 : Int32) = 8 by decide), if_neg (show ¬ (nI 24 : Int32) = 9 by decide), if_neg (show ¬ (nI 24 : Int32) = 10 by decide), if_neg (show ¬ (nI 24 : Int32) = 11 by decide), if_neg (show ¬ (nI 24 : Int32) = 12 by decide), if_pos (show (nI 24 : Int32) = 24 from rfl), hr, bnd]
theorem stC_o {K : HI} {w : Nat} (hR : R 6 2 = t) (ho : okLd t = true) (h0 : I t 0 = nI n) (hn : n < 80) (h3 : I 7 3 = nI 2) (h6 : I 7 6 = nI w) (hw : w < 25) (hx : w ≠ 0 ∧ w ≠ 3 ∧ w ≠ 4 ∧ w ≠ 8 ∧ w ≠ 9 ∧ w ≠ 10 ∧ w ≠ 11 ∧ w ≠ 12 ∧ w ≠ 24) (hr : f_X10_failForm I = some (0, K)) : f_X7_readStatement fu I R = tailC fu 0 K R := by
  have n3 : ¬ (1 : Int32) = 0 := by decide
  have z2 : (nI 2 : Int32) = 2 := rfl
  have d : ∀ c, c < 25 → w ≠ c → ¬ nI w = nI c := fun c hc q v => q ((nI_eq (a := w) (b := c) (by omega) (by omega)).mp v)
  obtain ⟨x0, x3, x4, x8, x9, x10, x11, x12, x24⟩ := hx
  have d0 : ¬ nI w = (0 : Int32) := d 0 (by decide) x0
  have d3 : ¬ nI w = (3 : Int32) := d 3 (by decide) x3
  have d4 : ¬ nI w = (4 : Int32) := d 4 (by decide) x4
  have d8 : ¬ nI w = (8 : Int32) := d 8 (by decide) x8
  have d9 : ¬ nI w = (9 : Int32) := d 9 (by decide) x9
  have d10 : ¬ nI w = (10 : Int32) := d 10 (by decide) x10
  have d11 : ¬ nI w = (11 : Int32) := d 11 (by decide) x11
  have d12 : ¬ nI w = (12 : Int32) := d 12 (by decide) x12
  have d24 : ¬ nI w = (24 : Int32) := d 24 (by decide) x24
  unfold f_X7_readStatement f_X10_needKind tailC f_X7_isOneTooMany
  simp only [hR, zg_ok ho, h0, if_neg (n80_ne hn), h3, if_pos z2, jnt, gz_1, Option.bind_some, if_neg n3, h6, if_true, gz_0, if_neg d0, if_neg d3, if_neg d4, if_neg d8, if_neg d9, if_neg d10, if_neg d11, if_neg d12, if_neg d24, hr, bnd]
theorem stC_k {K : HI} (hR : R 6 2 = t) (ho : okLd t = true) (h0 : I t 0 = nI n) (hn : n < 80) (h3 : ¬ I 7 3 = 2) (hr : f_X10_failForm I = some (0, K)) : f_X7_readStatement fu I R = tailC fu 0 K R := by
  rw [tail_z]
  unfold f_X7_readStatement f_X10_needKind
  simp only [hR, zg_ok ho, h0, if_neg (n80_ne hn), if_neg h3, jnt, Option.bind_some, if_true, gz_0, hr]
theorem stC_m {K : HI} {w : Nat} (hR : R 6 2 = t) (ho : okLd t = true) (h0 : I t 0 = nI n) (hn : n < 80) (h3 : I 7 3 = nI 2) (h6 : I 7 6 = nI w) (hm : f_X7_isOneTooMany I R (nI w) = some 1) (hr : f_X10_fail I 6 = some (0, K)) : f_X7_readStatement fu I R = tailC fu 0 K R := by
  have n3 : ¬ (1 : Int32) = 0 := by decide
  have z2 : (nI 2 : Int32) = 2 := rfl
  rw [tail_z]
  unfold f_X7_readStatement f_X10_needKind
  simp only [hR, zg_ok ho, h0, if_neg (n80_ne hn), h3, if_pos z2, jnt, gz_1, Option.bind_some, if_neg n3, h6, hm, hr, gz_0]
def isW (J : HI) (M : HL) (w : Nat) : Prop := ∀ d, d < 25 → f_X12_isWord J M (lN (ownL d)) = some (if w = d then 1 else 0)
theorem stM0 {J1 : HI} {M1 : HL} (l2 : f_X12_lex J = some J) (h8 : J 100 8 = 0) (iw : isW J M 0) (hr : f_X12_hollowing fu J M = some (J1, M1)) : f_X12_statement fu J M = some (J1, M1) := by
  have n3 : ¬ (1 : Int32) = 0 := by decide
  have z8 : (0 : Int32) ≤ 0 := by decide
  have i0 : f_X12_isWord J M 114827769704311 = some 1 := by rw [← oW0, iw 0 (by decide), if_pos rfl]
  unfold f_X12_statement
  simp only [l2, Option.bind_some, h8, if_pos z8, i0, if_true, if_neg n3, hr]
theorem stM3 {J1 : HI} {M1 : HL} (l2 : f_X12_lex J = some J) (h8 : J 100 8 = 0) (iw : isW J M 3) (hr : f_X12_owning fu J M = some (J1, M1)) : f_X12_statement fu J M = some (J1, M1) := by
  have n3 : ¬ (1 : Int32) = 0 := by decide
  have z8 : (0 : Int32) ≤ 0 := by decide
  have i0 : f_X12_isWord J M 114827769704311 = some 0 := by rw [← oW0, iw 0 (by decide), if_neg (by decide)]
  have i3 : f_X12_isWord J M 478745093490 = some 1 := by rw [← oW3, iw 3 (by decide), if_pos rfl]
  unfold f_X12_statement
  simp only [l2, Option.bind_some, h8, if_pos z8, i0, i3, if_true, if_neg n3, hr]
theorem stM4 {J1 : HI} {M1 : HL} (l2 : f_X12_lex J = some J) (h8 : J 100 8 = 0) (iw : isW J M 4) (hr : f_X12_laking fu J M = some (J1, M1)) : f_X12_statement fu J M = some (J1, M1) := by
  have n3 : ¬ (1 : Int32) = 0 := by decide
  have z8 : (0 : Int32) ≤ 0 := by decide
  have i0 : f_X12_isWord J M 114827769704311 = some 0 := by rw [← oW0, iw 0 (by decide), if_neg (by decide)]
  have i3 : f_X12_isWord J M 478745093490 = some 0 := by rw [← oW3, iw 3 (by decide), if_neg (by decide)]
  have i4 : f_X12_isWord J M 1818323813 = some 1 := by rw [← oW4, iw 4 (by decide), if_pos rfl]
  unfold f_X12_statement
  simp only [l2, Option.bind_some, h8, if_pos z8, i0, i3, i4, if_true, if_neg n3, hr]
theorem stM8 {J1 : HI} {M1 : HL} (l2 : f_X12_lex J = some J) (h8 : J 100 8 = 0) (iw : isW J M 8) (hr : f_X12_owing fu J M = some (J1, M1)) : f_X12_statement fu J M = some (J1, M1) := by
  have n3 : ¬ (1 : Int32) = 0 := by decide
  have z8 : (0 : Int32) ≤ 0 := by decide
  have i0 : f_X12_isWord J M 114827769704311 = some 0 := by rw [← oW0, iw 0 (by decide), if_neg (by decide)]
  have i3 : f_X12_isWord J M 478745093490 = some 0 := by rw [← oW3, iw 3 (by decide), if_neg (by decide)]
  have i4 : f_X12_isWord J M 1818323813 = some 0 := by rw [← oW4, iw 4 (by decide), if_neg (by decide)]
  have i8 : f_X12_isWord J M 1870095731 = some 1 := by rw [← oW8, iw 8 (by decide), if_pos rfl]
  unfold f_X12_statement
  simp only [l2, Option.bind_some, h8, if_pos z8, i0, i3, i4, i8, if_true, if_neg n3, hr]
theorem stM9 {J1 : HI} {M1 : HL} (l2 : f_X12_lex J = some J) (h8 : J 100 8 = 0) (iw : isW J M 9) (hr : f_X12_reading fu J M 0 = some (J1, M1)) : f_X12_statement fu J M = some (J1, M1) := by
  have n3 : ¬ (1 : Int32) = 0 := by decide
  have z8 : (0 : Int32) ≤ 0 := by decide
  have i0 : f_X12_isWord J M 114827769704311 = some 0 := by rw [← oW0, iw 0 (by decide), if_neg (by decide)]
  have i3 : f_X12_isWord J M 478745093490 = some 0 := by rw [← oW3, iw 3 (by decide), if_neg (by decide)]
  have i4 : f_X12_isWord J M 1818323813 = some 0 := by rw [← oW4, iw 4 (by decide), if_neg (by decide)]
  have i8 : f_X12_isWord J M 1870095731 = some 0 := by rw [← oW8, iw 8 (by decide), if_neg (by decide)]
  have i9 : f_X12_isWord J M 465557351283 = some 1 := by rw [← oW9, iw 9 (by decide), if_pos rfl]
  unfold f_X12_statement
  simp only [l2, Option.bind_some, h8, if_pos z8, i0, i3, i4, i8, i9, if_true, if_neg n3, hr]
theorem stM10 {J1 : HI} {M1 : HL} (l2 : f_X12_lex J = some J) (h8 : J 100 8 = 0) (iw : isW J M 10) (hr : f_X12_reading fu J M 1 = some (J1, M1)) : f_X12_statement fu J M = some (J1, M1) := by
  have n3 : ¬ (1 : Int32) = 0 := by decide
  have z8 : (0 : Int32) ≤ 0 := by decide
  have i0 : f_X12_isWord J M 114827769704311 = some 0 := by rw [← oW0, iw 0 (by decide), if_neg (by decide)]
  have i3 : f_X12_isWord J M 478745093490 = some 0 := by rw [← oW3, iw 3 (by decide), if_neg (by decide)]
  have i4 : f_X12_isWord J M 1818323813 = some 0 := by rw [← oW4, iw 4 (by decide), if_neg (by decide)]
  have i8 : f_X12_isWord J M 1870095731 = some 0 := by rw [← oW8, iw 8 (by decide), if_neg (by decide)]
  have i9 : f_X12_isWord J M 465557351283 = some 0 := by rw [← oW9, iw 9 (by decide), if_neg (by decide)]
  have i10 : f_X12_isWord J M 512970880104 = some 1 := by rw [← oW10, iw 10 (by decide), if_pos rfl]
  unfold f_X12_statement
  simp only [l2, Option.bind_some, h8, if_pos z8, i0, i3, i4, i8, i9, i10, if_true, if_neg n3, hr]
theorem stM11 {J1 : HI} {M1 : HL} (l2 : f_X12_lex J = some J) (h8 : J 100 8 = 0) (iw : isW J M 11) (hr : f_X12_reading fu J M 2 = some (J1, M1)) : f_X12_statement fu J M = some (J1, M1) := by
  have n3 : ¬ (1 : Int32) = 0 := by decide
  have z8 : (0 : Int32) ≤ 0 := by decide
  have i0 : f_X12_isWord J M 114827769704311 = some 0 := by rw [← oW0, iw 0 (by decide), if_neg (by decide)]
  have i3 : f_X12_isWord J M 478745093490 = some 0 := by rw [← oW3, iw 3 (by decide), if_neg (by decide)]
  have i4 : f_X12_isWord J M 1818323813 = some 0 := by rw [← oW4, iw 4 (by decide), if_neg (by decide)]
  have i8 : f_X12_isWord J M 1870095731 = some 0 := by rw [← oW8, iw 8 (by decide), if_neg (by decide)]
  have i9 : f_X12_isWord J M 465557351283 = some 0 := by rw [← oW9, iw 9 (by decide), if_neg (by decide)]
  have i10 : f_X12_isWord J M 512970880104 = some 0 := by rw [← oW10, iw 10 (by decide), if_neg (by decide)]
  have i11 : f_X12_isWord J M 7168377 = some 1 := by rw [← oW11, iw 11 (by decide), if_pos rfl]
  unfold f_X12_statement
  simp only [l2, Option.bind_some, h8, if_pos z8, i0, i3, i4, i8, i9, i10, i11, if_true, if_neg n3, hr]
theorem stM24 {J1 : HI} {M1 : HL} (l2 : f_X12_lex J = some J) (h8 : J 100 8 = 0) (iw : isW J M 24) (hr : f_X12_telling fu J M 0 = some (J1, M1)) : f_X12_statement fu J M = some (J1, M1) := by
  have n3 : ¬ (1 : Int32) = 0 := by decide
  have z8 : (0 : Int32) ≤ 0 := by decide
  have i0 : f_X12_isWord J M 114827769704311 = some 0 := by rw [← oW0, iw 0 (by decide), if_neg (by decide)]
  have i3 : f_X12_isWord J M 478745093490 = some 0 := by rw [← oW3, iw 3 (by decide), if_neg (by decide)]
  have i4 : f_X12_isWord J M 1818323813 = some 0 := by rw [← oW4, iw 4 (by decide), if_neg (by decide)]
  have i8 : f_X12_isWord J M 1870095731 = some 0 := by rw [← oW8, iw 8 (by decide), if_neg (by decide)]
  have i9 : f_X12_isWord J M 465557351283 = some 0 := by rw [← oW9, iw 9 (by decide), if_neg (by decide)]
  have i10 : f_X12_isWord J M 512970880104 = some 0 := by rw [← oW10, iw 10 (by decide), if_neg (by decide)]
  have i11 : f_X12_isWord J M 7168377 = some 0 := by rw [← oW11, iw 11 (by decide), if_neg (by decide)]
  have i24 : f_X12_isWord J M 28273320707713140 = some 1 := by rw [← oW24, iw 24 (by decide), if_pos rfl]
  unfold f_X12_statement
  simp only [l2, Option.bind_some, h8, if_pos z8, i0, i3, i4, i8, i9, i10, i11, i24, if_true, if_neg n3, hr]
theorem stM12 {J1 : HI} {M1 : HL} (l2 : f_X12_lex J = some J) (h8 : J 100 8 = 0) (iw : isW J M 12) (hr : f_X12_telling fu J M 1 = some (J1, M1)) : f_X12_statement fu J M = some (J1, M1) := by
  have n3 : ¬ (1 : Int32) = 0 := by decide
  have z8 : (0 : Int32) ≤ 0 := by decide
  have i0 : f_X12_isWord J M 114827769704311 = some 0 := by rw [← oW0, iw 0 (by decide), if_neg (by decide)]
  have i3 : f_X12_isWord J M 478745093490 = some 0 := by rw [← oW3, iw 3 (by decide), if_neg (by decide)]
  have i4 : f_X12_isWord J M 1818323813 = some 0 := by rw [← oW4, iw 4 (by decide), if_neg (by decide)]
  have i8 : f_X12_isWord J M 1870095731 = some 0 := by rw [← oW8, iw 8 (by decide), if_neg (by decide)]
  have i9 : f_X12_isWord J M 465557351283 = some 0 := by rw [← oW9, iw 9 (by decide), if_neg (by decide)]
  have i10 : f_X12_isWord J M 512970880104 = some 0 := by rw [← oW10, iw 10 (by decide), if_neg (by decide)]
  have i11 : f_X12_isWord J M 7168377 = some 0 := by rw [← oW11, iw 11 (by decide), if_neg (by decide)]
  have i24 : f_X12_isWord J M 28273320707713140 = some 0 := by rw [← oW24, iw 24 (by decide), if_neg (by decide)]
  have i12 : f_X12_isWord J M 426836653171 = some 1 := by rw [← oW12, iw 12 (by decide), if_pos rfl]
  unfold f_X12_statement
  simp only [l2, Option.bind_some, h8, if_pos z8, i0, i3, i4, i8, i9, i10, i11, i24, i12, if_true, if_neg n3, hr]
theorem stM_o {J1 : HI} {w : Nat} (l2 : f_X12_lex J = some J) (h8 : J 100 8 = 0) (iw : isW J M w) (hx : w ≠ 0 ∧ w ≠ 3 ∧ w ≠ 4 ∧ w ≠ 8 ∧ w ≠ 9 ∧ w ≠ 10 ∧ w ≠ 11 ∧ w ≠ 12 ∧ w ≠ 24) (hr : f_X12_blame J 1 (J 100 4) = some J1) : f_X12_statement fu J M = some (J1, M) := by
  have z8 : (0 : Int32) ≤ 0 := by decide
  obtain ⟨x0, x3, x4, x8, x9, x10, x11, x12, x24⟩ := hx
  have i0 : f_X12_isWord J M 114827769704311 = some 0 := by rw [← oW0, iw 0 (by decide), if_neg x0]
  have i3 : f_X12_isWord J M 478745093490 = some 0 := by rw [← oW3, iw 3 (by decide), if_neg x3]
  have i4 : f_X12_isWord J M 1818323813 = some 0 := by rw [← oW4, iw 4 (by decide), if_neg x4]
  have i8 : f_X12_isWord J M 1870095731 = some 0 := by rw [← oW8, iw 8 (by decide), if_neg x8]
  have i9 : f_X12_isWord J M 465557351283 = some 0 := by rw [← oW9, iw 9 (by decide), if_neg x9]
  have i10 : f_X12_isWord J M 512970880104 = some 0 := by rw [← oW10, iw 10 (by decide), if_neg x10]
  have i11 : f_X12_isWord J M 7168377 = some 0 := by rw [← oW11, iw 11 (by decide), if_neg x11]
  have i24 : f_X12_isWord J M 28273320707713140 = some 0 := by rw [← oW24, iw 24 (by decide), if_neg x24]
  have i12 : f_X12_isWord J M 426836653171 = some 0 := by rw [← oW12, iw 12 (by decide), if_neg x12]
  unfold f_X12_statement
  simp only [l2, Option.bind_some, h8, if_pos z8, i0, i3, i4, i8, i9, i10, i11, i24, i12, if_true, hr]
theorem stM_k {J1 : HI} (l2 : f_X12_lex J = some J1) (h8 : ¬ J1 100 8 ≤ 0) : f_X12_statement fu J M = some (J1, M) := by
  unfold f_X12_statement
  simp only [l2, Option.bind_some, if_neg h8]
end
