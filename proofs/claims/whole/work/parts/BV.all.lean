/-! all statements -/
def RFr (R R' : HR) : Prop := ∀ x, x ≠ 8 → R' x = R x
section
variable {tp : Nat → Nat} {sz fu t b : Nat}
theorem st80 {n pl : Nat} {I : HI} {R : HR} (hR : R 6 2 = t) (ho : okLd t = true) (h0 : I t 0 = nI 80) (h4 : I 7 4 = nI pl) : ∃ K, f_X7_readStatement fu I R = some (0, K, R) ∧ BadC I K 6 pl := by
  obtain ⟨K, m1, m2⟩ := failC (f := 6) h4
  have m1' : f_X10_fail I 6 = some (0, K) := m1
  refine ⟨K, ?_, m2⟩
  unfold f_X7_readStatement
  simp only [hR, zg_ok ho, h0, if_pos (show (nI 80 : Int32) = 80 from rfl), m1', Option.bind_some, gz_0]
/-- how reading all ends -/
def OutA (tp : Nat → Nat) (sz fu t b : Nat) (I J : HI) (M : HL) (R : HR) (n m m' : Nat) : Prop := (∃ K R' N J' M' k at' e nh no nl cj, N ≤ 80 ∧ f_X7_readAll_L22 fu m I R (nI n) = some (.inr (K, R')) ∧ f_X12_lowland_L128 fu m' J M (nI n) = some (nI N, J', M') ∧ RFr R R' ∧ (FrC t I K ∧ FrM b J J' ∧ FrL b M M') ∧ (K t 0 = nI N ∧ J' 100 9 = J 100 9) ∧ StR tp sz K J' M' k at' e ∧ TOLD K J' M' t b nh no nl cj) ∨ (∃ K R' N J' M' f pl, f_X7_readAll_L22 fu m I R (nI n) = some (.inl (0, K, R')) ∧ f_X12_lowland_L128 fu m' J M (nI n) = some (N, J', M') ∧ RFr R R' ∧ (FrC t I K ∧ FrM b J J' ∧ FrL b M M') ∧ K 7 7 = nI f ∧ K 7 8 = nI pl ∧ J' 100 8 = nI f ∧ J' 100 9 = nI pl ∧ okF f pl)
theorem l128_x {f m n : Nat} {J : HI} {M : HL} (hf : 1 ≤ f ∧ f ≤ 6) (h8 : J 100 8 = nI f) : f_X12_lowland_L128 fu (m + 1) J M (nI n) = some (nI n, J, M) := by
  have z : ¬ nI f = 0 := nI_ne0 (by omega) (by omega)
  simp only [f_X12_lowland_L128, h8, if_neg z]
theorem all_R (ho : okLd t = true) (ht : t = 67 ∨ t = 80) (hf : 2000 < fu) : ∀ q n, n + q = 80 → ∀ (I J : HI) (M : HL) (R : HR) (k at' e nh no nl cj m m' : Nat), StR tp sz I J M k at' e → TOLD I J M t b nh no nl cj → cj ≤ at' → I t 0 = nI n → (n = 80 → k = 0) → R 6 2 = t → q + 2 < m → q + 2 < m' → OutA tp sz fu t b I J M R n m m' := by
  intro q
  induction q with
  | zero =>
    intro n hq I J M R k at' e nh no nl cj m m' s T hc h0 hk hR hm hm'
    obtain ⟨m, rfl⟩ : ∃ z, m = z + 1 := ⟨m - 1, by omega⟩
    obtain ⟨m', rfl⟩ : ∃ z, m' = z + 1 := ⟨m' - 1, by omega⟩
    have hn : n = 80 := by omega
    have hk0 := hk hn
    subst hk0
    have h3 : I 7 3 = 0 := s.2.1.1.2.2.2
    have j3 : J 100 3 = 0 := by
      rcases s.2.1.2.2.1 with v | v | v | v | v | v
      · exact v.2.1
      · exact absurd v.1 (by decide)
      · exact absurd v.1 (by decide)
      · exact absurd v.1 (by decide)
      · exact absurd v.1 (by decide)
      · exact absurd v.1 (by decide)
    have z : ¬ (80 : Int32) < nI n := by rw [hn]; decide
    refine Or.inl ⟨I, R, n, J, M, 0, at', e, nh, no, nl, cj, by omega, ?_, ?_, fun _ _ => rfl, ⟨FrC.refl, FrM.refl, FrL.refl⟩, ⟨h0, rfl⟩, s, T⟩
    · simp only [f_X7_readAll_L22, if_neg z, h3, if_true]
    · simp only [f_X12_lowland_L128, s.2.2.1, if_true, j3]
  | succ q ih =>
    intro n hq I J M R k at' e nh no nl cj m m' s T hc h0 hk hR hm hm'
    obtain ⟨m, rfl⟩ : ∃ z, m = z + 1 := ⟨m - 1, by omega⟩
    obtain ⟨m', rfl⟩ : ∃ z, m' = z + 1 := ⟨m' - 1, by omega⟩
    have z : ¬ (80 : Int32) < nI n := fun w => by
      have := (nI_ltI (a := 80) (b := n) (by decide) (by omega)).mp w
      omega
    have k5 := s.k5
    by_cases hk0 : k = 0
    · subst hk0
      have h3 : I 7 3 = 0 := s.2.1.1.2.2.2
      have j3 : J 100 3 = 0 := by
        rcases s.2.1.2.2.1 with v | v | v | v | v | v
        · exact v.2.1
        · exact absurd v.1 (by decide)
        · exact absurd v.1 (by decide)
        · exact absurd v.1 (by decide)
        · exact absurd v.1 (by decide)
        · exact absurd v.1 (by decide)
      refine Or.inl ⟨I, R, n, J, M, 0, at', e, nh, no, nl, cj, by omega, ?_, ?_, fun _ _ => rfl, ⟨FrC.refl, FrM.refl, FrL.refl⟩, ⟨h0, rfl⟩, s, T⟩
      · simp only [f_X7_readAll_L22, if_neg z, h3, if_true]
      · simp only [f_X12_lowland_L128, s.2.2.1, if_true, j3]
    · have h3 : ¬ I 7 3 = 0 := by
        rw [s.2.1.1.2.2.2]
        exact nI_ne0 (by omega) (by omega)
      have j3 : ¬ J 100 3 = 0 := by
        rcases s.2.1.2.2.1 with v | v | v | v | v | v
        · exact absurd v.1 hk0
        · rw [v.2.1]; decide
        · rw [v.2.1]; decide
        · rw [v.2.1]; decide
        · rw [v.2.1]; decide
        · rcases v.2.1 with u | u
          · rw [u]; decide
          · rw [u]; decide
      obtain ⟨y, K, R', J1, M1, J', M', a1, a2, a3, a4, ⟨f1, f2, f3⟩, a5⟩ := stm_R s hk0 T hc h0 (by omega) hR ho ht hf
      have n3 : ¬ (1 : Int32) = 0 := by decide
      have A1 : nI n + 1 = nI (n + 1) := nI_1 n
      have rf : RFr R R' := by
        rcases a2 with v | v
        · rw [v]; exact fun _ _ => rfl
        · rw [v]; exact fun x hx => zR_ne hx
      have hR' : R' 6 2 = t := by rw [rf 6 (by decide)]; exact hR
      have eM : f_X12_lowland_L128 fu (m' + 1) J M (nI n) = f_X12_lowland_L128 fu m' J' M' (nI (n + 1)) := by
        simp only [f_X12_lowland_L128, s.2.2.1, if_true, if_neg j3, a3, Option.bind_some, A1, a4]
      rcases a5 with ⟨rfl, ⟨b1, b9⟩, k2, at2, e2, nh2, no2, nl2, cj2, b2, b3, b4, b5⟩ | ⟨rfl, b1, b2, kk, pl, b3, b4, b5, b6, b7, b8⟩ | ⟨rfl, f, pl, b1, b2, b3, b4, b5⟩
      · have eC : f_X7_readAll_L22 fu (m + 1) I R (nI n) = f_X7_readAll_L22 fu m K R' (nI (n + 1)) := by
          simp only [f_X7_readAll_L22, if_neg z, if_neg h3, a1, Option.bind_some, if_neg n3, A1]
        have r := ih (n + 1) (by omega) K J' M' R' k2 at2 e2 nh2 no2 nl2 cj2 m m' b2 b4 b3 b1 b5 hR' (by omega) (by omega)
        unfold OutA
        rw [eC, eM]
        rcases r with ⟨K3, R3, N, J3, M3, k3, at3, e3, nh3, no3, nl3, cj3, c1, c2, c3, c4, ⟨c5, c6, c7⟩, ⟨c8, c9⟩, c10⟩ | ⟨K3, R3, N, J3, M3, f, pl, c2, c3, c4, ⟨c5, c6, c7⟩, c8⟩
        · exact Or.inl ⟨K3, R3, N, J3, M3, k3, at3, e3, nh3, no3, nl3, cj3, c1, c2, c3, fun x hx => (c4 x hx).trans (rf x hx), ⟨f1.trans c5, f2.trans c6, f3.trans c7⟩, ⟨c8, c9.trans b9⟩, c10⟩
        · exact Or.inr ⟨K3, R3, N, J3, M3, f, pl, c2, c3, fun x hx => (c4 x hx).trans (rf x hx), ⟨f1.trans c5, f2.trans c6, f3.trans c7⟩, c8⟩
      · obtain ⟨m, rfl⟩ : ∃ z, m = z + 1 := ⟨m - 1, by omega⟩
        obtain ⟨m', rfl⟩ : ∃ z, m' = z + 1 := ⟨m' - 1, by omega⟩
        obtain ⟨K2, d1, d2⟩ := st80 (n := n) (fu := fu) hR' ho b2 b5
        have z' : ¬ (80 : Int32) < nI (n + 1) := by rw [b1]; decide
        have h3' : ¬ K 7 3 = 0 := by rw [b4]; exact nI_ne0 (by omega) (by omega)
        refine Or.inr ⟨K2, R', nI (n + 1), J', M', 6, pl, ?_, ?_, rf, ⟨f1.trans d2.fr, f2, f3⟩, d2.2.1, d2.2.2, b7, b8, by decide, b6⟩
        · simp only [f_X7_readAll_L22, if_neg z, if_neg h3, a1, Option.bind_some, if_neg n3, A1, if_neg z', if_neg h3', d1, if_true, gz_0]
        · rw [eM]
          exact l128_x (by decide) b7
      · obtain ⟨m', rfl⟩ : ∃ z, m' = z + 1 := ⟨m' - 1, by omega⟩
        refine Or.inr ⟨K, R', nI (n + 1), J', M', f, pl, ?_, ?_, rf, ⟨f1, f2, f3⟩, b1, b2, b3, b4, b5⟩
        · simp only [f_X7_readAll_L22, if_neg z, if_neg h3, a1, Option.bind_some, if_true, gz_0]
        · rw [eM]
          exact l128_x b5.1 b3
end
