/-! a new owner owes nothing, and is owed nothing: the reference -/
section
variable {b no : Nat}
theorem own57 (hb : b < 2) (hno : no < 6) : ∀ m c, c + m = 6 → ∀ (J : HI) (n : Nat), m < n → J 105 b = nI no → J 100 33 = nI b → ∃ J', f_X12_owning_L57 n J (nI (6 * b + no)) (nI c) = some J' ∧ (∀ x, x ≠ 110 → J' x = J x) ∧ (∀ i, J 110 i = 0 → J' 110 i = 0) ∧ (∀ d, c ≤ d → d < 6 → J' 110 (6 * (6 * b + no) + d) = 0 ∧ J' 110 (6 * (6 * b + d) + no) = 0) ∧ ∀ i, (∀ d, c ≤ d → d < 6 → i ≠ 6 * (6 * b + no) + d ∧ i ≠ 6 * (6 * b + d) + no) → J' 110 i = J 110 i := by
  intro m
  induction m with
  | zero =>
    intro c hc J n hn h1 h2
    obtain ⟨n, rfl⟩ : ∃ z, n = z + 1 := ⟨n - 1, by omega⟩
    have z : (6 : Int32) ≤ nI c := by rw [show c = 6 by omega]; decide
    exact ⟨J, by simp only [f_X12_owning_L57, if_pos z], fun _ _ => rfl, fun _ q => q, fun d d1 d2 => by omega, fun _ _ => rfl⟩
  | succ m ih =>
    intro c hc J n hn h1 h2
    obtain ⟨n, rfl⟩ : ∃ z, n = z + 1 := ⟨n - 1, by omega⟩
    have z : ¬ (6 : Int32) ≤ nI c := nI_ge (b := 6) (by omega) (by decide)
    have ix : 6 * nI (6 * b + no) + nI c = nI (6 * (6 * b + no) + c) := by rw [zq6, pk_mul, nI_add]
    have iy : 6 * (6 * nI b + nI c) + nI no = nI (6 * (6 * b + c) + no) := by rw [zq6, pk_mul, nI_add, pk_mul, nI_add]
    have i1 : ∀ q : Option HI, inb 72 (nI (6 * (6 * b + no) + c)) q = q := fun q => by rw [inb_ok (by omega)]
    have i2 : ∀ q : Option HI, inb 72 (nI (6 * (6 * b + c) + no)) q = q := fun q => by rw [inb_ok (by omega)]
    have t1 : (nI (6 * (6 * b + no) + c)).toNatClampNeg = 6 * (6 * b + no) + c := nI_clamp (by omega)
    have t2 : (nI (6 * (6 * b + c) + no)).toNatClampNeg = 6 * (6 * b + c) + no := nI_clamp (by omega)
    have A1 : nI c + 1 = nI (c + 1) := nI_1 c
    obtain ⟨Ja, hJa⟩ : ∃ Ja, Ja = sI J 110 (6 * (6 * b + no) + c) 0 := ⟨_, rfl⟩
    have l5 : ∀ k : Int32 → Option HI, ldI (Ja 105) 2 (nI b) k = k (nI no) := fun k => by rw [ldI_ok (by omega), hJa, zs_ne (by decide), h1]
    have a33 : Ja 100 33 = nI b := by rw [hJa, zs_ne (by decide)]; exact h2
    obtain ⟨Jb, hJb⟩ : ∃ Jb, Jb = sI Ja 110 (6 * (6 * b + c) + no) 0 := ⟨_, rfl⟩
    have bx : ∀ x, x ≠ 110 → Jb x = J x := fun x hx => by rw [hJb, zs_ne hx, hJa, zs_ne hx]
    have b1 : Jb 110 (6 * (6 * b + c) + no) = 0 := by rw [hJb, zs_eq, zs_same]
    have bo : ∀ i, i ≠ 6 * (6 * b + no) + c → i ≠ 6 * (6 * b + c) + no → Jb 110 i = J 110 i := fun i q1 q2 => by rw [hJb, zs_eq, zs_other q2, hJa, zs_eq, zs_other q1]
    have b2 : Jb 110 (6 * (6 * b + no) + c) = 0 := by
      by_cases q : 6 * (6 * b + no) + c = 6 * (6 * b + c) + no
      · rw [q]; exact b1
      · rw [hJb, zs_eq, zs_other q, hJa, zs_eq, zs_same]
    have b0 : ∀ i, J 110 i = 0 → Jb 110 i = 0 := fun i hi => by
      by_cases q1 : i = 6 * (6 * b + no) + c
      · rw [q1]; exact b2
      · by_cases q2 : i = 6 * (6 * b + c) + no
        · rw [q2]; exact b1
        · rw [bo i q1 q2]; exact hi
    obtain ⟨J', r1, r2, r3, r4, r5⟩ := ih (c + 1) (by omega) Jb n (by omega) (by rw [bx 105 (by decide)]; exact h1) (by rw [bx 100 (by decide)]; exact h2)
    refine ⟨J', ?_, fun x hx => (r2 x hx).trans (bx x hx), fun i hi => r3 i (b0 i hi), fun d d1 d2 => ?_, fun i hi => ?_⟩
    · simp only [f_X12_owning_L57, if_neg z, ix, i1, t1, bnd]
      rw [← hJa]
      simp only [a33, l5, iy, i2, t2, A1]
      rw [← hJb]
      exact r1
    · by_cases q : d = c
      · rw [q]
        exact ⟨r3 _ b2, r3 _ b1⟩
      · exact r4 d (by omega) d2
    · obtain ⟨q1, q2⟩ := hi c (Nat.le_refl _) (by omega)
      rw [r5 i (fun d d1 d2 => hi d (by omega) d2), bo i q1 q2]
end
