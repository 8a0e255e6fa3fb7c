/-- one set of lakes over a set of hollows: from the largest part for the lowest hollow down -/
theorem hold_M {K : HI} {his H H2 sp L : Nat} {F : Nat → Nat} (hh : his < 256) (hH : 0 < H ∧ H < 256) (hH2 : H2 = H &&& (H - 1)) (hL : L < 256) (hsub : sb L his) (hsp : sp ≤ 99999) (hF : ∀ s, s < 256 → K 140 s = nI (F s) ∧ F s ≤ 99999) :
    ∀ (p n : Nat), sb p L → p + 1 < n → (∀ q, p < q → sb q L → ¬ (F q ≤ sp ∧ ¬ K 139 (256 * H2 + (L ^^^ q)) = 0)) →
    (f_X12_pack_L253 n K (nI his) (nI H) (nI sp) (nI L) 0 (nI p) = some 1 ∧ ∃ q, sb q L ∧ F q ≤ sp ∧ ¬ K 139 (256 * H2 + (L ^^^ q)) = 0) ∨ (f_X12_pack_L253 n K (nI his) (nI H) (nI sp) (nI L) 0 (nI p) = some 0 ∧ ∀ q, sb q L → ¬ (F q ≤ sp ∧ ¬ K 139 (256 * H2 + (L ^^^ q)) = 0)) := by
  have n3 : ¬ (1 : Int32) = 0 := by decide
  have hH2le : H2 ≤ H := by rw [hH2]; exact Nat.and_le_left
  have cH : ¬ nI H ≤ 0 := nI_nle (by omega) (by omega)
  have cs : nI L &&& (nI his ^^^ (-1)) = 0 := (subI (by omega)).mpr (fun l _ hl => hsub l hl)
  have eH : nI H &&& (nI H - 1) = nI H2 := by rw [zq1, pk_sub (by omega), and_ok, hH2]
  intro p
  induction p using Nat.strongRecOn with
  | ind p ih =>
    intro n hp hn hq
    obtain ⟨n, rfl⟩ : ∃ z, n = z + 1 := ⟨n - 1, by omega⟩
    have hple := sb_le hp
    obtain ⟨f1, f2⟩ := hF p (by omega)
    have hx := sb_le (sb_xor hp)
    have eL : nI L &&& (nI p ^^^ (-1)) = nI (L ^^^ p) := andn_ok (by omega) hp
    have eix : 256 * nI H2 + nI (L ^^^ p) = nI (256 * H2 + (L ^^^ p)) := by rw [zq256, pk_mul, nI_add]
    have one : ∀ (z : Int32), ∀ k, 0 < k → f_X12_pack_L253 k K (nI his) (nI H) (nI sp) (nI L) 1 z = some 1 := fun z k hk => by
      obtain ⟨k, rfl⟩ : ∃ y, k = y + 1 := ⟨k - 1, by omega⟩
      simp only [f_X12_pack_L253, if_neg n3]
    by_cases cg : F p ≤ sp ∧ ¬ K 139 (256 * H2 + (L ^^^ p)) = 0
    · left
      refine ⟨?_, p, hp, cg.1, cg.2⟩
      have c1 : ¬ nI sp < nI (F p) := nI_nlt cg.1 (by omega)
      by_cases c0 : p = 0
      · have c0' : nI p = 0 := by rw [c0]; rfl
        simp (disch := omega) only [f_X12_pack_L253, if_true, if_neg cH, if_pos cs, ldI_ok, f1, jnt, if_neg c1, eH, eL, eix, if_neg cg.2, if_pos c0']
      · have c0' : ¬ nI p = 0 := nI_ne0 (by omega) (by omega)
        have o := one ((nI p - 1) &&& nI L) n (by omega)
        simp (disch := omega) only [f_X12_pack_L253, if_true, if_neg cH, if_pos cs, ldI_ok, f1, jnt, if_neg c1, eH, eL, eix, if_neg cg.2, if_neg c0', bnd]
        exact o
    · have st : f_X12_pack_L253 (n + 1) K (nI his) (nI H) (nI sp) (nI L) 0 (nI p) = if nI p = 0 then some 0 else f_X12_pack_L253 n K (nI his) (nI H) (nI sp) (nI L) 0 ((nI p - 1) &&& nI L) := by
        by_cases c1 : F p ≤ sp
        · have c1' : ¬ nI sp < nI (F p) := nI_nlt c1 (by omega)
          have c2 : K 139 (256 * H2 + (L ^^^ p)) = 0 := Decidable.not_not.mp (fun w => cg ⟨c1, w⟩)
          simp (disch := omega) only [f_X12_pack_L253, if_true, if_neg cH, if_pos cs, ldI_ok, f1, jnt, if_neg c1', eH, eL, eix, if_pos c2, bnd]
        · have c1' : nI sp < nI (F p) := nI_lt (by omega) (by omega)
          simp (disch := omega) only [f_X12_pack_L253, if_true, if_neg cH, if_pos cs, ldI_ok, f1, jnt, if_pos c1', bnd]
      rw [st]
      by_cases c0 : p = 0
      · have c0' : nI p = 0 := by rw [c0]; rfl
        right
        refine ⟨if_pos c0', fun q q1 => ?_⟩
        by_cases cq : q = p
        · rw [cq]; exact cg
        · exact hq q (by omega) q1
      · have c0' : ¬ nI p = 0 := nI_ne0 (by omega) (by omega)
        obtain ⟨p', hp'⟩ : ∃ p', p' = (p - 1) &&& L := ⟨_, rfl⟩
        have hp's : sb p' L := fun l hl => by
          rw [hp', Nat.testBit_and, Bool.and_eq_true] at hl
          exact hl.2
        have hp'lt : p' < p := by
          have : p' ≤ p - 1 := by rw [hp']; exact Nat.and_le_left
          omega
        have enx : (nI p - 1) &&& nI L = nI p' := by rw [zq1, pk_sub (by omega), and_ok, hp']
        have hgap : ∀ q, p' < q → q < p → ¬ sb q L := fun q q1 q2 hq' => by
          have := sub_pred 8 L p q (by omega) (by omega) (by omega) hp hq' q2
          rw [← hp'] at this
          omega
        rw [if_neg c0', enx]
        refine ih p' hp'lt n hp's (by omega) (fun q q1 q2 => ?_)
        rcases Nat.lt_trichotomy q p with w | w | w
        · exact absurd q2 (hgap q q1 w)
        · rw [w]; exact cg
        · exact hq q w q2
