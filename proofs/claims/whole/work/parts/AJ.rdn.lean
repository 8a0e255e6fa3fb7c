/-! the reader: numbers by the reference; a step on both sides -/
section
variable {tp : Nat → Nat} {sz at' : Nat} {J0 : HI} {M0 : HL}
theorem nums_M (hz : sz ≤ 1600) (ht : ∀ k, k < 1600 → tp k < 256 ∧ J0 101 k = nI (tp k)) (h2 : J0 100 2 = nI sz) {lx : Int32} : ∀ (q k n : Nat) (J : HI), (at' + k) + q = sz → q < n → OnJ J0 J → J 100 12 = (if lx = -1 ∧ 4 < k then nI (at' + 4) else lx) → J 100 6 = nI (dgN (fun j => min (tp (at' + j)) 57) k) → rn (fun k => byD (tp k)) sz (at' + k) = rn (fun k => byD (tp k)) sz at' → at' + k ≤ rn (fun k => byD (tp k)) sz at' → ∃ J', f_X12_ahead_L204 n J M0 (nI (at' + k)) 0 1 4 (nI k) = some (nI (rn (fun k => byD (tp k)) sz at'), nI (rn (fun k => byD (tp k)) sz at' - at'), J', M0) ∧ OnJ J0 J' ∧ J' 100 12 = (if lx = -1 ∧ 4 < rn (fun k => byD (tp k)) sz at' - at' then nI (at' + 4) else lx) ∧ J' 100 6 = nI (dgN (fun j => min (tp (at' + j)) 57) (rn (fun k => byD (tp k)) sz at' - at')) := by
  intro q
  induction q with
  | zero =>
    intro k n J e1 e2 oJ j12 j6 er el
    obtain ⟨n, rfl⟩ : ∃ z, n = z + 1 := ⟨n - 1, by omega⟩
    have k1 : J 100 2 = nI sz := by rw [oJ.2 2 (by decide) (by decide)]; exact h2
    have c1 : nI sz ≤ nI (at' + k) := nI_le (by omega) (by omega)
    rw [rn_end (i := at' + k) (fun w => by omega)] at er
    rw [← er, show at' + k - at' = k by omega]
    refine ⟨J, ?_, oJ, j12, j6⟩
    simp only [f_X12_ahead_L204, k1, if_pos c1]
  | succ q ih =>
    intro k n J e1 e2 oJ j12 j6 er el
    obtain ⟨n, rfl⟩ : ∃ z, n = z + 1 := ⟨n - 1, by omega⟩
    have k1 : J 100 2 = nI sz := by rw [oJ.2 2 (by decide) (by decide)]; exact h2
    have c1 : ¬ nI sz ≤ nI (at' + k) := nI_ge (by omega) (by omega)
    obtain ⟨t1, t2⟩ := ht (at' + k) (by omega)
    have e101 : J 101 = J0 101 := oJ.1 101 (by decide)
    have ld : ∀ kk : Int32 → Option (Int32 × Int32 × HI × HL), ldI (J0 101) 1800 (nI (at' + k)) kk = kk (nI (tp (at' + k))) := fun kk => by rw [ldI_ok (by omega), t2]
    have A1 : nI (at' + k) + 1 = nI (at' + (k + 1)) := nI_1 _
    have A2 : nI k + 1 = nI (k + 1) := nI_1 k
    have n3 : ¬ (1 : Int32) = 0 := by decide
    have hlt := (digit_C t1).2
    by_cases c : byD (tp (at' + k)) = true
    · rw [if_pos c] at hlt
      have hb := byD_iff.mp c
      have er' : rn (fun k => byD (tp k)) sz (at' + (k + 1)) = rn (fun k => byD (tp k)) sz at' := by rw [← er]; exact (rn_go (P := fun k => byD (tp k)) (show at' + k < sz by omega) c).symm
      have hp := (rn_prop (P := fun k => byD (tp k)) (sz := sz) (sz - (at' + (k + 1))) (at' + (k + 1)) (by omega)).1
      have ed : dgN (fun j => min (tp (at' + j)) 57) (k + 1) = if k < 4 then 10 * dgN (fun j => min (tp (at' + j)) 57) k + (min (tp (at' + k)) 57 - 48) else dgN (fun j => min (tp (at' + j)) 57) k := rfl
      by_cases c4 : k < 4
      · have c44 : ¬ (4 : Int32) ≤ nI k := nI_ge (b := 4) c4 (by decide)
        have c4e : ¬ nI k = 4 := fun w => by
          have := (nI_eq (b := 4) (by omega) (by decide)).mp w
          omega
        have ev : 10 * nI (dgN (fun j => min (tp (at' + j)) 57) k) + nI (tp (at' + k)) - 48 = nI (dgN (fun j => min (tp (at' + j)) 57) (k + 1)) := by
          rw [ed, if_pos c4, zq10, pk_mul, nI_add, zq48, pk_sub (by omega)]
          congr 1
          omega
        obtain ⟨J', r1, r2, r3, r4⟩ := ih (k + 1) n (sI J 100 6 (nI (dgN (fun j => min (tp (at' + j)) 57) (k + 1)))) (by omega) (by omega) ⟨fun x hx => by rw [zs_ne hx]; exact oJ.1 x hx, fun s s1 s2 => by rw [zs_eq, zs_other s1]; exact oJ.2 s s1 s2⟩ (by
          rw [zs_eq, zs_other (by decide), j12, if_neg (fun w => by omega), if_neg (fun w => by omega)]) (by rw [zs_eq, zs_same]) er' (by omega)
        refine ⟨J', ?_, r2, r3, r4⟩
        rw [← r1]
        by_cases c8 : (8 : Int32) ≤ nI k
        · simp only [f_X12_ahead_L204, k1, if_neg c1, if_true, e101, ld, hlt, Option.bind_some, jnt, if_neg n3, if_neg c4e, if_pos c8, if_neg c44, j6, ev, bnd, A1, A2]
        · simp only [f_X12_ahead_L204, k1, if_neg c1, if_true, e101, ld, hlt, Option.bind_some, jnt, if_neg n3, if_neg c4e, if_neg c8, if_neg c44, j6, ev, bnd, A1, A2]
      · have c44 : (4 : Int32) ≤ nI k := nI_le (a := 4) (by omega) (by omega)
        rw [if_neg c4] at ed
        obtain ⟨J1, hJ1, oJ1, eJ1, eJ6⟩ : ∃ J1 : HI, J1 = (if k = 4 ∧ J 100 12 = -1 then sI J 100 12 (nI (at' + k)) else J) ∧ OnJ J0 J1 ∧ J1 100 12 = (if lx = -1 ∧ 4 < k + 1 then nI (at' + 4) else lx) ∧ J1 100 6 = nI (dgN (fun j => min (tp (at' + j)) 57) (k + 1)) := by
          refine ⟨_, rfl, ?_, ?_, ?_⟩
          · by_cases c6 : k = 4 ∧ J 100 12 = -1
            · rw [if_pos c6]
              exact ⟨fun x hx => by rw [zs_ne hx]; exact oJ.1 x hx, fun s s1 s2 => by rw [zs_eq, zs_other s2]; exact oJ.2 s s1 s2⟩
            · rw [if_neg c6]
              exact oJ
          · by_cases cl : lx = -1
            · by_cases c6 : k = 4
              · have z : J 100 12 = -1 := by rw [j12, if_neg (fun w => by omega)]; exact cl
                rw [if_pos ⟨c6, z⟩, if_pos ⟨cl, by omega⟩, zs_eq, zs_same, c6]
              · rw [if_neg (fun w => c6 w.1), j12, if_pos ⟨cl, by omega⟩, if_pos ⟨cl, by omega⟩]
            · have z : ¬ J 100 12 = -1 := by rw [j12, if_neg (fun w => cl w.1)]; exact cl
              rw [if_neg (fun w => z w.2), if_neg (fun w => cl w.1), j12, if_neg (fun w => cl w.1)]
          · by_cases c6 : k = 4 ∧ J 100 12 = -1
            · rw [if_pos c6, zs_eq, zs_other (by decide), j6, ed]
            · rw [if_neg c6, j6, ed]
        obtain ⟨J', r1, r2, r3, r4⟩ := ih (k + 1) n J1 (by omega) (by omega) oJ1 eJ1 eJ6 er' (by omega)
        refine ⟨J', ?_, r2, r3, r4⟩
        rw [← r1]
        by_cases c6 : k = 4
        · have c6' : nI k = 4 := by rw [c6]; rfl
          have c8 : ¬ (8 : Int32) ≤ nI k := by rw [c6]; decide
          by_cases cl : J 100 12 = -1
          · have hJ1' : J1 = sI J 100 12 (nI (at' + k)) := by rw [hJ1, if_pos ⟨c6, cl⟩]
            simp only [f_X12_ahead_L204, k1, if_neg c1, if_true, e101, ld, hlt, Option.bind_some, jnt, if_neg n3, if_pos c6', if_pos cl, bnd, if_neg c8, if_pos c44, A1, A2, hJ1']
          · have hJ1' : J1 = J := by rw [hJ1, if_neg (fun w => cl w.2)]
            simp only [f_X12_ahead_L204, k1, if_neg c1, if_true, e101, ld, hlt, Option.bind_some, jnt, if_neg n3, if_pos c6', if_neg cl, bnd, if_neg c8, if_pos c44, A1, A2, hJ1']
        · have c6' : ¬ nI k = 4 := fun w => c6 ((nI_eq (b := 4) (by omega) (by decide)).mp w)
          have hJ1' : J1 = J := by rw [hJ1, if_neg (fun w => c6 w.1)]
          by_cases c8 : (8 : Int32) ≤ nI k
          · simp only [f_X12_ahead_L204, k1, if_neg c1, if_true, e101, ld, hlt, Option.bind_some, jnt, if_neg n3, if_neg c6', bnd, if_pos c8, if_pos c44, A1, A2, hJ1']
          · simp only [f_X12_ahead_L204, k1, if_neg c1, if_true, e101, ld, hlt, Option.bind_some, jnt, if_neg n3, if_neg c6', bnd, if_neg c8, if_pos c44, A1, A2, hJ1']
    · rw [if_neg c] at hlt
      rw [rn_end (P := fun k => byD (tp k)) (i := at' + k) (fun w => c w.2)] at er
      rw [← er, show at' + k - at' = k by omega]
      refine ⟨J, ?_, oJ, j12, j6⟩
      simp only [f_X12_ahead_L204, k1, if_neg c1, e101, ld, hlt, Option.bind_some, jnt, if_true]
end
/-- what stands here, on both sides -/
def TKx (tp : Nat → Nat) (sz : Nat) (I J : HI) (M : HL) (k at' e : Nat) : Prop := ((I 7 1 = nI sz ∧ J 100 2 = nI sz) ∧ (I 7 2 = nI e ∧ J 100 5 = nI e) ∧ (I 7 4 = nI at' ∧ J 100 4 = nI at') ∧ I 7 3 = nI k) ∧ (at' ≤ e ∧ e ≤ sz ∧ (k ≠ 0 → at' < e)) ∧
  ((k = 0 ∧ J 100 3 = 0 ∧ J 100 12 = -1 ∧ I 7 5 = nI at') ∨ (k = 4 ∧ J 100 3 = 3 ∧ J 100 12 = -1 ∧ I 7 5 = nI at' ∧ ∃ c, c < 256 ∧ I 7 6 = nI c ∧ J 100 6 = nI c) ∨ (k = 3 ∧ J 100 3 = 2 ∧ J 100 12 = -1 ∧ I 7 5 = nI at' ∧ ∃ v, v ≤ 9999 ∧ I 7 6 = nI v ∧ J 100 6 = nI v) ∨ (k = 2 ∧ J 100 3 = 1 ∧ J 100 12 = -1 ∧ I 7 5 = nI at' ∧ ∃ w, w < 25 ∧ I 7 6 = nI w ∧ M 100 7 = lN (ownL w)) ∨ (k = 1 ∧ J 100 3 = 1 ∧ J 100 12 = -1 ∧ I 7 5 = nI at' ∧ ∃ (g : Nat → Nat) (n : Nat), (∀ j, j < n → 97 ≤ g j ∧ g j ≤ 122) ∧ (1 ≤ n ∧ n ≤ 6) ∧ I 7 6 = nI (P5 g n) ∧ M 100 7 = lN (P8 g n) ∧ ¬ ∃ w, w < 25 ∧ P8 g n = ownL w) ∨ (k = 5 ∧ (J 100 3 = 1 ∨ J 100 3 = 2) ∧ ∃ pl, pl ≤ 1700 ∧ J 100 12 = nI pl ∧ I 7 5 = nI pl)) ∧
  (k = 0 ∨ (k ≠ 4 ↔ (byL (tp (e - 1)) = true ∨ byD (tp (e - 1)) = true)))
