/-! the reader: own words and names -/
theorem vU_eq {f : Nat → Int64} {k : Nat} {v : Int64} : vp_updL f k v k = v := if_pos rfl
theorem vU_ne {f : Nat → Int64} {k j : Nat} {v : Int64} (h : j ≠ k) : vp_updL f k v j = f j := if_neg h
section
variable {tp : Nat → Nat} {K : HI} {fu at' n : Nat}
theorem same_C (ht : ∀ k, k < 1600 → tp k < 256 ∧ K 2 k = nI (tp k)) (h4 : K 7 4 = nI at') (hn : n < 8) (hat : at' + n ≤ 1600) {w : Nat} (hw : w < 25) : ∀ (q j m : Nat), j + q = n → q < m → ∃ r, f_X10_findOwn_L22 m K (nI n) (nI (8 * w)) (nI j) = some (nI r) ∧ j ≤ r ∧ r ≤ n ∧ (∀ i, j ≤ i → i < r → ownC (8 * w + i) = nI (tp (at' + i))) ∧ (r < n → ¬ ownC (8 * w + r) = nI (tp (at' + r))) := by
  intro q
  induction q with
  | zero =>
    intro j m e1 e2
    obtain ⟨m, rfl⟩ : ∃ z, m = z + 1 := ⟨m - 1, by omega⟩
    have ej : j = n := by omega
    subst ej
    have c1 : nI j ≤ nI j := Int32.le_refl _
    refine ⟨j, ?_, Nat.le_refl _, Nat.le_refl _, fun i i1 i2 => by omega, fun w => by omega⟩
    simp only [f_X10_findOwn_L22, if_pos c1]
  | succ q ih =>
    intro j m e1 e2
    obtain ⟨m, rfl⟩ : ∃ z, m = z + 1 := ⟨m - 1, by omega⟩
    have c1 : ¬ nI n ≤ nI j := nI_ge (by omega) (by omega)
    have ea : nI (8 * w) + nI j = nI (8 * w + j) := nI_add _ _
    have eb : nI at' + nI j = nI (at' + j) := nI_add _ _
    have l1 : ∀ k : Int32 → Option Int32, ldI ownC 200 (nI (8 * w + j)) k = k (ownC (8 * w + j)) := fun k => by rw [ldI_ok (by omega)]
    have l2 : ∀ k : Int32 → Option Int32, ldI (K 2) 1600 (nI (at' + j)) k = k (nI (tp (at' + j))) := fun k => by rw [ldI_ok (by omega), (ht (at' + j) (by omega)).2]
    have A1 : nI j + 1 = nI (j + 1) := nI_1 j
    by_cases c : ownC (8 * w + j) = nI (tp (at' + j))
    · obtain ⟨r, r1, r2, r3, r4, r5⟩ := ih (j + 1) m (by omega) (by omega)
      refine ⟨r, ?_, by omega, r3, fun i i1 i2 => ?_, r5⟩
      · rw [← r1]
        simp only [f_X10_findOwn_L22, if_neg c1, ea, l1, h4, eb, l2, if_pos c, A1]
      · by_cases ci : i = j
        · rw [ci]; exact c
        · exact r4 i (by omega) i2
    · refine ⟨j, ?_, Nat.le_refl _, by omega, fun i i1 i2 => by omega, fun _ => c⟩
      simp only [f_X10_findOwn_L22, if_neg c1, ea, l1, h4, eb, l2, if_neg c]
theorem findOwn_C (ht : ∀ k, k < 1600 → tp k < 256 ∧ K 2 k = nI (tp k)) (h4 : K 7 4 = nI at') (hat : at' + n ≤ 1600) (hl : ∀ j, j < n → 97 ≤ tp (at' + j) ∧ tp (at' + j) ≤ 122) (hf : 100 < fu) : (∃ w, w < 25 ∧ f_X10_findOwn fu K (nI n) = some (nI w) ∧ n = ownN w ∧ ∀ j, j < n → tp (at' + j) = ownG w j) ∨ (f_X10_findOwn fu K (nI n) = some (-1) ∧ ¬ ∃ w, w < 25 ∧ n = ownN w ∧ ∀ j, j < n → tp (at' + j) = ownG w j) := by
  have loop : ∀ (q w m : Nat), w + q = 25 → q < m → (∃ v, v < 25 ∧ f_X10_findOwn_L2 fu m K (nI n) (nI w) = some (.inl (nI v)) ∧ n = ownN v ∧ ∀ j, j < n → tp (at' + j) = ownG v j) ∨ (f_X10_findOwn_L2 fu m K (nI n) (nI w) = some (.inr ()) ∧ ¬ ∃ v, w ≤ v ∧ v < 25 ∧ n = ownN v ∧ ∀ j, j < n → tp (at' + j) = ownG v j) := by
    intro q
    induction q with
    | zero =>
      intro w m e1 e2
      obtain ⟨m, rfl⟩ : ∃ z, m = z + 1 := ⟨m - 1, by omega⟩
      have ew : w = 25 := by omega
      subst ew
      have c1 : (25 : Int32) ≤ nI 25 := by decide
      right
      refine ⟨?_, fun ⟨v, v1, v2, _⟩ => by omega⟩
      simp only [f_X10_findOwn_L2, if_pos c1]
    | succ q ih =>
      intro w m e1 e2
      obtain ⟨m, rfl⟩ : ∃ z, m = z + 1 := ⟨m - 1, by omega⟩
      have c1 : ¬ (25 : Int32) ≤ nI w := nI_ge (b := 25) (by omega) (by decide)
      have A1 : nI w + 1 = nI (w + 1) := nI_1 w
      by_cases c8 : n < 8
      · have c2 : ¬ (8 : Int32) ≤ nI n := nI_ge (b := 8) c8 (by decide)
        have ea : nI w * 8 = nI (8 * w) := by rw [zq8, pk_mul, Nat.mul_comm]
        obtain ⟨r, r1, r2, r3, r4, r5⟩ := same_C (tp := tp) (K := K) (at' := at') (n := n) ht h4 c8 hat (w := w) (by omega) n 0 fu (by omega) (by omega)
        have r1' : f_X10_findOwn_L22 fu K (nI n) (nI (8 * w)) 0 = some (nI r) := r1
        obtain ⟨⟨o1, o2⟩, o3⟩ := own_ok w (by omega)
        have step : ∀ (hno : ¬ (n = ownN w ∧ ∀ j, j < n → tp (at' + j) = ownG w j)), f_X10_findOwn_L2 fu (m + 1) K (nI n) (nI w) = f_X10_findOwn_L2 fu m K (nI n) (nI (w + 1)) → (∃ v, v < 25 ∧ f_X10_findOwn_L2 fu (m + 1) K (nI n) (nI w) = some (.inl (nI v)) ∧ n = ownN v ∧ ∀ j, j < n → tp (at' + j) = ownG v j) ∨ (f_X10_findOwn_L2 fu (m + 1) K (nI n) (nI w) = some (.inr ()) ∧ ¬ ∃ v, w ≤ v ∧ v < 25 ∧ n = ownN v ∧ ∀ j, j < n → tp (at' + j) = ownG v j) := fun hno he => by
          rw [he]
          rcases ih (w + 1) m (by omega) (by omega) with z | ⟨z1, z2⟩
          · exact Or.inl z
          · refine Or.inr ⟨z1, fun ⟨v, v1, v2, v3⟩ => ?_⟩
            by_cases cv : v = w
            · subst cv; exact hno v3
            · exact z2 ⟨v, by omega, v2, v3⟩
        by_cases cr : r = n
        · subst cr
          have eb : nI (8 * w) + nI r = nI (8 * w + r) := nI_add _ _
          have l1 : ∀ k : Int32 → Option (Int32 ⊕ Unit), ldI ownC 200 (nI (8 * w + r)) k = k (ownC (8 * w + r)) := fun k => by rw [ldI_ok (by omega)]
          by_cases cs : ownC (8 * w + r) = 32
          · left
            have hlen : r = ownN w := by
              rcases Nat.lt_trichotomy r (ownN w) with z | z | z
              · obtain ⟨p1, p2⟩ := (o3 r (by omega)).1 z
                rw [p2] at cs
                have := (nI_eq (b := 32) (by omega) (by decide)).mp cs
                omega
              · exact z
              · have p1 := (o3 (ownN w) (by omega)).2 rfl
                have p2 := r4 (ownN w) (by omega) z
                have p3 := hl (ownN w) z
                rw [p1] at p2
                have := (nI_eq (by omega) (by omega)).mp p2
                omega
            refine ⟨w, by omega, ?_, hlen, fun j hj => ?_⟩
            · simp only [f_X10_findOwn_L2, if_neg c1, if_neg c2, ea, bnd, r1', Option.bind_some, jnt, if_true, eb, l1, if_pos cs]
            · obtain ⟨p1, p2⟩ := (o3 j (by omega)).1 (by omega)
              have p3 := r4 j (by omega) hj
              have p4 := hl j hj
              rw [p2] at p3
              exact ((nI_eq (by omega) (by omega)).mp p3).symm
          · refine step (fun z => cs ((o3 r (by omega)).2 z.1)) ?_
            simp only [f_X10_findOwn_L2, if_neg c1, if_neg c2, ea, bnd, r1', Option.bind_some, jnt, if_true, eb, l1, if_neg cs, A1]
        · have c3 : ¬ nI r = nI n := fun z => cr ((nI_eq (by omega) (by omega)).mp z)
          refine step (fun z => r5 (by omega) ?_) ?_
          · rw [((o3 r (by omega)).1 (by omega)).2, z.2 r (by omega)]
          · simp only [f_X10_findOwn_L2, if_neg c1, if_neg c2, ea, bnd, r1', Option.bind_some, jnt, if_neg c3, A1]
      · have c2 : (8 : Int32) ≤ nI n := nI_le (a := 8) (by omega) (by omega)
        right
        refine ⟨?_, fun ⟨v, v1, v2, v3, _⟩ => by have := (own_ok v v2).1; omega⟩
        simp only [f_X10_findOwn_L2, if_neg c1, if_pos c2]
  unfold f_X10_findOwn
  rw [show (0 : Int32) = nI 0 from rfl]
  rcases loop 25 0 fu (by omega) (by omega) with ⟨v, v1, v2, v3⟩ | ⟨z1, z2⟩
  · left
    rw [v2]
    exact ⟨v, v1, rfl, v3⟩
  · right
    rw [z1]
    exact ⟨rfl, fun ⟨v, v1, v2⟩ => z2 ⟨v, by omega, v1, v2⟩⟩
theorem packName_C (ht : ∀ k, k < 1600 → tp k < 256 ∧ K 2 k = nI (tp k)) (h4 : K 7 4 = nI at') (hat : at' + n ≤ 1600) (hl : ∀ j, j < n → 97 ≤ tp (at' + j) ∧ tp (at' + j) ≤ 122) (hn : n ≤ 6) (hf : 100 < fu) : f_X10_packName fu K (nI n) = some (nI (P5 (fun j => tp (at' + j)) n)) := by
  have hsm : ∀ k, k < 6 → (((nI (5 * k)) &&& 31 : Int32).toBitVec.smod 32).toNat = 5 * k := by decide
  have key : f_X10_packName_L4 fu K (nI n) 0 0 = some (nI (P5 (fun j => tp (at' + j)) n)) := by
    refine loopCf (fun m a i => f_X10_packName_L4 m K (nI n) a i) (fun i => nI (P5 (fun j => tp (at' + j)) i)) _ n fu ?_ ?_ (by omega)
    · intro m i hi
      have c1 : ¬ nI n ≤ nI i := nI_ge hi (by omega)
      have eb : nI at' + nI i = nI (at' + i) := nI_add _ _
      have hb := hl i hi
      have l2 : ∀ k : Int32 → Option Int32, ldI (K 2) 1600 (nI (at' + i)) k = k (nI (tp (at' + i))) := fun k => by rw [ldI_ok (by omega), (ht (at' + i) (by omega)).2]
      have A1 : nI i + 1 = nI (i + 1) := nI_1 i
      have e5 : 5 * nI i = nI (5 * i) := by rw [zq5, pk_mul]
      have hp := P5_lt (g := fun j => tp (at' + j)) i (fun j hj => hl j (by omega))
      have hp2 := P5_lt (g := fun j => tp (at' + j)) (i + 1) (fun j hj => hl j (by omega))
      have h30 : 2 ^ (5 * (i + 1)) ≤ 2 ^ 30 := Nat.pow_le_pow_right (by decide) (by omega)
      have e1 : nI (tp (at' + i)) - 97 + 1 = nI (tp (at' + i) - 96) := by
        rw [show (97 : Int32) = nI 97 from rfl, pk_sub (by omega), nI_1]
        congr 1
        omega
      have hm : (tp (at' + i) - 96) * 2 ^ (5 * i) < 2 ^ 32 := by
        have : P5 (fun j => tp (at' + j)) (i + 1) = P5 (fun j => tp (at' + j)) i + (tp (at' + i) - 96) * 2 ^ (5 * i) := rfl
        omega
      have e2 : nI (tp (at' + i) - 96) <<< (nI (5 * i) &&& 31) = nI ((tp (at' + i) - 96) * 2 ^ (5 * i)) := pk_shlN _ (5 * i) (hsm i (by omega)) hm
      have e3 : nI (P5 (fun j => tp (at' + j)) i) ||| nI ((tp (at' + i) - 96) * 2 ^ (5 * i)) = nI (P5 (fun j => tp (at' + j)) (i + 1)) := by
        rw [or_ok]
        congr 1
        have := Nat.two_pow_add_eq_or_of_lt (i := 5 * i) (b := P5 (fun j => tp (at' + j)) i) hp (tp (at' + i) - 96)
        rw [Nat.or_comm, Nat.mul_comm (tp (at' + i) - 96), ← this]
        show _ = P5 (fun j => tp (at' + j)) i + (tp (at' + i) - 96) * 2 ^ (5 * i)
        rw [Nat.mul_comm (tp (at' + i) - 96)]
        omega
      simp only [f_X10_packName_L4, if_neg c1, h4, eb, l2, e5, e1, e2, e3, bnd, A1]
    · intro m
      have c1 : nI n ≤ nI n := Int32.le_refl _
      simp only [f_X10_packName_L4, if_pos c1]
  unfold f_X10_packName
  rw [key]
  rfl
end
/-- the reference's cells that a look ahead may change -/
def OnJ (J J' : HI) : Prop := (∀ x, x ≠ 100 → J' x = J x) ∧ ∀ s, s ≠ 6 → s ≠ 12 → J' 100 s = J 100 s
def OnL (M M' : HL) : Prop := (∀ x, x ≠ 100 → M' x = M x) ∧ ∀ s, s ≠ 7 → M' 100 s = M 100 s
section
variable {tp : Nat → Nat} {sz at' : Nat} {J0 : HI} {M0 : HL}
theorem words_M (hz : sz ≤ 1600) (ht : ∀ k, k < 1600 → tp k < 256 ∧ J0 101 k = nI (tp k)) (h2 : J0 100 2 = nI sz) {lx : Int32} (hlx : lx = -1 ∨ ∃ z, z ≤ 1600 ∧ lx = nI z) (hl : ∀ j, at' ≤ j → j < rn (fun k => byL (tp k)) sz at' → byL (tp j) = true) : ∀ (q k n : Nat) (J : HI) (M : HL), (at' + k) + q = sz → q < n → OnJ J0 J → OnL M0 M → J 100 12 = (if lx = -1 ∧ 6 < k then nI (at' + 6) else lx) → M 100 7 = lN (P8 (fun j => tp (at' + j)) k) → rn (fun k => byL (tp k)) sz (at' + k) = rn (fun k => byL (tp k)) sz at' → at' + k ≤ rn (fun k => byL (tp k)) sz at' → ∃ J' M', f_X12_ahead_L204 n J M (nI (at' + k)) 1 0 6 (nI k) = some (nI (rn (fun k => byL (tp k)) sz at'), nI (rn (fun k => byL (tp k)) sz at' - at'), J', M') ∧ OnJ J0 J' ∧ OnL M0 M' ∧ J' 100 12 = (if lx = -1 ∧ 6 < rn (fun k => byL (tp k)) sz at' - at' then nI (at' + 6) else lx) ∧ M' 100 7 = lN (P8 (fun j => tp (at' + j)) (rn (fun k => byL (tp k)) sz at' - at')) := by
  intro q
  induction q with
  | zero =>
    intro k n J M e1 e2 oJ oL j12 m7 er el
    obtain ⟨n, rfl⟩ : ∃ z, n = z + 1 := ⟨n - 1, by omega⟩
    have k1 : J 100 2 = nI sz := by rw [oJ.2 2 (by decide) (by decide)]; exact h2
    have c1 : nI sz ≤ nI (at' + k) := nI_le (by omega) (by omega)
    rw [rn_end (i := at' + k) (fun w => by omega)] at er
    rw [← er, show at' + k - at' = k by omega]
    refine ⟨J, M, ?_, oJ, oL, j12, m7⟩
    simp only [f_X12_ahead_L204, k1, if_pos c1]
  | succ q ih =>
    intro k n J M e1 e2 oJ oL j12 m7 er el
    obtain ⟨n, rfl⟩ : ∃ z, n = z + 1 := ⟨n - 1, by omega⟩
    have k1 : J 100 2 = nI sz := by rw [oJ.2 2 (by decide) (by decide)]; exact h2
    have c1 : ¬ nI sz ≤ nI (at' + k) := nI_ge (by omega) (by omega)
    obtain ⟨t1, t2⟩ := ht (at' + k) (by omega)
    have e101 : J 101 = J0 101 := oJ.1 101 (by decide)
    have ld : ∀ kk : Int32 → Option (Int32 × Int32 × HI × HL), ldI (J0 101) 1800 (nI (at' + k)) kk = kk (nI (tp (at' + k))) := fun kk => by rw [ldI_ok (by omega), t2]
    have A1 : nI (at' + k) + 1 = nI (at' + (k + 1)) := nI_1 _
    have A2 : nI k + 1 = nI (k + 1) := nI_1 k
    have n3 : ¬ (1 : Int32) = 0 := by decide
    have hlt := (letter_C t1).2
    by_cases c : byL (tp (at' + k)) = true
    · rw [if_pos c] at hlt
      have er' : rn (fun k => byL (tp k)) sz (at' + (k + 1)) = rn (fun k => byL (tp k)) sz at' := by rw [← er]; exact (rn_go (P := fun k => byL (tp k)) (show at' + k < sz by omega) c).symm
      have hp := (rn_prop (P := fun k => byL (tp k)) (sz := sz) (sz - (at' + (k + 1))) (at' + (k + 1)) (by omega)).1
      -- the word's new value
      obtain ⟨M1, hM1, oM1, eM1⟩ : ∃ M1 : HL, M1 = (if k < 8 then sL M 100 7 (((M 100 7) <<< ((8 : Int32).toInt64 &&& 63)) ||| (nI (tp (at' + k))).toInt64) else M) ∧ OnL M0 M1 ∧ M1 100 7 = lN (P8 (fun j => tp (at' + j)) (k + 1)) := by
        have e8 : P8 (fun j => tp (at' + j)) (k + 1) = if k < 8 then 256 * P8 (fun j => tp (at' + j)) k + tp (at' + k) else P8 (fun j => tp (at' + j)) k := rfl
        refine ⟨_, rfl, ?_, ?_⟩
        · by_cases c8 : k < 8
          · rw [if_pos c8]
            exact ⟨fun x hx => by rw [zL_ne hx]; exact oL.1 x hx, fun s hs => by rw [zL_eq, vU_ne hs]; exact oL.2 s hs⟩
          · rw [if_neg c8]
            exact oL
        · rw [e8]
          by_cases c8 : k < 8
          · have hb8 := (P8_lt (g := fun j => tp (at' + j)) k (by omega) (fun j hj => byL_iff.mp (hl (at' + j) (by omega) (by omega)))).1
            have hpw : 256 ^ (k - 1) ≤ 256 ^ 6 := Nat.pow_le_pow_right (by decide) (by omega)
            have hb55 : P8 (fun j => tp (at' + j)) k < 2 ^ 55 := by omega
            rw [if_pos c8, if_pos c8, zL_eq, vU_eq, m7, wordL hb55 t1]
          · rw [if_neg c8, if_neg c8]
            exact m7
      -- the fault's place
      obtain ⟨J1, hJ1, oJ1, eJ1⟩ : ∃ J1 : HI, J1 = (if k = 6 ∧ J 100 12 = -1 then sI J 100 12 (nI (at' + k)) else J) ∧ OnJ J0 J1 ∧ J1 100 12 = (if lx = -1 ∧ 6 < k + 1 then nI (at' + 6) else lx) := by
        refine ⟨_, rfl, ?_, ?_⟩
        · by_cases c6 : k = 6 ∧ J 100 12 = -1
          · rw [if_pos c6]
            exact ⟨fun x hx => by rw [zs_ne hx]; exact oJ.1 x hx, fun s s1 s2 => by rw [zs_eq, zs_other s2]; exact oJ.2 s s1 s2⟩
          · rw [if_neg c6]
            exact oJ
        · by_cases cl : lx = -1
          · by_cases c6 : k = 6
            · have z : J 100 12 = -1 := by rw [j12, if_neg (fun w => by omega)]; exact cl
              rw [if_pos ⟨c6, z⟩, if_pos ⟨cl, by omega⟩, zs_eq, zs_same, c6]
            · rw [if_neg (fun w => c6 w.1), j12]
              by_cases c7 : 6 < k
              · rw [if_pos ⟨cl, c7⟩, if_pos ⟨cl, by omega⟩]
              · rw [if_neg (fun w => c7 w.2), if_neg (fun w => by omega)]
          · have z : ¬ J 100 12 = -1 := by rw [j12, if_neg (fun w => cl w.1)]; exact cl
            rw [if_neg (fun w => z w.2), if_neg (fun w => cl w.1), j12, if_neg (fun w => cl w.1)]
      obtain ⟨J', M', r1, r2, r3, r4, r5⟩ := ih (k + 1) n J1 M1 (by omega) (by omega) oJ1 oM1 eJ1 eM1 er' (by omega)
      refine ⟨J', M', ?_, r2, r3, r4, r5⟩
      rw [← r1]
      have e101' : J1 101 = J0 101 := oJ1.1 101 (by decide)
      by_cases c6 : k = 6
      · have c6' : nI k = 6 := by rw [c6]; rfl
        have c8 : ¬ (8 : Int32) ≤ nI k := by rw [c6]; decide
        have c66 : (6 : Int32) ≤ nI k := by rw [c6]; decide
        have hM1' : M1 = sL M 100 7 (((M 100 7) <<< ((8 : Int32).toInt64 &&& 63)) ||| (nI (tp (at' + k))).toInt64) := by rw [hM1, if_pos (by omega)]
        by_cases cl : J 100 12 = -1
        · have hJ1' : J1 = sI J 100 12 (nI (at' + k)) := by rw [hJ1, if_pos ⟨c6, cl⟩]
          have e101s : (sI J 100 12 (nI (at' + k))) 101 = J0 101 := by rw [← hJ1']; exact e101'
          simp only [f_X12_ahead_L204, k1, if_neg c1, if_neg n3, e101, ld, hlt, Option.bind_some, jnt, if_pos c6', if_pos cl, bnd, if_neg c8, e101s, if_pos c66, A1, A2, hM1', hJ1']
        · have hJ1' : J1 = J := by rw [hJ1, if_neg (fun w => cl w.2)]
          simp only [f_X12_ahead_L204, k1, if_neg c1, if_neg n3, e101, ld, hlt, Option.bind_some, jnt, if_pos c6', if_neg cl, bnd, if_neg c8, if_pos c66, A1, A2, hM1', hJ1']
      · have c6' : ¬ nI k = 6 := fun w => c6 ((nI_eq (b := 6) (by omega) (by decide)).mp w)
        have hJ1' : J1 = J := by rw [hJ1, if_neg (fun w => c6 w.1)]
        by_cases c8 : k < 8
        · have c8' : ¬ (8 : Int32) ≤ nI k := nI_ge (b := 8) c8 (by decide)
          have hM1' : M1 = sL M 100 7 (((M 100 7) <<< ((8 : Int32).toInt64 &&& 63)) ||| (nI (tp (at' + k))).toInt64) := by rw [hM1, if_pos c8]
          simp only [f_X12_ahead_L204, k1, if_neg c1, if_neg n3, e101, ld, hlt, Option.bind_some, jnt, if_neg c6', bnd, if_neg c8', if_true, ite_self, A1, A2, hM1', hJ1']
        · have c8' : (8 : Int32) ≤ nI k := nI_le (a := 8) (by omega) (by omega)
          have hM1' : M1 = M := by rw [hM1, if_neg c8]
          simp only [f_X12_ahead_L204, k1, if_neg c1, if_neg n3, e101, ld, hlt, Option.bind_some, jnt, if_neg c6', bnd, if_pos c8', if_true, ite_self, A1, A2, hM1', hJ1']
    · rw [if_neg c] at hlt
      rw [rn_end (P := fun k => byL (tp k)) (i := at' + k) (fun w => c w.2)] at er
      rw [← er, show at' + k - at' = k by omega]
      refine ⟨J, M, ?_, oJ, oL, j12, m7⟩
      simp only [f_X12_ahead_L204, k1, if_neg c1, if_neg n3, e101, ld, hlt, Option.bind_some, jnt, if_true]
end
