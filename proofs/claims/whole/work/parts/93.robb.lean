theorem eq_robbed : Eq_robbed Rel := by
  intro n I R J M a0 hn hR
  obtain ⟨t, b, nh, no, nl, h⟩ := hR
  have hLC := h.LC
  obtain ⟨hC, hL, hM, hE, hS, hB, hB', h1⟩ := h.get
  have h9 := hC.2.2.2.2.2.2.2.2.2
  have ht := hC.2.2.1
  obtain ⟨m, hm, em⟩ := hS.1
  have em1 : I 49 1 = nI m := em
  obtain ⟨r, r1, r2, r3, r4⟩ := h.2.2.2.2.1
  have n3 : ¬ (1 : Int32) = 0 := by decide
  unfold f_X11_robbed f_X12_robbed f_X12_is
  rw [r2, r3]
  by_cases cr : r = 0
  · subst cr
    exact ⟨-1, I, R, J, M, by rw [if_pos (by decide)], by rw [if_pos (by decide)], h.up.rel⟩
  have cr' : ¬ nI r = 0 := nI_ne0 (by omega) (by omega)
  simp only [if_neg cr']
  rcases x_cases a0 1000 (by decide) with d | d | ⟨g, hg, rfl⟩
  · refine ⟨-1, I, R, J, M, ?_, ?_, h.up.rel⟩ <;> simp (disch := omega) only [Int32.le_iff_toInt_le, Int32.lt_iff_toInt_lt, ← Int32.toInt_inj, zt0, zt1, zt2, zt3, zt4, zt5, zt6, zt7, zt8, zt9, zt10, zt11, zt12, zt13, zt14, zt15, zt16, zt17, zt18, zt19, zt20, zt21, zt22, zt23, zt24, zt25, zt26, zt30, zt31, zt32, zt33, zt34, zt35, zt36, zt37, zt38, zt39, zt40, zt41, zt42, zt43, zt44, zt45, zt47, zt48, zt57, zt59, zt60, zt61, zt62, zt80, zt91, zt93, zt97, zt99, zt100, zt107, zt110, zt120, zt122, zt128, zt149, zt160, zt208, zt240, zt251, zt255, zt256, zt500, zt936, zt999, zt1600, zt1800, zt2048, zt3200, zt4160, zt9999, zt12345, zt1000000, zt1048576, zt100000000, zu1, zu2, zu3, zu4, zu5, zu6, zu7, zu8, zu9, zu10, zu11, zu12, zu13, zu14, zu15, zu16, zu17, zu18, zu19, zu20, zu1000000000, if_pos, if_neg, gz_0, gz_1, Option.bind_some, if_true, if_false]
  · refine ⟨-1, I, R, J, M, ?_, ?_, h.up.rel⟩ <;> simp (disch := omega) only [Int32.le_iff_toInt_le, Int32.lt_iff_toInt_lt, ← Int32.toInt_inj, zt0, zt1, zt2, zt3, zt4, zt5, zt6, zt7, zt8, zt9, zt10, zt11, zt12, zt13, zt14, zt15, zt16, zt17, zt18, zt19, zt20, zt21, zt22, zt23, zt24, zt25, zt26, zt30, zt31, zt32, zt33, zt34, zt35, zt36, zt37, zt38, zt39, zt40, zt41, zt42, zt43, zt44, zt45, zt47, zt48, zt57, zt59, zt60, zt61, zt62, zt80, zt91, zt93, zt97, zt99, zt100, zt107, zt110, zt120, zt122, zt128, zt149, zt160, zt208, zt240, zt251, zt255, zt256, zt500, zt936, zt999, zt1600, zt1800, zt2048, zt3200, zt4160, zt9999, zt12345, zt1000000, zt1048576, zt100000000, zu1, zu2, zu3, zu4, zu5, zu6, zu7, zu8, zu9, zu10, zu11, zu12, zu13, zu14, zu15, zu16, zu17, zu18, zu19, zu20, zu1000000000, if_pos, if_neg, gz_0, gz_1, Option.bind_some, if_true, if_false]
  · by_cases g0 : g = 0
    · subst g0
      refine ⟨-1, I, R, J, M, ?_, ?_, h.up.rel⟩ <;> simp (disch := omega) only [↓zm1, ↓zm2, ↓zm3, ↓zm4, ↓zm5, ↓zm6, ↓zm7, ↓zm8, ↓zm9, ↓zm10, ↓zm11, ↓zm12, ↓zm13, ↓zm14, ↓zm15, ↓zm16, ↓zm17, ↓zm18, ↓zm19, ↓zm20, ↓zm1000000000, zq0, zq1, zq2, zq3, zq4, zq5, zq6, zq7, zq8, zq9, zq10, zq11, zq12, zq13, zq14, zq15, zq16, zq17, zq18, zq19, zq20, zq21, zq22, zq23, zq24, zq25, zq26, zq30, zq31, zq32, zq33, zq34, zq35, zq36, zq37, zq38, zq39, zq40, zq41, zq42, zq43, zq44, zq45, zq47, zq48, zq57, zq59, zq60, zq61, zq62, zq80, zq91, zq93, zq97, zq99, zq100, zq107, zq110, zq120, zq122, zq128, zq149, zq160, zq208, zq240, zq251, zq255, zq256, zq500, zq936, zq999, zq1600, zq1800, zq2048, zq3200, zq4160, zq9999, zq12345, zq1000000, zq1048576, zq100000000, bnd, jnt, zg_ok, gz_0, gz_1, gz_n0, gz_n1, zs_eq, zs_ne, zs_same, zs_other, zA_eq, zA_ne, Option.bind_some, Option.bind_none, nI_add, pk_mul, nI_clamp, nI_leI, nI_ltI, nI_eq, pk_sub, nI_mI, nI_eq_mI, mI_eq_nI, nI_lt_m, ldI_ok, inb_ok, if_pos, if_neg, dv_ok, rem_ok, div_ok, if_true, if_false]
    · obtain ⟨I1, J1, q1, q2, q3, q4, q5, q6, q7, q8⟩ := ahead_R (fu := FU) h FU_big.1
      have e58 : I1 58 1 = nI m := by
        have : I 49 1 = I1 58 1 := q7.1
        rw [← this]; exact em1
      obtain ⟨W, I2, J2, M2, ew, a1, a2, a3, a4, a5, a6, a7, a8, a9⟩ := pass_L (M := M) q3 FU_big.1 (d := 0) (by decide) hm e58
      have a1' : f_X9_passNight FU I1 (sR R 58 0 (R 49 0)) 58 0 = _ := a1
      have a2' : f_X12_passes FU J1 M 1 0 = _ := a2
      have hx : SX t I I2 := SX.trans q4 (fun x hx => a3 x (by omega))
      have hsm : SM J J2 := SM.trans q5 (a4.SM (by decide))
      have e16 : I2 1 16 = nI r := by rw [hx 1 (by omega)]; exact r2
      have e66 : J2 100 66 = nI r := by rw [hsm.1 66 (by decide)]; exact r3
      have hL2 : ∀ k, k < r → ∃ l, l < 8 ∧ I2 3 k = nI l := fun k hk => by
        obtain ⟨⟨l, hl, el⟩, _⟩ := r4 k hk
        exact ⟨l, by omega, by rw [hx 3 (by omega)]; exact el⟩
      have hJ3 : ∀ k, k < r → I2 3 k = J2 144 k ∧ I2 4 k = J2 145 k := fun k hk => by
        obtain ⟨_, z1, _, z2⟩ := r4 k hk
        rw [hx 3 (by omega), hx 4 (by omega), hsm.2.1 144 (by decide), hsm.2.1 145 (by decide)]
        exact ⟨z1, z2⟩
      have hβ : ∀ l, l < 8 → ∃ x, x ≤ 999 ∧ I2 59 l = nI x := fun l hl => by
        obtain ⟨x, hx, ex⟩ := q3.2.2.2.2.1.1 l hl
        have := a8 1 l (by omega) (by omega)
        have q : I2 59 l = _ := this
        rw [q]
        unfold ntS
        rw [if_pos rfl, ex, nI_clamp (by omega)]
        split
        · exact ⟨_, by omega, rfl⟩
        · exact ⟨x, hx, rfl⟩
      have hJ8 : ∀ l, l < 8 → J2 128 (8 + l) = I2 59 l := fun l hl => by
        have := a9 1 l (by omega) (by omega) hl (Or.inl rfl)
        have q : I2 59 l = J2 128 (8 * 1 + l) := this
        rw [q, Nat.mul_one]
      have s1 : f_X11_stoodIfTaken FU I2 (-1) 0 = _ := asStood_C (fu := FU) (I := I2) (x := -1) (y := 0) (β := fun l => I2 59 l) r1 e16 hL2 FU_big.2 (fun l hl => by
        rw [if_neg]
        intro q
        exact (nI_eq_mI (a := l) (b := 1) (by omega) (by decide)).mp q)
      have s2 := asStood_M (fu := FU) (J := J2) r1 e66 (fun k hk => by rw [← (hJ3 k hk).1]; exact hL2 k hk) FU_big.2
      have hall : allB (fun k => decide (lv J2 1 1 (J2 144 k).toNatClampNeg = J2 145 k)) r = allB (fun k => decide (I2 59 (I2 3 k).toNatClampNeg = I2 4 k)) r := allB_congr (fun k hk => by
        obtain ⟨l, hl, el⟩ := hL2 k hk
        rw [← (hJ3 k hk).1, ← (hJ3 k hk).2, el, nI_clamp (by omega)]
        have q : lv J2 1 1 l = J2 128 (8 * 1 + l) := rfl
        rw [q, Nat.mul_one, hJ8 l hl])
      rw [hall] at s2
      have ev : vw I2 t = vw I1 t := vw_congr (fun a ha => a3 _ (by omega))
      have et : I2 t = I1 t := a3 t (by omega)
      have hC2 : CL I2 (sR R 58 0 (R 49 0)) 58 t nh no nl := by
        obtain ⟨h0, h1, h2, h3, h4, h5, h6, h7, h8, h9⟩ := q3.1
        exact ⟨h0, h1, h2, h3, by rw [et]; exact h4, by rw [et]; exact h5, by rw [et]; exact h6, h7, h8, h9⟩
      have hM2 : ML J2 b nh no nl (vw I2 t) := by
        rw [ev]
        exact ML_congr (by rw [a4.1 100 (by decide)]) (fun x q1 q2 => a4.1 x (by omega)) q3.2.2.1
      have hloop := fun x => robbed_loop (fu := FU) (g := g) FU_big.2 hC2 hM2 r1 (by omega) hβ hL2 e16 (by rw [q6.1]; exact h1) hJ8 hJ3 e66 nl FU 0 J2 x (by omega) (by have := FU_big.2; omega) (fun _ _ => rfl) (fun _ => rfl)
      have k1 : ¬ nI g < 1 := Int32.not_lt.mpr (nI_le (a := 1) (by omega) (by omega))
      have k2 : nI g ≤ 999 := nI_le (b := 999) (by omega) (by decide)
      have k3 : ¬ 999 < nI g := Int32.not_lt.mpr k2
      simp only [if_neg k1, if_pos k2, if_neg k3, gz_1, Option.bind_some, if_neg n3, q1, q2, a1', a2', s1, s2, jnt]
      have fin : ∀ x : Int32, ∃ w, ((f_X11_robbed_L60 FU FU I2 (sR R 58 0 (R 49 0)) (nI g) x 0).bind fun x16 => some (x16, I2, sR R 58 0 (R 49 0))) = some (w, I2, sR R 58 0 (R 49 0)) ∧ ((f_X12_robbed_L50 FU FU J2 (nI g) x 0).bind fun x24 => some (x24.1, x24.2, M2)) = some (w, J2, M2) := by
        intro x
        obtain ⟨w, K, g1, g2, g3, g4⟩ := hloop x
        have eK : K = J2 := by
          funext y j
          by_cases c : y = 128
          · subst c; exact g4 j
          · rw [g3 y c]
        have g1' : f_X11_robbed_L60 FU FU I2 (sR R 58 0 (R 49 0)) (nI g) x 0 = _ := g1
        have g2' : f_X12_robbed_L50 FU FU J2 (nI g) x 0 = _ := g2
        exact ⟨w, by rw [g1']; rfl, by rw [g2', eK]; rfl⟩
      by_cases ca : allB (fun k => decide (I2 59 (I2 3 k).toNatClampNeg = I2 4 k)) r = true
      · obtain ⟨w, f1, f2⟩ := fin 256
        refine ⟨w, I2, sR R 58 0 (R 49 0), J2, M2, ?_, ?_, (Rel_same h (by omega) hx q6 hsm a5.SL).rel⟩
        · simp only [if_pos ca, if_neg n3]
          exact f1
        · simp only [if_pos ca, if_neg n3]
          exact f2
      · obtain ⟨w, f1, f2⟩ := fin 0
        refine ⟨w, I2, sR R 58 0 (R 49 0), J2, M2, ?_, ?_, (Rel_same h (by omega) hx q6 hsm a5.SL).rel⟩
        · simp only [if_neg ca, if_true]
          exact f1
        · simp only [if_neg ca, if_true]
          exact f2
theorem loopFlag (L : Nat → Int32 → Int32 → Option Int32) (p : Nat → Bool) (N fu : Nat) (h0 : ∀ n i, i ≤ N → L (n + 1) 0 (nI i) = some 0)
    (hs : ∀ n i, i < N → L (n + 1) 1 (nI i) = L n (if p i = true then 1 else 0) (nI (i + 1)))
    (he : ∀ n, L (n + 1) 1 (nI N) = some 1) (hf : N + 1 < fu) : L fu 1 (nI 0) = some (if allB p N = true then 1 else 0) := by
  have key : ∀ k i m, i + k = N → k + 1 < m → (∀ j, j < i → p j = true) → L m 1 (nI i) = some (if allB p N = true then 1 else 0) := by
    intro k
    induction k with
    | zero =>
      intro i m h1 h2 h3
      obtain ⟨m, rfl⟩ : ∃ q, m = q + 1 := ⟨m - 1, by omega⟩
      have : i = N := by omega
      subst this
      rw [he, if_pos ((allB_iff i).mpr h3)]
    | succ k ih =>
      intro i m h1 h2 h3
      obtain ⟨m, rfl⟩ : ∃ q, m = q + 1 := ⟨m - 1, by omega⟩
      rw [hs m i (by omega)]
      cases hp : p i with
      | true =>
        rw [if_pos rfl]
        refine ih (i + 1) m (by omega) (by omega) (fun j hj => ?_)
        by_cases c : j = i
        · subst c; exact hp
        · exact h3 j (by omega)
      | false =>
        obtain ⟨m, rfl⟩ : ∃ q, m = q + 1 := ⟨m - 1, by omega⟩
        rw [if_neg (by decide), h0 m (i + 1) (by omega), if_neg]
        intro q
        rw [(allB_iff N).mp q i (by omega)] at hp
        cases hp
  exact key N 0 fu (by omega) hf (fun j hj => absurd hj (by omega))
theorem two_M {J : HI} {k x y : Nat} (hk : k + 1 < 1800) (hx : J 101 k = nI x) (hy : J 101 (k + 1) = nI y) (x1 : x < 256) (y1 : y < 256) : f_X12_twoBytes J (nI k) = some (nI (x * 256 + y)) := by
  have e : nI x <<< (nI 8 &&& nI 31) = nI (x * 2 ^ 8) := pk_shlN (nI 8 &&& nI 31) 8 (by decide) (by omega)
  have e2 : x * 2 ^ 8 ||| y = x * 256 + y := by
    have := Nat.two_pow_add_eq_or_of_lt (i := 8) (b := y) y1 x
    rw [Nat.mul_comm x, ← this]
  unfold f_X12_twoBytes
  simp (disch := omega) only [zq1, zq8, zq31, nI_add, ldI_ok, hx, hy]
  rw [e, or_ok, e2]
