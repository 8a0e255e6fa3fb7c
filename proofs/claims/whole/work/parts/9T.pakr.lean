/-! pack: the reference's tables -/
section
variable {J : HI} {b nh no nl fu : Nat} {D : HI}
theorem hasAll1_M (hM : ML J b nh no nl D) (hB : BW (lv J 0)) (hf : 8 < fu) {s : Nat} (hs : s < 256) {W : HI} (hW : ∀ x, x ≠ 140 → W x = J x) (h0 : W 140 s = nI 0) : ∃ K, f_X12_pack_L48 fu W (nI s) 0 = some K ∧ (∀ x, x ≠ 140 → K x = J x) ∧ (∀ k, k ≠ s → K 140 k = W 140 k) ∧ K 140 s = nI (WS (fun l => (lv J 0 1 l).toNatClampNeg) nl s) := by
  obtain ⟨⟨m0, m1⟩, m2, m3, m4, m5, m6, m7, m8, m9, m10⟩ := id hM
  refine loopP (fun n (a : HI) i => f_X12_pack_L48 n a (nI s) i) (fun i K => (∀ x, x ≠ 140 → K x = J x) ∧ (∀ k, k ≠ s → K 140 k = W 140 k) ∧ K 140 s = nI (WS (fun l => (lv J 0 1 l).toNatClampNeg) i s)) (fun K => (∀ x, x ≠ 140 → K x = J x) ∧ (∀ k, k ≠ s → K 140 k = W 140 k) ∧ K 140 s = nI (WS (fun l => (lv J 0 1 l).toNatClampNeg) nl s)) nl fu W ⟨hW, fun _ _ => rfl, h0⟩ ?_ ?_ (by omega)
  · intro n i K hi ha
    obtain ⟨a1, a2, a3⟩ := ha
    have e0 : K 100 13 = nI b := by rw [a1 100 (by decide)]; exact m0
    have e6 : K 106 b = nI nl := by rw [a1 106 (by decide)]; exact m4
    have hb := has2_ok (x := s) (i := i) (by omega) (by omega)
    obtain ⟨y, y1, y2⟩ := hB.1 i (by omega)
    have hq : f_X12_fill K 0 (nI i) = some (nI y) := by
      have := fill_M (J := K) (v := 0) (l := i) (by decide) (by omega)
      rw [show lv K 0 1 i = lv J 0 1 i from by show K 128 _ = J 128 _; rw [a1 128 (by decide)], y2] at this
      exact this
    have ey : (lv J 0 1 i).toNatClampNeg = y := by rw [y2, nI_clamp (by omega)]
    have es : WS (fun l => (lv J 0 1 l).toNatClampNeg) (i + 1) s = WS (fun l => (lv J 0 1 l).toNatClampNeg) i s + (if s.testBit i = true then y else 0) := by
      rw [← ey]
      rfl
    have n3 : ¬ (1 : Int32) = 0 := by decide
    have c1 : ¬ nI nl ≤ nI i := nI_ge hi (by omega)
    have A1 : nI i + 1 = nI (i + 1) := nI_1 i
    refine ⟨sI K 140 s (nI (WS (fun l => (lv J 0 1 l).toNatClampNeg) (i + 1) s)), ?_, fun x hx => by rw [zs_ne hx]; exact a1 x hx, fun k hk => by rw [zs_eq, zs_other hk]; exact a2 k hk, by rw [zs_eq, zs_same]⟩
    rw [es]
    by_cases c : s.testBit i = true
    · rw [if_pos c] at hb
      rw [if_pos c]
      simp (disch := omega) only [f_X12_pack_L48, e0, ldI_ok, e6, if_neg c1, a3, hb, Option.bind_some, jnt, if_neg n3, hq, inb_ok, bnd, nI_clamp, nI_add, A1]
    · rw [if_neg c] at hb
      rw [if_neg c]
      have z0 : nI (WS (fun l => (lv J 0 1 l).toNatClampNeg) i s) + 0 = nI (WS (fun l => (lv J 0 1 l).toNatClampNeg) i s) := Int32.add_zero _
      simp (disch := omega) only [f_X12_pack_L48, e0, ldI_ok, e6, if_neg c1, a3, hb, Option.bind_some, jnt, if_true, inb_ok, bnd, nI_clamp, z0, A1, Nat.add_zero]
  · intro n K ha
    have e0 : K 100 13 = nI b := by rw [ha.1 100 (by decide)]; exact m0
    have e6 : K 106 b = nI nl := by rw [ha.1 106 (by decide)]; exact m4
    have c1 : nI nl ≤ nI nl := Int32.le_refl _
    refine ⟨K, ?_, ha⟩
    simp (disch := omega) only [f_X12_pack_L48, e0, ldI_ok, e6, if_pos c1]
theorem hasAll_M' (hM : ML J b nh no nl D) (hB : BW (lv J 0)) (hf : 1600 < fu) : ∃ K, f_X12_pack_L29 fu fu J 0 = some K ∧ (∀ x, x ≠ 140 → K x = J x) ∧ ∀ s, s < 256 → K 140 s = nI (WS (fun l => (lv J 0 1 l).toNatClampNeg) nl s) := by
  refine loopP (fun n (a : HI) i => f_X12_pack_L29 fu n a i) (fun i K => (∀ x, x ≠ 140 → K x = J x) ∧ ∀ s, s < i → K 140 s = nI (WS (fun l => (lv J 0 1 l).toNatClampNeg) nl s)) (fun K => (∀ x, x ≠ 140 → K x = J x) ∧ ∀ s, s < 256 → K 140 s = nI (WS (fun l => (lv J 0 1 l).toNatClampNeg) nl s)) 256 fu J ⟨fun _ _ => rfl, fun s hs => absurd hs (by omega)⟩ ?_ ?_ (by omega)
  · intro n i K hi ha
    obtain ⟨a1, a2⟩ := ha
    obtain ⟨K', b1, b2, b3, b4⟩ := hasAll1_M (fu := fu) hM hB (by omega) (s := i) hi (W := sI K 140 i (nI 0)) (fun x hx => by rw [zs_ne hx]; exact a1 x hx) (by rw [zs_eq, zs_same])
    have b1' : f_X12_pack_L48 fu (sI K 140 i 0) (nI i) 0 = some K' := b1
    have c1 : ¬ (256 : Int32) ≤ nI i := nI_ge (b := 256) hi (by decide)
    have A1 : nI i + 1 = nI (i + 1) := nI_1 i
    refine ⟨K', ?_, b2, fun s hs => ?_⟩
    · simp (disch := omega) only [f_X12_pack_L29, if_neg c1, inb_ok, bnd, nI_clamp, b1', Option.bind_some, A1]
    · by_cases c : s = i
      · subst c; exact b4
      · rw [b3 s c, zs_eq, zs_other c]
        exact a2 s (by omega)
  · intro n K ha
    have c1 : (256 : Int32) ≤ nI 256 := by decide
    refine ⟨K, ?_, ha⟩
    simp only [f_X12_pack_L29, if_pos c1]
theorem lowest_M {H : Nat} (hH : 0 < H ∧ H < 256) (hf : 8 < fu) : ∃ l, l < 8 ∧ f_X12_lowest fu (nI H) = some (nI l) ∧ H.testBit l = true ∧ ∀ j, j < l → ¬ H.testBit j = true := by
  obtain ⟨l, l1, l2, l3⟩ := ex_first (fun j => H.testBit j = true) 8
  have hl : l < 8 := by
    rcases Nat.lt_or_ge l 8 with q | q
    · exact q
    · exfalso
      have : H = 0 := eq_of_bits (fun k => ⟨fun hk => absurd hk (l2 k (by have := sb_lt (c := 8) hH.2 hk; omega)), fun hk => by rw [Nat.zero_testBit] at hk; cases hk⟩)
      omega
  refine ⟨l, hl, ?_, l3 hl, l2⟩
  have key : ∀ k i n, i + k = l → k < n → f_X12_lowest_L2 n (nI H) (nI i) = some (nI l) := by
    intro k
    induction k with
    | zero =>
      intro i n e1 e2
      obtain ⟨n, rfl⟩ : ∃ z, n = z + 1 := ⟨n - 1, by omega⟩
      have : i = l := by omega
      subst this
      have hb := has2_ok (x := H) (i := i) (by omega) (by omega)
      rw [if_pos (l3 hl)] at hb
      have n3 : ¬ (1 : Int32) = 0 := by decide
      simp only [f_X12_lowest_L2, hb, Option.bind_some, if_neg n3]
    | succ k ih =>
      intro i n e1 e2
      obtain ⟨n, rfl⟩ : ∃ z, n = z + 1 := ⟨n - 1, by omega⟩
      have hb := has2_ok (x := H) (i := i) (by omega) (by omega)
      rw [if_neg (l2 i (by omega))] at hb
      have A1 : nI i + 1 = nI (i + 1) := nI_1 i
      rw [← ih (i + 1) n (by omega) (by omega)]
      simp only [f_X12_lowest_L2, hb, Option.bind_some, if_true, A1]
  unfold f_X12_lowest
  rw [show (0 : Int32) = nI 0 from rfl, key l 0 fu (by omega) (by omega)]
  rfl
end
