/-- the best of the sets of hollows seen so far -/
def bstM (F r : Nat → Nat) (his N : Nat) (B : Int32) : Prop := (B = -1 ∧ ∀ H, H < N → ¬ AS F r H his) ∨ ∃ x, x < N ∧ B = nI x ∧ AS F r x his ∧ ∀ H, H < N → AS F r H his → cst x ≤ cst H
/-- the reference's sets of hollows, one after another: the fewest, of those the first -/
theorem hsets_M {J : HI} {b nh no nl fu his : Nat} {D : HI} {F r rm0 : Nat → Nat} (hM : ML J b nh no nl D) (hB : BW (lv J 0)) (hf : 1600 < fu) (hh : his < 256) (hF : ∀ s, s < 256 → J 140 s = nI (F s) ∧ F s ≤ 99999) (hF0 : F 0 = 0) (hr0 : ∀ h, h < nh → rmI D (lv J 0) h nl = nI (rm0 h) ∧ r h = rm0 h + smN (fun l => if his.testBit l = true ∧ lv J 0 2 l = nI h then (lv J 0 1 l).toNatClampNeg else 0) nl ∧ r h ≤ 99999) :
    ∀ (q H n : Nat) (K : HI) (B : Int32), H + q = 2 ^ nh → q < n → (∀ x, x ≠ 139 → K x = J x) → (∀ H', H' < H → ∀ x, x < 256 → sb x his → (¬ K 139 (256 * H' + x) = 0 ↔ AS F r H' x)) → bstM F r his H B →
    ∃ B' K', f_X12_pack_L111 fu n K (nI his) B (nI H) = some (B', K') ∧ (∀ x, x ≠ 139 → K' x = J x) ∧ bstM F r his (2 ^ nh) B' := by
  have n3 : ¬ (1 : Int32) = 0 := by decide
  obtain ⟨⟨m0, m1⟩, m2, m3, m4, m5, m6, m7, m8, m9, m10⟩ := id hM
  have hp8 : 2 ^ nh ≤ 2 ^ 8 := Nat.pow_le_pow_right (by decide) m5
  have esh : (1 : Int32) <<< (nI nh &&& 31) = nI (2 ^ nh) := by rw [zq1, zq31, sh_ok (by omega)]
  intro q
  induction q with
  | zero =>
    intro H n K B e1 e2 k1 k2 hb
    obtain ⟨n, rfl⟩ : ∃ z, n = z + 1 := ⟨n - 1, by omega⟩
    have eH : H = 2 ^ nh := by omega
    subst eH
    have e0 : K 100 13 = nI b := by rw [k1 100 (by decide)]; exact m0
    have e2' : K 102 b = nI nh := by rw [k1 102 (by decide)]; exact m2
    have c1 : nI (2 ^ nh) ≤ nI (2 ^ nh) := Int32.le_refl _
    refine ⟨B, K, ?_, k1, hb⟩
    simp (disch := omega) only [f_X12_pack_L111, e0, ldI_ok, e2', esh, if_pos c1]
  | succ q ih =>
    intro H n K B e1 e2 k1 k2 hb
    obtain ⟨n, rfl⟩ : ∃ z, n = z + 1 := ⟨n - 1, by omega⟩
    have hH : H < 256 := by omega
    have e0 : K 100 13 = nI b := by rw [k1 100 (by decide)]; exact m0
    have e2' : K 102 b = nI nh := by rw [k1 102 (by decide)]; exact m2
    have e6 : K 106 b = nI nl := by rw [k1 106 (by decide)]; exact m4
    have c1 : ¬ nI (2 ^ nh) ≤ nI H := nI_ge (by omega) (by omega)
    have hMK : ML K b nh no nl D := ML_congr (by rw [k1 100 (by decide)]) (fun x x1 x2 => k1 x (by omega)) hM
    have elv : lv K 0 = lv J 0 := by
      funext a k
      unfold lv
      rw [k1 127 (by decide), k1 128 (by decide), k1 129 (by decide), k1 130 (by decide), k1 131 (by decide)]
    have eix : 256 * nI H + nI his = nI (256 * H + his) := by rw [zq256, pk_mul, nI_add]
    have A1 : nI H + 1 = nI (H + 1) := nI_1 H
    have hFK : ∀ s, s < 256 → K 140 s = nI (F s) ∧ F s ≤ 99999 := fun s hs => by rw [k1 140 (by decide)]; exact hF s hs
    obtain ⟨F1, hF1⟩ : ∃ F1, fu = F1 + 1 := ⟨fu - 1, by omega⟩
    have key : ∃ sp l, sp ≤ 99999 ∧ (0 < H → l < 8 ∧ H.testBit l = true ∧ (∀ j, j < l → ¬ H.testBit j = true) ∧ sp = r l) ∧ ∀ K', f_X12_pack_L229 fu fu K (nI his) (nI H) (nI sp) 0 = some K' → f_X12_pack_L111 fu (n + 1) K (nI his) B (nI H) = ldI (K' 139) 65536 (nI (256 * H + his)) (fun v60 => if v60 = 0 then f_X12_pack_L111 fu n K' (nI his) B (nI (H + 1)) else if B = -1 then f_X12_pack_L111 fu n K' (nI his) (nI H) (nI (H + 1)) else (f_X12_bits fu (nI H)).bind fun x63 => (f_X12_bits fu B).bind fun x64 => if x64 ≤ x63 then f_X12_pack_L111 fu n K' (nI his) B (nI (H + 1)) else f_X12_pack_L111 fu n K' (nI his) (nI H) (nI (H + 1))) := by
      by_cases c0 : H = 0
      · have c0' : nI H = 0 := by rw [c0]; rfl
        refine ⟨0, 0, by omega, fun w => absurd w (by omega), fun K' hK' => ?_⟩
        have hsp : f_X12_pack_L164 fu K (nI his) (nI H) 0 0 0 = some 0 := by
          rw [hF1, c0']
          have z0 : (0 : Int32) ≤ 0 := by decide
          simp (disch := omega) only [f_X12_pack_L164, e0, ldI_ok, e6, if_pos z0, ite_self]
        have hK'' : f_X12_pack_L229 fu fu K (nI his) (nI H) 0 0 = some K' := hK'
        simp (disch := omega) only [f_X12_pack_L111, e0, ldI_ok, e2', esh, if_neg c1, jnt, if_pos c0', hsp, Option.bind_some, hK'', eix, A1]
      · have c0' : ¬ nI H = 0 := nI_ne0 (by omega) (by omega)
        obtain ⟨l, l1, l2, l3, l4⟩ := lowest_M (fu := fu) (H := H) ⟨by omega, hH⟩ (by omega)
        have hl : l < nh := by
          have w := Nat.ge_two_pow_of_testBit l3
          rcases Nat.lt_or_ge l nh with z | z
          · exact z
          · have : 2 ^ nh ≤ 2 ^ l := Nat.pow_le_pow_right (by decide) z
            omega
        obtain ⟨r1, r2, r3⟩ := hr0 l hl
        have hrm : f_X12_room fu K 0 (nI l) = some (nI (rm0 l)) := by
          have := room_M (J := K) (v := 0) (fu := fu) hMK (by omega) (by decide) (x := l) hl
          rw [elv, r1] at this
          exact this
        have hsp := space_M (J := K) (fu := fu) (his := his) (H := H) (h := l) (sp0 := rm0 l) hMK (by rw [elv]; exact hB) (by omega) hh ⟨by omega, hH⟩
        rw [elv, ← r2] at hsp
        refine ⟨r l, l, r3, fun _ => ⟨l1, l3, l4, rfl⟩, fun K' hK' => ?_⟩
        simp (disch := omega) only [f_X12_pack_L111, e0, ldI_ok, e2', esh, if_neg c1, jnt, if_neg c0', l2, hrm, hsp, Option.bind_some, hK', eix, A1]
    obtain ⟨sp, l, sp1, sp2, sp3⟩ := key
    obtain ⟨K', a1, a2, a3, a4⟩ := rows_M (J := K) (fu := fu) (his := his) (H := H) (sp := sp) (F := F) hf hh hH sp1 hFK 256 0 fu K (by omega) (by omega) (fun _ _ => rfl) (fun _ _ => rfl) (fun l hl => absurd hl (by omega))
    have a1' : f_X12_pack_L229 fu fu K (nI his) (nI H) (nI sp) 0 = some K' := a1
    have hrow : ∀ L, L < 256 → sb L his → (rowV (K 139) F his H sp L ↔ AS F r H L) := fun L hL hs => by
      have e := row_as (T := K 139) (F := F) (r := r) (his := his) (H := H) (l := l) (L := L) hF0 hH hL hs (fun w => ⟨(sp2 w).1, (sp2 w).2.1, (sp2 w).2.2.1⟩) (fun w x hx hxs => by
        have : H &&& (H - 1) ≤ H - 1 := Nat.and_le_right
        exact k2 _ (by omega) x hx hxs)
      rw [← e]
      rcases Nat.eq_zero_or_pos H with w | w
      · constructor
        · rintro (z | ⟨z, _⟩)
          · exact Or.inl z
          · omega
        · rintro (z | ⟨z, _⟩)
          · exact Or.inl z
          · omega
      · rw [(sp2 w).2.2.2]
    have hT : ∀ H', H' < H + 1 → ∀ x, x < 256 → sb x his → (¬ K' 139 (256 * H' + x) = 0 ↔ AS F r H' x) := fun H' hH' x hx hs => by
      by_cases c : H' = H
      · subst c
        rw [← hrow x hx hs]
        rcases a4 x hx with ⟨z1, z2⟩ | ⟨z1, z2⟩
        · rw [z1]
          exact ⟨fun _ => z2, fun _ => n3⟩
        · rw [z1]
          exact ⟨fun w => absurd rfl w, fun w => absurd w z2⟩
      · rw [a3 _ (by omega)]
        exact k2 H' (by omega) x hx hs
    have hk1 : ∀ x, x ≠ 139 → K' x = J x := fun x hx => (a2 x hx).trans (k1 x hx)
    have hlast := hT H (by omega) his hh sb_refl
    have hld : ∀ k : Int32 → Option (Int32 × HI), ldI (K' 139) 65536 (nI (256 * H + his)) k = k (K' 139 (256 * H + his)) := fun k => by rw [ldI_ok (by omega)]
    have go : ∀ B2, bstM F r his (H + 1) B2 → f_X12_pack_L111 fu (n + 1) K (nI his) B (nI H) = f_X12_pack_L111 fu n K' (nI his) B2 (nI (H + 1)) → ∃ B' K', f_X12_pack_L111 fu (n + 1) K (nI his) B (nI H) = some (B', K') ∧ (∀ x, x ≠ 139 → K' x = J x) ∧ bstM F r his (2 ^ nh) B' := fun B2 hB2 he => by
      rw [he]
      exact ih (H + 1) n K' B2 (by omega) (by omega) hk1 hT hB2
    have st := sp3 K' a1'
    rw [hld] at st
    by_cases cv : K' 139 (256 * H + his) = 0
    · refine go B ?_ (by rw [st, if_pos cv])
      have hno : ¬ AS F r H his := fun w => (hlast.mpr w) cv
      rcases hb with ⟨b1, b2⟩ | ⟨x, b1, b2, b3, b4⟩
      · refine Or.inl ⟨b1, fun H' hH' w => ?_⟩
        by_cases c : H' = H
        · subst c; exact hno w
        · exact b2 H' (by omega) w
      · refine Or.inr ⟨x, by omega, b2, b3, fun H' hH' w => ?_⟩
        by_cases c : H' = H
        · subst c; exact absurd w hno
        · exact b4 H' (by omega) w
    · have hyes : AS F r H his := hlast.mp cv
      rcases hb with ⟨b1, b2⟩ | ⟨x, b1, b2, b3, b4⟩
      · refine go (nI H) (Or.inr ⟨H, by omega, rfl, hyes, fun H' hH' w => ?_⟩) (by rw [st, if_neg cv, if_pos b1])
        by_cases c : H' = H
        · subst c; exact Nat.le_refl _
        · exact absurd w (b2 H' (by omega))
      · have hB1 : ¬ B = -1 := fun w => (nI_eq_mI (a := x) (b := 1) (by omega) (by decide)).mp (b2.symm.trans w)
        have bH := bits_M (u := H) (fu := fu) hH (by omega)
        have bx := bits_M (u := x) (fu := fu) (by omega) (by omega)
        have p1 := pc_le (s := H)
        have p2 := pc_le (s := x)
        by_cases cp : pc x ≤ pc H
        · have cp' : nI (pc x) ≤ nI (pc H) := nI_le (by omega) (by omega)
          refine go B (Or.inr ⟨x, by omega, b2, b3, fun H' hH' w => ?_⟩) (by rw [st, if_neg cv, if_neg hB1, bH, b2, bx, Option.bind_some, Option.bind_some, if_pos cp'])
          by_cases c : H' = H
          · subst c
            unfold cst
            omega
          · exact b4 H' (by omega) w
        · have cp' : ¬ nI (pc x) ≤ nI (pc H) := nI_ge (by omega) (by omega)
          refine go (nI H) (Or.inr ⟨H, by omega, rfl, hyes, fun H' hH' w => ?_⟩) (by rw [st, if_neg cv, if_neg hB1, bH, b2, bx, Option.bind_some, Option.bind_some, if_neg cp'])
          by_cases c : H' = H
          · subst c; exact Nat.le_refl _
          · have := b4 H' (by omega) w
            unfold cst at this ⊢
            omega
