/-! share: the reference's ways -/
theorem sub1 (a : Nat) : nI a - 1 = nI a + -1 := by
  cases a with
  | zero => decide
  | succ a => rw [zm1, zq1, pk_sub (by omega), nI_mI (by omega)]
theorem dec1 (a : Nat) : nI (a + 1) + -1 = nI a := by
  rw [zm1, nI_mI (by omega), Nat.add_sub_cancel]
theorem dg_mod {h a x : Nat} (hh : h = 2 ∨ h = 3) (hx : x < h) : (a * h + x) % h = x ∧ (a * h + x) / h = a := by
  rcases hh with rfl | rfl
  · constructor <;> omega
  · constructor <;> omega
theorem pow9 {h k : Nat} (hh : h = 2 ∨ h = 3) (hk : k ≤ 8) : h ^ k ≤ 6561 := by
  have h1 : h ^ k ≤ 3 ^ k := Nat.pow_le_pow_left (by omega) k
  have h2 : 3 ^ k ≤ 3 ^ 8 := Nat.pow_le_pow_right (by decide) hk
  have h3 : 3 ^ 8 = 6561 := by decide
  omega
theorem vl9 {h k : Nat} {d : Nat → Nat} (hh : h = 2 ∨ h = 3) (hk : k ≤ 8) (hd : okD h k d) : vl h d k < 6561 := Nat.lt_of_lt_of_le (vl_lt k hd) (pow9 hh hk)
theorem zero3_M {fu : Nat} (hf : 8 < fu) (K : HI) : ∃ K', f_X12_apart_L3 fu K 0 = some K' ∧ (∀ x, x ≠ 142 → K' x = K x) ∧ ∀ j, j < 3 → K' 142 j = nI 0 := by
  refine loopP (fun n (a : HI) i => f_X12_apart_L3 n a i) (fun i a => (∀ x, x ≠ 142 → a x = K x) ∧ ∀ j, j < i → a 142 j = nI 0) (fun a => (∀ x, x ≠ 142 → a x = K x) ∧ ∀ j, j < 3 → a 142 j = nI 0) 3 fu K ⟨fun _ _ => rfl, fun j hj => absurd hj (by omega)⟩ ?_ ?_ (by omega)
  · intro n i a hi ha
    have c1 : ¬ (3 : Int32) ≤ nI i := nI_ge (b := 3) hi (by decide)
    have A1 : nI i + 1 = nI (i + 1) := nI_1 i
    refine ⟨sI a 142 i 0, ?_, fun x hx => by rw [zs_ne hx]; exact ha.1 x hx, fun j hj => ?_⟩
    · simp (disch := omega) only [f_X12_apart_L3, if_neg c1, inb_ok, bnd, nI_clamp, A1]
    · rw [zs_eq]
      by_cases cj : j = i
      · rw [cj, zs_same]
        rfl
      · rw [zs_other cj]
        exact ha.2 j (by omega)
  · intro n a ha
    have c1 : (3 : Int32) ≤ nI 3 := by decide
    refine ⟨a, ?_, ha⟩
    simp only [f_X12_apart_L3, if_pos c1]
section
variable {nl h c his : Nat} {P : Nat → Bool} {wo v d : Nat → Nat}
theorem digs_M (hn : nl ≤ 8) (hh : h = 2 ∨ h = 3) (hhis : his < 256) (hP : ∀ l, l < nl → (his.testBit l = true ↔ P l = true)) (hc : c = cnt P nl) (hd : okD h c d) (hv : v = fun k => wo (nth P k nl)) :
    ∀ (i n : Nat) (K : HI), i ≤ nl → i < n → (∀ l, l < nl → K 143 l = nI (wo l)) → (∀ j, j < 3 → ∃ x, K 142 j = nI x ∧ x + shr v d j (cnt P i) = shr v d j c) → ∃ K', f_X12_apart_L39 n K (nI his) (nI h) (nI (vl h d (cnt P i))) (nI i + -1) = some K' ∧ (∀ x, x ≠ 142 → K' x = K x) ∧ ∀ j, j < 3 → K' 142 j = nI (shr v d j c) := by
  intro i
  induction i with
  | zero =>
    intro n K _ e2 k1 k2
    obtain ⟨n, rfl⟩ : ∃ z, n = z + 1 := ⟨n - 1, by omega⟩
    have c1 : nI 0 + -1 < 0 := by decide
    refine ⟨K, ?_, fun _ _ => rfl, fun j hj => ?_⟩
    · simp only [f_X12_apart_L39, if_pos c1]
    · obtain ⟨x, x1, x2⟩ := k2 j hj
      have e0 : shr v d j (cnt P 0) = 0 := rfl
      have ex : x = shr v d j c := by omega
      rw [x1, ex]
  | succ i ih =>
    intro n K e1 e2 k1 k2
    obtain ⟨n, rfl⟩ : ∃ z, n = z + 1 := ⟨n - 1, by omega⟩
    have A : nI (i + 1) + -1 = nI i := dec1 i
    have c1 : ¬ nI i < 0 := nI_pos (by omega)
    have hb := has2_ok (x := his) (i := i) (by omega) (by omega)
    have n3 : ¬ (1 : Int32) = 0 := by decide
    by_cases cp : P i = true
    · rw [if_pos ((hP i (by omega)).mpr cp)] at hb
      rw [cnt_t cp] at k2 ⊢
      obtain ⟨k, hk⟩ : ∃ k, k = cnt P i := ⟨_, rfl⟩
      rw [← hk] at k2 ⊢
      have hkc : k < c := by
        have := cnt_mono (p := P) (show i + 1 ≤ nl by omega)
        rw [cnt_t cp, ← hc, ← hk] at this
        omega
      have hc8 : c ≤ 8 := by rw [hc]; exact Nat.le_trans (cnt_le nl) hn
      have hdk := hd k hkc
      have hvl := vl9 hh (show k + 1 ≤ 8 by omega) (hd.le (by omega))
      have evl : vl h d (k + 1) = vl h d k * h + d k := rfl
      obtain ⟨g1, g2⟩ := dg_mod (a := vl h d k) hh hdk
      rw [← evl] at g1 g2
      have dv : ∀ kk : Option HI, dvI (nI h) kk = kk := fun kk => dv_ok ⟨by omega, by omega⟩
      have er : nI (vl h d (k + 1)) - nI (vl h d (k + 1)) / nI h * nI h = nI (d k) := by rw [rem_ok ⟨by omega, by omega, by omega⟩, g1]
      have ed : nI (vl h d (k + 1)) / nI h = nI (vl h d k) := by rw [div_ok ⟨by omega, by omega, by omega⟩, g2]
      have er' : nI (vl h d (k + 1)) - nI (vl h d k) * nI h = nI (d k) := by
        rw [← ed]
        exact er
      have evk : v k = wo i := by
        rw [hv, hk]
        show wo (nth P (cnt P i) nl) = wo i
        rw [nth_1 (by omega) cp]
      obtain ⟨x, x1, x2⟩ := k2 (d k) (by omega)
      have l1 : ∀ kk : Int32 → Option HI, ldI (K 142) 3 (nI (d k)) kk = kk (nI x) := fun kk => by rw [ldI_ok (by omega), x1]
      have l2 : ∀ kk : Int32 → Option HI, ldI (K 143) 8 (nI i) kk = kk (nI (wo i)) := fun kk => by rw [ldI_ok (by omega), k1 i (by omega)]
      have n1 : ∀ kk : Option HI, inb 3 (nI (d k)) kk = kk := fun kk => by rw [inb_ok (by omega)]
      have t1 : (nI (d k)).toNatClampNeg = d k := nI_clamp (by omega)
      have ea : nI x + nI (wo i) = nI (x + wo i) := nI_add x (wo i)
      obtain ⟨K', a1, a2, a3⟩ := ih n (sI K 142 (d k) (nI (x + wo i))) (by omega) (by omega) (fun l hl => by rw [zs_ne (by decide)]; exact k1 l hl) (fun j hj => by
        rw [zs_eq, ← hk]
        by_cases cj : j = d k
        · refine ⟨x + wo i, by rw [cj, zs_same], ?_⟩
          rw [cj]
          rw [shr_1, if_pos rfl] at x2
          omega
        · obtain ⟨y, y1, y2⟩ := k2 j hj
          refine ⟨y, by rw [zs_other cj]; exact y1, ?_⟩
          rw [shr_1, if_neg (fun w => cj w.symm)] at y2
          omega)
      rw [← hk] at a1
      refine ⟨K', ?_, fun z hz => by rw [a2 z hz, zs_ne hz], a3⟩
      rw [← a1]
      simp only [f_X12_apart_L39, A, if_neg c1, hb, Option.bind_some, jnt, if_neg n3, dv, ed, er', l1, l2, n1, t1, ea, bnd]
    · rw [if_neg (fun w => cp ((hP i (by omega)).mp w))] at hb
      rw [cnt_f cp] at k2 ⊢
      obtain ⟨K', a1, a2, a3⟩ := ih n K (by omega) (by omega) k1 k2
      refine ⟨K', ?_, a2, a3⟩
      rw [← a1]
      simp only [f_X12_apart_L39, A, if_neg c1, hb, Option.bind_some, jnt, if_true]
end
theorem gaps_M {K : HI} {fu h : Nat} {s : Nat → Nat} (hf : 8 < fu) (hh : h = 2 ∨ h = 3) (hs : ∀ j, j < 3 → K 142 j = nI (s j)) (hs9 : ∀ j, s j ≤ 79992) : ∃ a z, f_X12_apart_L98 fu K (nI h) 0 100000000 0 = some (nI a, nI z) ∧ z ≤ a ∧ a - z = gpN h s := by
  have st : ∀ (n i a z : Nat), i < h → a ≤ 79992 → z ≤ 100000000 → f_X12_apart_L98 (n + 1) K (nI h) (nI a) (nI z) (nI i) = f_X12_apart_L98 n K (nI h) (nI (max a (s i))) (nI (min z (s i))) (nI (i + 1)) := fun n i a z hi ha hz => by
    have c1 : ¬ nI h ≤ nI i := nI_ge hi (by omega)
    have l1 : ∀ kk : Int32 → Option (Int32 × Int32), ldI (K 142) 3 (nI i) kk = kk (nI (s i)) := fun kk => by rw [ldI_ok (by omega), hs i (by omega)]
    have A1 : nI i + 1 = nI (i + 1) := nI_1 i
    have h9 := hs9 i
    by_cases c2 : s i ≤ a
    · have c2' : nI (s i) ≤ nI a := nI_le c2 (by omega)
      rw [show max a (s i) = a by omega]
      by_cases c3 : z ≤ s i
      · have c3' : nI z ≤ nI (s i) := nI_le c3 (by omega)
        rw [show min z (s i) = z by omega]
        simp only [f_X12_apart_L98, if_neg c1, l1, jnt, if_pos c2', if_pos c3', A1]
      · have c3' : ¬ nI z ≤ nI (s i) := nI_ge (by omega) (by omega)
        rw [show min z (s i) = s i by omega]
        simp only [f_X12_apart_L98, if_neg c1, l1, jnt, if_pos c2', if_neg c3', A1]
    · have c2' : ¬ nI (s i) ≤ nI a := nI_ge (by omega) (by omega)
      rw [show max a (s i) = s i by omega]
      by_cases c3 : z ≤ s i
      · have c3' : nI z ≤ nI (s i) := nI_le c3 (by omega)
        rw [show min z (s i) = z by omega]
        simp only [f_X12_apart_L98, if_neg c1, l1, jnt, if_neg c2', if_pos c3', A1]
      · have c3' : ¬ nI z ≤ nI (s i) := nI_ge (by omega) (by omega)
        rw [show min z (s i) = s i by omega]
        simp only [f_X12_apart_L98, if_neg c1, l1, jnt, if_neg c2', if_neg c3', A1]
  have en : ∀ (n : Nat) (a z : Int32), f_X12_apart_L98 (n + 1) K (nI h) a z (nI h) = some (a, z) := fun n a z => by
    have c1 : nI h ≤ nI h := Int32.le_refl _
    simp only [f_X12_apart_L98, if_pos c1]
  have h0 := hs9 0
  have h1 := hs9 1
  have h2 := hs9 2
  obtain ⟨F, rfl⟩ : ∃ F, fu = F + 1 + 1 + 1 + 1 := ⟨fu - 4, by omega⟩
  rcases hh with rfl | rfl
  · refine ⟨max (max 0 (s 0)) (s 1), min (min 100000000 (s 0)) (s 1), ?_, by omega, ?_⟩
    · show f_X12_apart_L98 (F + 1 + 1 + 1 + 1) K (nI 2) (nI 0) (nI 100000000) (nI 0) = _
      rw [st (F + 1 + 1 + 1) 0 0 100000000 (by omega) (by omega) (by omega), st (F + 1 + 1) 1 _ _ (by omega) (by omega) (by omega)]
      exact en (F + 1) _ _
    · unfold gpN
      rw [if_neg (by decide)]
      omega
  · refine ⟨max (max (max 0 (s 0)) (s 1)) (s 2), min (min (min 100000000 (s 0)) (s 1)) (s 2), ?_, by omega, ?_⟩
    · show f_X12_apart_L98 (F + 1 + 1 + 1 + 1) K (nI 3) (nI 0) (nI 100000000) (nI 0) = _
      rw [st (F + 1 + 1 + 1) 0 0 100000000 (by omega) (by omega) (by omega), st (F + 1 + 1) 1 _ _ (by omega) (by omega) (by omega), st (F + 1) 2 _ _ (by omega) (by omega) (by omega)]
      exact en F _ _
    · unfold gpN
      rw [if_pos rfl]
      omega
section
variable {J : HI} {b nh no nl fu h c his : Nat} {D : HI} {P : Nat → Bool} {wo v : Nat → Nat}
theorem apart_M (hM : ML J b nh no nl D) (hf : 8 < fu) (hh : h = 2 ∨ h = 3) (hhis : his < 256) (hP : ∀ l, l < nl → (his.testBit l = true ↔ P l = true)) (hc : c = cnt P nl) (hv : v = fun k => wo (nth P k nl)) (hw : ∀ l, l < nl → J 143 l = nI (wo l)) (hv9 : ∀ k, k < c → v k ≤ 9999) {d : Nat → Nat} (hd : okD h c d) {K : HI} (hK : ∀ x, x ≠ 142 → K x = J x) : ∃ K', f_X12_apart fu K (nI his) (nI h) (nI (vl h d c)) = some (nI (gap h v d c), K') ∧ ∀ x, x ≠ 142 → K' x = J x := by
  obtain ⟨⟨m0, m1⟩, m2, m3, m4, m5, m6, m7, m8, m9, m10⟩ := id hM
  have hc8 : c ≤ 8 := by rw [hc]; exact Nat.le_trans (cnt_le nl) m7
  obtain ⟨K1, a1, a2, a3⟩ := zero3_M (fu := fu) hf K
  have e0 : K1 100 13 = nI b := by rw [a2 100 (by decide), hK 100 (by decide)]; exact m0
  have e6 : K1 106 b = nI nl := by rw [a2 106 (by decide), hK 106 (by decide)]; exact m4
  obtain ⟨K2, b1, b2, b3⟩ := digs_M (nl := nl) (h := h) (c := c) (his := his) (P := P) (wo := wo) (v := v) (d := d) m7 hh hhis hP hc hd hv nl fu K1 (Nat.le_refl _) (by omega) (fun l hl => by rw [a2 143 (by decide), hK 143 (by decide)]; exact hw l hl) (fun j hj => ⟨0, a3 j hj, by rw [← hc, Nat.zero_add]⟩)
  rw [← hc] at b1
  have hs9 : ∀ j, shr v d j c ≤ 79992 := fun j => shr_le hc8 hv9
  obtain ⟨a, z, g1, g2, g3⟩ := gaps_M (K := K2) (fu := fu) (h := h) (s := fun j => shr v d j c) hf hh b3 hs9
  refine ⟨K2, ?_, fun x hx => by rw [b2 x hx, a2 x hx, hK x hx]⟩
  have eg : nI a - nI z = nI (gap h v d c) := by
    rw [pk_sub g2, g3]
    rfl
  unfold f_X12_apart
  simp (disch := omega) only [a1, Option.bind_some, e0, ldI_ok, e6, bnd, sub1, b1, g1, eg]
theorem ways_M (hM : ML J b nh no nl D) (hf : 1600 < fu) (hh : h = 2 ∨ h = 3) (hhis : his < 256) (hP : ∀ l, l < nl → (his.testBit l = true ↔ P l = true)) (hc : c = cnt P nl) (hv : v = fun k => wo (nth P k nl)) (hw : ∀ l, l < nl → J 143 l = nI (wo l)) (hv9 : ∀ k, k < c → v k ≤ 9999) :
    ∀ (q i n : Nat) (K : HI) (e : Nat → Nat), i + q = h ^ c → q < n → (∀ x, x ≠ 142 → K x = J x) → okD h c e → Bst h c v i (gap h v e c) e → ∃ (e' : Nat → Nat) (K' : HI), f_X12_share_L122 fu n K (nI h) (nI his) (nI (h ^ c)) (nI (vl h e c)) (nI i) = some (nI (vl h e' c), K') ∧ (∀ x, x ≠ 142 → K' x = J x) ∧ okD h c e' ∧ Bst h c v (h ^ c) (gap h v e' c) e' := by
  have hc8 : c ≤ 8 := by rw [hc]; exact Nat.le_trans (cnt_le nl) hM.2.2.2.2.2.2.1
  have hp9 := pow9 (k := c) hh hc8
  have hg9 : ∀ d, gap h v d c ≤ 79992 := fun d => gpN_le (fun j => shr_le hc8 hv9)
  intro q
  induction q with
  | zero =>
    intro i n K e e1 e2 hK he hB
    obtain ⟨n, rfl⟩ : ∃ z, n = z + 1 := ⟨n - 1, by omega⟩
    have ei : i = h ^ c := by omega
    subst ei
    have c1 : nI (h ^ c) ≤ nI (h ^ c) := Int32.le_refl _
    refine ⟨e, K, ?_, hK, he, hB⟩
    simp only [f_X12_share_L122, if_pos c1]
  | succ q ih =>
    intro i n K e e1 e2 hK he hB
    obtain ⟨n, rfl⟩ : ∃ z, n = z + 1 := ⟨n - 1, by omega⟩
    obtain ⟨d, d1, d2⟩ := vl_sur (h := h) (by omega) c i (by omega)
    obtain ⟨K1, a1, a2⟩ := apart_M (fu := fu) hM (by omega) hh hhis hP hc hv hw hv9 d1 hK
    obtain ⟨K2, b1, b2⟩ := apart_M (fu := fu) hM (by omega) hh hhis hP hc hv hw hv9 he a2
    rw [d2] at a1
    have c1 : ¬ nI (h ^ c) ≤ nI i := nI_ge (by omega) (by omega)
    have A1 : nI i + 1 = nI (i + 1) := nI_1 i
    have gd := hg9 d
    have ge := hg9 e
    have hp := Bst_put hB d1 d2 (by omega)
    by_cases cg : gap h v d c < gap h v e c
    · rw [if_pos cg] at hp
      obtain ⟨e', K', r1, r2⟩ := ih (i + 1) n K2 d (by omega) (by omega) b2 d1 hp
      refine ⟨e', K', ?_, r2⟩
      have c2 : ¬ nI (gap h v e c) ≤ nI (gap h v d c) := nI_ge cg (by omega)
      rw [← r1, d2]
      simp only [f_X12_share_L122, if_neg c1, a1, b1, Option.bind_some, jnt, if_neg c2, A1]
    · rw [if_neg cg] at hp
      obtain ⟨e', K', r1, r2⟩ := ih (i + 1) n K2 e (by omega) (by omega) b2 he hp
      refine ⟨e', K', ?_, r2⟩
      have c2 : nI (gap h v e c) ≤ nI (gap h v d c) := nI_le (by omega) (by omega)
      rw [← r1]
      simp only [f_X12_share_L122, if_neg c1, a1, b1, Option.bind_some, jnt, if_pos c2, A1]
theorem heir_M (hn : nl ≤ 8) (hh : h = 2 ∨ h = 3) (hhis : his < 256) (hP : ∀ l, l < nl → (his.testBit l = true ↔ P l = true)) (hc : c = cnt P nl) {e : Nat → Nat} (he : okD h c e) {l : Nat} (hl : P l = true) :
    ∀ (q i n : Nat), l + 1 + q = i → i ≤ nl → q < n → f_X12_share_L192 n (nI h) (nI l) (nI his) (nI (vl h e (cnt P i))) (nI i + -1) = some (nI (vl h e (cnt P l + 1))) := by
  intro q
  induction q with
  | zero =>
    intro i n e1 e2 e3
    obtain ⟨n, rfl⟩ : ∃ z, n = z + 1 := ⟨n - 1, by omega⟩
    have ei : i = l + 1 := by omega
    subst ei
    have c1 : nI l ≤ nI l := Int32.le_refl _
    rw [cnt_t hl, dec1]
    simp only [f_X12_share_L192, if_pos c1]
  | succ q ih =>
    intro i n e1 e2 e3
    obtain ⟨n, rfl⟩ : ∃ z, n = z + 1 := ⟨n - 1, by omega⟩
    obtain ⟨i, rfl⟩ : ∃ z, i = z + 1 := ⟨i - 1, by omega⟩
    have c1 : ¬ nI i ≤ nI l := nI_ge (by omega) (by omega)
    have hb := has2_ok (x := his) (i := i) (by omega) (by omega)
    have n3 : ¬ (1 : Int32) = 0 := by decide
    have hr := ih i n (by omega) (by omega) (by omega)
    rw [dec1, ← hr]
    have hc8 : c ≤ 8 := by rw [hc]; exact Nat.le_trans (cnt_le nl) hn
    have hm := cnt_mono (p := P) e2
    rw [← hc] at hm
    by_cases cp : P i = true
    · rw [if_pos ((hP i (by omega)).mpr cp)] at hb
      rw [cnt_t cp] at hm ⊢
      have hvl := vl9 hh (show cnt P i + 1 ≤ 8 by omega) (he.le hm)
      have evl : vl h e (cnt P i + 1) = vl h e (cnt P i) * h + e (cnt P i) := rfl
      have g2 := (dg_mod (a := vl h e (cnt P i)) hh (he (cnt P i) (by omega))).2
      rw [← evl] at g2
      have dv : ∀ kk : Option Int32, dvI (nI h) kk = kk := fun kk => dv_ok ⟨by omega, by omega⟩
      have ed : nI (vl h e (cnt P i + 1)) / nI h = nI (vl h e (cnt P i)) := by rw [div_ok ⟨by omega, by omega, by omega⟩, g2]
      simp only [f_X12_share_L192, if_neg c1, hb, Option.bind_some, jnt, if_neg n3, dv, bnd, ed]
    · rw [if_neg (fun w => cp ((hP i (by omega)).mp w))] at hb
      rw [cnt_f cp] at hm ⊢
      have hvl := vl9 hh (show cnt P i ≤ 8 by omega) (he.le hm)
      have dv : ∀ kk : Option Int32, dvI 1 kk = kk := fun kk => by rw [zq1]; exact dv_ok ⟨by decide, by decide⟩
      have ed : nI (vl h e (cnt P i)) / 1 = nI (vl h e (cnt P i)) := by rw [zq1, div_ok ⟨by omega, by decide, by decide⟩, Nat.div_one]
      simp only [f_X12_share_L192, if_neg c1, hb, Option.bind_some, jnt, if_true, dv, bnd, ed]
theorem worths_M {M : HL} (hM : ML J b nh no nl D) (hL : LR D) (hB : BW (lv J 0)) (hf : 1600 < fu) (hh : h = 2 ∨ h = 3) (hhis : his < 256) (hP : ∀ l, l < nl → (his.testBit l = true ↔ P l = true)) (hwo : wo = woN D (lv J 0) nl) : ∃ K M', f_X12_share_L62 fu fu J M (nI h) (nI his) 1 0 = some (nI (h ^ cnt P nl), K, M') ∧ (∀ x, x ≠ 135 → x ≠ 143 → K x = J x) ∧ OtL M M' ∧ ∀ l, l < nl → K 143 l = nI (wo l) := by
  obtain ⟨⟨m0, m1⟩, m2, m3, m4, m5, m6, m7, m8, m9, m10⟩ := id hM
  have key := loopP (fun n (a : Int32 × HI × HL) i => f_X12_share_L62 fu n a.2.1 a.2.2 (nI h) (nI his) a.1 i) (fun i a => a.1 = nI (h ^ cnt P i) ∧ (∀ x, x ≠ 135 → x ≠ 143 → a.2.1 x = J x) ∧ OtL M a.2.2 ∧ ∀ l, l < i → a.2.1 143 l = nI (wo l)) (fun a => a.1 = nI (h ^ cnt P nl) ∧ (∀ x, x ≠ 135 → x ≠ 143 → a.2.1 x = J x) ∧ OtL M a.2.2 ∧ ∀ l, l < nl → a.2.1 143 l = nI (wo l)) nl fu (1, J, M) ⟨by show (1 : Int32) = nI (h ^ 0); rw [Nat.pow_zero]; rfl, fun _ _ _ => rfl, OtL.refl, fun l hl => absurd hl (by omega)⟩ ?_ ?_ (by omega)
  · obtain ⟨r, r1, r2, r3, r4, r5⟩ := key
    refine ⟨r.2.1, r.2.2, ?_, r3, r4, r5⟩
    rw [← r2]
    exact r1
  · intro n i a hi ha
    obtain ⟨x, K, L⟩ := a
    obtain ⟨a1, a2, a3, a4⟩ := ha
    have a1' : x = nI (h ^ cnt P i) := a1
    have a2' : ∀ z, z ≠ 135 → z ≠ 143 → K z = J z := a2
    have hMK : ML K b nh no nl D := ML_congr (by rw [a2' 100 (by decide) (by decide)]) (fun z z1 z2 => a2' z (by omega) (by omega)) hM
    have elv : lv K 0 = lv J 0 := by
      funext a k
      unfold lv
      rw [a2' 127 (by decide) (by decide), a2' 128 (by decide) (by decide), a2' 129 (by decide) (by decide), a2' 130 (by decide) (by decide), a2' 131 (by decide) (by decide)]
    obtain ⟨K1, M1, b1, b2, b3⟩ := worth_M (fu := fu) (J := K) (M := L) (v := 0) hMK hL (by rw [elv]; exact hB) hf (by decide) hi
    rw [elv, ← hwo] at b1
    have b1' : f_X12_worth fu K L 0 (nI i) = some (nI (wo i), K1, M1) := b1
    have e0 : K 100 13 = nI b := by rw [a2' 100 (by decide) (by decide)]; exact m0
    have e6 : K 106 b = nI nl := by rw [a2' 106 (by decide) (by decide)]; exact m4
    have c1 : ¬ nI nl ≤ nI i := nI_ge hi (by omega)
    have A1 : nI i + 1 = nI (i + 1) := nI_1 i
    have hb := has2_ok (x := his) (i := i) (by omega) (by omega)
    have n3 : ¬ (1 : Int32) = 0 := by decide
    refine ⟨(nI (h ^ cnt P (i + 1)), sI K1 143 i (nI (wo i)), M1), ?_, rfl, fun z z1 z2 => ?_, a3.trans b3, fun l hl => ?_⟩
    · show f_X12_share_L62 fu (n + 1) K L (nI h) (nI his) x (nI i) = f_X12_share_L62 fu n (sI K1 143 i (nI (wo i))) M1 (nI h) (nI his) (nI (h ^ cnt P (i + 1))) (nI (i + 1))
      rw [a1']
      by_cases cp : P i = true
      · rw [if_pos ((hP i hi).mpr cp)] at hb
        rw [cnt_t cp, Nat.pow_succ, ← pk_mul]
        simp (disch := omega) only [f_X12_share_L62, e0, ldI_ok, e6, if_neg c1, b1', Option.bind_some, inb_ok, bnd, nI_clamp, hb, jnt, if_neg n3, A1]
      · rw [if_neg (fun w => cp ((hP i hi).mp w))] at hb
        rw [cnt_f cp]
        have e1 : nI (h ^ cnt P i) * 1 = nI (h ^ cnt P i) := Int32.mul_one _
        simp (disch := omega) only [f_X12_share_L62, e0, ldI_ok, e6, if_neg c1, b1', Option.bind_some, inb_ok, bnd, nI_clamp, hb, jnt, if_true, e1, A1]
    · show sI K1 143 i (nI (wo i)) z = J z
      rw [zs_ne z2, b2 z z1]
      exact a2' z z1 z2
    · show sI K1 143 i (nI (wo i)) 143 l = nI (wo l)
      rw [zs_eq]
      by_cases cl : l = i
      · rw [cl, zs_same]
      · rw [zs_other cl, b2 143 (by decide)]
        exact a4 l (by omega)
  · intro n a ha
    obtain ⟨x, K, L⟩ := a
    obtain ⟨a1, a2, a3, a4⟩ := ha
    have a2' : ∀ z, z ≠ 135 → z ≠ 143 → K z = J z := a2
    have e0 : K 100 13 = nI b := by rw [a2' 100 (by decide) (by decide)]; exact m0
    have e6 : K 106 b = nI nl := by rw [a2' 106 (by decide) (by decide)]; exact m4
    have c1 : nI nl ≤ nI nl := Int32.le_refl _
    refine ⟨(x, K, L), ?_, a1, a2, a3, a4⟩
    show f_X12_share_L62 fu (n + 1) K L (nI h) (nI his) x (nI nl) = _
    simp (disch := omega) only [f_X12_share_L62, e0, ldI_ok, e6, if_pos c1]
end
