/-! moves: the class's search, whole -/
section
variable {I0 D : HI} {R : HR} {t nh no nl fu : Nat} {tg : Nat → Nat}
theorem straight_C (hM : MVC I0 D R t nh no nl tg) (hf : 1600 < fu) {r left : Nat} {Q : (Nat → Int32) → Prop} (hc : CHs I0 D R nh nl fu tg r left Q) (hleft : left ≤ 8) {K : HI} {p : Nat → Nat} (hp : goodP D (sc I0 58) nh nl p) (h : MN I0 D nh nl K p) (hQ : Q (K 46)) (hno : ∀ j, j < left + 1 → ¬ EnC I0 D nh nl tg j p) (hs : nS nl tg p = left + 1) : ∃ y K', g_X4 fu (r + 2) 3 K R (nI (left + 1)) 0 0 = some (y, K') ∧ MN I0 D nh nl K' p ∧ ((y = 1 ∧ EnC I0 D nh nl tg (left + 1) p) ∨ (y = 0 ∧ ¬ EnC I0 D nh nl tg (left + 1) p ∧ Q (K' 46))) := by
  obtain ⟨g0, g1, g2, g3, g4, g5, g6, g7, g8, g9⟩ := id hM.1
  have e42 := hM.2.1
  have n3 : ¬ (1 : Int32) = 0 := by decide
  have loop : ∀ (q i n : Nat) (K : HI), i + q = nl → q < n → MN I0 D nh nl K p → Q (K 46) → (∀ l, l < i → sgP tg p l = true → ¬ (mvC I0 D nl p l (tg l) ∧ EnC I0 D nh nl tg left (upP p l (tg l)))) → ∃ K', MN I0 D nh nl K' p ∧ ((f_X4_reachesStraight_L2 (g_X4 fu (r + 1)) n K R (nI (left + 1)) (nI i) = some (.inl (1, K')) ∧ EnC I0 D nh nl tg (left + 1) p) ∨ (f_X4_reachesStraight_L2 (g_X4 fu (r + 1)) n K R (nI (left + 1)) (nI i) = some (.inr K') ∧ (∀ l, l < nl → sgP tg p l = true → ¬ (mvC I0 D nl p l (tg l) ∧ EnC I0 D nh nl tg left (upP p l (tg l)))) ∧ Q (K' 46))) := by
    intro q
    induction q with
    | zero =>
      intro i n K e1 e2 h hQ hg
      obtain ⟨n, rfl⟩ : ∃ z, n = z + 1 := ⟨n - 1, by omega⟩
      have ei : i = nl := by omega
      subst ei
      obtain ⟨f0, f1, f2, f3, f4, f5, f6, f7, f8, f9⟩ := MN_CL hM h
      have c1 : nI i ≤ nI i := Int32.le_refl _
      refine ⟨K, h, Or.inr ⟨?_, hg, hQ⟩⟩
      simp only [f_X4_reachesStraight_L2, e42, zg_ok okS, f1, zg_ok f0, f6, if_pos c1]
    | succ q ih =>
      intro i n K e1 e2 h hQ hg
      obtain ⟨n, rfl⟩ : ∃ z, n = z + 1 := ⟨n - 1, by omega⟩
      obtain ⟨f0, f1, f2, f3, f4, f5, f6, f7, f8, f9⟩ := MN_CL hM h
      have c1 : ¬ nI nl ≤ nI i := nI_ge (by omega) (by omega)
      have A1 : nI i + 1 = nI (i + 1) := nI_1 i
      have ha := astrayAt_C hM h hp (l := i) (by omega)
      have l60 : ∀ kk : Int32 → Option ((Int32 × HI) ⊕ HI), ldI (K (58 + 2)) 8 (nI i) kk = kk (K 60 i) := fun kk => by rw [ldI_ok (by omega)]
      by_cases c : sgP tg p i = true
      · rw [if_pos c] at ha
        obtain ⟨z1, z2⟩ := sgP_iff.mp c
        obtain ⟨t1, t2⟩ := hM.2.2.2.2.2.2.2 i z1
        have e43 : K 43 i = nI (tg i) := by
          rw [h.1 43 (by decide) (by decide) (by decide) (by decide) (by decide), hM.2.2.2.2.2.2.1 i (by omega)]
          exact if_neg z1
        have l43 : ∀ kk : Int32 → Option ((Int32 × HI) ⊕ HI), ldI (K 43) 8 (nI i) kk = kk (nI (tg i)) := fun kk => by rw [ldI_ok (by omega), e43]
        obtain ⟨y, K1, y1, y2, y3⟩ := into_C' hM hf hc hleft hp h hQ hno t2 t1
        have y1' : g_X4 fu (r + 1) 2 K R (nI i) (nI (tg i)) (nI (left + 1)) = some (y, K1) := y1
        rcases y3 with ⟨w1, w2, w3⟩ | ⟨w1, w2, w3⟩
        · subst w1
          refine ⟨K1, y2, Or.inl ⟨?_, i, tg i, by omega, t1, w2, w3⟩⟩
          simp only [f_X4_reachesStraight_L2, e42, zg_ok okS, f1, zg_ok f0, f6, if_neg c1, l60, ha, Option.bind_some, jnt, if_neg n3, l43, y1', gz_1]
        · subst w1
          obtain ⟨K', k1, k2⟩ := ih (i + 1) n K1 (by omega) (by omega) y2 w3 (fun l hl' hsg => by
            by_cases w : l = i
            · rw [w]; exact w2
            · exact hg l (by omega) hsg)
          refine ⟨K', k1, ?_⟩
          have st : f_X4_reachesStraight_L2 (g_X4 fu (r + 1)) (n + 1) K R (nI (left + 1)) (nI i) = f_X4_reachesStraight_L2 (g_X4 fu (r + 1)) n K1 R (nI (left + 1)) (nI (i + 1)) := by
            simp only [f_X4_reachesStraight_L2, e42, zg_ok okS, f1, zg_ok f0, f6, if_neg c1, l60, ha, Option.bind_some, jnt, if_neg n3, l43, y1', if_true, A1]
          rw [st]
          exact k2
      · rw [if_neg c] at ha
        obtain ⟨K', k1, k2⟩ := ih (i + 1) n K (by omega) (by omega) h hQ (fun l hl' hsg => by
          by_cases w : l = i
          · rw [w] at hsg; exact absurd hsg c
          · exact hg l (by omega) hsg)
        refine ⟨K', k1, ?_⟩
        have st : f_X4_reachesStraight_L2 (g_X4 fu (r + 1)) (n + 1) K R (nI (left + 1)) (nI i) = f_X4_reachesStraight_L2 (g_X4 fu (r + 1)) n K R (nI (left + 1)) (nI (i + 1)) := by
          simp only [f_X4_reachesStraight_L2, e42, zg_ok okS, f1, zg_ok f0, f6, if_neg c1, l60, ha, Option.bind_some, jnt, if_true, A1]
        rw [st]
        exact k2
  obtain ⟨K', k1, k2⟩ := loop nl 0 fu K (by omega) (by omega) h hQ (fun l hl => absurd hl (by omega))
  show ∃ y K', f_X4_reachesStraight (g_X4 fu (r + 1)) fu K R (nI (left + 1)) = some (y, K') ∧ _
  unfold f_X4_reachesStraight
  rw [show (0 : Int32) = nI 0 from rfl]
  rcases k2 with ⟨w1, w2⟩ | ⟨w1, w2, w3⟩
  · rw [w1]
    exact ⟨1, K', rfl, k1, Or.inl ⟨rfl, w2⟩⟩
  · rw [w1]
    refine ⟨0, K', ?_, k1, Or.inr ⟨rfl, ?_, w3⟩⟩
    · show gz (nI 0) (some (nI 0, K')) = some (0, K')
      exact gz_0
    · rintro ⟨l, g, a1, a2, a3, a4⟩
      obtain ⟨b1, b2⟩ := En_step (tg := tg) a1 hs (En_le _ _ a4)
      subst b2
      exact w2 l a1 b1 ⟨a3, a4⟩
theorem search_C (hM : MVC I0 D R t nh no nl tg) (hf : 1600 < fu) {r left : Nat} {Q : (Nat → Int32) → Prop} (hc : CHs I0 D R nh nl fu tg r left Q) (hleft : left ≤ 8) {K : HI} {p : Nat → Nat} (hp : goodP D (sc I0 58) nh nl p) (h : MN I0 D nh nl K p) (hQ : Q (K 46)) (hno : ∀ j, j < left + 1 → ¬ EnC I0 D nh nl tg j p) (hs : 0 < nS nl tg p ∧ nS nl tg p < left + 1) : ∃ K', MN I0 D nh nl K' p ∧ ((f_X4_reaches_L51 (g_X4 fu (r + 2)) fu K R (nI (left + 1)) (nI (nS nl tg p)) 0 = some (.inl (1, K')) ∧ EnC I0 D nh nl tg (left + 1) p) ∨ (f_X4_reaches_L51 (g_X4 fu (r + 2)) fu K R (nI (left + 1)) (nI (nS nl tg p)) 0 = some (.inr K') ∧ ¬ EnC I0 D nh nl tg (left + 1) p ∧ Q (K' 46))) := by
  obtain ⟨g0, g1, g2, g3, g4, g5, g6, g7, g8, g9⟩ := id hM.1
  have e42 := hM.2.1
  have hSW := hM.2.2.2.2.1
  have n3 : ¬ (1 : Int32) = 0 := by decide
  have loop : ∀ (q i n : Nat) (K : HI), i + q = nl → q < n → MN I0 D nh nl K p → Q (K 46) → (∀ l g, l < i → g < nh → ¬ (mvC I0 D nl p l g ∧ EnC I0 D nh nl tg left (upP p l g))) → ∃ K', MN I0 D nh nl K' p ∧ ((f_X4_reaches_L51 (g_X4 fu (r + 2)) n K R (nI (left + 1)) (nI (nS nl tg p)) (nI i) = some (.inl (1, K')) ∧ EnC I0 D nh nl tg (left + 1) p) ∨ (f_X4_reaches_L51 (g_X4 fu (r + 2)) n K R (nI (left + 1)) (nI (nS nl tg p)) (nI i) = some (.inr K') ∧ ¬ EnC I0 D nh nl tg (left + 1) p ∧ Q (K' 46))) := by
    intro q
    induction q with
    | zero =>
      intro i n K e1 e2 h hQ hg
      obtain ⟨n, rfl⟩ : ∃ z, n = z + 1 := ⟨n - 1, by omega⟩
      have ei : i = nl := by omega
      subst ei
      obtain ⟨f0, f1, f2, f3, f4, f5, f6, f7, f8, f9⟩ := MN_CL hM h
      have c1 : nI i ≤ nI i := Int32.le_refl _
      refine ⟨K, h, Or.inr ⟨?_, ?_, hQ⟩⟩
      · simp only [f_X4_reaches_L51, e42, zg_ok okS, f1, zg_ok f0, f6, if_pos c1]
      · rintro ⟨l, g, a1, a2, a3, a4⟩
        exact hg l g a1 a2 ⟨a3, a4⟩
    | succ q ih =>
      intro i n K e1 e2 h hQ hg
      obtain ⟨n, rfl⟩ : ∃ z, n = z + 1 := ⟨n - 1, by omega⟩
      have hCK := MN_CL hM h
      obtain ⟨f0, f1, f2, f3, f4, f5, f6, f7, f8, f9⟩ := id hCK
      have hi : i < nl := by omega
      have c1 : ¬ nI nl ≤ nI i := nI_ge hi (by omega)
      have A1 : nI i + 1 = nI (i + 1) := nI_1 i
      have hst := stands_Cn hCK hi
      obtain ⟨x1, x2⟩ := xb_of hSW (l := i) (by omega)
      have e59 : K (58 + 1) i = nI (xbS (sc I0 58) i) := by
        rw [h.1 (58 + 1) (by omega) (by omega) (by omega) (by omega) (by omega)]
        exact x1
      rw [e59] at hst
      by_cases c : stS (sc I0 58) nl i = true
      · obtain ⟨s1, s2⟩ := stS_iff.mp c
        rw [if_neg (show ¬ nI (xbS (sc I0 58) i) ≤ 0 from nI_nle (by omega) (by omega))] at hst
        obtain ⟨y, K1, y1, y2, y3⟩ := by_C hM hf hc hleft hp h hQ hno hs c
        have y1' : g_X4 fu (r + 2) 1 K R (nI i) (nI (left + 1)) (nI (nS nl tg p)) = some (y, K1) := y1
        rcases y3 with ⟨w1, g, w2, w3, w4⟩ | ⟨w1, w2, w3⟩
        · subst w1
          refine ⟨K1, y2, Or.inl ⟨?_, i, g, hi, w2, w3, w4⟩⟩
          simp only [f_X4_reaches_L51, e42, zg_ok okS, f1, zg_ok f0, f6, if_neg c1, hst, Option.bind_some, jnt, if_neg n3, y1', gz_1]
        · subst w1
          obtain ⟨K', k1, k2⟩ := ih (i + 1) n K1 (by omega) (by omega) y2 w3 (fun l g hl' hg' => by
            by_cases w : l = i
            · rw [w]; exact w2 g hg'
            · exact hg l g (by omega) hg')
          refine ⟨K', k1, ?_⟩
          have st : f_X4_reaches_L51 (g_X4 fu (r + 2)) (n + 1) K R (nI (left + 1)) (nI (nS nl tg p)) (nI i) = f_X4_reaches_L51 (g_X4 fu (r + 2)) n K1 R (nI (left + 1)) (nI (nS nl tg p)) (nI (i + 1)) := by
            simp only [f_X4_reaches_L51, e42, zg_ok okS, f1, zg_ok f0, f6, if_neg c1, hst, Option.bind_some, jnt, if_neg n3, y1', if_true, A1]
          rw [st]
          exact k2
      · have x0 := (no_of hSW g9 (by omega) c).2
        rw [x0, if_pos (show nI 0 ≤ 0 by decide)] at hst
        obtain ⟨K', k1, k2⟩ := ih (i + 1) n K (by omega) (by omega) h hQ (fun l g hl' hg' => by
          by_cases w : l = i
          · rw [w]; exact fun z => c z.1.1
          · exact hg l g (by omega) hg')
        refine ⟨K', k1, ?_⟩
        have st : f_X4_reaches_L51 (g_X4 fu (r + 2)) (n + 1) K R (nI (left + 1)) (nI (nS nl tg p)) (nI i) = f_X4_reaches_L51 (g_X4 fu (r + 2)) n K R (nI (left + 1)) (nI (nS nl tg p)) (nI (i + 1)) := by
          simp only [f_X4_reaches_L51, e42, zg_ok okS, f1, zg_ok f0, f6, if_neg c1, hst, Option.bind_some, jnt, if_true, A1]
        rw [st]
        exact k2
  exact loop nl 0 fu K (by omega) (by omega) h hQ (fun l g hl => absurd hl (by omega))
/-- states that were seen with two moves left, and two weren't enough -/
def TBk (I0 D : HI) (nh nl : Nat) (tg : Nat → Nat) (g : Nat → Int32) : Prop := ∀ i, i < 2048 → g i = 0 ∨ ∃ p, goodP D (sc I0 58) nh nl p ∧ ¬ EnC I0 D nh nl tg 2 p ∧ g i = nI (keyP p nl)
theorem node0_C (hM : MVC I0 D R t nh no nl tg) (hf : 1600 < fu) {r : Nat} {Q : (Nat → Int32) → Prop} : CHs I0 D R nh nl fu tg (r + 1) 0 Q := by
  intro K p hp h hQ _
  have hsc := strayCount_C (fu := fu) hM (by omega) h hp
  have hs8 : nS nl tg p ≤ 8 := Nat.le_trans (cnt_le nl) hM.1.2.2.2.2.2.2.2.2.2
  show ∃ y K', f_X4_reaches (g_X4 fu r) fu K R (nI 0) = some (y, K') ∧ _
  unfold f_X4_reaches
  by_cases c : nS nl tg p = 0
  · have c1 : nI (nS nl tg p) = 0 := by rw [c]; rfl
    refine ⟨1, K, ?_, h, Or.inl ⟨rfl, c⟩⟩
    simp only [hsc, Option.bind_some, jnt, if_pos c1, gz_1]
  · have c1 : ¬ nI (nS nl tg p) = 0 := nI_ne0 (by omega) (by omega)
    have c2 : ¬ nI (nS nl tg p) ≤ nI 0 := nI_ge (by omega) (by omega)
    refine ⟨0, K, ?_, h, Or.inr ⟨rfl, c, hQ⟩⟩
    simp only [hsc, Option.bind_some, jnt, if_neg c1, if_neg c2, gz_0]
/-- the cases but that of a search -/
theorem node_pre (hM : MVC I0 D R t nh no nl tg) (hf : 1600 < fu) {r left : Nat} {Q : (Nat → Int32) → Prop} (hc : CHs I0 D R nh nl fu tg r left Q) (hleft : left ≤ 7) {Q' : (Nat → Int32) → Prop} (hs2 : ∀ (K : HI) (p : Nat → Nat), goodP D (sc I0 58) nh nl p → MN I0 D nh nl K p → Q' (K 46) → (∀ j, j < left + 1 → ¬ EnC I0 D nh nl tg j p) → 0 < nS nl tg p → nS nl tg p < left + 1 → ∃ y K', f_X4_reaches (g_X4 fu (r + 2)) fu K R (nI (left + 1)) = some (y, K') ∧ MN I0 D nh nl K' p ∧ ((y = 1 ∧ EnC I0 D nh nl tg (left + 1) p) ∨ (y = 0 ∧ ¬ EnC I0 D nh nl tg (left + 1) p ∧ Q' (K' 46)))) (hstr : ∀ (K : HI) (p : Nat → Nat), goodP D (sc I0 58) nh nl p → MN I0 D nh nl K p → Q' (K 46) → (∀ j, j < left + 1 → ¬ EnC I0 D nh nl tg j p) → nS nl tg p = left + 1 → ∃ y K', g_X4 fu (r + 2) 3 K R (nI (left + 1)) 0 0 = some (y, K') ∧ MN I0 D nh nl K' p ∧ ((y = 1 ∧ EnC I0 D nh nl tg (left + 1) p) ∨ (y = 0 ∧ ¬ EnC I0 D nh nl tg (left + 1) p ∧ Q' (K' 46)))) : CHs I0 D R nh nl fu tg (r + 3) (left + 1) Q' := by
  intro K p hp h hQ hno
  have hsc := strayCount_C (fu := fu) hM (by omega) h hp
  have hs8 : nS nl tg p ≤ 8 := Nat.le_trans (cnt_le nl) hM.1.2.2.2.2.2.2.2.2.2
  have hs0 : 0 < nS nl tg p := by
    rcases Nat.eq_zero_or_pos (nS nl tg p) with w | w
    · exact absurd w (hno 0 (by omega))
    · exact w
  show ∃ y K', f_X4_reaches (g_X4 fu (r + 2)) fu K R (nI (left + 1)) = some (y, K') ∧ _
  have c1 : ¬ nI (nS nl tg p) = 0 := nI_ne0 (by omega) (by omega)
  rcases Nat.lt_trichotomy (nS nl tg p) (left + 1) with w | w | w
  · exact hs2 K p hp h hQ hno hs0 w
  · obtain ⟨y, K', y1, y2, y3⟩ := hstr K p hp h hQ hno w
    have c2 : nI (nS nl tg p) ≤ nI (left + 1) := nI_le (by omega) (by omega)
    have c3 : nI (nS nl tg p) = nI (left + 1) := by rw [w]
    refine ⟨y, K', ?_, y2, y3⟩
    unfold f_X4_reaches
    simp only [hsc, Option.bind_some, jnt, if_neg c1, if_pos c2, if_pos c3, y1]
    rcases y3 with ⟨z, _⟩ | ⟨z, _⟩
    · rw [z]; exact gz_1
    · rw [z]; exact gz_0
  · have c2 : ¬ nI (nS nl tg p) ≤ nI (left + 1) := nI_ge (by omega) (by omega)
    refine ⟨0, K, ?_, h, Or.inr ⟨rfl, fun z => ?_, hQ⟩⟩
    · unfold f_X4_reaches
      simp only [hsc, Option.bind_some, jnt, if_neg c1, if_neg c2, gz_0]
    · have := En_le _ _ z
      omega
theorem node_C (hM : MVC I0 D R t nh no nl tg) (hf : 1600 < fu) {r left : Nat} {Q : (Nat → Int32) → Prop} (hc : CHs I0 D R nh nl fu tg r left Q) (hleft : left ≤ 7) (h2 : left ≠ 1) : CHs I0 D R nh nl fu tg (r + 3) (left + 1) Q := by
  refine node_pre hM hf hc hleft (Q' := Q) (fun K p hp h hQ hno s1 s2 => ?_) (fun K p hp h hQ hno s1 => straight_C hM hf hc (by omega) hp h hQ hno s1)
  have hsc := strayCount_C (fu := fu) hM (by omega) h hp
  have c1 : ¬ nI (nS nl tg p) = 0 := nI_ne0 (by omega) (by omega)
  have c2 : nI (nS nl tg p) ≤ nI (left + 1) := nI_le (by omega) (by omega)
  have c3 : ¬ nI (nS nl tg p) = nI (left + 1) := fun w => by
    have := (nI_eq (by omega) (by omega)).mp w
    omega
  have c4 : ¬ nI (left + 1) = 2 := fun w => by
    have := (nI_eq (b := 2) (by omega) (by decide)).mp w
    omega
  obtain ⟨K', k1, k2⟩ := search_C hM hf hc (by omega) hp h hQ hno ⟨s1, s2⟩
  unfold f_X4_reaches
  rcases k2 with ⟨w1, w2⟩ | ⟨w1, w2, w3⟩
  · refine ⟨1, K', ?_, k1, Or.inl ⟨rfl, w2⟩⟩
    simp only [hsc, Option.bind_some, jnt, if_neg c1, if_pos c2, if_neg c3, if_neg c4, w1, Sum.elim_inl]
  · refine ⟨0, K', ?_, k1, Or.inr ⟨rfl, w2, w3⟩⟩
    simp only [hsc, Option.bind_some, jnt, if_neg c1, if_pos c2, if_neg c3, if_neg c4, w1, Sum.elim_inr, gz_0]
theorem node2_C (hM : MVC I0 D R t nh no nl tg) (hf : 10000 < fu) {r : Nat} (hc : ∀ T, CHs I0 D R nh nl fu tg r 1 (fun g => g = T)) : CHs I0 D R nh nl fu tg (r + 3) 2 (TBk I0 D nh nl tg) := by
  refine node_pre hM (by omega) (hc (fun _ => 0)) (by decide) (Q' := TBk I0 D nh nl tg) (fun K p hp h hQ hno s1 s2 => ?_) (fun K p hp h hQ hno s1 => ?_)
  · have hsc := strayCount_C (fu := fu) hM (by omega) h hp
    have h7 := hM.1.2.2.2.2.2.2.2.1
    have c1 : ¬ nI (nS nl tg p) = 0 := nI_ne0 (by omega) (by omega)
    have c2 : nI (nS nl tg p) ≤ nI (1 + 1) := nI_le (by omega) (by omega)
    have c3 : ¬ nI (nS nl tg p) = nI (1 + 1) := fun w => by
      have := (nI_eq (by omega) (by omega)).mp w
      omega
    have c4 : nI (1 + 1) = 2 := rfl
    have n3 : ¬ (1 : Int32) = 0 := by decide
    obtain ⟨y, K1, y1, y2, y3⟩ := wasSeen_C hM hf h hp
    have hk := keyP_lt (p := p) (fun l => good8 h7 hp l) nl
    have h8p : 8 ^ nl ≤ 8 ^ 8 := Nat.pow_le_pow_right (by decide) hM.1.2.2.2.2.2.2.2.2.2
    have h88 : 8 ^ 8 = 16777216 := by decide
    rcases y3 with ⟨w1, eK, j, j1, j2⟩ | ⟨w1, w2⟩
    · subst w1
      refine ⟨0, K1, ?_, y2, Or.inr ⟨rfl, ?_, ?_⟩⟩
      · unfold f_X4_reaches
        simp only [hsc, Option.bind_some, jnt, if_neg c1, if_pos c2, if_neg c3, if_pos c4, y1, if_neg n3, gz_0]
      · rcases hQ j j1 with z | ⟨p', z1, z2, z3⟩
        · rw [z] at j2
          exact absurd j2.symm (nI_ne0 (by omega) (by omega))
        · have hk' := keyP_lt (p := p') (fun l => good8 h7 z1 l) nl
          have ek : keyP p nl = keyP p' nl := (nI_eq (by omega) (by omega)).mp (j2.symm.trans z3)
          have ep : p = p' := by
            funext l
            by_cases cl : l < nl
            · exact keyP_inj (fun l => good8 h7 hp l) (fun l => good8 h7 z1 l) nl ek l cl
            · have ns : ¬ stS (sc I0 58) nl l = true := fun w => cl (stS_iff.mp w).1
              rw [hp.2.1 l ns, z1.2.1 l ns]
          rw [ep]
          exact z2
      · rw [eK]
        exact hQ
    · subst w1
      obtain ⟨K', k1, k2⟩ := search_C hM (by omega) (hc (K1 46)) (by decide) hp y2 rfl hno ⟨s1, s2⟩
      unfold f_X4_reaches
      rcases k2 with ⟨v1, v2⟩ | ⟨v1, v2, v3⟩
      · refine ⟨1, K', ?_, k1, Or.inl ⟨rfl, v2⟩⟩
        simp only [hsc, Option.bind_some, jnt, if_neg c1, if_pos c2, if_neg c3, if_pos c4, y1, if_true, v1, Sum.elim_inl]
      · refine ⟨0, K', ?_, k1, Or.inr ⟨rfl, v2, ?_⟩⟩
        · simp only [hsc, Option.bind_some, jnt, if_neg c1, if_pos c2, if_neg c3, if_pos c4, y1, if_true, v1, Sum.elim_inr, gz_0]
        · intro i hi
          rw [v3]
          rcases w2 i hi with z | z
          · rw [z]; exact hQ i hi
          · exact Or.inr ⟨p, hp, v2, z⟩
  · obtain ⟨y, K', y1, y2, y3⟩ := straight_C hM (by omega) (hc (K 46)) (by decide) hp h rfl hno s1
    refine ⟨y, K', y1, y2, ?_⟩
    rcases y3 with z | ⟨z1, z2, z3⟩
    · exact Or.inl z
    · refine Or.inr ⟨z1, z2, ?_⟩
      rw [z3]
      exact hQ
end
