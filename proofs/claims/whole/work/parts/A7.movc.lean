/-! moves: the class's cells -/
def tgI (x : Nat) : Int32 := if x = 99 then -1 else nI x
def MN (I0 D : HI) (nh nl : Nat) (K : HI) (p : Nat → Nat) : Prop := (∀ x, x ≠ 44 → x ≠ 45 → x ≠ 46 → x ≠ 60 → x < 64 ∨ 67 ≤ x → K x = I0 x) ∧ (∀ k, K 60 k = scP (sc I0 58) nl p 2 k) ∧ ∀ h, h < nh → K 44 h = nI (rmP D (sc I0 58) nl p h) ∧ K 45 h = nI (ctP (sc I0 58) nl p h)
theorem MN_sc {I0 D K : HI} {nh nl : Nat} {p : Nat → Nat} (h : MN I0 D nh nl K p) : sc K 58 = scP (sc I0 58) nl p := by
  funext a k
  by_cases ca : a < 5
  · by_cases c2 : a = 2
    · subst c2
      show K 60 k = _
      exact h.2.1 k
    · rw [scP_ne c2]
      unfold sc
      rw [if_pos ca, if_pos ca, h.1 _ (by omega) (by omega) (by omega) (by omega) (by omega)]
  · rw [scP_ne (by omega)]
    unfold sc
    rw [if_neg ca, if_neg ca]
section
variable {I0 D : HI} {R : HR} {t nh no nl fu : Nat} {tg : Nat → Nat}
/-- what stands fast while the class searches -/
def MVC (I0 D : HI) (R : HR) (t nh no nl : Nat) (tg : Nat → Nat) : Prop := CL I0 R 58 t nh no nl ∧ R 42 4 = 58 ∧ vw I0 t = D ∧ LR D ∧ SW D (sc I0 58) nh no nl ∧ LWf D nh ∧ (∀ l, l < 8 → I0 43 l = tgI (tg l)) ∧ (∀ l, tg l ≠ 99 → tg l < nh ∧ stS (sc I0 58) nl l = true)
theorem MN_CL (hM : MVC I0 D R t nh no nl tg) {K : HI} {p : Nat → Nat} (h : MN I0 D nh nl K p) : CL K R 58 t nh no nl := by
  have ht := hM.1.2.2.1
  exact CLx hM.1 (h.1 t (by omega) (by omega) (by omega) (by omega) (by omega))
theorem MN_vw (hM : MVC I0 D R t nh no nl tg) {K : HI} {p : Nat → Nat} (h : MN I0 D nh nl K p) : vw K t = D := by
  have ht := hM.1.2.2.1
  rw [← hM.2.2.1]
  exact vw_congr (fun a ha => h.1 _ (by omega) (by omega) (by omega) (by omega) (by omega))
theorem tgI_eq {x y : Nat} (hx : x < 8 ∨ x = 99) (hy : y < 8) : tgI x = nI y ↔ x = y := by
  unfold tgI
  by_cases c : x = 99
  · rw [if_pos c]
    exact ⟨fun w => absurd ((mI_eq_nI (a := y) (b := 1) (by omega) (by decide)).mp w) id, fun w => by omega⟩
  · rw [if_neg c, nI_eq (by omega) (by omega)]
theorem tgI_m {x : Nat} (hx : x < 8 ∨ x = 99) : tgI x = -1 ↔ x = 99 := by
  unfold tgI
  by_cases c : x = 99
  · rw [if_pos c]
    exact ⟨fun _ => c, fun _ => rfl⟩
  · rw [if_neg c]
    exact ⟨fun w => absurd ((nI_eq_mI (a := x) (b := 1) (by omega) (by decide)).mp w) id, fun w => absurd w c⟩
theorem MVC.tg8 (hM : MVC I0 D R t nh no nl tg) (l : Nat) : tg l < 8 ∨ tg l = 99 := by
  by_cases c : tg l = 99
  · exact Or.inr c
  · have := (hM.2.2.2.2.2.2.2 l c).1
    have := hM.1.2.2.2.2.2.2.2.1
    omega
theorem okS : okSc 58 = true := by decide
theorem isAstray_C (hM : MVC I0 D R t nh no nl tg) {K : HI} {p : Nat → Nat} (h : MN I0 D nh nl K p) {l g : Nat} (hl : l < 8) (hg : g < 8) : f_X4_isAstray K (nI l) (nI g) = some (if tg l ≠ 99 ∧ g ≠ tg l then 1 else 0) := by
  have e43 : K 43 l = tgI (tg l) := by rw [h.1 43 (by decide) (by decide) (by decide) (by decide) (by decide)]; exact hM.2.2.2.2.2.2.1 l hl
  have t8 := hM.tg8 l
  unfold f_X4_isAstray
  by_cases c : tg l = 99
  · have c1 : tgI (tg l) = -1 := (tgI_m t8).mpr c
    rw [if_neg (fun w => w.1 c)]
    simp (disch := omega) only [ldI_ok, e43, if_pos c1, gz_0]
  · have c1 : ¬ tgI (tg l) = -1 := fun w => c ((tgI_m t8).mp w)
    by_cases c2 : tg l = g
    · have c3 : tgI (tg l) = nI g := (tgI_eq t8 hg).mpr c2
      rw [if_neg (fun w => w.2 c2.symm)]
      simp (disch := omega) only [ldI_ok, e43, if_neg c1, if_pos c3, gz_0]
    · have c3 : ¬ tgI (tg l) = nI g := fun w => c2 ((tgI_eq t8 hg).mp w)
      rw [if_pos ⟨c, fun w => c2 w.symm⟩]
      simp (disch := omega) only [ldI_ok, e43, if_neg c1, if_neg c3, gz_1]
/-- is this lake astray where it lies -/
theorem astrayAt_C (hM : MVC I0 D R t nh no nl tg) {K : HI} {p : Nat → Nat} (h : MN I0 D nh nl K p) (hp : goodP D (sc I0 58) nh nl p) {l : Nat} (hl : l < 8) : f_X4_isAstray K (nI l) (K 60 l) = some (if sgP tg p l = true then 1 else 0) := by
  have hh := hM.1.2.2.2.2.2.2.2.1
  by_cases c : stS (sc I0 58) nl l = true
  · rw [h.2.1 l, scP_st c, isAstray_C hM h hl (good8 hh hp l)]
    by_cases c2 : sgP tg p l = true
    · rw [if_pos c2, if_pos (sgP_iff.mp c2)]
    · rw [if_neg c2, if_neg (fun w => c2 (sgP_iff.mpr w))]
  · have c99 : tg l = 99 := Decidable.not_not.mp (fun w => c (hM.2.2.2.2.2.2.2 l w).2)
    have e43 : K 43 l = tgI (tg l) := by rw [h.1 43 (by decide) (by decide) (by decide) (by decide) (by decide)]; exact hM.2.2.2.2.2.2.1 l hl
    have c1 : tgI (tg l) = -1 := (tgI_m (Or.inr c99)).mpr c99
    rw [if_neg (fun w => (sgP_iff.mp w).1 c99)]
    unfold f_X4_isAstray
    simp (disch := omega) only [ldI_ok, e43, if_pos c1, gz_0]
theorem strayCount_C (hM : MVC I0 D R t nh no nl tg) (hf : 8 < fu) {K : HI} {p : Nat → Nat} (h : MN I0 D nh nl K p) (hp : goodP D (sc I0 58) nh nl p) : f_X4_strayCount fu K R = some (nI (nS nl tg p)) := by
  obtain ⟨g0, g1, g2, g3, g4, g5, g6, g7, g8, g9⟩ := MN_CL hM h
  have e42 := hM.2.1
  have hl : f_X4_strayCount_L4 fu K R 0 0 = some (nI (nS nl tg p)) := by
    refine loopCf (fun n a i => f_X4_strayCount_L4 n K R a i) (fun i => nI (cnt (sgP tg p) i)) _ nl fu ?_ ?_ (by omega)
    · intro n i hi
      have ha := astrayAt_C hM h hp (l := i) (by omega)
      have c1 : ¬ nI nl ≤ nI i := nI_ge hi (by omega)
      have A1 : nI i + 1 = nI (i + 1) := nI_1 i
      have n3 : ¬ (1 : Int32) = 0 := by decide
      by_cases c : sgP tg p i = true
      · rw [if_pos c] at ha
        rw [cnt_t c]
        have A2 : nI (cnt (sgP tg p) i) + 1 = nI (cnt (sgP tg p) i + 1) := nI_1 _
        simp (disch := omega) only [f_X4_strayCount_L4, e42, zg_ok okS, g1, zg_ok g0, g6, if_neg c1, ldI_ok, ha, Option.bind_some, jnt, if_neg n3, bnd, A2, A1]
      · rw [if_neg c] at ha
        rw [cnt_f c]
        have A2 : nI (cnt (sgP tg p) i) + 0 = nI (cnt (sgP tg p) i) := Int32.add_zero _
        simp (disch := omega) only [f_X4_strayCount_L4, e42, zg_ok okS, g1, zg_ok g0, g6, if_neg c1, ldI_ok, ha, Option.bind_some, jnt, if_true, bnd, A2, A1]
    · intro n
      have c1 : nI nl ≤ nI nl := Int32.le_refl _
      simp (disch := omega) only [f_X4_strayCount_L4, e42, zg_ok okS, g1, zg_ok g0, g6, if_pos c1]
      rfl
  unfold f_X4_strayCount
  rw [hl]
  rfl
theorem isAwaited_C (hM : MVC I0 D R t nh no nl tg) (hf : 8 < fu) {K : HI} {p : Nat → Nat} (h : MN I0 D nh nl K p) (hp : goodP D (sc I0 58) nh nl p) {g : Nat} (hg : g < 8) : (f_X4_isAwaited fu K R (nI g) = some 1 ∧ ∃ u, u < nl ∧ tg u = g ∧ p u ≠ g) ∨ (f_X4_isAwaited fu K R (nI g) = some 0 ∧ ¬ ∃ u, u < nl ∧ tg u = g ∧ p u ≠ g) := by
  obtain ⟨g0, g1, g2, g3, g4, g5, g6, g7, g8, g9⟩ := MN_CL hM h
  have e42 := hM.2.1
  have hh := hM.1.2.2.2.2.2.2.2.1
  have key : ∀ q i n, i + q = nl → q < n → (f_X4_isAwaited_L2 n K R (nI g) (nI i) = some (.inl 1) ∧ ∃ u, u < nl ∧ tg u = g ∧ p u ≠ g) ∨ (f_X4_isAwaited_L2 n K R (nI g) (nI i) = some (.inr ()) ∧ ¬ ∃ u, i ≤ u ∧ u < nl ∧ tg u = g ∧ p u ≠ g) := by
    intro q
    induction q with
    | zero =>
      intro i n e1 e2
      obtain ⟨n, rfl⟩ : ∃ z, n = z + 1 := ⟨n - 1, by omega⟩
      have ei : i = nl := by omega
      subst ei
      have c1 : nI i ≤ nI i := Int32.le_refl _
      right
      refine ⟨?_, fun ⟨u, u1, u2, _⟩ => by omega⟩
      simp (disch := omega) only [f_X4_isAwaited_L2, e42, zg_ok okS, g1, zg_ok g0, g6, if_pos c1]
    | succ q ih =>
      intro i n e1 e2
      obtain ⟨n, rfl⟩ : ∃ z, n = z + 1 := ⟨n - 1, by omega⟩
      have c1 : ¬ nI nl ≤ nI i := nI_ge (by omega) (by omega)
      have A1 : nI i + 1 = nI (i + 1) := nI_1 i
      have e43 : K 43 i = tgI (tg i) := by rw [h.1 43 (by decide) (by decide) (by decide) (by decide) (by decide)]; exact hM.2.2.2.2.2.2.1 i (by omega)
      have t8 := hM.tg8 i
      have go : (¬ (tg i = g ∧ p i ≠ g)) → f_X4_isAwaited_L2 (n + 1) K R (nI g) (nI i) = f_X4_isAwaited_L2 n K R (nI g) (nI (i + 1)) → (f_X4_isAwaited_L2 (n + 1) K R (nI g) (nI i) = some (.inl 1) ∧ ∃ u, u < nl ∧ tg u = g ∧ p u ≠ g) ∨ (f_X4_isAwaited_L2 (n + 1) K R (nI g) (nI i) = some (.inr ()) ∧ ¬ ∃ u, i ≤ u ∧ u < nl ∧ tg u = g ∧ p u ≠ g) := fun hno he => by
        rw [he]
        rcases ih (i + 1) n (by omega) (by omega) with w | ⟨w1, w2⟩
        · exact Or.inl w
        · refine Or.inr ⟨w1, fun ⟨u, u1, u2, u3⟩ => ?_⟩
          by_cases c : u = i
          · subst c; exact hno u3
          · exact w2 ⟨u, by omega, u2, u3⟩
      by_cases c2 : tg i = g
      · have c3 : tgI (tg i) = nI g := (tgI_eq t8 hg).mpr c2
        have hst := (hM.2.2.2.2.2.2.2 i (by omega)).2
        have e60 : K (58 + 2) i = nI (p i) := by rw [h.2.1 i, scP_st hst]
        have p8 := good8 hh hp i
        by_cases c4 : p i = g
        · have c5 : nI (p i) = nI g := by rw [c4]
          refine go (fun w => w.2 c4) ?_
          simp (disch := omega) only [f_X4_isAwaited_L2, e42, zg_ok okS, g1, zg_ok g0, g6, if_neg c1, ldI_ok, e43, jnt, if_pos c3, e60, if_pos c5, A1]
        · have c5 : ¬ nI (p i) = nI g := fun w => c4 ((nI_eq (by omega) (by omega)).mp w)
          left
          refine ⟨?_, i, by omega, c2, c4⟩
          simp (disch := omega) only [f_X4_isAwaited_L2, e42, zg_ok okS, g1, zg_ok g0, g6, if_neg c1, ldI_ok, e43, jnt, if_pos c3, e60, if_neg c5, gz_1]
      · have c3 : ¬ tgI (tg i) = nI g := fun w => c2 ((tgI_eq t8 hg).mp w)
        refine go (fun w => c2 w.1) ?_
        simp (disch := omega) only [f_X4_isAwaited_L2, e42, zg_ok okS, g1, zg_ok g0, g6, if_neg c1, ldI_ok, e43, jnt, if_neg c3, A1]
  unfold f_X4_isAwaited
  rw [show (0 : Int32) = nI 0 from rfl]
  rcases key nl 0 fu (by omega) (by omega) with ⟨w1, w2⟩ | ⟨w1, w2⟩
  · left
    rw [w1]
    exact ⟨rfl, w2⟩
  · right
    rw [w1]
    refine ⟨?_, fun ⟨u, u1⟩ => w2 ⟨u, by omega, u1⟩⟩
    show gz 0 (some (nI 0)) = some 0
    rw [gz_0]
    rfl
theorem heavy_C (hM : MVC I0 D R t nh no nl tg) (hf : 8 < fu) {K : HI} {p : Nat → Nat} (hx : ∀ x, x < 44 ∨ 46 < x → K x = I0 x) (hp : goodP D (sc I0 58) nh nl p) (h60 : ∀ k, K 60 k = scP (sc I0 58) nl p 2 k) : (f_X4_hasHeavyStray fu K R = some 1 ∧ ∃ u, u < nl ∧ sgP tg p u = true ∧ D 0 5 < sc I0 58 1 u) ∨ (f_X4_hasHeavyStray fu K R = some 0) := by
  have hC : CL K R 58 t nh no nl := CLx hM.1 (hx t (by have := hM.1.2.2.1; omega))
  obtain ⟨g0, g1, g2, g3, g4, g5, g6, g7, g8, g9⟩ := hC
  have e42 := hM.2.1
  have hh := hM.1.2.2.2.2.2.2.2.1
  have e5 : K t 5 = D 0 5 := by
    rw [hx t (by omega), ← hM.2.2.1]
    rfl
  have hast : ∀ l, l < 8 → f_X4_isAstray K (nI l) (K 60 l) = some (if sgP tg p l = true then 1 else 0) := fun l hl => by
    have e43 : K 43 l = tgI (tg l) := by rw [hx 43 (by decide)]; exact hM.2.2.2.2.2.2.1 l hl
    have t8 := hM.tg8 l
    unfold f_X4_isAstray
    by_cases c : tg l = 99
    · have c1 : tgI (tg l) = -1 := (tgI_m t8).mpr c
      rw [if_neg (fun w => (sgP_iff.mp w).1 c)]
      simp (disch := omega) only [ldI_ok, e43, if_pos c1, gz_0]
    · have c1 : ¬ tgI (tg l) = -1 := fun w => c ((tgI_m t8).mp w)
      rw [h60 l, scP_st (hM.2.2.2.2.2.2.2 l c).2]
      have p8 := good8 hh hp l
      by_cases c2 : tg l = p l
      · have c3 : tgI (tg l) = nI (p l) := (tgI_eq t8 p8).mpr c2
        rw [if_neg (fun w => (sgP_iff.mp w).2 c2.symm)]
        simp (disch := omega) only [ldI_ok, e43, if_neg c1, if_pos c3, gz_0]
      · have c3 : ¬ tgI (tg l) = nI (p l) := fun w => c2 ((tgI_eq t8 p8).mp w)
        rw [if_pos (sgP_iff.mpr ⟨c, fun w => c2 w.symm⟩)]
        simp (disch := omega) only [ldI_ok, e43, if_neg c1, if_neg c3, gz_1]
  have key : ∀ q i n, i + q = nl → q < n → (f_X4_hasHeavyStray_L2 n K R (nI i) = some (.inl 1) ∧ ∃ u, u < nl ∧ sgP tg p u = true ∧ D 0 5 < sc I0 58 1 u) ∨ (f_X4_hasHeavyStray_L2 n K R (nI i) = some (.inr ())) := by
    intro q
    induction q with
    | zero =>
      intro i n e1 e2
      obtain ⟨n, rfl⟩ : ∃ z, n = z + 1 := ⟨n - 1, by omega⟩
      have ei : i = nl := by omega
      subst ei
      have c1 : nI i ≤ nI i := Int32.le_refl _
      right
      simp (disch := omega) only [f_X4_hasHeavyStray_L2, e42, zg_ok okS, g1, zg_ok g0, g6, if_pos c1]
    | succ q ih =>
      intro i n e1 e2
      obtain ⟨n, rfl⟩ : ∃ z, n = z + 1 := ⟨n - 1, by omega⟩
      have c1 : ¬ nI nl ≤ nI i := nI_ge (by omega) (by omega)
      have A1 : nI i + 1 = nI (i + 1) := nI_1 i
      have ha := hast i (by omega)
      have e59 : K (58 + 1) i = sc I0 58 1 i := by
        rw [hx (58 + 1) (by omega)]
        rfl
      have n3 : ¬ (1 : Int32) = 0 := by decide
      by_cases c : sgP tg p i = true
      · rw [if_pos c] at ha
        by_cases c2 : sc I0 58 1 i ≤ D 0 5
        · rcases ih (i + 1) n (by omega) (by omega) with ⟨w1, w2⟩ | w
          · left
            refine ⟨?_, w2⟩
            simp (disch := omega) only [f_X4_hasHeavyStray_L2, e42, zg_ok okS, g1, zg_ok g0, g6, if_neg c1, ldI_ok, ha, Option.bind_some, jnt, if_neg n3, e59, e5, if_pos c2, A1, w1]
          · right
            simp (disch := omega) only [f_X4_hasHeavyStray_L2, e42, zg_ok okS, g1, zg_ok g0, g6, if_neg c1, ldI_ok, ha, Option.bind_some, jnt, if_neg n3, e59, e5, if_pos c2, A1, w]
        · left
          refine ⟨?_, i, by omega, c, Int32.not_le.mp c2⟩
          simp (disch := omega) only [f_X4_hasHeavyStray_L2, e42, zg_ok okS, g1, zg_ok g0, g6, if_neg c1, ldI_ok, ha, Option.bind_some, jnt, if_neg n3, e59, e5, if_neg c2, gz_1]
      · rw [if_neg c] at ha
        rcases ih (i + 1) n (by omega) (by omega) with ⟨w1, w2⟩ | w
        · left
          refine ⟨?_, w2⟩
          simp (disch := omega) only [f_X4_hasHeavyStray_L2, e42, zg_ok okS, g1, zg_ok g0, g6, if_neg c1, ldI_ok, ha, Option.bind_some, jnt, if_true, A1, w1]
        · right
          simp (disch := omega) only [f_X4_hasHeavyStray_L2, e42, zg_ok okS, g1, zg_ok g0, g6, if_neg c1, ldI_ok, ha, Option.bind_some, jnt, if_true, A1, w]
  unfold f_X4_hasHeavyStray
  rw [show (0 : Int32) = nI 0 from rfl]
  rcases key nl 0 fu (by omega) (by omega) with ⟨w1, w2⟩ | w1
  · left
    rw [w1]
    exact ⟨rfl, w2⟩
  · right
    rw [w1]
    show gz 0 (some (nI 0)) = some 0
    rw [gz_0]
    rfl
end
