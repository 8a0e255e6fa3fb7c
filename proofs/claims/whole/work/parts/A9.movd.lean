/-! moves: the class's search -/
section
variable {I0 D : HI} {R : HR} {t nh no nl fu : Nat} {tg : Nat → Nat}
def EnC (I0 D : HI) (nh nl : Nat) (tg : Nat → Nat) (k : Nat) (p : Nat → Nat) : Prop := EnP nl nh (stS (sc I0 58) nl) tg (mayP D (sc I0 58) nl) k p
def mvC (I0 D : HI) (nl : Nat) (p : Nat → Nat) (l h : Nat) : Prop := mvP (stS (sc I0 58) nl) (mayP D (sc I0 58) nl) p l h
/-- what a call with so many moves left does -/
def CHs (I0 D : HI) (R : HR) (nh nl fu : Nat) (tg : Nat → Nat) (r left : Nat) (Q : (Nat → Int32) → Prop) : Prop := ∀ (K : HI) (p : Nat → Nat), goodP D (sc I0 58) nh nl p → MN I0 D nh nl K p → Q (K 46) → (∀ j, j < left → ¬ EnC I0 D nh nl tg j p) → ∃ y K', g_X4 fu r 0 K R (nI left) 0 0 = some (y, K') ∧ MN I0 D nh nl K' p ∧ ((y = 1 ∧ EnC I0 D nh nl tg left p) ∨ (y = 0 ∧ ¬ EnC I0 D nh nl tg left p ∧ Q (K' 46)))
theorem into_C' (hM : MVC I0 D R t nh no nl tg) (hf : 1600 < fu) {r left : Nat} {Q : (Nat → Int32) → Prop} (hc : CHs I0 D R nh nl fu tg r left Q) (hleft : left ≤ 8) {K : HI} {p : Nat → Nat} (hp : goodP D (sc I0 58) nh nl p) (h : MN I0 D nh nl K p) (hQ : Q (K 46)) (hno : ∀ j, j < left + 1 → ¬ EnC I0 D nh nl tg j p) {l g : Nat} (hl : stS (sc I0 58) nl l = true) (hg : g < nh) : ∃ y K', f_X4_reachesInto (g_X4 fu r) fu K R (nI l) (nI g) (nI (left + 1)) = some (y, K') ∧ MN I0 D nh nl K' p ∧ ((y = 1 ∧ mvC I0 D nl p l g ∧ EnC I0 D nh nl tg left (upP p l g)) ∨ (y = 0 ∧ ¬ (mvC I0 D nl p l g ∧ EnC I0 D nh nl tg left (upP p l g)) ∧ Q (K' 46))) := by
  have hCK := MN_CL hM h
  obtain ⟨g0, g1, g2, g3, g4, g5, g6, g7, g8, g9⟩ := id hCK
  have e42 := hM.2.1
  have hSW := hM.2.2.2.2.1
  have hD := hM.2.2.2.2.2.1
  obtain ⟨l1, l2⟩ := stS_iff.mp hl
  have e60 : K 60 l = nI (p l) := by rw [h.2.1 l, scP_st hl]
  have hpl := hp.1 l hl
  have ld60 : ∀ kk : Int32 → Option (Int32 × HI), ldI (K (58 + 2)) 8 (nI l) kk = kk (nI (p l)) := fun kk => by
    rw [ldI_ok (by omega)]
    show kk (K 60 l) = _
    rw [e60]
  unfold f_X4_reachesInto
  by_cases c : g = p l
  · have c1 : nI g = nI (p l) := by rw [c]
    refine ⟨0, K, ?_, h, Or.inr ⟨rfl, fun w => w.1.2.1 c, hQ⟩⟩
    simp only [e42, zg_ok okS, ld60, if_pos c1, gz_0]
  · have c1 : ¬ nI g = nI (p l) := fun w => c ((nI_eq (by omega) (by omega)).mp w)
    obtain ⟨q1, q2⟩ := h.2.2 g hg
    have hrm := (room_p hSW hD g9 g7 hp hg).2
    have hct : ctP (sc I0 58) nl p g ≤ 8 := Nat.le_trans (cnt_le nl) g9
    have ev := MN_vw hM h
    have es := MN_sc h
    have hS' := SW_p hSW hD g9 g7 hp
    obtain ⟨K1, m1, m2⟩ := mayGo_C (fu := fu) (I := K) (R := R) (s := 58) hCK (by rw [ev]; exact hM.2.2.2.1) (by rw [es]; exact hS'.bw) (by rw [ev]; exact hD) hf (l := l) (h := g) (g := p l) (r := rmP D (sc I0 58) nl p g) (c := ctP (sc I0 58) nl p g) l1 hg hpl e60 (by omega) hct
    rw [ev, es] at m1
    have em : mayB D (scP (sc I0 58) nl p) l g (rmP D (sc I0 58) nl p g) (ctP (sc I0 58) nl p g) = mayP D (sc I0 58) nl p l g := rfl
    rw [em] at m1
    have ld44 : ∀ kk : Int32 → Option (Int32 × HI), ldI (K 44) 8 (nI g) kk = kk (nI (rmP D (sc I0 58) nl p g)) := fun kk => by rw [ldI_ok (by omega), q1]
    have ld45 : ∀ kk : Int32 → Option (Int32 × HI), ldI (K 45) 8 (nI g) kk = kk (nI (ctP (sc I0 58) nl p g)) := fun kk => by rw [ldI_ok (by omega), q2]
    have h1 : MN I0 D nh nl K1 p := ⟨fun x x1 x2 x3 x4 x5 => by rw [m2 x (by omega)]; exact h.1 x x1 x2 x3 x4 x5, fun k => by rw [m2 60 (by decide)]; exact h.2.1 k, fun h' hh' => by rw [m2 44 (by decide), m2 45 (by decide)]; exact h.2.2 h' hh'⟩
    have hQ1 : Q (K1 46) := by rw [m2 46 (by decide)]; exact hQ
    have n3 : ¬ (1 : Int32) = 0 := by decide
    by_cases cm : mayP D (sc I0 58) nl p l g = true
    · rw [if_pos cm] at m1
      have hmv : mvC I0 D nl p l g := ⟨hl, c, cm⟩
      have hp' := good_mv hp hg hmv
      obtain ⟨K2, s1, s2, s3⟩ := shift_C hM h1 hp hl hg c hp'
      obtain ⟨y, K3, y1, y2, y3⟩ := hc K2 (upP p l g) hp' s2 (by rw [s3]; exact hQ1) (fun j hj w => hno (j + 1) (by omega) ⟨l, g, l1, hg, hmv, w⟩)
      have hb : upP (upP p l g) l (p l) = p := upP_back
      obtain ⟨K4, t1, t2, t3⟩ := shift_C hM y2 hp' hl hpl (show p l ≠ upP p l g l by rw [upP_eq]; exact fun w => c w.symm) (by rw [hb]; exact hp)
      rw [upP_eq] at t1
      rw [hb] at t2
      have esub : nI (left + 1) - 1 = nI left := by rw [sub1, dec1]
      rcases y3 with ⟨w1, w2⟩ | ⟨w1, w2, w3⟩
      · subst w1
        refine ⟨1, K4, ?_, t2, Or.inl ⟨rfl, hmv, w2⟩⟩
        simp only [e42, zg_ok okS, ld60, if_neg c1, ld44, ld45, m1, Option.bind_some, if_neg n3, s1, esub, y1, t1, gz_1]
      · subst w1
        refine ⟨0, K4, ?_, t2, Or.inr ⟨rfl, fun w => w2 w.2, by rw [t3]; exact w3⟩⟩
        simp only [e42, zg_ok okS, ld60, if_neg c1, ld44, ld45, m1, Option.bind_some, if_neg n3, s1, esub, y1, t1, gz_0]
    · rw [if_neg cm] at m1
      refine ⟨0, K1, ?_, h1, Or.inr ⟨rfl, fun w => cm w.1.2.2, hQ1⟩⟩
      simp only [e42, zg_ok okS, ld60, if_neg c1, ld44, ld45, m1, Option.bind_some, if_true, gz_0]
theorem by_C (hM : MVC I0 D R t nh no nl tg) (hf : 1600 < fu) {r left : Nat} {Q : (Nat → Int32) → Prop} (hc : CHs I0 D R nh nl fu tg r left Q) (hleft : left ≤ 8) {K : HI} {p : Nat → Nat} (hp : goodP D (sc I0 58) nh nl p) (h : MN I0 D nh nl K p) (hQ : Q (K 46)) (hno : ∀ j, j < left + 1 → ¬ EnC I0 D nh nl tg j p) (hs : 0 < nS nl tg p ∧ nS nl tg p < left + 1) {l : Nat} (hl : stS (sc I0 58) nl l = true) : ∃ y K', f_X4_reachesBy (g_X4 fu (r + 1)) fu K R (nI l) (nI (left + 1)) (nI (nS nl tg p)) = some (y, K') ∧ MN I0 D nh nl K' p ∧ ((y = 1 ∧ ∃ g, g < nh ∧ mvC I0 D nl p l g ∧ EnC I0 D nh nl tg left (upP p l g)) ∨ (y = 0 ∧ (∀ g, g < nh → ¬ (mvC I0 D nl p l g ∧ EnC I0 D nh nl tg left (upP p l g))) ∧ Q (K' 46))) := by
  obtain ⟨g0, g1, g2, g3, g4, g5, g6, g7, g8, g9⟩ := id hM.1
  have e42 := hM.2.1
  obtain ⟨l1, l2⟩ := stS_iff.mp hl
  have n3 : ¬ (1 : Int32) = 0 := by decide
  have hpl := hp.1 l hl
  obtain ⟨wo, hwo⟩ : ∃ wo, wo = nS nl tg p - (if sgP tg p l = true then 1 else 0) := ⟨_, rfl⟩
  have hup : ∀ g, nS nl tg (upP p l g) = wo + (if tg l ≠ 99 ∧ g ≠ tg l then 1 else 0) := fun g => by
    have e := nS_up (tg := tg) (p := p) (l := l) (h := g) l1
    have : (if sgP tg p l = true then 1 else 0) ≤ nS nl tg p := by
      split <;> omega
    omega
  have loop : ∀ (q i n : Nat) (K : HI), i + q = nh → q < n → MN I0 D nh nl K p → Q (K 46) → (∀ g, g < i → ¬ (mvC I0 D nl p l g ∧ EnC I0 D nh nl tg left (upP p l g))) → ∃ K', MN I0 D nh nl K' p ∧ ((f_X4_reachesBy_L29 (g_X4 fu (r + 1)) fu n K R (nI l) (nI (left + 1)) (nI wo) (nI i) = some (.inl (1, K')) ∧ ∃ g, g < nh ∧ mvC I0 D nl p l g ∧ EnC I0 D nh nl tg left (upP p l g)) ∨ (f_X4_reachesBy_L29 (g_X4 fu (r + 1)) fu n K R (nI l) (nI (left + 1)) (nI wo) (nI i) = some (.inr K') ∧ (∀ g, g < nh → ¬ (mvC I0 D nl p l g ∧ EnC I0 D nh nl tg left (upP p l g))) ∧ Q (K' 46))) := by
    intro q
    induction q with
    | zero =>
      intro i n K e1 e2 h hQ hg
      obtain ⟨n, rfl⟩ : ∃ z, n = z + 1 := ⟨n - 1, by omega⟩
      have ei : i = nh := by omega
      subst ei
      obtain ⟨f0, f1, f2, f3, f4, f5, f6, f7, f8, f9⟩ := MN_CL hM h
      have c1 : nI i ≤ nI i := Int32.le_refl _
      refine ⟨K, h, Or.inr ⟨?_, hg, hQ⟩⟩
      simp only [f_X4_reachesBy_L29, e42, zg_ok okS, f1, zg_ok f0, f4, if_pos c1]
    | succ q ih =>
      intro i n K e1 e2 h hQ hg
      obtain ⟨n, rfl⟩ : ∃ z, n = z + 1 := ⟨n - 1, by omega⟩
      obtain ⟨f0, f1, f2, f3, f4, f5, f6, f7, f8, f9⟩ := MN_CL hM h
      have hi : i < nh := by omega
      have c1 : ¬ nI nh ≤ nI i := nI_ge hi (by omega)
      have A1 : nI i + 1 = nI (i + 1) := nI_1 i
      have ha := isAstray_C hM h (l := l) (g := i) (by omega) (by omega)
      obtain ⟨th, hth⟩ : ∃ th, th = if tg l ≠ 99 ∧ i ≠ tg l then 1 else 0 := ⟨_, rfl⟩
      have hth1 : th ≤ 1 := by rw [hth]; split <;> omega
      have ha' : f_X4_isAstray K (nI l) (nI i) = some (nI th) := by
        rw [ha, hth]
        by_cases w : tg l ≠ 99 ∧ i ≠ tg l
        · rw [if_pos w, if_pos w]; rfl
        · rw [if_neg w, if_neg w]; rfl
      have hupi := hup i
      rw [← hth] at hupi
      have hwo9 : wo ≤ 8 := by
        have : nS nl tg p ≤ nl := cnt_le nl
        omega
      have step : f_X4_reachesBy_L29 (g_X4 fu (r + 1)) fu (n + 1) K R (nI l) (nI (left + 1)) (nI wo) (nI i) = if nI (left + 1) ≤ nI (wo + th) then f_X4_reachesBy_L29 (g_X4 fu (r + 1)) fu n K R (nI l) (nI (left + 1)) (nI wo) (nI (i + 1)) else if 2 < nI (left + 1) then ((g_X4 fu (r + 1) 2 K R (nI l) (nI i) (nI (left + 1))).bind fun x23 => if x23.1 = 0 then f_X4_reachesBy_L29 (g_X4 fu (r + 1)) fu n x23.2 R (nI l) (nI (left + 1)) (nI wo) (nI (i + 1)) else gz 1 (some (.inl (1, x23.2)))) else (f_X4_helpsLast fu K R (nI l) (nI i)).bind fun x19 => if x19 = 0 then f_X4_reachesBy_L29 (g_X4 fu (r + 1)) fu n K R (nI l) (nI (left + 1)) (nI wo) (nI (i + 1)) else ((g_X4 fu (r + 1) 2 K R (nI l) (nI i) (nI (left + 1))).bind fun x23 => if x23.1 = 0 then f_X4_reachesBy_L29 (g_X4 fu (r + 1)) fu n x23.2 R (nI l) (nI (left + 1)) (nI wo) (nI (i + 1)) else gz 1 (some (.inl (1, x23.2)))) := by
        rcases (show th = 0 ∨ th = 1 by omega) with w | w
        · rw [w] at ha' ⊢
          have z0 : nI 0 = 0 := rfl
          have z1 : nI wo + 0 = nI (wo + 0) := Int32.add_zero _
          simp only [f_X4_reachesBy_L29, e42, zg_ok okS, f1, zg_ok f0, f4, if_neg c1, ha', Option.bind_some, jnt, if_pos z0, z1, if_true, if_neg n3, A1]
        · rw [w] at ha' ⊢
          have z0 : ¬ nI 1 = 0 := by decide
          have z1 : nI wo + 1 = nI (wo + 1) := nI_1 wo
          simp only [f_X4_reachesBy_L29, e42, zg_ok okS, f1, zg_ok f0, f4, if_neg c1, ha', Option.bind_some, jnt, if_neg z0, z1, if_true, if_neg n3, A1]
      -- goes on with the next hollow
      have go : ∀ K1 : HI, MN I0 D nh nl K1 p → Q (K1 46) → ¬ (mvC I0 D nl p l i ∧ EnC I0 D nh nl tg left (upP p l i)) → f_X4_reachesBy_L29 (g_X4 fu (r + 1)) fu (n + 1) K R (nI l) (nI (left + 1)) (nI wo) (nI i) = f_X4_reachesBy_L29 (g_X4 fu (r + 1)) fu n K1 R (nI l) (nI (left + 1)) (nI wo) (nI (i + 1)) → ∃ K', MN I0 D nh nl K' p ∧ ((f_X4_reachesBy_L29 (g_X4 fu (r + 1)) fu (n + 1) K R (nI l) (nI (left + 1)) (nI wo) (nI i) = some (.inl (1, K')) ∧ ∃ g, g < nh ∧ mvC I0 D nl p l g ∧ EnC I0 D nh nl tg left (upP p l g)) ∨ (f_X4_reachesBy_L29 (g_X4 fu (r + 1)) fu (n + 1) K R (nI l) (nI (left + 1)) (nI wo) (nI i) = some (.inr K') ∧ (∀ g, g < nh → ¬ (mvC I0 D nl p l g ∧ EnC I0 D nh nl tg left (upP p l g))) ∧ Q (K' 46))) := fun K1 h1 hQ1 hn1 he => by
        rw [he]
        exact ih (i + 1) n K1 (by omega) (by omega) h1 hQ1 (fun g hg' => by
          by_cases w : g = i
          · rw [w]; exact hn1
          · exact hg g (by omega))
      by_cases c2 : left + 1 ≤ wo + th
      · have c2' : nI (left + 1) ≤ nI (wo + th) := nI_le c2 (by omega)
        refine go K h hQ (fun w => ?_) ?_
        · have := En_le _ _ w.2
          omega
        · rw [step, if_pos c2']
      · have c2' : ¬ nI (left + 1) ≤ nI (wo + th) := nI_ge (by omega) (by omega)
        obtain ⟨y, K1, y1, y2, y3⟩ := into_C' hM hf hc hleft hp h hQ hno hl hi
        have y1' : g_X4 fu (r + 1) 2 K R (nI l) (nI i) (nI (left + 1)) = some (y, K1) := y1
        -- the search itself
        have work : f_X4_reachesBy_L29 (g_X4 fu (r + 1)) fu (n + 1) K R (nI l) (nI (left + 1)) (nI wo) (nI i) = (if y = 0 then f_X4_reachesBy_L29 (g_X4 fu (r + 1)) fu n K1 R (nI l) (nI (left + 1)) (nI wo) (nI (i + 1)) else some (.inl (1, K1))) → ∃ K', MN I0 D nh nl K' p ∧ ((f_X4_reachesBy_L29 (g_X4 fu (r + 1)) fu (n + 1) K R (nI l) (nI (left + 1)) (nI wo) (nI i) = some (.inl (1, K')) ∧ ∃ g, g < nh ∧ mvC I0 D nl p l g ∧ EnC I0 D nh nl tg left (upP p l g)) ∨ (f_X4_reachesBy_L29 (g_X4 fu (r + 1)) fu (n + 1) K R (nI l) (nI (left + 1)) (nI wo) (nI i) = some (.inr K') ∧ (∀ g, g < nh → ¬ (mvC I0 D nl p l g ∧ EnC I0 D nh nl tg left (upP p l g))) ∧ Q (K' 46))) := fun he => by
          rcases y3 with ⟨w1, w2, w3⟩ | ⟨w1, w2, w3⟩
          · subst w1
            rw [if_neg n3] at he
            exact ⟨K1, y2, Or.inl ⟨he, i, hi, w2, w3⟩⟩
          · subst w1
            rw [if_pos rfl] at he
            exact go K1 y2 w3 w2 he
        by_cases c3 : left + 1 ≤ 2
        · have c3' : ¬ (2 : Int32) < nI (left + 1) := Int32.not_lt.mpr (nI_le (b := 2) c3 (by decide))
          have hl1 : left = 1 := by omega
          have hs1 : nS nl tg p = 1 := by omega
          rcases helps_C (fu := fu) hM (by omega) h hp hl (show i < 8 by omega) with w1 | ⟨w1, w2, w3, w4⟩
          · refine work ?_
            rw [step, if_neg c2', if_neg c3', w1, Option.bind_some, if_neg n3, y1', Option.bind_some, gz_1]
          · refine go K h hQ (fun w => ?_) ?_
            · have hm := w.1
              subst hl1
              exact En_help hs1 (hno 1 (by omega)) l1 (by omega) (by omega) (fun u _ hu => hM.2.2.2.2.2.2.2 u hu) w2 w3 w4 (fun m' t' _ z2 _ _ z5 z6 => may_loc hl z2 z5 z6) w.2
            · rw [step, if_neg c2', if_neg c3', w1, Option.bind_some, if_pos rfl]
        · have c3' : (2 : Int32) < nI (left + 1) := nI_lt (a := 2) (by omega) (by omega)
          refine work ?_
          rw [step, if_neg c2', if_pos c3', y1', Option.bind_some, gz_1]
  obtain ⟨f0, f1, f2, f3, f4, f5, f6, f7, f8, f9⟩ := MN_CL hM h
  have ha := astrayAt_C hM h hp (l := l) (by omega)
  have l60 : ∀ kk : Int32 → Option (Int32 × HI), ldI (K (58 + 2)) 8 (nI l) kk = kk (K 60 l) := fun kk => by rw [ldI_ok (by omega)]
  obtain ⟨K', k1, k2⟩ := loop nh 0 fu K (by omega) (by omega) h hQ (fun g hg => absurd hg (by omega))
  have ew : ∀ k : Int32 → Option (Int32 × HI), (if (if sgP tg p l = true then (1 : Int32) else 0) = 0 then k (nI (nS nl tg p) - 0) else k (nI (nS nl tg p) - 1)) = k (nI wo) := fun k => by
    by_cases w : sgP tg p l = true
    · rw [if_pos w] at hwo
      rw [if_pos w, if_neg n3, hwo, zq1, pk_sub (by omega)]
    · rw [if_neg w] at hwo
      rw [if_neg w, if_pos rfl, hwo, Int32.sub_zero]
      rfl
  have red : f_X4_reachesBy (g_X4 fu (r + 1)) fu K R (nI l) (nI (left + 1)) (nI (nS nl tg p)) = (f_X4_reachesBy_L29 (g_X4 fu (r + 1)) fu fu K R (nI l) (nI (left + 1)) (nI wo) 0).bind (Sum.elim (fun r => some r) fun x28 => gz 0 (some (0, x28))) := by
    unfold f_X4_reachesBy
    simp only [e42, zg_ok okS, l60, ha, Option.bind_some, jnt, bnd]
    exact ew (fun v7 => (f_X4_reachesBy_L29 (g_X4 fu (r + 1)) fu fu K R (nI l) (nI (left + 1)) v7 0).bind (Sum.elim (fun r => some r) fun x28 => gz 0 (some (0, x28))))
  rw [red, show (0 : Int32) = nI 0 from rfl]
  rcases k2 with ⟨w1, w2⟩ | ⟨w1, w2, w3⟩
  · rw [w1]
    exact ⟨1, K', rfl, k1, Or.inl ⟨rfl, w2⟩⟩
  · rw [w1]
    refine ⟨0, K', ?_, k1, Or.inr ⟨rfl, w2, w3⟩⟩
    show gz (nI 0) (some (nI 0, K')) = some (0, K')
    exact gz_0
end
