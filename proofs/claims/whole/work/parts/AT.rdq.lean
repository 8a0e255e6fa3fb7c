/-! the rules' reader: both sides at once -/
def AskF (r0 : Nat) (fig : Nat → Option Int) : Prop := (∀ k v, fig k = some v → bdZ v) ∧ ∀ k, Ask r0 k → ∃ v, fig k = some v
/-- the codes from here to there leave one value more -/
def VL (K : HI) (t r0 c0 c1 nd ts : Nat) : Prop := c0 ≤ c1 ∧ ∀ fig, AskF r0 fig → ∀ st : List Int, st.length + nd ≤ 100 → ∃ v, evN fig (K (t + 10)) c0 (c1 - c0) st = some (v :: st) ∧ (ts = 1 → v = 0 ∨ v = 1)
theorem VL_congr {K K' : HI} {t r0 c0 c1 nd ts : Nat} (h : VL K t r0 c0 c1 nd ts) (hk : ∀ j, c0 ≤ j → j < c1 → K' (t + 10) j = K (t + 10) j) : VL K' t r0 c0 c1 nd ts := by
  refine ⟨h.1, fun fig hf st hs => ?_⟩
  have := h.1
  obtain ⟨v, h1, h2⟩ := h.2 fig hf st hs
  refine ⟨v, ?_, h2⟩
  rw [← h1]
  exact evN_congr (fun _ _ => rfl) (fun j j1 j2 => hk j j1 (by omega))
theorem VL_le {K : HI} {t r0 c0 c1 nd nd' ts : Nat} (h : VL K t r0 c0 c1 nd ts) (hn : nd ≤ nd') : VL K t r0 c0 c1 nd' ts := ⟨h.1, fun fig hf st hs => h.2 fig hf st (by omega)⟩
theorem VL_w {K : HI} {t r0 c0 c1 nd : Nat} (h : VL K t r0 c0 c1 nd 1) : VL K t r0 c0 c1 nd 0 := ⟨h.1, fun fig hf st hs => by
  obtain ⟨v, h1, _⟩ := h.2 fig hf st hs
  exact ⟨v, h1, fun w => absurd w (by decide)⟩⟩
theorem ev1 {fig : Nat → Option Int} {f : Nat → Int32} {i : Nat} {st : List Int} : evN fig f i 1 st = evS fig (f i).toInt st := by
  show (evS fig (f i).toInt st).bind (evN fig f (i + 1) 0) = _
  cases evS fig (f i).toInt st with
  | none => rfl
  | some s => rfl
/-- two values, and what is done with them -/
theorem VL_bin {K : HI} {t r0 c0 c1 c2 nd1 nd2 nd ts ts' code : Nat} (h1 : VL K t r0 c0 c1 nd1 ts) (h2 : VL K t r0 c1 c2 nd2 ts) (hcode : K (t + 10) c2 = opC code) (hc : 31 ≤ code ∧ code ≤ 42) (h01 : (code = 41 ∨ code = 42) → ts = 1) (hts : ts' = 1 → 38 ≤ code) (hnd : nd1 ≤ nd ∧ nd2 + 1 ≤ nd ∧ 3 ≤ nd) : VL K t r0 c0 (c2 + 1) nd ts' := by
  have a1 := h1.1
  have a2 := h2.1
  refine ⟨by omega, fun fig hf st hs => ?_⟩
  obtain ⟨a, e1, f1⟩ := h1.2 fig hf st (by omega)
  obtain ⟨v, e2, f2⟩ := h2.2 fig hf (a :: st) (by show st.length + 1 + nd2 ≤ 100; omega)
  have hz0 : ∀ k, k < 45 → 1 ≤ k → (mI k).toInt = -(k : Int) := by decide
  have ez : (opC code).toInt = -((code - 22 : Nat) : Int) := by
    unfold opC
    rw [if_neg (by omega), if_neg (by omega)]
    exact hz0 _ (by omega) (by omega)
  have es : evS fig (K (t + 10) c2).toInt (v :: a :: st) = some (opZ (opC code).toInt a v :: st) := by
    rw [hcode]
    unfold evS
    have hl : (v :: a :: st).length = st.length + 2 := rfl
    rw [if_neg (by rw [hl]; omega), if_neg (by rw [ez]; omega), if_neg (by rw [ez]; omega), if_neg (by rw [ez]; omega), if_neg (by rw [ez]; omega), if_pos (by rw [ez]; omega)]
    show (if ((opC code).toInt = -19 ∨ (opC code).toInt = -20) ∧ ¬ ((a = 0 ∨ a = 1) ∧ (v = 0 ∨ v = 1)) then none else some (opZ (opC code).toInt a v :: st)) = _
    rw [if_neg]
    rintro ⟨w1, w2⟩
    rw [ez] at w1
    have ht := h01 (by omega)
    exact w2 ⟨f1 ht, f2 ht⟩
  refine ⟨opZ (opC code).toInt a v, ?_, fun w => ?_⟩
  · rw [show c2 + 1 - c0 = (c1 - c0) + ((c2 - c1) + 1) by omega, evN_add, e1, Option.bind_some, show c0 + (c1 - c0) = c1 by omega, evN_add, e2, Option.bind_some, show c1 + (c2 - c1) = c2 by omega, ev1]
    exact es
  · have := hts w
    rw [ez]
    have hcs : code = 38 ∨ code = 39 ∨ code = 40 ∨ code = 41 ∨ code = 42 := by omega
    rcases hcs with rfl | rfl | rfl | rfl | rfl
    · show (if a < v then (1 : Int) else 0) = 0 ∨ (if a < v then (1 : Int) else 0) = 1
      split <;> simp
    · show (if v < a then (1 : Int) else 0) = 0 ∨ (if v < a then (1 : Int) else 0) = 1
      split <;> simp
    · show (if a = v then (1 : Int) else 0) = 0 ∨ (if a = v then (1 : Int) else 0) = 1
      split <;> simp
    · show (if a = 1 ∧ v = 1 then (1 : Int) else 0) = 0 ∨ (if a = 1 ∧ v = 1 then (1 : Int) else 0) = 1
      split <;> simp
    · show (if a = 0 ∧ v = 0 then (0 : Int) else 1) = 0 ∨ (if a = 0 ∧ v = 0 then (0 : Int) else 1) = 1
      split <;> simp
/-- what a rule's reading leaves alone, by the reference -/
def PFm (J J' : HI) (b dp om cj : Nat) : Prop := (∀ x, x < 115 ∨ (117 ≤ x ∧ x ≤ 119) ∨ 126 ≤ x → x ≠ 100 → J' x = J x) ∧ (∀ s, s ≤ 2 ∨ (7 ≤ s ∧ s ≠ 12 ∧ s ≠ 32 ∧ s ≠ 40 ∧ s ≠ 41 ∧ s ≠ 43 ∧ s ≠ 44) → J' 100 s = J 100 s) ∧ (∀ i, i < dp → J' 120 i = J 120 i ∧ J' 121 i = J 121 i ∧ J' 122 i = J 122 i ∧ J' 123 i = J 123 i ∧ J' 124 i = J 124 i) ∧ J' 123 dp = J 123 dp ∧ (∀ i, i < om → J' 125 i = J 125 i) ∧ ∀ k, k < 1600 * b + cj ∨ 1600 * b + 1600 ≤ k → J' 115 k = J 115 k ∧ J' 116 k = J 116 k
theorem PFm.refl {J : HI} {b dp om cj : Nat} : PFm J J b dp om cj := ⟨fun _ _ _ => rfl, fun _ _ => rfl, fun _ _ => ⟨rfl, rfl, rfl, rfl, rfl⟩, rfl, fun _ _ => rfl, fun _ _ => ⟨rfl, rfl⟩⟩
theorem PFm.trans {J J' J'' : HI} {b dp om om' cj cj' : Nat} (h : PFm J J' b dp om cj) (h' : PFm J' J'' b dp om' cj') (ho : om ≤ om') (hc : cj ≤ cj') : PFm J J'' b dp om cj := by
  refine ⟨fun x a c => (h'.1 x a c).trans (h.1 x a c), fun s hs => (h'.2.1 s hs).trans (h.2.1 s hs), fun i hi => ?_, h'.2.2.2.1.trans h.2.2.2.1, fun i hi => (h'.2.2.2.2.1 i (by omega)).trans (h.2.2.2.2.1 i hi), fun k hk => ?_⟩
  · obtain ⟨a1, a2, a3, a4, a5⟩ := h.2.2.1 i hi
    obtain ⟨b1, b2, b3, b4, b5⟩ := h'.2.2.1 i hi
    exact ⟨b1.trans a1, b2.trans a2, b3.trans a3, b4.trans a4, b5.trans a5⟩
  · obtain ⟨a1, a2⟩ := h.2.2.2.2.2 k hk
    obtain ⟨b1, b2⟩ := h'.2.2.2.2.2 k (by omega)
    exact ⟨b1.trans a1, b2.trans a2⟩
/-- by the class -/
def PFc (I K : HI) (t c0 : Nat) : Prop := (∀ x, x ≠ 7 → x ≠ t → x ≠ t + 10 → K x = I x) ∧ (∀ s, s ≠ 16 → K t s = I t s) ∧ (∀ s, s = 1 ∨ 7 ≤ s → K 7 s = I 7 s) ∧ ∀ j, j < c0 → K (t + 10) j = I (t + 10) j
theorem PFc.refl {I : HI} {t c0 : Nat} : PFc I I t c0 := ⟨fun _ _ _ _ => rfl, fun _ _ => rfl, fun _ _ => rfl, fun _ _ => rfl⟩
theorem PFc.trans {I K K' : HI} {t c0 c1 : Nat} (h : PFc I K t c0) (h' : PFc K K' t c1) (hc : c0 ≤ c1) : PFc I K' t c0 := ⟨fun x a b c => (h'.1 x a b c).trans (h.1 x a b c), fun s hs => (h'.2.1 s hs).trans (h.2.1 s hs), fun s hs => (h'.2.2.1 s hs).trans (h.2.2.1 s hs), fun j hj => (h'.2.2.2 j (by omega)).trans (h.2.2.2 j hj)⟩
theorem AdC.pf {I K : HI} {t c0 : Nat} (h : AdC I K) (ht : t = 67 ∨ t = 80) : PFc I K t c0 := ⟨fun x a _ _ => h.1 x a, fun s _ => by rw [h.1 t (by omega)], h.2, fun j _ => by rw [h.1 (t + 10) (by omega)]⟩
/-- a rule that can't be read -/
def BdC (I K : HI) (t f pl : Nat) : Prop := (∀ x, x ≠ 6 → x ≠ 7 → ¬ (t ≤ x ∧ x ≤ t + 12) → K x = I x) ∧ K 7 7 = nI f ∧ K 7 8 = nI pl
def BdR (J J' : HI) (b f pl : Nat) : Prop := (∀ x, x < 115 ∨ (117 ≤ x ∧ x ≤ 119) ∨ 126 ≤ x → x ≠ 100 → J' x = J x) ∧ (∀ s, s ≤ 2 ∨ s = 10 ∨ s = 11 ∨ (13 ≤ s ∧ s ≠ 32 ∧ s ≠ 40 ∧ s ≠ 41 ∧ s ≠ 43 ∧ s ≠ 44) → J' 100 s = J 100 s) ∧ (∀ k, k < 1600 * b ∨ 1600 * b + 1600 ≤ k → J' 115 k = J 115 k ∧ J' 116 k = J 116 k) ∧ J' 100 8 = nI f ∧ J' 100 9 = nI pl
theorem BdC.of {I K K' : HI} {t c0 f pl : Nat} (h : PFc I K t c0) (ht : t = 67 ∨ t = 80) (h' : BadC K K' f pl) : BdC I K' t f pl := ⟨fun x a b c => (h'.1 x a b).trans (h.1 x b (by omega) (by omega)), h'.2.1, h'.2.2⟩
theorem BdC.tr {I K K' : HI} {t c0 f pl : Nat} (h : PFc I K t c0) (h' : BdC K K' t f pl) : BdC I K' t f pl := ⟨fun x a b c => (h'.1 x a b c).trans (h.1 x b (by omega) (by omega)), h'.2.1, h'.2.2⟩
theorem BdR.of {J J' J'' : HI} {b dp om cj f pl : Nat} (h : PFm J J' b dp om cj) (h' : BadM J' J'' f pl) : BdR J J'' b f pl := by
  refine ⟨fun x a c => (h'.1 x c).trans (h.1 x a c), fun s hs => (h'.2.2.2 s (by omega) (by omega)).trans (h.2.1 s (by omega)), fun k hk => ?_, h'.2.1, h'.2.2.1⟩
  obtain ⟨a1, a2⟩ := h.2.2.2.2.2 k (by omega)
  rw [h'.1 115 (by decide), h'.1 116 (by decide)]
  exact ⟨a1, a2⟩
theorem BdR.tr {J J' J'' : HI} {b dp om cj f pl : Nat} (h : PFm J J' b dp om cj) (h' : BdR J' J'' b f pl) : BdR J J'' b f pl := by
  refine ⟨fun x a c => (h'.1 x a c).trans (h.1 x a c), fun s hs => (h'.2.1 s hs).trans (h.2.1 s (by omega)), fun k hk => ?_, h'.2.2.2.1, h'.2.2.2.2⟩
  obtain ⟨a1, a2⟩ := h.2.2.2.2.2 k (by omega)
  obtain ⟨b1, b2⟩ := h'.2.2.1 k hk
  exact ⟨b1.trans a1, b2.trans a2⟩
def akN (r0 : Nat) : Nat := if r0 = 2 then 110 else if r0 = 0 then 30 else 14
section
variable {tp : Nat → Nat} {sz fu t b r0 : Nat} {R : HR}
def PRx (tp : Nat → Nat) (sz t b r0 : Nat) (I J : HI) (M : HL) (k at' e cj om dp o opd fk ph bg bs : Nat) (lg : List Nat) : Prop := StR tp sz I J M k at' e ∧ PSj J b cj om dp (o + ntL lg) opd fk ph bg bs ∧ I t 16 = nI (cj + lg.length) ∧ OnS J om lg ∧ CLs I t cj lg ∧ (∀ c ∈ lg, 31 ≤ c ∧ c < 45) ∧ CRs I J t b cj ∧ bs + lg.length ≤ om ∧ om ≤ 100 ∧ cj + lg.length ≤ at' ∧ o + ntL lg ≤ 60 ∧ J 100 34 = nI (akN r0) ∧ I 8 2 = nI r0 ∧ fk < 10 ∧ bg ≤ 1
/-- what binds less lies below -/
def CtxJ (J : HI) (om bs ρ : Nat) : Prop := om = bs ∨ ∃ c, 31 ≤ c ∧ c < 45 ∧ J 125 (om - 1) = nI c ∧ rkN c < ρ
theorem jn_R {I J : HI} {M : HL} {k at' e cj om dp o opd fk ph bg bs least : Nat} {lg : List Nat} (h : PRx tp sz t b r0 I J M k at' e cj om dp o opd fk ph bg bs lg) (hf : 2000 < fu) (hl : ∀ c ∈ lg, least ≤ rkN c) (hc : CtxJ J (om - lg.length) bs least) (h7 : least ≤ 7) : ∃ J1, f_X12_joins fu J (nI least) = some J1 ∧ PRx tp sz t b r0 I J1 M k at' e (cj + lg.length) (om - lg.length) dp o opd fk ph bg bs [] ∧ PFm J J1 b dp (om - lg.length) cj := by
  obtain ⟨s, ⟨⟨p1, p2⟩, p3, p4, ⟨p5, p6⟩, p7, p8, p9, p10, p11, p12⟩, q1, q2, q3, q4, q5, q6, q7, q8, q9, q10, q11, q12, q13⟩ := h
  have hsz : at' ≤ 1600 := by
    have := s.2.1.2.1
    have := s.2.2.2
    omega
  obtain ⟨J1, r1, r2, r3, r4, r5, r6, r7, r8⟩ := joins_M (I := I) (t := t) (b := b) (bs := bs) (dp := dp) (least := least) p2 p6 lg J cj om (o + ntL lg) fu p1 p5 p12 p4 (by omega) p3 (by omega) p7 (by omega) (by omega) q6 q2 (fun c hc => ⟨(q4 c hc).1, (q4 c hc).2, hl c hc⟩) (by
    rcases hc with w | ⟨c, w1, w2, w3, w4⟩
    · exact Or.inl w
    · exact Or.inr ⟨c, w1, w2, w3, w4⟩) h7 (by omega) q3
  rw [show o + ntL lg - ntL lg = o by omega] at r4
  refine ⟨J1, ?_, ⟨?_, ⟨⟨by rw [r5 33 (by decide) (by decide) (by decide)]; exact p1, p2⟩, r2, r3, ⟨by rw [r5 40 (by decide) (by decide) (by decide)]; exact p5, p6⟩, r4, by rw [r5 44 (by decide) (by decide) (by decide)]; exact p8, by rw [r6 120 (by decide) (by decide) (by decide)]; exact p9, by rw [r6 121 (by decide) (by decide) (by decide)]; exact p10, by rw [r6 122 (by decide) (by decide) (by decide)]; exact p11, by rw [r6 124 (by decide) (by decide) (by decide)]; exact p12⟩, q1, trivial, trivial, fun c hc => absurd hc List.not_mem_nil, fun j hj => ?_, by show bs + 0 ≤ _; omega, by omega, q8, by show o + 0 ≤ 60; omega, by rw [r5 34 (by decide) (by decide) (by decide)]; exact q10, q11, q12, q13⟩, ?_⟩
  · unfold f_X12_joins
    rw [r1]
    rfl
  · exact StR_m s (r6 101 (by decide) (by decide) (by decide)) (fun x hx => r5 x (by omega) (by omega) (by omega))
  · by_cases c : j < cj
    · obtain ⟨z1, z2⟩ := r8 (1600 * b + j) (by omega)
      rw [z1, z2]
      exact q5 j c
    · exact r7 j (by omega) hj
  · refine ⟨fun x a c => r6 x c (by omega) (by omega), fun x hx => r5 x (by omega) (by omega) (by omega), fun i hi => ?_, by rw [r6 123 (by decide) (by decide) (by decide)], fun i hi => by rw [r6 125 (by decide) (by decide) (by decide)], fun k hk => r8 k (by omega)⟩
    rw [r6 120 (by decide) (by decide) (by decide), r6 121 (by decide) (by decide) (by decide), r6 122 (by decide) (by decide) (by decide), r6 123 (by decide) (by decide) (by decide), r6 124 (by decide) (by decide) (by decide)]
    exact ⟨rfl, rfl, rfl, rfl, rfl⟩
/-- the token, by its sign or its word -/
theorem tok {I J : HI} {M : HL} {k at' e : Nat} (h : StR tp sz I J M k at' e) (hk : k ≠ 5) : ∃ c w, sgJ J c ∧ wdJ J M w ∧ (∀ d, d < 256 → f_X10_isSign I (nI d) = some (if c = d then 1 else 0)) ∧ (∀ d, d < 25 → f_X10_isOwn I (nI d) = some (if w = d then 1 else 0)) ∧ ((k = 4 ∧ c < 256 ∧ I 7 6 = nI c) ∨ (k ≠ 4 ∧ c = 999)) ∧ ((k = 2 ∧ w < 25 ∧ I 7 6 = nI w) ∨ (k ≠ 2 ∧ w = 99)) := by
  obtain ⟨c, hc⟩ : ∃ c, (k = 4 ∧ c < 256 ∧ I 7 6 = nI c) ∨ (k ≠ 4 ∧ c = 999) := by
    by_cases c4 : k = 4
    · rcases h.2.1.2.2.1 with q | q | q | q | q | q
      · omega
      · obtain ⟨_, _, _, _, c, q1, q2, _⟩ := q
        exact ⟨c, Or.inl ⟨c4, q1, q2⟩⟩
      · omega
      · omega
      · omega
      · omega
    · exact ⟨999, Or.inr ⟨c4, rfl⟩⟩
  obtain ⟨w, hw⟩ : ∃ w, (k = 2 ∧ w < 25 ∧ I 7 6 = nI w) ∨ (k ≠ 2 ∧ w = 99) := by
    by_cases c2 : k = 2
    · rcases h.2.1.2.2.1 with q | q | q | q | q | q
      · omega
      · omega
      · omega
      · obtain ⟨_, _, _, _, w, q1, q2, _⟩ := q
        exact ⟨w, Or.inl ⟨c2, q1, q2⟩⟩
      · omega
      · omega
    · exact ⟨99, Or.inr ⟨c2, rfl⟩⟩
  have sg : ∀ d, d < 256 → f_X10_isSign I (nI d) = some (if c = d then 1 else 0) ∧ f_X12_isSign J (nI d) = some (if c = d then 1 else 0) := fun d hd => by
    rcases signB h d hd with ⟨a1, a2, a3, a4⟩ | ⟨a1, a2, a3⟩
    · have : c = d := by
        rcases hc with ⟨_, z1, z2⟩ | ⟨z, _⟩
        · exact (nI_eq (by omega) (by omega)).mp (z2.symm.trans a4)
        · omega
      rw [if_pos this]
      exact ⟨a1, a2⟩
    · have : c ≠ d := fun w => a3 (by
        rcases hc with ⟨z0, z1, z2⟩ | ⟨z, z1⟩
        · exact ⟨z0, by rw [z2, w]⟩
        · omega)
      rw [if_neg this]
      exact ⟨a1, a2⟩
  have wd : ∀ d, d < 25 → f_X10_isOwn I (nI d) = some (if w = d then 1 else 0) ∧ f_X12_isWord J M (lN (ownL d)) = some (if w = d then 1 else 0) := fun d hd => by
    rcases wordB h hk d hd with ⟨a1, a2, a3, a4⟩ | ⟨a1, a2, a3⟩
    · have : w = d := by
        rcases hw with ⟨_, z1, z2⟩ | ⟨z, _⟩
        · exact (nI_eq (by omega) (by omega)).mp (z2.symm.trans a4)
        · omega
      rw [if_pos this]
      exact ⟨a1, a2⟩
    · have : w ≠ d := fun q => a3 (by
        rcases hw with ⟨z0, z1, z2⟩ | ⟨z, z1⟩
        · exact ⟨z0, by rw [z2, q]⟩
        · omega)
      rw [if_neg this]
      exact ⟨a1, a2⟩
  exact ⟨c, w, fun d hd => (sg d hd).2, fun d hd => (wd d hd).2, fun d hd => (sg d hd).1, fun d hd => (wd d hd).1, hc, hw⟩
/-- one round of the reference's loop -/
theorem opR {n : Nat} {J J1 : HI} {M M1 : HL} {y : Int32} (h44 : J 100 44 = nI 0) (ho : f_X12_operand fu J M = some (y, J1, M1)) (hy : y = 0 ∨ y = 1) (h8 : J1 100 8 = 0) : f_X12_reads_L43 fu (n + 1) J M 1 = f_X12_reads_L43 fu n (sI J1 100 44 y) M1 1 := by
  have n3 : ¬ (1 : Int32) = 0 := by decide
  have z : nI 0 = 0 := rfl
  have e8 : (sI J1 100 44 y) 100 8 = 0 := by rw [zs_eq, zs_other (by decide)]; exact h8
  rcases hy with rfl | rfl
  · simp only [f_X12_reads_L43, if_neg n3, jnt, h44, if_pos z, ho, Option.bind_some, gz_0, bnd, e8, if_true]
  · simp only [f_X12_reads_L43, if_neg n3, jnt, h44, if_pos z, ho, Option.bind_some, gz_1, bnd, e8, if_true]
theorem opF {n f : Nat} {J J1 : HI} {M M1 : HL} {y : Int32} (h44 : J 100 44 = nI 0) (ho : f_X12_operand fu J M = some (y, J1, M1)) (hy : y = 0 ∨ y = 1) (hf : 1 ≤ f ∧ f ≤ 6) (h8 : J1 100 8 = nI f) : f_X12_reads_L43 fu (n + 2) J M 1 = some (sI J1 100 44 y, M1) := by
  have n3 : ¬ (1 : Int32) = 0 := by decide
  have z : nI 0 = 0 := rfl
  have e8 : ¬ (sI J1 100 44 y) 100 8 = 0 := by rw [zs_eq, zs_other (by decide), h8]; exact nI_ne0 (by omega) (by omega)
  rcases hy with rfl | rfl
  · simp only [f_X12_reads_L43, if_neg n3, jnt, h44, if_pos z, ho, Option.bind_some, gz_0, bnd, if_neg e8, if_true]
  · simp only [f_X12_reads_L43, if_neg n3, jnt, h44, if_pos z, ho, Option.bind_some, gz_1, bnd, if_neg e8, if_true]
theorem goR {n : Nat} {J J1 : HI} {M M1 : HL} (h44 : J 100 44 = nI 1) (ho : f_X12_goesOn fu J M = some (1, J1, M1)) (h8 : J1 100 8 = 0) : f_X12_reads_L43 fu (n + 1) J M 1 = f_X12_reads_L43 fu n J1 M1 1 := by
  have n3 : ¬ (1 : Int32) = 0 := by decide
  have z : ¬ nI 1 = 0 := by decide
  simp only [f_X12_reads_L43, if_neg n3, jnt, h44, if_neg z, ho, Option.bind_some, h8, if_true]
theorem goF {n : Nat} {J J1 : HI} {M M1 : HL} (h44 : J 100 44 = nI 1) (ho : f_X12_goesOn fu J M = some (0, J1, M1)) : f_X12_reads_L43 fu (n + 2) J M 1 = some (J1, M1) := by
  have n3 : ¬ (1 : Int32) = 0 := by decide
  have z : ¬ nI 1 = 0 := by decide
  simp only [f_X12_reads_L43, if_neg n3, jnt, h44, if_neg z, ho, Option.bind_some, if_true]
end
