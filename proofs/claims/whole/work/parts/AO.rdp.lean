/-! the rules' reader: the reference's stacks -/
def rkN (c : Nat) : Nat := if c = 42 then 1 else if c = 41 then 2 else if c = 43 then 3 else if c = 38 ∨ c = 39 ∨ c = 40 then 4 else if c = 31 ∨ c = 32 then 5 else 6
theorem rank_M : ∀ c, c < 45 → f_X12_rank (nI c) = some (nI (rkN c)) := by decide
theorem rk6 {c : Nat} : 1 ≤ rkN c ∧ rkN c ≤ 6 := by
  unfold rkN
  repeat' split
  all_goals omega
/-- the class's code of an operator of the reference -/
def opC (c : Nat) : Int32 := if c = 43 then mI 7 else if c = 44 then mI 8 else mI (c - 22)
theorem opC_cr : ∀ c, c < 45 → 31 ≤ c → ∀ v, CR (opC c) (nI c) v := by
  intro c h1 h2 v
  have hz0 : ∀ k, k < 45 → 1 ≤ k → (mI k).toInt = -(k : Int) := by decide
  have hz : ∀ k, 1 ≤ k → k < 45 → (mI k).toInt = -(k : Int) := fun k a b => hz0 k b a
  unfold opC CR
  by_cases c1 : c = 43
  · rw [if_pos c1, c1]
    exact Or.inr (Or.inr (Or.inr (Or.inl ⟨hz 7 (by decide) (by decide), rfl⟩)))
  · rw [if_neg c1]
    by_cases c2 : c = 44
    · rw [if_pos c2, c2]
      exact Or.inr (Or.inr (Or.inr (Or.inr (Or.inl ⟨hz 8 (by decide) (by decide), rfl⟩))))
    · rw [if_neg c2]
      exact Or.inr (Or.inr (Or.inr (Or.inr (Or.inr ⟨c - 22, by omega, by omega, hz _ (by omega) (by omega), by rw [show 22 + (c - 22) = c by omega]⟩))))
def ntL : List Nat → Nat
  | [] => 0
  | c :: l => (if c = 43 then 1 else 0) + ntL l
/-- on top of the held-back operators, the first one topmost -/
def OnS (J : HI) : Nat → List Nat → Prop
  | _, [] => True
  | om, c :: l => 1 ≤ om ∧ J 125 (om - 1) = nI c ∧ OnS J (om - 1) l
/-- the class has put them already -/
def CLs (I : HI) (t : Nat) : Nat → List Nat → Prop
  | _, [] => True
  | c0, c :: l => I (t + 10) c0 = opC c ∧ CLs I t (c0 + 1) l
theorem OnS_congr {J J' : HI} : ∀ (l : List Nat) (om : Nat), (∀ i, i < om → J' 125 i = J 125 i) → OnS J om l → OnS J' om l := by
  intro l
  induction l with
  | nil => intro _ _ _; trivial
  | cons c l ih =>
    intro om h ⟨a, b, d⟩
    exact ⟨a, by rw [h _ (by omega)]; exact b, ih (om - 1) (fun i hi => h i (by omega)) d⟩
theorem CLs_congr {I K : HI} {t : Nat} : ∀ (l : List Nat) (c0 : Nat), (∀ j, c0 ≤ j → j < c0 + l.length → K (t + 10) j = I (t + 10) j) → CLs I t c0 l → CLs K t c0 l := by
  intro l
  induction l with
  | nil => intro _ _ _; trivial
  | cons c l ih =>
    intro c0 h ⟨a, b⟩
    have hl : (c :: l).length = l.length + 1 := rfl
    rw [hl] at h
    exact ⟨by rw [h c0 (by omega) (by omega)]; exact a, ih (c0 + 1) (fun j h1 h2 => h j (by omega) (by omega)) b⟩
theorem CLs_app {I : HI} {t : Nat} {x : Nat} : ∀ (l : List Nat) (c0 : Nat), CLs I t c0 l → I (t + 10) (c0 + l.length) = opC x → CLs I t c0 (l ++ [x]) := by
  intro l
  induction l with
  | nil => intro c0 _ h; exact ⟨h, trivial⟩
  | cons c l ih =>
    intro c0 ⟨a, b⟩ h
    refine ⟨a, ih (c0 + 1) b ?_⟩
    rw [show c0 + 1 + l.length = c0 + (c :: l).length by
      show _ = c0 + (l.length + 1)
      omega]
    exact h
theorem OnS_app {J : HI} {x : Nat} : ∀ (l : List Nat) (om : Nat), OnS J om l → l.length + 1 ≤ om → J 125 (om - 1 - l.length) = nI x → OnS J om (l ++ [x]) := by
  intro l
  induction l with
  | nil => intro om _ h1 h; exact ⟨by simpa using h1, h, trivial⟩
  | cons c l ih =>
    intro om ⟨a, b, d⟩ h1 h
    have hl : (c :: l).length = l.length + 1 := rfl
    rw [hl] at h1 h
    exact ⟨a, b, ih (om - 1) d (by omega) (by rw [show om - 1 - 1 - l.length = om - 1 - (l.length + 1) by omega]; exact h)⟩
theorem ntL_app (l : List Nat) (x : Nat) : ntL (l ++ [x]) = ntL l + (if x = 43 then 1 else 0) := by
  induction l with
  | nil =>
    show (if x = 43 then 1 else 0) + 0 = 0 + (if x = 43 then 1 else 0)
    omega
  | cons c l ih =>
    show (if c = 43 then 1 else 0) + ntL (l ++ [x]) = (if c = 43 then 1 else 0) + ntL l + (if x = 43 then 1 else 0)
    rw [ih]
    omega
/-- where the reference stands in a rule -/
def PSj (J : HI) (b cj om dp op opd fk ph bg bs : Nat) : Prop := (J 100 33 = nI b ∧ b < 2) ∧ J 100 32 = nI cj ∧ J 100 43 = nI om ∧ (J 100 40 = nI (dp + 1) ∧ dp < 12) ∧ J 100 41 = nI op ∧ J 100 44 = nI opd ∧ J 120 dp = nI fk ∧ J 121 dp = nI ph ∧ J 122 dp = nI bg ∧ J 124 dp = nI bs
/-- the codes, on both sides -/
def CRs (I J : HI) (t b cj : Nat) : Prop := ∀ j, j < cj → CR (I (t + 10) j) (J 115 (1600 * b + j)) (J 116 (1600 * b + j))
theorem StR_m {tp : Nat → Nat} {sz : Nat} {I J J' : HI} {M : HL} {k at' e : Nat} (h : StR tp sz I J M k at' e) (h1 : J' 101 = J 101) (h2 : ∀ s, s = 2 ∨ s = 3 ∨ s = 4 ∨ s = 5 ∨ s = 6 ∨ s = 8 ∨ s = 12 → J' 100 s = J 100 s) : StR tp sz I J' M k at' e := by
  obtain ⟨a, b, c, d⟩ := h
  refine ⟨fun k hk => by rw [h1]; exact a k hk, ?_, by rw [h2 8 (by omega)]; exact c, d⟩
  unfold TKx at b ⊢
  rw [h2 2 (by omega), h2 3 (by omega), h2 4 (by omega), h2 5 (by omega), h2 6 (by omega), h2 12 (by omega)]
  exact b
theorem emit_C {I : HI} {t c : Nat} {v : Int32} (hc : I t 16 = nI c) (h : c < 1600) : f_X2_emit I t v = some (1, sI (sI I (t + 10) c v) t 16 (nI (c + 1))) := by
  have z : nI c < 1600 := nI_lt (b := 1600) h (by decide)
  have e : (sI I (t + 10) c v) t 16 = nI c := by rw [zs_ne (by omega)]; exact hc
  unfold f_X2_emit
  rw [hc, if_pos z, inb_ok (by omega), nI_clamp (by omega)]
  simp only [bnd]
  rw [e, nI_1, gz_1]
theorem add_M {J : HI} {b cj : Nat} {s v : Int32} (h33 : J 100 33 = nI b) (hb : b < 2) (h32 : J 100 32 = nI cj) (hc : cj < 1600) : f_X12_add J s v = some (sI (sI (sI J 115 (1600 * b + cj) s) 116 (1600 * b + cj) v) 100 32 (nI (cj + 1))) := by
  have e : 1600 * nI b + nI cj = nI (1600 * b + cj) := by rw [zq1600, pk_mul, nI_add]
  unfold f_X12_add
  rw [h33, h32, e, inb_ok (by omega), nI_clamp (by omega)]
  simp only [bnd]
  rw [zs_ne (show 100 ≠ 115 by decide), h33, h32, e, inb_ok (by omega), nI_clamp (by omega), zs_ne (show 100 ≠ 116 by decide), zs_ne (show 100 ≠ 115 by decide), h32, nI_1]
/-- what is held back is put, as far as it binds -/
theorem joins_M {I : HI} {t b bs dp least : Nat} (hb : b < 2) (hdp : dp < 12) : ∀ (lg : List Nat) (J : HI) (cj om op n : Nat), J 100 33 = nI b → J 100 40 = nI (dp + 1) → J 124 dp = nI bs → J 100 43 = nI om → om ≤ 400 → J 100 32 = nI cj → cj + lg.length ≤ 1600 → J 100 41 = nI op → ntL lg ≤ op → op ≤ 100 → bs + lg.length ≤ om → OnS J om lg → (∀ c ∈ lg, 31 ≤ c ∧ c < 45 ∧ least ≤ rkN c) → (om - lg.length = bs ∨ ∃ c, 31 ≤ c ∧ c < 45 ∧ J 125 (om - lg.length - 1) = nI c ∧ rkN c < least) → least ≤ 7 → lg.length < n → CLs I t cj lg → ∃ J', f_X12_joins_L0 n J (nI least) = some J' ∧ J' 100 32 = nI (cj + lg.length) ∧ J' 100 43 = nI (om - lg.length) ∧ J' 100 41 = nI (op - ntL lg) ∧ (∀ s, s ≠ 32 → s ≠ 41 → s ≠ 43 → J' 100 s = J 100 s) ∧ (∀ x, x ≠ 100 → x ≠ 115 → x ≠ 116 → J' x = J x) ∧ (∀ j, cj ≤ j → j < cj + lg.length → CR (I (t + 10) j) (J' 115 (1600 * b + j)) (J' 116 (1600 * b + j))) ∧ (∀ k, k < 1600 * b + cj ∨ 1600 * b + 1600 ≤ k → J' 115 k = J 115 k ∧ J' 116 k = J 116 k) := by
  intro lg
  induction lg with
  | nil =>
    intro J cj om op n h33 h40 h124 h43 hom h32 hcj h41 hnt hop hbs hon hall hstop hleast hn hcl
    obtain ⟨n, rfl⟩ : ∃ z, n = z + 1 := ⟨n - 1, by omega⟩
    have hl : ([] : List Nat).length = 0 := rfl
    rw [hl] at hstop hbs ⊢
    have ed : nI (dp + 1) - 1 = nI dp := by rw [sub1, dec1]
    have l124 : ∀ k : Int32 → Option HI, ldI (J 124) 20 (nI dp) k = k (nI bs) := fun k => by rw [ldI_ok (by omega), h124]
    refine ⟨J, ?_, by rw [Nat.add_zero]; exact h32, by rw [Nat.sub_zero]; exact h43, by show J 100 41 = nI (op - 0); rw [Nat.sub_zero]; exact h41, fun _ _ _ _ => rfl, fun _ _ _ _ => rfl, fun j j1 j2 => by omega, fun _ _ => ⟨rfl, rfl⟩⟩
    by_cases c1 : om ≤ bs
    · have c1' : nI om ≤ nI bs := nI_le c1 (by omega)
      simp only [f_X12_joins_L0, h40, ed, l124, h43, if_pos c1']
    · have c1' : ¬ nI om ≤ nI bs := nI_ge (by omega) (by omega)
      obtain ⟨c, d1, d2, d3, d4⟩ := hstop.resolve_left (fun w => by omega)
      rw [Nat.sub_zero] at d3
      have eo : nI om - 1 = nI (om - 1) := by rw [zq1, pk_sub (by omega)]
      have l125 : ∀ k : Int32 → Option HI, ldI (J 125) 500 (nI (om - 1)) k = k (nI c) := fun k => by rw [ldI_ok (by omega), d3]
      have c2 : nI (rkN c) < nI least := nI_lt d4 (by omega)
      simp only [f_X12_joins_L0, h40, ed, l124, h43, if_neg c1', eo, l125, rank_M c d2, Option.bind_some, if_pos c2]
  | cons c lg ih =>
    intro J cj om op n h33 h40 h124 h43 hom h32 hcj h41 hnt hop hbs hon hall hstop hleast hn hcl
    obtain ⟨n, rfl⟩ : ∃ z, n = z + 1 := ⟨n - 1, by omega⟩
    have hl : (c :: lg).length = lg.length + 1 := rfl
    rw [hl] at hcj hbs hstop hn ⊢
    obtain ⟨o1, o2, o3⟩ := hon
    obtain ⟨e1, e2⟩ := hcl
    obtain ⟨d1, d2, d3⟩ := hall c List.mem_cons_self
    have hnt' : ntL (c :: lg) = (if c = 43 then 1 else 0) + ntL lg := rfl
    rw [hnt'] at hnt ⊢
    have ed : nI (dp + 1) - 1 = nI dp := by rw [sub1, dec1]
    have l124 : ∀ k : Int32 → Option HI, ldI (J 124) 20 (nI dp) k = k (nI bs) := fun k => by rw [ldI_ok (by omega), h124]
    have c1' : ¬ nI om ≤ nI bs := nI_ge (by omega) (by omega)
    have eo : nI om - 1 = nI (om - 1) := by rw [zq1, pk_sub (by omega)]
    have l125 : ∀ k : Int32 → Option HI, ldI (J 125) 500 (nI (om - 1)) k = k (nI c) := fun k => by rw [ldI_ok (by omega), o2]
    have rk := rk6 (c := c)
    have c2 : ¬ nI (rkN c) < nI least := nI_nlt d3 (by omega)
    obtain ⟨J1, hJ1⟩ : ∃ J1, J1 = sI J 100 43 (nI (om - 1)) := ⟨_, rfl⟩
    have a43 : J1 100 43 = nI (om - 1) := by rw [hJ1, zs_eq, zs_same]
    have a125 : J1 125 = J 125 := by rw [hJ1, zs_ne (by decide)]
    have ha := add_M (J := J1) (b := b) (cj := cj) (s := nI c) (v := 0) (by rw [hJ1, zs_eq, zs_other (by decide)]; exact h33) hb (by rw [hJ1, zs_eq, zs_other (by decide)]; exact h32) (by omega)
    obtain ⟨J2, hJ2⟩ : ∃ J2, J2 = sI (sI (sI J1 115 (1600 * b + cj) (nI c)) 116 (1600 * b + cj) 0) 100 32 (nI (cj + 1)) := ⟨_, rfl⟩
    rw [← hJ2] at ha
    have b43 : J2 100 43 = nI (om - 1) := by rw [hJ2, zs_eq, zs_other (by decide), zs_ne (by decide), zs_ne (by decide)]; exact a43
    have b125 : J2 125 = J 125 := by rw [hJ2, zs_ne (by decide), zs_ne (by decide), zs_ne (by decide)]; exact a125
    have b41 : J2 100 41 = nI op := by rw [hJ2, zs_eq, zs_other (by decide), zs_ne (by decide), zs_ne (by decide), hJ1, zs_eq, zs_other (by decide)]; exact h41
    -- how it goes on
    obtain ⟨J3, hJ3, g41, gs, gx⟩ : ∃ J3 : HI, f_X12_joins_L0 (n + 1) J (nI least) = f_X12_joins_L0 n J3 (nI least) ∧ J3 100 41 = nI (op - (if c = 43 then 1 else 0)) ∧ (∀ s, s ≠ 41 → J3 100 s = J2 100 s) ∧ (∀ x, x ≠ 100 → J3 x = J2 x) := by
      have l125b : ∀ k : Int32 → Option HI, ldI (J1 125) 500 (nI (om - 1)) k = k (nI c) := fun k => by rw [a125]; exact l125 k
      have l125c : ∀ k : Int32 → Option HI, ldI (J2 125) 500 (nI (om - 1)) k = k (nI c) := fun k => by rw [b125]; exact l125 k
      by_cases c43 : c = 43
      · have z : nI c = 43 := by rw [c43]; rfl
        have eop : nI op - 1 = nI (op - 1) := by
          rw [zq1, pk_sub (by rw [if_pos c43] at hnt; omega)]
        refine ⟨sI J2 100 41 (nI (op - 1)), ?_, by rw [zs_eq, zs_same, if_pos c43], fun s hs => by rw [zs_eq, zs_other hs], fun x hx => zs_ne hx⟩
        simp only [f_X12_joins_L0, h40, ed, l124, h43, if_neg c1', eo, l125, rank_M c d2, Option.bind_some, if_neg c2, bnd, ← hJ1, a43, l125b, ha, b43, l125c, if_pos z, b41, eop]
      · have z : ¬ nI c = 43 := fun w => c43 ((nI_eq (b := 43) (by omega) (by decide)).mp w)
        refine ⟨J2, ?_, by rw [if_neg c43, Nat.sub_zero]; exact b41, fun _ _ => rfl, fun _ _ => rfl⟩
        simp only [f_X12_joins_L0, h40, ed, l124, h43, if_neg c1', eo, l125, rank_M c d2, Option.bind_some, if_neg c2, bnd, ← hJ1, a43, l125b, ha, b43, l125c, if_neg z]
    have k2 : ∀ s, s ≠ 32 → s ≠ 43 → J2 100 s = J 100 s := fun s s1 s2 => by rw [hJ2, zs_eq, zs_other s1, zs_ne (by decide), zs_ne (by decide), hJ1, zs_eq, zs_other s2]
    have k32 : J2 100 32 = nI (cj + 1) := by rw [hJ2, zs_eq, zs_same]
    have kx : ∀ x, x ≠ 100 → x ≠ 115 → x ≠ 116 → J2 x = J x := fun x x1 x2 x3 => by rw [hJ2, zs_ne x1, zs_ne x3, zs_ne x2, hJ1, zs_ne x1]
    have g43 : J3 100 43 = nI (om - 1) := by rw [gs 43 (by decide)]; exact b43
    obtain ⟨J', r1, r2, r3, r4, r5, r6, r7, r8⟩ := ih J3 (cj + 1) (om - 1) (op - (if c = 43 then 1 else 0)) n (by rw [gs 33 (by decide), k2 33 (by decide) (by decide)]; exact h33) (by rw [gs 40 (by decide), k2 40 (by decide) (by decide)]; exact h40) (by rw [gx 124 (by decide), kx 124 (by decide) (by decide) (by decide)]; exact h124) g43 (by omega) (by rw [gs 32 (by decide)]; exact k32) (by omega) g41 (by omega) (by omega) (by omega) (OnS_congr lg (om - 1) (fun i _ => by rw [gx 125 (by decide), b125]) o3) (fun x hx => hall x (List.mem_cons_of_mem _ hx)) (by
      rw [gx 125 (by decide), b125, show om - 1 - lg.length = om - (lg.length + 1) by omega]
      exact hstop) hleast (by omega) e2
    refine ⟨J', by rw [hJ3]; exact r1, by rw [r2]; congr 1; omega, by rw [r3]; congr 1; omega, by rw [r4]; congr 1; omega, fun s s1 s2 s3 => by rw [r5 s s1 s2 s3, gs s s2, k2 s s1 s3], fun x x1 x2 x3 => by rw [r6 x x1 x2 x3, gx x x1, kx x x1 x2 x3], fun j j1 j2 => ?_, fun k hk => ?_⟩
    · by_cases cj' : j = cj
      · subst cj'
        obtain ⟨z1, z2⟩ := r8 (1600 * b + j) (by omega)
        rw [z1, z2, gx 115 (by decide), gx 116 (by decide), e1]
        have y1 : J2 115 (1600 * b + j) = nI c := by rw [hJ2, zs_ne (by decide), zs_ne (by decide), zs_eq, zs_same]
        rw [y1]
        exact opC_cr c d2 d1 _
      · exact r7 j (by omega) (by omega)
    · obtain ⟨z1, z2⟩ := r8 k (by omega)
      rw [z1, z2, gx 115 (by decide), gx 116 (by decide), hJ2, zs_ne (by decide), zs_ne (by decide), zs_eq, zs_other (by omega), zs_ne (by decide), zs_eq, zs_other (by omega), zs_ne (by decide), hJ1, zs_ne (by decide), zs_ne (by decide)]
      exact ⟨rfl, rfl⟩
