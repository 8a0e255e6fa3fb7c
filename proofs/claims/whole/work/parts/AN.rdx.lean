/-! the reader: names, on both sides -/
theorem pk5_inj : ∀ (w w' : List Nat), (∀ a ∈ w, 1 ≤ a ∧ a ≤ 26) → (∀ a ∈ w', 1 ≤ a ∧ a ≤ 26) → pk5 w = pk5 w' → w = w' := by
  intro w
  induction w with
  | nil =>
    intro w' _ h' e
    cases w' with
    | nil => rfl
    | cons a w' =>
      have := h' a List.mem_cons_self
      have e' : 0 = a + 32 * pk5 w' := e
      omega
  | cons a w ih =>
    intro w' h h' e
    have ha := h a List.mem_cons_self
    cases w' with
    | nil =>
      have e' : a + 32 * pk5 w = 0 := e
      omega
    | cons a' w' =>
      have ha' := h' a' List.mem_cons_self
      have e' : a + 32 * pk5 w = a' + 32 * pk5 w' := e
      have e1 : a = a' := by omega
      rw [e1, ih w' (fun x hx => h x (List.mem_cons_of_mem _ hx)) (fun x hx => h' x (List.mem_cons_of_mem _ hx)) (by omega)]
theorem fo8_inj : ∀ (w w' : List Nat) (x x' : Nat), w.length = w'.length → (∀ a ∈ w, 1 ≤ a ∧ a ≤ 26) → (∀ a ∈ w', 1 ≤ a ∧ a ≤ 26) → fo8 x w = fo8 x' w' → x = x' ∧ w = w' := by
  intro w
  induction w with
  | nil =>
    intro w' x x' hl _ _ e
    cases w' with
    | nil => exact ⟨e, rfl⟩
    | cons a w' => exact absurd hl (by simp)
  | cons a w ih =>
    intro w' x x' hl h h' e
    have ha := h a List.mem_cons_self
    cases w' with
    | nil => exact absurd hl (by simp)
    | cons a' w' =>
      have ha' := h' a' List.mem_cons_self
      have hl' : w.length = w'.length := by
        have : w.length + 1 = w'.length + 1 := hl
        omega
      obtain ⟨e1, e2⟩ := ih w' (256 * x + (a + 96)) (256 * x' + (a' + 96)) hl' (fun y hy => h y (List.mem_cons_of_mem _ hy)) (fun y hy => h' y (List.mem_cons_of_mem _ hy)) e
      have e3 : a = a' := by omega
      exact ⟨by omega, by rw [e3, e2]⟩
theorem pk8_len {w w' : List Nat} (h : ∀ a ∈ w, 1 ≤ a ∧ a ≤ 26) (h' : ∀ a ∈ w', 1 ≤ a ∧ a ≤ 26) (e : fo8 0 w = fo8 0 w') : ¬ w.length < w'.length := fun hl => by
  cases w' with
  | nil => exact absurd hl (by simp)
  | cons a w' =>
    have ha := h' a List.mem_cons_self
    have h1 := fo8_lt h 0
    rw [Nat.zero_add, Nat.one_mul] at h1
    have h2 := fo8_div (w := w') (fun x hx => h' x (List.mem_cons_of_mem _ hx)) (256 * 0 + (a + 96))
    have e' : fo8 0 (a :: w') = fo8 (256 * 0 + (a + 96)) w' := rfl
    have hp : 0 < 256 ^ w'.length := Nat.pow_pos (by decide)
    have h3 : 256 ^ w'.length ≤ fo8 (256 * 0 + (a + 96)) w' := by
      rcases Nat.lt_or_ge (fo8 (256 * 0 + (a + 96)) w') (256 ^ w'.length) with q | q
      · rw [Nat.div_eq_of_lt q] at h2
        omega
      · exact q
    have h4 : 256 ^ w.length ≤ 256 ^ w'.length := Nat.pow_le_pow_right (by decide) (by
      have : w.length < w'.length + 1 := hl
      omega)
    omega
theorem nr_iff {x x' : Int32} {y y' : Int64} (h : NR x y) (h' : NR x' y') : x = x' ↔ y = y' := by
  obtain ⟨w, a1, a2, a3, rfl, rfl⟩ := h
  obtain ⟨w', b1, b2, b3, rfl, rfl⟩ := h'
  have l1 := pk5_lt a1
  have l2 := pk5_lt b1
  have p1 : 32 ^ w.length ≤ 32 ^ 6 := Nat.pow_le_pow_right (by decide) a3
  have p2 : 32 ^ w'.length ≤ 32 ^ 6 := Nat.pow_le_pow_right (by decide) b3
  have m1 := fo8_lt a1 0
  have m2 := fo8_lt b1 0
  rw [Nat.zero_add, Nat.one_mul] at m1 m2
  have q1 : 256 ^ w.length ≤ 256 ^ 6 := Nat.pow_le_pow_right (by decide) a3
  have q2 : 256 ^ w'.length ≤ 256 ^ 6 := Nat.pow_le_pow_right (by decide) b3
  have d1 : pk8 w = fo8 0 w := rfl
  have d2 : pk8 w' = fo8 0 w' := rfl
  rw [nI_eq (by omega) (by omega), lN_inj (by omega) (by omega)]
  constructor
  · intro e
    rw [pk5_inj w w' a1 b1 e]
  · intro e
    rw [d1, d2] at e
    have hl : w.length = w'.length := by
      have z1 := pk8_len a1 b1 e
      have z2 := pk8_len b1 a1 e.symm
      omega
    rw [(fo8_inj w w' 0 0 hl a1 b1 e).2]
theorem NR_tok {g : Nat → Nat} {n : Nat} (hg : ∀ j, j < n → 97 ≤ g j ∧ g j ≤ 122) (hn : 1 ≤ n ∧ n ≤ 6) : NR (nI (P5 g n)) (lN (P8 g n)) := ⟨mkL g n, mkL_in n hg, by rw [mkL_len]; exact hn.1, by rw [mkL_len]; exact hn.2, by rw [mkL_5], by rw [mkL_8 n (by omega) hg]⟩
/-- the names told so far -/
def NMr (I J : HI) (M : HL) (t b nh no nl : Nat) : Prop := (I t 1 = nI nh ∧ J 102 b = nI nh ∧ nh ≤ 8) ∧ (I t 2 = nI no ∧ J 105 b = nI no ∧ no ≤ 6) ∧ (I t 3 = nI nl ∧ J 106 b = nI nl ∧ nl ≤ 8) ∧ (∀ i, i < nh → NR (I (t + 1) i) (M 117 (8 * b + i))) ∧ (∀ i, i < no → NR (I (t + 2) i) (M 118 (6 * b + i))) ∧ (∀ i, i < nl → NR (I (t + 3) i) (M 119 (8 * b + i))) ∧ J 100 33 = nI b ∧ b < 2
section
variable {fu : Nat} {I J : HI} {M : HL} {t b nh no nl : Nat}
theorem find_R {a1 an kind c : Nat} {yv : Nat → Int64} {x : Int32} {y : Int64} (hf : 100 < fu) (han : c ≤ an ∧ an ≤ 8) (h33 : J 100 33 = nI b) (hm : f_X12_manyOf J (nI b) (nI kind) = some (nI c)) (hn : ∀ i, i < c → f_X12_nameOf M (nI b) (nI kind) (nI i) = some (yv i)) (hN : ∀ i, i < c → NR (I a1 i) (yv i)) (hx : NR x y) : (∃ i, i < c ∧ f_X2_find fu I t a1 an (nI c) x = some (nI i) ∧ f_X12_named fu J M (nI kind) y = some (nI i)) ∨ (f_X2_find fu I t a1 an (nI c) x = some (-1) ∧ f_X12_named fu J M (nI kind) y = some (-1)) := by
  have loop : ∀ (q i n m : Nat), i + q = c → q < n → q < m → (∃ j, j < c ∧ f_X2_find_L3 n I a1 an (nI c) x (nI i) = some (.inl (nI j)) ∧ f_X12_named_L3 m J M (nI kind) y (nI i) = some (.inl (nI j))) ∨ (f_X2_find_L3 n I a1 an (nI c) x (nI i) = some (.inr ()) ∧ f_X12_named_L3 m J M (nI kind) y (nI i) = some (.inr ())) := by
    intro q
    induction q with
    | zero =>
      intro i n m e1 e2 e3
      obtain ⟨n, rfl⟩ : ∃ z, n = z + 1 := ⟨n - 1, by omega⟩
      obtain ⟨m, rfl⟩ : ∃ z, m = z + 1 := ⟨m - 1, by omega⟩
      have ei : i = c := by omega
      subst ei
      have c1 : nI i ≤ nI i := Int32.le_refl _
      right
      refine ⟨?_, ?_⟩
      · simp only [f_X2_find_L3, if_pos c1]
      · simp only [f_X12_named_L3, h33, hm, Option.bind_some, if_pos c1]
    | succ q ih =>
      intro i n m e1 e2 e3
      obtain ⟨n, rfl⟩ : ∃ z, n = z + 1 := ⟨n - 1, by omega⟩
      obtain ⟨m, rfl⟩ : ∃ z, m = z + 1 := ⟨m - 1, by omega⟩
      have c1 : ¬ nI c ≤ nI i := nI_ge (by omega) (by omega)
      have A1 : nI i + 1 = nI (i + 1) := nI_1 i
      have ld : ∀ k : Int32 → Option (Int32 ⊕ Unit), ldI (I a1) an (nI i) k = k (I a1 i) := fun k => by rw [ldI_ok (by omega)]
      have hh := nr_iff (hN i (by omega)) hx
      by_cases ce : I a1 i = x
      · left
        refine ⟨i, by omega, ?_, ?_⟩
        · simp only [f_X2_find_L3, if_neg c1, ld, if_pos ce]
        · have z : lg_cmp (yv i) y = 0 := by rw [lg_cmp_eq]; exact hh.mp ce
          simp only [f_X12_named_L3, h33, hm, Option.bind_some, if_neg c1, hn i (by omega), if_pos z]
      · have z : ¬ lg_cmp (yv i) y = 0 := by rw [lg_cmp_eq]; exact fun w => ce (hh.mpr w)
        have s1 : f_X2_find_L3 (n + 1) I a1 an (nI c) x (nI i) = f_X2_find_L3 n I a1 an (nI c) x (nI (i + 1)) := by
          simp only [f_X2_find_L3, if_neg c1, ld, if_neg ce, A1]
        have s2 : f_X12_named_L3 (m + 1) J M (nI kind) y (nI i) = f_X12_named_L3 m J M (nI kind) y (nI (i + 1)) := by
          simp only [f_X12_named_L3, h33, hm, Option.bind_some, if_neg c1, hn i (by omega), if_neg z, A1]
        rw [s1, s2]
        exact ih (i + 1) n m (by omega) (by omega) (by omega)
  unfold f_X2_find f_X12_named
  rw [show (0 : Int32) = nI 0 from rfl]
  rcases loop c 0 fu fu (by omega) (by omega) (by omega) with ⟨j, j1, j2, j3⟩ | ⟨j1, j2⟩
  · left
    rw [j2, j3]
    exact ⟨j, j1, rfl, rfl⟩
  · right
    rw [j1, j2]
    exact ⟨rfl, rfl⟩
theorem findH_R (h : NMr I J M t b nh no nl) (hf : 100 < fu) {x : Int32} {y : Int64} (hx : NR x y) : (∃ i, i < nh ∧ f_X2_find fu I t (t + 1) 8 (nI nh) x = some (nI i) ∧ f_X12_named fu J M 0 y = some (nI i)) ∨ (f_X2_find fu I t (t + 1) 8 (nI nh) x = some (-1) ∧ f_X12_named fu J M 0 y = some (-1)) := by
  obtain ⟨⟨a1, a2, a3⟩, ⟨b1, b2, b3⟩, ⟨c1, c2, c3⟩, d1, d2, d3, d4, d5⟩ := h
  refine find_R (kind := 0) (yv := fun i => M 117 (8 * b + i)) hf ⟨a3, by decide⟩ d4 ?_ (fun i hi => ?_) d1 hx
  · unfold f_X12_manyOf
    rw [if_pos (show nI 0 = 0 from rfl), ldI_ok (by omega), a2]
  · unfold f_X12_nameOf
    rw [if_pos (show nI 0 = 0 from rfl), show 8 * nI b + nI i = nI (8 * b + i) from by rw [zq8, pk_mul, nI_add], ldL_ok (by omega)]
theorem findO_R (h : NMr I J M t b nh no nl) (hf : 100 < fu) {x : Int32} {y : Int64} (hx : NR x y) : (∃ i, i < no ∧ f_X2_find fu I t (t + 2) 6 (nI no) x = some (nI i) ∧ f_X12_named fu J M 1 y = some (nI i)) ∨ (f_X2_find fu I t (t + 2) 6 (nI no) x = some (-1) ∧ f_X12_named fu J M 1 y = some (-1)) := by
  obtain ⟨⟨a1, a2, a3⟩, ⟨b1, b2, b3⟩, ⟨c1, c2, c3⟩, d1, d2, d3, d4, d5⟩ := h
  refine find_R (kind := 1) (yv := fun i => M 118 (6 * b + i)) hf ⟨b3, by decide⟩ d4 ?_ (fun i hi => ?_) d2 hx
  · unfold f_X12_manyOf
    rw [if_neg (show ¬ nI 1 = 0 by decide), if_pos (show nI 1 = 1 from rfl), ldI_ok (by omega), b2]
  · unfold f_X12_nameOf
    rw [if_neg (show ¬ nI 1 = 0 by decide), if_pos (show nI 1 = 1 from rfl), show 6 * nI b + nI i = nI (6 * b + i) from by rw [zq6, pk_mul, nI_add], ldL_ok (by omega)]
theorem findL_R (h : NMr I J M t b nh no nl) (hf : 100 < fu) {x : Int32} {y : Int64} (hx : NR x y) : (∃ i, i < nl ∧ f_X2_find fu I t (t + 3) 8 (nI nl) x = some (nI i) ∧ f_X12_named fu J M 2 y = some (nI i)) ∨ (f_X2_find fu I t (t + 3) 8 (nI nl) x = some (-1) ∧ f_X12_named fu J M 2 y = some (-1)) := by
  obtain ⟨⟨a1, a2, a3⟩, ⟨b1, b2, b3⟩, ⟨c1, c2, c3⟩, d1, d2, d3, d4, d5⟩ := h
  refine find_R (kind := 2) (yv := fun i => M 119 (8 * b + i)) hf ⟨c3, by decide⟩ d4 ?_ (fun i hi => ?_) d3 hx
  · unfold f_X12_manyOf
    rw [if_neg (show ¬ nI 2 = 0 by decide), if_neg (show ¬ nI 2 = 1 by decide), ldI_ok (by omega), c2]
  · unfold f_X12_nameOf
    rw [if_neg (show ¬ nI 2 = 0 by decide), if_neg (show ¬ nI 2 = 1 by decide), show 8 * nI b + nI i = nI (8 * b + i) from by rw [zq8, pk_mul, nI_add], ldL_ok (by omega)]
theorem NMr_c {I' : HI} (h : NMr I J M t b nh no nl) (hI : ∀ x, t ≤ x → x ≤ t + 3 → I' x = I x) : NMr I' J M t b nh no nl := by
  unfold NMr at h ⊢
  rw [hI t (by omega) (by omega), hI (t + 1) (by omega) (by omega), hI (t + 2) (by omega) (by omega), hI (t + 3) (by omega) (by omega)]
  exact h
end
section
variable {tp : Nat → Nat} {sz fu : Nat} {I J : HI} {M : HL} {k at' e : Nat} {R : HR} {t b nh no nl : Nat}
theorem nameT (h : StR tp sz I J M k at' e) (hk : k = 1) : J 100 3 = 1 ∧ NR (I 7 6) (M 100 7) ∧ f_X12_isOwn (M 100 7) = some 0 := by
  obtain ⟨_, q2, q3, q4, g, n, q5, q6, q7, q8, q9⟩ : k = 1 ∧ J 100 3 = 1 ∧ J 100 12 = -1 ∧ I 7 5 = nI at' ∧ ∃ (g : Nat → Nat) (n : Nat), (∀ j, j < n → 97 ≤ g j ∧ g j ≤ 122) ∧ (1 ≤ n ∧ n ≤ 6) ∧ I 7 6 = nI (P5 g n) ∧ M 100 7 = lN (P8 g n) ∧ ¬ ∃ w, w < 25 ∧ P8 g n = ownL w := by
    rcases h.2.1.2.2.1 with q | q | q | q | q | q
    · omega
    · omega
    · omega
    · omega
    · exact q
    · omega
  refine ⟨q2, by rw [q7, q8]; exact NR_tok q5 q6, ?_⟩
  rw [q8]
  rcases isOwn_M (P8_63 (by omega) q5) with ⟨_, w⟩ | ⟨w, _⟩
  · exact absurd w q9
  · exact w
/-- no name stands here -/
theorem noName (h : StR tp sz I J M k at' e) (hk : k ≠ 1) (hk5 : k ≠ 5) : J 100 3 ≠ 1 ∨ f_X12_isOwn (M 100 7) = some 1 := by
  rcases h.2.1.2.2.1 with q | q | q | q | q | q
  · left; rw [q.2.1]; decide
  · left; rw [q.2.1]; decide
  · left; rw [q.2.1]; decide
  · right
    obtain ⟨_, _, _, _, w, w1, _, w2⟩ := q
    rw [w2]
    rcases isOwn_M (own_lt w w1) with ⟨z, _⟩ | ⟨_, z⟩
    · exact z
    · exact absurd ⟨w, w1, rfl⟩ z
  · omega
  · omega
theorem fresh_F {f : Nat} (hf : 1 ≤ f ∧ f ≤ 6) (h8 : J 100 8 = nI f) : f_X12_fresh fu J M = some (0, J, M) := by
  have z : ¬ J 100 8 ≤ 0 := by rw [h8]; exact nI_nle (by omega) (by omega)
  unfold f_X12_fresh
  simp only [lexF hf h8, Option.bind_some, if_neg z]
/-- a new name -/
theorem tnew_R (h : StR tp sz I J M k at' e) (hN : NMr I J M t b nh no nl) (hR : R 6 2 = t) (ho : okLd t = true) (ht : t = 67 ∨ t = 80) (hf : 2000 < fu) : (∃ K J' M' k' at2 e' x y, f_X7_takeNewName fu I R = some (1, K) ∧ f_X12_fresh fu J M = some (y, J', M') ∧ K 6 3 = x ∧ NR x y ∧ StR tp sz K J' M' k' at2 e' ∧ e ≤ at2 ∧ TkC I K ∧ AdM J J' ∧ OnL M M') ∨ (∃ K J' y f pl, f_X7_takeNewName fu I R = some (0, K) ∧ f_X12_fresh fu J M = some (y, J', M) ∧ BadC I K f pl ∧ BadM J J' f pl ∧ okF f pl) := by
  have n3 : ¬ (1 : Int32) = 0 := by decide
  have h8 := h.2.2.1
  have z8 : (0 : Int32) ≤ 0 := by decide
  have hk5 := h.k5
  have b4 := h.2.1.1.2.2.2
  have j4 := h.2.1.1.2.2.1.2
  unfold f_X7_takeNewName f_X10_needKind f_X12_fresh
  rcases lexS h with ⟨l1, l2, l3, l4⟩ | ⟨l1, pl, J1, l2, l3, l4, l5⟩
  · by_cases c1 : k = 1
    · have z1 : nI k = 1 := by rw [c1]; rfl
      obtain ⟨w2, w3, w4⟩ := nameT h c1
      have h' : StR tp sz (sI I 6 3 (I 7 6)) J M k at' e := StR_tk h (fun x hx => zs_ne (by omega))
      have k63 : (sI I 6 3 (I 7 6)) 6 3 = I 7 6 := by rw [zs_eq, zs_same]
      have tk0 : TkC I (sI I 6 3 (I 7 6)) := ⟨fun x a _ => zs_ne a, fun s hs => by rw [zs_eq, zs_other hs], fun s _ => by rw [zs_ne (by decide)]⟩
      have hN' : NMr (sI I 6 3 (I 7 6)) J M t b nh no nl := NMr_c hN (fun x x1 x2 => zs_ne (by omega))
      have e1 := hN'.1.1
      have e2 := hN'.2.1.1
      have e3 := hN'.2.2.1.1
      have g8 := hN.1.2.2
      have g6 := hN.2.1.2.2
      have g9 := hN.2.2.1.2.2
      have mi : ∀ i, i < 9 → ¬ nI i = -1 := fun i hi q => (nI_eq_mI (a := i) (b := 1) (by omega) (by decide)).mp q
      have miH : ∀ i, i < nh → ¬ nI i = -1 := fun i hi => mi i (by omega)
      have miO : ∀ i, i < no → ¬ nI i = -1 := fun i hi => mi i (by omega)
      have miL : ∀ i, i < nl → ¬ nI i = -1 := fun i hi => mi i (by omega)
      have rH := findH_R hN' (fu := fu) (by omega) w3
      have rO := findO_R hN' (fu := fu) (by omega) w3
      have rL := findL_R hN' (fu := fu) (by omega) w3
      obtain ⟨F, hF⟩ : ∃ F, fu = F + 1 + 1 + 1 + 1 := ⟨fu - 4, by omega⟩
      have bad : f_X2_isTaken fu (sI I 6 3 (I 7 6)) t (I 7 6) = some 1 → ∃ K, (f_X2_isTaken fu (sI I 6 3 (I 7 6)) t (I 7 6)).bind (fun x4 => if x4 = 0 then (f_X10_advance fu (sI I 6 3 (I 7 6))).bind fun x5 => gz x5.1 (some (x5.1, x5.2)) else (f_X10_fail (sI I 6 3 (I 7 6)) 2).bind fun x6 => gz x6.1 (some (x6.1, x6.2))) = some (0, K) ∧ BadC I K 2 at' := fun hx => by
        obtain ⟨K, d1, d2⟩ := failC (I := sI I 6 3 (I 7 6)) (f := 2) (pl := at') (by rw [zs_ne (by decide)]; exact h.2.1.1.2.2.1.1)
        have d1' : f_X10_fail (sI I 6 3 (I 7 6)) 2 = some (0, K) := d1
        refine ⟨K, ?_, BadC.tk tk0 d2⟩
        rw [hx, Option.bind_some, if_neg n3, d1', Option.bind_some]
        exact gz_0
      obtain ⟨J2, m1, m2⟩ := blameS (f := 2) (pl := at') h8
      have m1' : f_X12_blame J 2 (nI at') = some J2 := m1
      have z2 : ¬ J2 100 8 = 0 := by rw [m2.2.1]; decide
      have o0 : ¬ (2 : Int32) < 0 := by decide
      have o1 : ¬ (2 : Int32) < 0 + 1 := by decide
      have o2 : ¬ (2 : Int32) < 0 + 1 + 1 := by decide
      have o3 : (2 : Int32) < 0 + 1 + 1 + 1 := by decide
      have i1 : (0 : Int32) + 1 = 1 := by decide
      have i2 : (0 : Int32) + 1 + 1 = 2 := by decide
      have classPart : ∀ y : Option (Int32 × HI), (f_X2_isTaken fu (sI I 6 3 (I 7 6)) t (I 7 6)).bind (fun x4 => if x4 = 0 then (f_X10_advance fu (sI I 6 3 (I 7 6))).bind fun x5 => gz x5.1 (some (x5.1, x5.2)) else (f_X10_fail (sI I 6 3 (I 7 6)) 2).bind fun x6 => gz x6.1 (some (x6.1, x6.2))) = y → (((jnt (β := HI) (fun y5 => gz 1 (some ((1 : Int32), y5))) fun j1 => if I 7 3 = 1 then j1 I else (f_X10_failForm I).bind fun x2 => if x2.1 = 0 then gz 0 (some (0, x2.2)) else j1 x2.2).bind fun x1 => if x1.1 = 0 then gz 0 (some ((0 : Int32), x1.2)) else bnd (sI x1.2 6 3 (x1.2 7 6)) fun I2 => gr (okLd (R 6 2)) <| (f_X2_isTaken fu I2 (R 6 2) (I2 6 3)).bind fun x4 => if x4 = 0 then (f_X10_advance fu I2).bind fun x5 => gz x5.1 (some (x5.1, x5.2)) else (f_X10_fail I2 2).bind fun x6 => gz x6.1 (some (x6.1, x6.2))) = y) := fun y hy => by
        simp only [jnt, b4, if_pos z1, gz_1, Option.bind_some, if_neg n3, bnd, hR, zg_ok ho, k63]
        exact hy
      have refPart : ∀ (J' : HI), f_X12_fresh_L43 fu fu J M 0 = some J' → ∀ y : Option (Int64 × HI × HL), (if (J' 100 8) = 0 then (f_X12_ahead fu J' M).bind fun x18 => some ((M 100 7), x18.1, x18.2) else some ((M 100 7), J', M)) = y → ((f_X12_lex J).bind fun x1 => if (x1 100 8) ≤ 0 then jnt (β := HI) (fun y9 => (f_X12_fresh_L43 fu fu y9 M 0).bind fun x17 => if (x17 100 8) = 0 then (f_X12_ahead fu x17 M).bind fun x18 => some ((M 100 7), x18.1, x18.2) else some ((M 100 7), x17, M)) fun j3 => jnt (β := Unit) (fun y7 => (f_X12_blame x1 1 (x1 100 4)).bind fun x8 => j3 x8) fun j2 => if (x1 100 3) = 1 then (f_X12_isOwn (M 100 7)).bind fun x4 => if x4 = 0 then j3 x1 else j2 () else j2 () else some (0, x1, M)) = y := fun J' hJ' y hy => by
        simp only [l2, Option.bind_some, h8, if_pos z8, jnt, w2, if_true, w4, hJ']
        exact hy
      rcases rH with ⟨i, i1', fH1, fH2⟩ | ⟨fH1, fH2⟩
      · obtain ⟨K, d1, d2⟩ := bad (by
          unfold f_X2_isTaken
          simp only [e1, fH1, Option.bind_some, jnt, if_neg (miH i i1'), gz_1])
        have hl : f_X12_fresh_L43 fu fu J M 0 = some J2 := by
          have := hF
          rw [this]
          rw [this] at fH2
          simp only [f_X12_fresh_L43, if_neg o0, h8, if_true, fH2, Option.bind_some, jnt, if_neg (miH i i1'), j4, m1', if_neg o1, if_neg z2]
        right
        exact ⟨K, J2, M 100 7, 2, at', classPart _ d1, refPart J2 hl _ (by rw [if_neg z2]), d2, m2, by decide, l4⟩
      · rcases rO with ⟨i, i1', fO1, fO2⟩ | ⟨fO1, fO2⟩
        · obtain ⟨K, d1, d2⟩ := bad (by
            unfold f_X2_isTaken
            simp only [e1, e2, fH1, fO1, Option.bind_some, jnt, if_true, if_neg (miO i i1'), gz_1])
          have hl : f_X12_fresh_L43 fu fu J M 0 = some J2 := by
            have := hF
            rw [this]
            rw [this] at fH2 fO2
            simp only [f_X12_fresh_L43, if_neg o0, h8, if_true, fH2, Option.bind_some, jnt, if_neg o1, i1, fO2, if_neg (miO i i1'), j4, m1', if_neg z2, ite_self]
            rw [if_neg (show ¬ (2 : Int32) < 1 by decide)]
          right
          exact ⟨K, J2, M 100 7, 2, at', classPart _ d1, refPart J2 hl _ (by rw [if_neg z2]), d2, m2, by decide, l4⟩
        · rcases rL with ⟨i, i1', fL1, fL2⟩ | ⟨fL1, fL2⟩
          · obtain ⟨K, d1, d2⟩ := bad (by
              unfold f_X2_isTaken
              simp only [e1, e2, e3, fH1, fO1, fL1, Option.bind_some, jnt, if_true, if_neg (miL i i1'), gz_1])
            have hl : f_X12_fresh_L43 fu fu J M 0 = some J2 := by
              have := hF
              rw [this]
              rw [this] at fH2 fO2 fL2
              have p1 : ¬ (2 : Int32) < 1 := by decide
              have p2 : ¬ (2 : Int32) < 2 := by decide
              have p3 : (1 : Int32) + 1 = 2 := by decide
              have p4 : (2 : Int32) < 2 + 1 := by decide
              simp only [f_X12_fresh_L43, if_neg o0, h8, if_true, fH2, Option.bind_some, jnt, i1, if_neg p1, fO2, p3, if_neg p2, fL2, if_neg (miL i i1'), j4, m1', if_pos p4]
            right
            exact ⟨K, J2, M 100 7, 2, at', classPart _ d1, refPart J2 hl _ (by rw [if_neg z2]), d2, m2, by decide, l4⟩
          · obtain ⟨K, J', M', k', at2, e', q1, q2, q3, q4, q5, q6, q7⟩ := advS h' hf (by omega)
            have hl : f_X12_fresh_L43 fu fu J M 0 = some J := by
              have := hF
              rw [this]
              rw [this] at fH2 fO2 fL2
              have p1 : ¬ (2 : Int32) < 1 := by decide
              have p2 : ¬ (2 : Int32) < 2 := by decide
              have p3 : (1 : Int32) + 1 = 2 := by decide
              have p4 : (2 : Int32) < 2 + 1 := by decide
              simp only [f_X12_fresh_L43, if_neg o0, h8, if_true, fH2, Option.bind_some, jnt, i1, if_neg p1, fO2, p3, if_neg p2, fL2, if_pos p4]
            have ht : f_X2_isTaken fu (sI I 6 3 (I 7 6)) t (I 7 6) = some 0 := by
              unfold f_X2_isTaken
              simp only [e1, e2, e3, fH1, fO1, fL1, Option.bind_some, jnt, if_true, gz_0]
            left
            refine ⟨K, J', M', k', at2, e', I 7 6, M 100 7, classPart _ ?_, refPart J hl _ ?_, by rw [q5.1 6 (by decide)]; exact k63, w3, q3, q4, tk0.trans q5.tk, q6, q7⟩
            · rw [ht, Option.bind_some, if_pos rfl, q1, Option.bind_some]
              exact gz_1
            · rw [h8, if_pos rfl, q2]
              rfl
    · have z1 : ¬ nI k = 1 := fun q => c1 ((nI_eq (b := 1) (by omega) (by decide)).mp q)
      obtain ⟨K, d1, d2⟩ := failFormC l3
      obtain ⟨J', m1, m2⟩ := blameS (f := 1) (pl := at') h8
      have m1' : f_X12_blame J 1 (nI at') = some J' := m1
      have z : ¬ J' 100 8 = 0 := by rw [m2.2.1]; decide
      have o0 : ¬ (2 : Int32) < 0 := by decide
      obtain ⟨F, hF⟩ : ∃ F, fu = F + 1 := ⟨fu - 1, by omega⟩
      have hl : f_X12_fresh_L43 fu fu J' M 0 = some J' := by
        rw [hF]
        simp only [f_X12_fresh_L43, if_neg o0, if_neg z]
      right
      refine ⟨K, J', M 100 7, 1, at', ?_, ?_, d2, m2, by decide, l4⟩
      · simp only [b4, jnt, if_neg z1, d1, Option.bind_some, if_true, gz_0]
      · rcases noName h c1 l1 with w | w
        · simp only [l2, Option.bind_some, h8, if_pos z8, jnt, if_neg w, j4, m1', hl, if_neg z]
        · by_cases w' : J 100 3 = 1
          · simp only [l2, Option.bind_some, h8, if_pos z8, jnt, if_pos w', w, if_neg n3, j4, m1', hl, if_neg z]
          · simp only [l2, Option.bind_some, h8, if_pos z8, jnt, if_neg w', j4, m1', hl, if_neg z]
  · obtain ⟨K, d1, d2⟩ := failFormC l3
    have z : ¬ J1 100 8 ≤ 0 := by rw [l5.2.1]; decide
    have z1 : ¬ nI k = 1 := by rw [l1]; decide
    right
    refine ⟨K, J1, 0, 1, pl, ?_, ?_, d2, l5, by decide, l2⟩
    · simp only [b4, jnt, if_neg z1, d1, Option.bind_some, if_true, gz_0]
    · simp only [l4, Option.bind_some, if_neg z]
end
