/-! all that is told so far, on both sides; what a statement leaves alone -/
def inBk (b x i : Nat) : Prop := ((x = 102 ∨ x = 105 ∨ x = 106 ∨ x = 111 ∨ x = 112) ∧ i = b) ∨ ((x = 103 ∨ x = 104 ∨ x = 107 ∨ x = 108 ∨ x = 109) ∧ 8 * b ≤ i ∧ i < 8 * b + 8) ∨ (x = 110 ∧ 36 * b ≤ i ∧ i < 36 * b + 36) ∨ ((x = 113 ∨ x = 114) ∧ 3 * b ≤ i ∧ i < 3 * b + 3) ∨ ((x = 115 ∨ x = 116) ∧ 1600 * b ≤ i ∧ i < 1600 * b + 1600) ∨ (120 ≤ x ∧ x ≤ 125)
def FrC (t : Nat) (I K : HI) : Prop := ∀ x, x ≠ 6 → x ≠ 7 → x ≠ 8 → ¬ (t ≤ x ∧ x ≤ t + 12) → K x = I x
def FrM (b : Nat) (J J' : HI) : Prop := (∀ x i, x ≠ 100 → ¬ inBk b x i → J' x i = J x i) ∧ ∀ s, s ≤ 2 ∨ s = 10 ∨ s = 11 ∨ s = 13 ∨ s = 33 ∨ 45 ≤ s → J' 100 s = J 100 s
def inBl (b x i : Nat) : Prop := ((x = 117 ∨ x = 119) ∧ 8 * b ≤ i ∧ i < 8 * b + 8) ∨ (x = 118 ∧ 6 * b ≤ i ∧ i < 6 * b + 6)
def FrL (b : Nat) (M M' : HL) : Prop := (∀ x i, x ≠ 100 → ¬ inBl b x i → M' x i = M x i) ∧ ∀ s, s ≠ 7 → M' 100 s = M 100 s
theorem FrC.refl {t : Nat} {I : HI} : FrC t I I := fun _ _ _ _ _ => rfl
theorem FrC.trans {t : Nat} {I K K' : HI} (h : FrC t I K) (h' : FrC t K K') : FrC t I K' := fun x a b c d => (h' x a b c d).trans (h x a b c d)
theorem FrM.refl {b : Nat} {J : HI} : FrM b J J := ⟨fun _ _ _ _ => rfl, fun _ _ => rfl⟩
theorem FrM.trans {b : Nat} {J J' J'' : HI} (h : FrM b J J') (h' : FrM b J' J'') : FrM b J J'' := ⟨fun x i a c => (h'.1 x i a c).trans (h.1 x i a c), fun s hs => (h'.2 s hs).trans (h.2 s hs)⟩
theorem FrL.refl {b : Nat} {M : HL} : FrL b M M := ⟨fun _ _ _ _ => rfl, fun _ _ => rfl⟩
theorem FrL.trans {b : Nat} {M M' M'' : HL} (h : FrL b M M') (h' : FrL b M' M'') : FrL b M M'' := ⟨fun x i a c => (h'.1 x i a c).trans (h.1 x i a c), fun s hs => (h'.2 s hs).trans (h.2 s hs)⟩
theorem TkC.fr {t : Nat} {I K : HI} (h : TkC I K) : FrC t I K := fun x a c _ _ => h.1 x a c
theorem BadC.fr {t f pl : Nat} {I K : HI} (h : BadC I K f pl) : FrC t I K := fun x a c _ _ => h.1 x a c
theorem AdM.fr {b : Nat} {J J' : HI} (h : AdM J J') : FrM b J J' := ⟨fun x i a _ => by rw [h.1 x a], fun s hs => h.2 s (by omega)⟩
theorem BadM.fr {b f pl : Nat} {J J' : HI} (h : BadM J J' f pl) : FrM b J J' := ⟨fun x i a _ => by rw [h.1 x a], fun s hs => h.2.2.2 s (by omega) (by omega)⟩
theorem BaM.fr {b f pl : Nat} {J J' : HI} (h : BaM J J' f pl) : FrM b J J' := ⟨fun x i a _ => by rw [h.1 x a], fun s hs => h.2.2.2 s (by omega) (by omega) (by omega)⟩
theorem BdR.fr {b f pl : Nat} {J J' : HI} (h : BdR J J' b f pl) : FrM b J J' := by
  refine ⟨fun x i a c => ?_, fun s hs => h.2.1 s (by omega)⟩
  unfold inBk at c
  by_cases q : x = 115 ∨ x = 116
  · obtain ⟨q1, q2⟩ := h.2.2.1 i (by omega)
    rcases q with rfl | rfl
    · exact q1
    · exact q2
  · rw [h.1 x (by omega) a]
theorem PFx.fr {b dp om cj : Nat} {J J' : HI} (h : PFx J J' b dp om cj) : FrM b J J' := by
  refine ⟨fun x i a c => ?_, fun s hs => h.2.1 s (by omega)⟩
  unfold inBk at c
  by_cases q : x = 115 ∨ x = 116
  · obtain ⟨q1, q2⟩ := h.2.2.2.2 i (by omega)
    rcases q with rfl | rfl
    · exact q1
    · exact q2
  · rw [h.1 x (by omega) a]
theorem BdC.fr {t f pl : Nat} {I K : HI} (h : BdC I K t f pl) : FrC t I K := fun x a c _ d => h.1 x a c d
theorem PFc.fr {t c0 : Nat} {I K : HI} (h : PFc I K t c0) : FrC t I K := fun x _ c _ d => h.1 x c (by omega) (by omega)
theorem OnL.fr {b : Nat} {M M' : HL} (h : OnL M M') : FrL b M M' := ⟨fun x i a _ => by rw [h.1 x a], h.2⟩
theorem FrM_put {b x i : Nat} {v : Int32} {J J' : HI} (h : FrM b J J') (hi : inBk b x i) (hx : x ≠ 100) : FrM b J (sI J' x i v) := by
  refine ⟨fun y j hy hj => ?_, fun s hs => by rw [zs_ne (fun w => hx w.symm)]; exact h.2 s hs⟩
  by_cases q : y = x
  · subst q
    by_cases q2 : j = i
    · subst q2
      exact absurd hi hj
    · rw [zs_eq, zs_other q2]
      exact h.1 y j hy hj
  · rw [zs_ne q]
    exact h.1 y j hy hj
theorem FrL_put {b x i : Nat} {v : Int64} {M M' : HL} (h : FrL b M M') (hi : inBl b x i) (hx : x ≠ 100) : FrL b M (sL M' x i v) := by
  refine ⟨fun y j hy hj => ?_, fun s hs => by rw [zL_ne (fun w => hx w.symm)]; exact h.2 s hs⟩
  by_cases q : y = x
  · subst q
    by_cases q2 : j = i
    · subst q2
      exact absurd hi hj
    · rw [zL_eq, vU_ne q2]
      exact h.1 y j hy hj
  · rw [zL_ne q]
    exact h.1 y j hy hj
theorem FrC_put {t x i : Nat} {v : Int32} {I K : HI} (h : FrC t I K) (hx : t ≤ x ∧ x ≤ t + 12) : FrC t I (sI K x i v) := fun y a c d f => by
  rw [zs_ne (fun w => f (by rw [w]; exact hx))]
  exact h y a c d f
theorem StR_L {tp : Nat → Nat} {sz : Nat} {I J : HI} {M M' : HL} {k at' e : Nat} (h : StR tp sz I J M k at' e) (h1 : M' 100 7 = M 100 7) : StR tp sz I J M' k at' e := by
  obtain ⟨a, b, c, d⟩ := h
  refine ⟨a, ?_, c, d⟩
  unfold TKx at b ⊢
  rw [h1]
  exact b
theorem NMr_w {I J J' : HI} {M M' : HL} {t b nh no nl : Nat} (h : NMr I J M t b nh no nl) (hJ : J' 102 b = J 102 b ∧ J' 105 b = J 105 b ∧ J' 106 b = J 106 b ∧ J' 100 33 = J 100 33) (h1 : ∀ i, i < nh → M' 117 (8 * b + i) = M 117 (8 * b + i)) (h2 : ∀ i, i < no → M' 118 (6 * b + i) = M 118 (6 * b + i)) (h3 : ∀ i, i < nl → M' 119 (8 * b + i) = M 119 (8 * b + i)) : NMr I J' M' t b nh no nl := by
  obtain ⟨⟨a1, a2, a3⟩, ⟨b1, b2, b3⟩, ⟨c1, c2, c3⟩, d1, d2, d3, d4, d5⟩ := h
  exact ⟨⟨a1, hJ.1.trans a2, a3⟩, ⟨b1, hJ.2.1.trans b2, b3⟩, ⟨c1, hJ.2.2.1.trans c2, c3⟩, fun i hi => by rw [h1 i hi]; exact d1 i hi, fun i hi => by rw [h2 i hi]; exact d2 i hi, fun i hi => by rw [h3 i hi]; exact d3 i hi, hJ.2.2.2.trans d4, d5⟩
theorem LKr_w {I J J' : HI} {t b nh nl : Nat} (h : LKr I J t b nh nl) (hJ : J' 102 b = J 102 b ∧ J' 106 b = J 106 b ∧ J' 100 33 = J 100 33) (h1 : ∀ i, i < nh → J' 103 (8 * b + i) = J 103 (8 * b + i)) (h2 : ∀ i, i < nl → J' 107 (8 * b + i) = J 107 (8 * b + i) ∧ J' 108 (8 * b + i) = J 108 (8 * b + i)) : LKr I J' t b nh nl := by
  obtain ⟨⟨a1, a2, a3⟩, ⟨b1, b2, b3⟩, ⟨c1, c2⟩, d1, d2⟩ := h
  exact ⟨⟨a1, hJ.1.trans a2, a3⟩, ⟨b1, hJ.2.1.trans b2, b3⟩, ⟨hJ.2.2.trans c1, c2⟩, fun i hi => by rw [h1 i hi]; exact d1 i hi, fun i hi => by rw [(h2 i hi).1, (h2 i hi).2]; exact d2 i hi⟩
/-- the room of a hollow, out of what it holds and of what the lakes have -/
def rmF (hd hs ls : Nat → Int32) (h : Nat) : Nat → Int32
  | 0 => hd h
  | n + 1 => rmF hd hs ls h n - (if ls n = nI h then hs n else 0)
def HPr (I J : HI) (t b nh : Nat) : Prop := ∀ i, i < nh → I (t + 5) i = J 104 (8 * b + i) ∧ (∃ x, x ≤ 999 ∧ I (t + 4) i = nI x) ∧ ∃ p, p ≤ 99 ∧ I (t + 5) i = nI p
def LWr (I J : HI) (t b nh no nl : Nat) : Prop := ∀ j, j < nl → I (t + 8) j = J 109 (8 * b + j) ∧ (∃ x, (1 ≤ x ∧ x ≤ 999) ∧ I (t + 6) j = nI x) ∧ (∃ h, h < nh ∧ I (t + 7) j = nI h) ∧ ∃ o, o < no ∧ I (t + 8) j = nI o
def RMr (I : HI) (t nh nl : Nat) : Prop := ∀ h, h < nh → ∃ x, x ≤ 999 ∧ rmF (I (t + 4)) (I (t + 6)) (I (t + 7)) h nl = nI x
def DBr (I J : HI) (t b no : Nat) : Prop := ∀ a c, a < 6 → c < 6 → (∃ x, x ≤ 999 ∧ I (t + 9) (6 * a + c) = nI x) ∧ (a < no ∧ c < no → J 110 (36 * b + 6 * a + c) = I (t + 9) (6 * a + c)) ∧ (¬ (a < no ∧ c < no) → I (t + 9) (6 * a + c) = nI 0)
def NCr (I J : HI) (t b : Nat) : Prop := (∃ d, d ≤ 100 ∧ I t 4 = nI d) ∧ J 111 b = I t 4 ∧ (∃ c, c ≤ 999 ∧ I t 5 = nI c) ∧ J 112 b = I t 5
def RU1 (I J : HI) (t b cj r : Nat) : Prop := (I (t + 11) r = nI 0 ∧ I (t + 12) r = nI 0 ∧ J 113 (3 * b + r) = mI 1) ∨ ∃ a n, 0 < n ∧ a + n ≤ cj ∧ I (t + 11) r = nI a ∧ I (t + 12) r = nI (a + n) ∧ J 113 (3 * b + r) = nI a ∧ J 114 (3 * b + r) = nI (a + n) ∧ VL I t r a (a + n) 42 (if r = 2 then 1 else 0)
def RUr (I J : HI) (t b cj : Nat) : Prop := (J 100 32 = nI cj ∧ I t 16 = nI cj ∧ cj ≤ 1600) ∧ CRs I J t b cj ∧ ∀ r, r < 3 → RU1 I J t b cj r
def TOLD (I J : HI) (M : HL) (t b nh no nl cj : Nat) : Prop := NMr I J M t b nh no nl ∧ LKr I J t b nh nl ∧ HPr I J t b nh ∧ LWr I J t b nh no nl ∧ RMr I t nh nl ∧ DBr I J t b no ∧ NCr I J t b ∧ RUr I J t b cj
section
variable {I K J J' : HI} {M M' : HL} {t b nh no nl cj : Nat}
theorem HPr_c (h : HPr I J t b nh) (h4 : ∀ i, i < nh → K (t + 4) i = I (t + 4) i) (h5 : ∀ i, i < nh → K (t + 5) i = I (t + 5) i) (hj : ∀ i, i < nh → J' 104 (8 * b + i) = J 104 (8 * b + i)) : HPr K J' t b nh := fun i hi => by
  rw [h4 i hi, h5 i hi, hj i hi]
  exact h i hi
theorem LWr_c (h : LWr I J t b nh no nl) (h6 : ∀ i, i < nl → K (t + 6) i = I (t + 6) i) (h7 : ∀ i, i < nl → K (t + 7) i = I (t + 7) i) (h8 : ∀ i, i < nl → K (t + 8) i = I (t + 8) i) (hj : ∀ i, i < nl → J' 109 (8 * b + i) = J 109 (8 * b + i)) : LWr K J' t b nh no nl := fun i hi => by
  rw [h6 i hi, h7 i hi, h8 i hi, hj i hi]
  exact h i hi
theorem LWr_up {nh' no' : Nat} (h : LWr I J t b nh no nl) (a : nh ≤ nh') (c : no ≤ no') : LWr I J t b nh' no' nl := fun i hi => by
  obtain ⟨q1, q2, ⟨x, q3, q4⟩, ⟨y, q5, q6⟩⟩ := h i hi
  exact ⟨q1, q2, ⟨x, by omega, q4⟩, ⟨y, by omega, q6⟩⟩
theorem rmF_c {hd hs ls hd' hs' ls' : Nat → Int32} {h : Nat} : ∀ n, hd' h = hd h → (∀ i, i < n → hs' i = hs i ∧ ls' i = ls i) → rmF hd' hs' ls' h n = rmF hd hs ls h n := by
  intro n
  induction n with
  | zero => intro a _; exact a
  | succ n ih =>
    intro a c
    show rmF hd' hs' ls' h n - (if ls' n = nI h then hs' n else 0) = rmF hd hs ls h n - (if ls n = nI h then hs n else 0)
    rw [ih a (fun i hi => c i (by omega)), (c n (by omega)).1, (c n (by omega)).2]
theorem RMr_c (h : RMr I t nh nl) (h4 : ∀ i, i < nh → K (t + 4) i = I (t + 4) i) (h6 : ∀ i, i < nl → K (t + 6) i = I (t + 6) i ∧ K (t + 7) i = I (t + 7) i) : RMr K t nh nl := fun i hi => by
  rw [rmF_c nl (h4 i hi) h6]
  exact h i hi
theorem DBr_c (h : DBr I J t b no) (h9 : ∀ i, i < 36 → K (t + 9) i = I (t + 9) i) (hj : ∀ a c, a < no → c < no → J' 110 (36 * b + 6 * a + c) = J 110 (36 * b + 6 * a + c)) : DBr K J' t b no := fun a c ha hc => by
  obtain ⟨q1, q2, q3⟩ := h a c ha hc
  rw [h9 _ (by omega)]
  exact ⟨q1, fun w => by rw [hj a c w.1 w.2]; exact q2 w, q3⟩
theorem NCr_c (h : NCr I J t b) (h4 : K t 4 = I t 4) (h5 : K t 5 = I t 5) (j1 : J' 111 b = J 111 b) (j2 : J' 112 b = J 112 b) : NCr K J' t b := by
  unfold NCr
  rw [h4, h5, j1, j2]
  exact h
theorem RUr_c (h : RUr I J t b cj) (h1 : J' 100 32 = J 100 32) (h2 : K t 16 = I t 16) (h3 : ∀ x, x = 10 ∨ x = 11 ∨ x = 12 → K (t + x) = I (t + x)) (hj : ∀ x, 113 ≤ x → x ≤ 116 → J' x = J x) : RUr K J' t b cj := by
  obtain ⟨⟨a1, a2, a3⟩, a4, a5⟩ := h
  refine ⟨⟨h1.trans a1, h2.trans a2, a3⟩, fun j hj' => ?_, fun r hr => ?_⟩
  · rw [h3 10 (by decide), hj 115 (by decide) (by decide), hj 116 (by decide) (by decide)]
    exact a4 j hj'
  · rcases a5 r hr with ⟨q1, q2, q3⟩ | ⟨a, n, q1, q2, q3, q4, q5, q6, q7⟩
    · left
      rw [h3 11 (by decide), h3 12 (by decide), hj 113 (by decide) (by decide)]
      exact ⟨q1, q2, q3⟩
    · right
      refine ⟨a, n, q1, q2, ?_, ?_, ?_, ?_, VL_congr q7 (fun j _ _ => by rw [h3 10 (by decide)])⟩
      · rw [h3 11 (by decide)]; exact q3
      · rw [h3 12 (by decide)]; exact q4
      · rw [hj 113 (by decide) (by decide)]; exact q5
      · rw [hj 114 (by decide) (by decide)]; exact q6
theorem TOLD_c (h : TOLD I J M t b nh no nl cj) (hI : ∀ x, t ≤ x → x ≤ t + 12 → K x = I x) (hJ : ∀ x, 102 ≤ x → x ≤ 116 → J' x = J x) (h32 : J' 100 32 = J 100 32) (h33 : J' 100 33 = J 100 33) (hM : ∀ x, x = 117 ∨ x = 118 ∨ x = 119 → M' x = M x) : TOLD K J' M' t b nh no nl cj := by
  obtain ⟨a1, a2, a3, a4, a5, a6, a7, a8⟩ := h
  refine ⟨NMr_w (NMr_c a1 (fun x x1 x2 => hI x x1 (by omega))) ⟨by rw [hJ 102 (by decide) (by decide)], by rw [hJ 105 (by decide) (by decide)], by rw [hJ 106 (by decide) (by decide)], h33⟩ (fun i _ => by rw [hM 117 (by decide)]) (fun i _ => by rw [hM 118 (by decide)]) (fun i _ => by rw [hM 119 (by decide)]), LKr_w (LKr_c a2 (fun x x1 x2 => hI x x1 (by omega))) ⟨by rw [hJ 102 (by decide) (by decide)], by rw [hJ 106 (by decide) (by decide)], h33⟩ (fun i _ => by rw [hJ 103 (by decide) (by decide)]) (fun i _ => ⟨by rw [hJ 107 (by decide) (by decide)], by rw [hJ 108 (by decide) (by decide)]⟩), HPr_c a3 (fun i _ => by rw [hI (t + 4) (by omega) (by omega)]) (fun i _ => by rw [hI (t + 5) (by omega) (by omega)]) (fun i _ => by rw [hJ 104 (by decide) (by decide)]), LWr_c a4 (fun i _ => by rw [hI (t + 6) (by omega) (by omega)]) (fun i _ => by rw [hI (t + 7) (by omega) (by omega)]) (fun i _ => by rw [hI (t + 8) (by omega) (by omega)]) (fun i _ => by rw [hJ 109 (by decide) (by decide)]), RMr_c a5 (fun i _ => by rw [hI (t + 4) (by omega) (by omega)]) (fun i _ => ⟨by rw [hI (t + 6) (by omega) (by omega)], by rw [hI (t + 7) (by omega) (by omega)]⟩), DBr_c a6 (fun i _ => by rw [hI (t + 9) (by omega) (by omega)]) (fun a c _ _ => by rw [hJ 110 (by decide) (by decide)]), NCr_c a7 (by rw [hI t (by omega) (by omega)]) (by rw [hI t (by omega) (by omega)]) (by rw [hJ 111 (by decide) (by decide)]) (by rw [hJ 112 (by decide) (by decide)]), RUr_c a8 h32 (by rw [hI t (by omega) (by omega)]) (fun x hx => hI (t + x) (by omega) (by omega)) (fun x x1 x2 => hJ x (by omega) x2)⟩
end
/-- what a statement's reader gives -/
def OutS (tp : Nat → Nat) (sz t b e : Nat) (I J : HI) (M : HL) (y : Int32) (K J' : HI) (M' : HL) : Prop := (FrC t I K ∧ FrM b J J' ∧ FrL b M M') ∧ ((y = 1 ∧ (K t 0 = I t 0 ∧ J' 100 9 = J 100 9) ∧ ∃ k' at2 e' nh no nl cj, StR tp sz K J' M' k' at2 e' ∧ e ≤ at2 ∧ cj ≤ at2 ∧ TOLD K J' M' t b nh no nl cj) ∨ (y = 1 ∧ ∃ pl, K 7 5 = nI pl ∧ K 7 3 = nI 5 ∧ pl ≤ 1700 ∧ J' 100 8 = nI 1 ∧ J' 100 9 = nI pl) ∨ (y = 0 ∧ ∃ f pl, K 7 7 = nI f ∧ K 7 8 = nI pl ∧ J' 100 8 = nI f ∧ J' 100 9 = nI pl ∧ okF f pl))
