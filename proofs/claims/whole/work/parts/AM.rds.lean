/-! the reader: what may stand here, on both sides -/
def StR (tp : Nat → Nat) (sz : Nat) (I J : HI) (M : HL) (k at' e : Nat) : Prop := TPc I J tp ∧ TKx tp sz I J M k at' e ∧ J 100 8 = 0 ∧ sz ≤ 1600
def BadC (I K : HI) (f pl : Nat) : Prop := (∀ x, x ≠ 6 → x ≠ 7 → K x = I x) ∧ K 7 7 = nI f ∧ K 7 8 = nI pl
def BadM (J J' : HI) (f pl : Nat) : Prop := (∀ x, x ≠ 100 → J' x = J x) ∧ J' 100 8 = nI f ∧ J' 100 9 = nI pl ∧ ∀ s, s ≠ 8 → s ≠ 9 → J' 100 s = J 100 s
def okF (f pl : Nat) : Prop := (1 ≤ f ∧ f ≤ 6) ∧ pl ≤ 1700
/-- after a step that was taken -/
def TkC (I K : HI) : Prop := (∀ x, x ≠ 6 → x ≠ 7 → K x = I x) ∧ (∀ s, s ≠ 3 → K 6 s = I 6 s) ∧ ∀ s, s = 1 ∨ 7 ≤ s → K 7 s = I 7 s
theorem TkC.refl {I : HI} : TkC I I := ⟨fun _ _ _ => rfl, fun _ _ => rfl, fun _ _ => rfl⟩
theorem TkC.trans {I K K' : HI} (h : TkC I K) (h' : TkC K K') : TkC I K' := ⟨fun x a b => (h'.1 x a b).trans (h.1 x a b), fun s hs => (h'.2.1 s hs).trans (h.2.1 s hs), fun s hs => (h'.2.2 s hs).trans (h.2.2 s hs)⟩
theorem AdC.tk {I K : HI} (h : AdC I K) : TkC I K := ⟨fun x _ b => h.1 x b, fun s _ => by rw [h.1 6 (by decide)], h.2⟩
theorem AdM.refl {J : HI} : AdM J J := ⟨fun _ _ => rfl, fun _ _ => rfl⟩
theorem AdM.trans {J J' J'' : HI} (h : AdM J J') (h' : AdM J' J'') : AdM J J'' := ⟨fun x a => (h'.1 x a).trans (h.1 x a), fun s hs => (h'.2 s hs).trans (h.2 s hs)⟩
theorem OnL.refl {M : HL} : OnL M M := ⟨fun _ _ => rfl, fun _ _ => rfl⟩
theorem OnL.trans {M M' M'' : HL} (h : OnL M M') (h' : OnL M' M'') : OnL M M'' := ⟨fun x a => (h'.1 x a).trans (h.1 x a), fun s hs => (h'.2 s hs).trans (h.2 s hs)⟩
theorem BadC.tk {I K K' : HI} {f pl : Nat} (h : TkC I K) (h' : BadC K K' f pl) : BadC I K' f pl := ⟨fun x a b => (h'.1 x a b).trans (h.1 x a b), h'.2⟩
theorem StR_tk {tp : Nat → Nat} {sz : Nat} {I J K : HI} {M : HL} {k at' e : Nat} (h : StR tp sz I J M k at' e) (h1 : ∀ x, x = 2 ∨ x = 7 → K x = I x) : StR tp sz K J M k at' e := by
  obtain ⟨a, b, c, d⟩ := h
  refine ⟨fun k hk => ?_, ?_, c, d⟩
  · rw [h1 2 (by decide)]
    exact a k hk
  · unfold TKx at b ⊢
    rw [h1 7 (by decide)]
    exact b
section
variable {tp : Nat → Nat} {sz fu : Nat} {I J : HI} {M : HL} {k at' e : Nat}
theorem StR.k5 (h : StR tp sz I J M k at' e) : k ≤ 5 := by
  rcases h.2.1.2.2.1 with w | w | w | w | w | w <;> have := w.1 <;> omega
theorem advS (h : StR tp sz I J M k at' e) (hf : 2000 < fu) (hk : k ≠ 0) : ∃ K J' M' k' at2 e', f_X10_advance fu I = some (1, K) ∧ f_X12_ahead fu J M = some (J', M') ∧ StR tp sz K J' M' k' at2 e' ∧ e ≤ at2 ∧ AdC I K ∧ AdM J J' ∧ OnL M M' := by
  have h5 := h.k5
  obtain ⟨a, b, c, d⟩ := h
  obtain ⟨⟨b1, b2, b3, b4⟩, ⟨b5, b6, b7⟩, b8, b9⟩ := id b
  have hb := b7 hk
  obtain ⟨K, J', M', k', at2, e', q1, q2, q3, q4, q5, q6, q7⟩ := adv_R (tp := tp) (sz := sz) (fu := fu) (M := M) d hf a b1 b2 b4 h5 b6 (by
    constructor
    · intro w
      exact ⟨by omega, (b9.resolve_left hk).mp w.2⟩
    · intro w
      exact ⟨hk, (b9.resolve_left hk).mpr w.2⟩)
  refine ⟨K, J', M', k', at2, e', q1, q2, ⟨fun k hk => ?_, q3, by rw [q6.2 8 (by omega)]; exact c, d⟩, q4, q5, q6, q7⟩
  rw [q5.1 2 (by decide), q6.1 101 (by decide)]
  exact a k hk
theorem blameS {f pl : Nat} (h8 : J 100 8 = 0) : ∃ J', f_X12_blame J (nI f) (nI pl) = some J' ∧ BadM J J' f pl := by
  have z : J 100 8 ≤ 0 := by rw [h8]; decide
  refine ⟨sI (sI J 100 8 (nI f)) 100 9 (nI pl), ?_, fun x hx => by rw [zs_ne hx, zs_ne hx], by rw [zs_eq, zs_other (by decide), zs_eq, zs_same], by rw [zs_eq, zs_same], fun s s1 s2 => by rw [zs_eq, zs_other s2, zs_eq, zs_other s1]⟩
  unfold f_X12_blame
  rw [if_pos z]
  rfl
theorem blameF {f : Nat} {x y : Int32} (hf : 1 ≤ f ∧ f ≤ 6) (h8 : J 100 8 = nI f) : f_X12_blame J x y = some J := by
  have z : ¬ J 100 8 ≤ 0 := by rw [h8]; exact nI_nle (by omega) (by omega)
  unfold f_X12_blame
  rw [if_neg z]
theorem lexF {f : Nat} (hf : 1 ≤ f ∧ f ≤ 6) (h8 : J 100 8 = nI f) : f_X12_lex J = some J := by
  unfold f_X12_lex
  rw [blameF hf h8]
  by_cases c : J 100 12 = -1
  · rw [if_pos c]
  · rw [if_neg c]
    rfl
theorem lexS (h : StR tp sz I J M k at' e) : (k ≠ 5 ∧ f_X12_lex J = some J ∧ I 7 5 = nI at' ∧ at' ≤ 1700) ∨ (k = 5 ∧ ∃ pl J', pl ≤ 1700 ∧ I 7 5 = nI pl ∧ f_X12_lex J = some J' ∧ BadM J J' 1 pl) := by
  obtain ⟨a, ⟨⟨b1, b2, b3, b4⟩, ⟨b5, b6, b7⟩, b8, b9⟩, c, d⟩ := h
  have z : J 100 12 = -1 → f_X12_lex J = some J := fun w => by
    unfold f_X12_lex
    rw [if_pos w]
  rcases b8 with w | w | w | w | w | w
  · exact Or.inl ⟨by omega, z w.2.2.1, w.2.2.2, by omega⟩
  · exact Or.inl ⟨by omega, z w.2.2.1, w.2.2.2.1, by omega⟩
  · exact Or.inl ⟨by omega, z w.2.2.1, w.2.2.2.1, by omega⟩
  · exact Or.inl ⟨by omega, z w.2.2.1, w.2.2.2.1, by omega⟩
  · exact Or.inl ⟨by omega, z w.2.2.1, w.2.2.2.1, by omega⟩
  · obtain ⟨w1, w2, pl, w3, w4, w5⟩ := w
    obtain ⟨J', q1, q2⟩ := blameS (f := 1) (pl := pl) c
    refine Or.inr ⟨w1, pl, J', w3, w5, ?_, q2⟩
    have z : ¬ nI pl = -1 := fun q => (nI_eq_mI (a := pl) (b := 1) (by omega) (by decide)).mp q
    have q1' : f_X12_blame J 1 (nI pl) = some J' := q1
    unfold f_X12_lex
    rw [w4, if_neg z, q1']
    rfl
theorem failFormC {pl : Nat} (h5 : I 7 5 = nI pl) : ∃ K, f_X10_failForm I = some (0, K) ∧ BadC I K 1 pl := by
  refine ⟨sI (sI I 7 7 (nI 1)) 7 8 (nI pl), ?_, fun x _ hx => by rw [zs_ne hx, zs_ne hx], by rw [zs_eq, zs_other (by decide), zs_eq, zs_same], by rw [zs_eq, zs_same]⟩
  unfold f_X10_failForm
  simp only [bnd]
  rw [gz_0, zs_eq, zs_other (by decide), h5]
  rfl
theorem failC {f pl : Nat} (h4 : I 7 4 = nI pl) : ∃ K, f_X10_fail I (nI f) = some (0, K) ∧ BadC I K f pl := by
  refine ⟨sI (sI I 7 7 (nI f)) 7 8 (nI pl), ?_, fun x _ hx => by rw [zs_ne hx, zs_ne hx], by rw [zs_eq, zs_other (by decide), zs_eq, zs_same], by rw [zs_eq, zs_same]⟩
  unfold f_X10_fail
  simp only [bnd]
  rw [gz_0, zs_eq, zs_other (by decide), h4]
theorem signB (h : StR tp sz I J M k at' e) (c : Nat) (hc : c < 256) : (f_X10_isSign I (nI c) = some 1 ∧ f_X12_isSign J (nI c) = some 1 ∧ k = 4 ∧ I 7 6 = nI c) ∨ (f_X10_isSign I (nI c) = some 0 ∧ f_X12_isSign J (nI c) = some 0 ∧ ¬ (k = 4 ∧ I 7 6 = nI c)) := by
  have hk5 := h.k5
  obtain ⟨a, ⟨⟨b1, b2, b3, b4⟩, b5, b8, b9⟩, _, d⟩ := h
  unfold f_X10_isSign f_X12_isSign
  rw [b4]
  by_cases ck : k = 4
  · have z : nI k = 4 := by rw [ck]; rfl
    obtain ⟨_, w2, w3, w4, c', w5, w6, w7⟩ : k = 4 ∧ J 100 3 = 3 ∧ J 100 12 = -1 ∧ I 7 5 = nI at' ∧ ∃ c, c < 256 ∧ I 7 6 = nI c ∧ J 100 6 = nI c := by
      rcases b8 with w | w | w | w | w | w
      · omega
      · exact w
      · omega
      · omega
      · omega
      · omega
    rw [if_pos z, w2, if_pos rfl, w6, w7]
    by_cases cc : c' = c
    · have z2 : nI c' = nI c := by rw [cc]
      left
      rw [if_pos z2, gz_1]
      exact ⟨rfl, rfl, ck, z2⟩
    · have z2 : ¬ nI c' = nI c := fun q => cc ((nI_eq (by omega) (by omega)).mp q)
      right
      rw [if_neg z2, gz_0]
      exact ⟨rfl, rfl, fun q => z2 q.2⟩
  · have z : ¬ nI k = 4 := fun q => ck ((nI_eq (b := 4) (by omega) (by decide)).mp q)
    have z3 : ¬ J 100 3 = 3 := by
      rcases b8 with w | w | w | w | w | w
      · rw [w.2.1]; decide
      · omega
      · rw [w.2.1]; decide
      · rw [w.2.1]; decide
      · rw [w.2.1]; decide
      · rcases w.2.1 with q | q
        · rw [q]; decide
        · rw [q]; decide
    right
    rw [if_neg z, if_neg z3, gz_0]
    exact ⟨rfl, rfl, fun q => ck q.1⟩
theorem P8_63 {g : Nat → Nat} {n : Nat} (hn : n ≤ 8) (hg : ∀ j, j < n → 97 ≤ g j ∧ g j ≤ 122) : P8 g n < 2 ^ 63 := by
  have hb8 := (P8_lt (g := g) n hn hg).1
  have hpw : 256 ^ (n - 1) ≤ 256 ^ 7 := Nat.pow_le_pow_right (by decide) (by omega)
  omega
theorem wordB (h : StR tp sz I J M k at' e) (hk : k ≠ 5) (w : Nat) (hw : w < 25) : (f_X10_isOwn I (nI w) = some 1 ∧ f_X12_isWord J M (lN (ownL w)) = some 1 ∧ k = 2 ∧ I 7 6 = nI w) ∨ (f_X10_isOwn I (nI w) = some 0 ∧ f_X12_isWord J M (lN (ownL w)) = some 0 ∧ ¬ (k = 2 ∧ I 7 6 = nI w)) := by
  have hk5 := h.k5
  obtain ⟨a, ⟨⟨b1, b2, b3, b4⟩, b5, b8, b9⟩, _, d⟩ := h
  unfold f_X10_isOwn f_X12_isWord
  rw [b4]
  by_cases ck : k = 2
  · have z : nI k = 2 := by rw [ck]; rfl
    obtain ⟨_, w2, w3, w4, w', w5, w6, w7⟩ : k = 2 ∧ J 100 3 = 1 ∧ J 100 12 = -1 ∧ I 7 5 = nI at' ∧ ∃ w, w < 25 ∧ I 7 6 = nI w ∧ M 100 7 = lN (ownL w) := by
      rcases b8 with q | q | q | q | q | q
      · omega
      · omega
      · omega
      · exact q
      · omega
      · omega
    rw [if_pos z, w2, if_pos rfl, w6, w7]
    by_cases cc : w' = w
    · subst cc
      left
      rw [if_pos rfl, if_pos ((cmpL (own_lt w' w5) (own_lt w' w5)).mpr rfl), gz_1]
      exact ⟨rfl, rfl, ck, rfl⟩
    · have z2 : ¬ nI w' = nI w := fun q => cc ((nI_eq (by omega) (by omega)).mp q)
      have z3 : ¬ lg_cmp (lN (ownL w')) (lN (ownL w)) = 0 := fun q => cc (own_inj w' w5 w hw ((cmpL (own_lt w' w5) (own_lt w hw)).mp q))
      right
      rw [if_neg z2, if_neg z3, gz_0]
      exact ⟨rfl, rfl, fun q => z2 q.2⟩
  · have z : ¬ nI k = 2 := fun q => ck ((nI_eq (b := 2) (by omega) (by decide)).mp q)
    right
    rw [if_neg z, gz_0]
    refine ⟨rfl, ?_, fun q => ck q.1⟩
    rcases b8 with q | q | q | q | q | q
    · rw [q.2.1, if_neg (by decide)]
    · rw [q.2.1, if_neg (by decide)]
    · rw [q.2.1, if_neg (by decide)]
    · omega
    · obtain ⟨q1, q2, q3, q4, g, n, q5, q6, q7, q8, q9⟩ := q
      have z3 : ¬ lg_cmp (lN (P8 g n)) (lN (ownL w)) = 0 := fun z => q9 ⟨w, hw, (cmpL (P8_63 (by omega) q5) (own_lt w hw)).mp z⟩
      rw [q2, if_pos rfl, q8, if_neg z3]
    · omega
/-- a word of the language -/
theorem tw_R (h : StR tp sz I J M k at' e) (hf : 2000 < fu) (w : Nat) (hw : w < 25) : (∃ K J' M' k' at2 e', f_X7_takeWord fu I (nI w) = some (1, K) ∧ f_X12_must_ fu J M (lN (ownL w)) = some (J', M') ∧ StR tp sz K J' M' k' at2 e' ∧ e ≤ at2 ∧ TkC I K ∧ AdM J J' ∧ OnL M M') ∨ (∃ K J' f pl, f_X7_takeWord fu I (nI w) = some (0, K) ∧ f_X12_must_ fu J M (lN (ownL w)) = some (J', M) ∧ BadC I K f pl ∧ BadM J J' f pl ∧ okF f pl) := by
  have n3 : ¬ (1 : Int32) = 0 := by decide
  have h8 := h.2.2.1
  have z8 : (0 : Int32) ≤ 0 := by decide
  unfold f_X7_takeWord f_X10_needOwn f_X12_must_
  rcases lexS h with ⟨l1, l2, l3, l4⟩ | ⟨l1, pl, J1, l2, l3, l4, l5⟩
  · rcases wordB h l1 w hw with ⟨w1, w2, w3, w4⟩ | ⟨w1, w2, w3⟩
    · obtain ⟨K, J', M', k', at2, e', q1, q2, q3, q4, q5, q6, q7⟩ := advS h hf (by omega)
      left
      refine ⟨K, J', M', k', at2, e', ?_, ?_, q3, q4, q5.tk, q6, q7⟩
      · simp only [w1, Option.bind_some, jnt, if_neg n3, gz_1, q1]
      · simp only [l2, Option.bind_some, h8, if_pos z8, w2, jnt, if_neg n3, h8, if_true, q2]
    · obtain ⟨K, c1, c2⟩ := failFormC l3
      obtain ⟨J', m1, m2⟩ := blameS (f := 1) (pl := at') h8
      have m1' : f_X12_blame J 1 (nI at') = some J' := m1
      have z : ¬ J' 100 8 = 0 := by rw [m2.2.1]; decide
      right
      refine ⟨K, J', 1, at', ?_, ?_, c2, m2, by decide, l4⟩
      · simp only [w1, Option.bind_some, jnt, if_true, c1, gz_0]
      · simp only [l2, Option.bind_some, h8, if_pos z8, w2, jnt, if_true, h.2.1.1.2.2.1.2, m1', if_neg z]
  · obtain ⟨K, c1, c2⟩ := failFormC l3
    have z : ¬ J1 100 8 ≤ 0 := by rw [l5.2.1]; decide
    have w1 : f_X10_isOwn I (nI w) = some 0 := by
      unfold f_X10_isOwn
      have b4 := h.2.1.1.2.2.2
      have z2 : ¬ nI k = 2 := by rw [l1]; decide
      rw [b4, if_neg z2, gz_0]
    right
    refine ⟨K, J1, 1, pl, ?_, ?_, c2, l5, by decide, l2⟩
    · simp only [w1, Option.bind_some, jnt, if_true, c1, gz_0]
    · simp only [l4, Option.bind_some, if_neg z]
theorem mustW_F {f : Nat} {x : Int64} (hf : 1 ≤ f ∧ f ≤ 6) (h8 : J 100 8 = nI f) : f_X12_must_ fu J M x = some (J, M) := by
  have z : ¬ J 100 8 ≤ 0 := by rw [h8]; exact nI_nle (by omega) (by omega)
  unfold f_X12_must_
  simp only [lexF hf h8, Option.bind_some, if_neg z]
theorem number_F {f : Nat} {x y : Int32} (hf : 1 ≤ f ∧ f ≤ 6) (h8 : J 100 8 = nI f) : f_X12_number fu J M x y = some (0, J, M) := by
  have z : ¬ J 100 8 ≤ 0 := by rw [h8]; exact nI_nle (by omega) (by omega)
  unfold f_X12_number
  simp only [lexF hf h8, Option.bind_some, if_neg z]
theorem asked_F {f : Nat} {x y : Int32} (hf : 1 ≤ f ∧ f ≤ 6) (h8 : J 100 8 = nI f) : f_X12_askedBut fu J M x y = some (0, J, M) := by
  have z : ¬ J 100 8 ≤ 0 := by rw [h8]; exact nI_nle (by omega) (by omega)
  unfold f_X12_askedBut
  simp only [lexF hf h8, Option.bind_some, if_neg z]
/-- a number -/
theorem tn_R (h : StR tp sz I J M k at' e) (hf : 2000 < fu) (lo hi : Nat) (hh : hi ≤ 9999) (hlo : lo ≤ 9999) : (∃ K J' M' k' at2 e' v, f_X7_takeNumber fu I (nI lo) (nI hi) = some (1, K) ∧ f_X12_number fu J M (nI lo) (nI hi) = some (nI v, J', M') ∧ K 6 3 = nI v ∧ (lo ≤ v ∧ v ≤ hi) ∧ StR tp sz K J' M' k' at2 e' ∧ e ≤ at2 ∧ TkC I K ∧ AdM J J' ∧ OnL M M') ∨ (∃ K J' v f pl, f_X7_takeNumber fu I (nI lo) (nI hi) = some (0, K) ∧ f_X12_number fu J M (nI lo) (nI hi) = some (v, J', M) ∧ BadC I K f pl ∧ BadM J J' f pl ∧ okF f pl) := by
  have n3 : ¬ (1 : Int32) = 0 := by decide
  have h8 := h.2.2.1
  have z8 : (0 : Int32) ≤ 0 := by decide
  have hk5 := h.k5
  have b4 := h.2.1.1.2.2.2
  have j4 := h.2.1.1.2.2.1.2
  unfold f_X7_takeNumber f_X10_needKind f_X12_number
  rcases lexS h with ⟨l1, l2, l3, l4⟩ | ⟨l1, pl, J1, l2, l3, l4, l5⟩
  · by_cases c3 : k = 3
    · have z3 : nI k = 3 := by rw [c3]; rfl
      obtain ⟨_, w2, _, _, v, w5, w6, w7⟩ : k = 3 ∧ J 100 3 = 2 ∧ J 100 12 = -1 ∧ I 7 5 = nI at' ∧ ∃ v, v ≤ 9999 ∧ I 7 6 = nI v ∧ J 100 6 = nI v := by
        rcases h.2.1.2.2.1 with q | q | q | q | q | q
        · omega
        · omega
        · exact q
        · omega
        · omega
        · omega
      have h' : StR tp sz (sI I 6 3 (nI v)) J M k at' e := StR_tk h (fun x hx => zs_ne (by omega))
      have k63 : (sI I 6 3 (nI v)) 6 3 = nI v := by rw [zs_eq, zs_same]
      have tk0 : TkC I (sI I 6 3 (nI v)) := ⟨fun x a _ => zs_ne a, fun s hs => by rw [zs_eq, zs_other hs], fun s _ => by rw [zs_ne (by decide)]⟩
      by_cases cr : lo ≤ v ∧ v ≤ hi
      · have y1 : ¬ nI v < nI lo := nI_nlt cr.1 (by omega)
        have y2 : nI v ≤ nI hi := nI_le cr.2 (by omega)
        have y3 : ¬ nI hi < nI v := Int32.not_lt.mpr y2
        obtain ⟨K, J', M', k', at2, e', q1, q2, q3, q4, q5, q6, q7⟩ := advS h' hf (by omega)
        left
        refine ⟨K, J', M', k', at2, e', v, ?_, ?_, by rw [q5.1 6 (by decide)]; exact k63, cr, q3, q4, tk0.trans q5.tk, q6, q7⟩
        · simp only [b4, jnt, if_pos z3, gz_1, Option.bind_some, if_neg n3, w6, bnd, k63, if_neg y1, if_pos y2, q1]
        · unfold f_X12_is
          simp only [l2, Option.bind_some, h8, if_pos z8, jnt, w2, if_true, h8, w7, if_neg y1, if_neg y3, gz_1, if_neg n3, bnd, q2]
      · obtain ⟨K, c1, c2⟩ := failC (I := sI I 6 3 (nI v)) (f := 4) (pl := at') (by rw [zs_ne (by decide)]; exact h.2.1.1.2.2.1.1)
        have c1' : f_X10_fail (sI I 6 3 (nI v)) 4 = some (0, K) := c1
        obtain ⟨J', m1, m2⟩ := blameS (f := 4) (pl := at') h8
        have m1' : f_X12_blame J 4 (nI at') = some J' := m1
        have z : ¬ J' 100 8 = 0 := by rw [m2.2.1]; decide
        right
        refine ⟨K, J', J' 100 6, 4, at', ?_, ?_, BadC.tk tk0 c2, m2, by decide, l4⟩
        · by_cases y1 : nI v < nI lo
          · simp only [b4, jnt, if_pos z3, gz_1, Option.bind_some, if_neg n3, w6, bnd, k63, if_pos y1, c1', gz_0]
          · have y2 : ¬ nI v ≤ nI hi := fun w => cr ⟨by
              rcases Nat.lt_or_ge v lo with q | q
              · exact absurd (nI_lt q (by omega)) y1
              · exact q, by
              rcases Nat.lt_or_ge hi v with q | q
              · exact absurd w (nI_ge q (by omega))
              · exact q⟩
            simp only [b4, jnt, if_pos z3, gz_1, Option.bind_some, if_neg n3, w6, bnd, k63, if_neg y1, if_neg y2, c1', gz_0]
        · unfold f_X12_is
          by_cases y1 : nI v < nI lo
          · simp only [l2, Option.bind_some, h8, if_pos z8, jnt, w2, if_true, h8, w7, if_pos y1, gz_0, j4, m1', bnd, if_neg z]
          · have y3 : nI hi < nI v := by
              rcases Nat.lt_or_ge hi v with q | q
              · exact nI_lt q (by omega)
              · exfalso
                rcases Nat.lt_or_ge v lo with r | r
                · exact y1 (nI_lt r (by omega))
                · exact cr ⟨r, q⟩
            simp only [l2, Option.bind_some, h8, if_pos z8, jnt, w2, if_true, h8, w7, if_neg y1, if_pos y3, gz_0, j4, m1', bnd, if_neg z]
    · have z3 : ¬ nI k = 3 := fun q => c3 ((nI_eq (b := 3) (by omega) (by decide)).mp q)
      have w2 : ¬ J 100 3 = 2 := by
        rcases h.2.1.2.2.1 with q | q | q | q | q | q
        · rw [q.2.1]; decide
        · rw [q.2.1]; decide
        · omega
        · rw [q.2.1]; decide
        · rw [q.2.1]; decide
        · omega
      obtain ⟨K, c1, c2⟩ := failFormC l3
      obtain ⟨J', m1, m2⟩ := blameS (f := 1) (pl := at') h8
      have m1' : f_X12_blame J 1 (nI at') = some J' := m1
      have z : ¬ J' 100 8 = 0 := by rw [m2.2.1]; decide
      right
      refine ⟨K, J', J' 100 6, 1, at', ?_, ?_, c2, m2, by decide, l4⟩
      · simp only [b4, jnt, if_neg z3, c1, Option.bind_some, if_true, gz_0]
      · simp only [l2, Option.bind_some, h8, if_pos z8, jnt, if_neg w2, j4, m1', if_neg z, bnd]
  · obtain ⟨K, c1, c2⟩ := failFormC l3
    have z : ¬ J1 100 8 ≤ 0 := by rw [l5.2.1]; decide
    have z3 : ¬ nI k = 3 := by rw [l1]; decide
    right
    refine ⟨K, J1, 0, 1, pl, ?_, ?_, c2, l5, by decide, l2⟩
    · simp only [b4, jnt, if_neg z3, c1, Option.bind_some, if_true, gz_0]
    · simp only [l4, Option.bind_some, if_neg z]
end
