/-! share: ways of dividing, by number -/
def vl (h : Nat) (d : Nat → Nat) : Nat → Nat
  | 0 => 0
  | k + 1 => vl h d k * h + d k
def okD (h c : Nat) (d : Nat → Nat) : Prop := ∀ k, k < c → d k < h
theorem okD.le {h c k : Nat} {d : Nat → Nat} (hd : okD h c d) (hk : k ≤ c) : okD h k d := fun j hj => hd j (by omega)
theorem vl_congr {h : Nat} {d d' : Nat → Nat} : ∀ c, (∀ k, k < c → d k = d' k) → vl h d c = vl h d' c := by
  intro c
  induction c with
  | zero => intro _; rfl
  | succ c ih =>
    intro hk
    show vl h d c * h + d c = vl h d' c * h + d' c
    rw [ih (fun k h' => hk k (by omega)), hk c (by omega)]
theorem dg_lt {h a b x y : Nat} (hx : x < h) (hab : a < b) : a * h + x < b * h + y := by
  have := Nat.mul_le_mul_right h (show a + 1 ≤ b from hab)
  rw [Nat.add_mul] at this
  omega
theorem dg_eq {h a b x y : Nat} (hx : x < h) (hy : y < h) (e : a * h + x = b * h + y) : a = b ∧ x = y := by
  rcases Nat.lt_trichotomy a b with q | q | q
  · have := dg_lt (h := h) (x := x) (y := y) hx q
    omega
  · subst q
    exact ⟨rfl, by omega⟩
  · have := dg_lt (h := h) (x := y) (y := x) hy q
    omega
theorem vl_lt {h : Nat} {d : Nat → Nat} : ∀ c, okD h c d → vl h d c < h ^ c := by
  intro c
  induction c with
  | zero =>
    intro _
    rw [Nat.pow_zero]
    exact Nat.zero_lt_one
  | succ c ih =>
    intro hd
    have h1 := dg_lt (h := h) (x := d c) (y := 0) (hd c (by omega)) (ih (hd.le (by omega)))
    rw [Nat.pow_succ]
    show vl h d c * h + d c < _
    omega
theorem vl_inj {h : Nat} {d d' : Nat → Nat} : ∀ c, okD h c d → okD h c d' → vl h d c = vl h d' c → ∀ k, k < c → d k = d' k := by
  intro c
  induction c with
  | zero => intro _ _ _ k hk; omega
  | succ c ih =>
    intro hd hd' e k hk
    have e' : vl h d c * h + d c = vl h d' c * h + d' c := e
    obtain ⟨e1, e2⟩ := dg_eq (hd c (by omega)) (hd' c (by omega)) e'
    by_cases ck : k = c
    · rw [ck]; exact e2
    · exact ih (hd.le (by omega)) (hd'.le (by omega)) e1 k (by omega)
theorem vl_pre {h : Nat} {d : Nat → Nat} : ∀ q k X, okD h (k + q) d → (vl h d (k + q) < X * h ^ q ↔ vl h d k < X) := by
  intro q
  induction q with
  | zero =>
    intro k X _
    rw [Nat.pow_zero, Nat.mul_one]
    exact Iff.rfl
  | succ q ih =>
    intro k X hd
    rw [← ih k X (hd.le (by omega)), Nat.pow_succ, ← Nat.mul_assoc]
    show vl h d (k + q) * h + d (k + q) < X * h ^ q * h ↔ _
    constructor
    · intro w
      rcases Nat.lt_or_ge (vl h d (k + q)) (X * h ^ q) with z | z
      · exact z
      · have := Nat.mul_le_mul_right h z
        omega
    · intro w
      have := dg_lt (h := h) (x := d (k + q)) (y := 0) (hd _ (by omega)) w
      omega
theorem vl_sur {h : Nat} (hh : 0 < h) : ∀ c w, w < h ^ c → ∃ d, okD h c d ∧ vl h d c = w := by
  intro c
  induction c with
  | zero =>
    intro w hw
    rw [Nat.pow_zero] at hw
    exact ⟨fun _ => 0, fun k hk => absurd hk (by omega), by show 0 = w; omega⟩
  | succ c ih =>
    intro w hw
    rw [Nat.pow_succ] at hw
    obtain ⟨d, d1, d2⟩ := ih (w / h) ((Nat.div_lt_iff_lt_mul hh).mpr hw)
    refine ⟨fun k => if k = c then w % h else d k, fun k hk => ?_, ?_⟩
    · show (if k = c then w % h else d k) < h
      by_cases ck : k = c
      · rw [if_pos ck]; exact Nat.mod_lt _ hh
      · rw [if_neg ck]; exact d1 k (by omega)
    · show vl h (fun k => if k = c then w % h else d k) c * h + (if c = c then w % h else d c) = w
      rw [vl_congr (d' := d) c (fun k hk => if_neg (by omega)), d2, if_pos rfl]
      exact Nat.div_add_mod' w h
/-! what heirs get -/
def swp (a b x : Nat) : Nat := if x = a then b else if x = b then a else x
theorem swp_iff {a b x y : Nat} : swp a b x = y ↔ x = swp a b y := by
  unfold swp
  by_cases h1 : x = a
  · rw [if_pos h1]
    by_cases h2 : y = a
    · rw [if_pos h2]; omega
    · rw [if_neg h2]
      by_cases h3 : y = b
      · rw [if_pos h3]; omega
      · rw [if_neg h3]; omega
  · rw [if_neg h1]
    by_cases h4 : x = b
    · rw [if_pos h4]
      by_cases h2 : y = a
      · rw [if_pos h2]; omega
      · rw [if_neg h2]
        by_cases h3 : y = b
        · rw [if_pos h3]; omega
        · rw [if_neg h3]; omega
    · rw [if_neg h4]
      by_cases h2 : y = a
      · rw [if_pos h2]; omega
      · rw [if_neg h2]
        by_cases h3 : y = b
        · rw [if_pos h3]; omega
        · rw [if_neg h3]
def shr (v d : Nat → Nat) (j c : Nat) : Nat := smN (fun k => if d k = j then v k else 0) c
def gpN (h : Nat) (s : Nat → Nat) : Nat := if h = 3 then max (max (s 0) (s 1)) (s 2) - min (min (s 0) (s 1)) (s 2) else max (s 0) (s 1) - min (s 0) (s 1)
def gap (h : Nat) (v d : Nat → Nat) (c : Nat) : Nat := gpN h (fun j => shr v d j c)
theorem shr_congr {v d d' : Nat → Nat} {j c : Nat} (h : ∀ k, k < c → d k = d' k) : shr v d j c = shr v d' j c := by
  unfold shr
  exact smN_congr (fun k hk => by rw [h k hk])
theorem gap_congr {h : Nat} {v d d' : Nat → Nat} {c : Nat} (e : ∀ k, k < c → d k = d' k) : gap h v d c = gap h v d' c := by
  unfold gap
  exact congrArg (gpN h) (funext fun j => shr_congr e)
theorem shr_1 {v d : Nat → Nat} {j k : Nat} : shr v d j (k + 1) = shr v d j k + (if d k = j then v k else 0) := rfl
theorem shr_le {v d : Nat → Nat} {j c : Nat} (hc : c ≤ 8) (hv : ∀ k, k < c → v k ≤ 9999) : shr v d j c ≤ 79992 := by
  have := smN_le (f := fun k => if d k = j then v k else 0) (m := 9999) c (fun i hi => by
    show (if d i = j then v i else 0) ≤ 9999
    have := hv i hi
    split <;> omega)
  have h10 : c * 9999 ≤ 8 * 9999 := Nat.mul_le_mul_right _ hc
  unfold shr
  omega
theorem gpN_le {h : Nat} {s : Nat → Nat} (hs : ∀ j, s j ≤ 79992) : gpN h s ≤ 79992 := by
  unfold gpN
  have h0 := hs 0
  have h1 := hs 1
  have h2 := hs 2
  split <;> omega
theorem shr_swp {v d : Nat → Nat} {a b j c : Nat} : shr v (fun k => swp a b (d k)) j c = shr v d (swp a b j) c := by
  unfold shr
  refine smN_congr (fun k _ => ?_)
  by_cases w : swp a b (d k) = j
  · rw [if_pos w, if_pos (swp_iff.mp w)]
  · rw [if_neg w, if_neg (fun z => w (swp_iff.mpr z))]
theorem gpN_swp {h a b : Nat} {s : Nat → Nat} (hh : h = 2 ∨ h = 3) (hab : a < b) (hb : b < h) : gpN h (fun j => s (swp a b j)) = gpN h s := by
  have e01 : swp 0 1 0 = 1 ∧ swp 0 1 1 = 0 ∧ swp 0 1 2 = 2 := by decide
  have e02 : swp 0 2 0 = 2 ∧ swp 0 2 1 = 1 ∧ swp 0 2 2 = 0 := by decide
  have e12 : swp 1 2 0 = 0 ∧ swp 1 2 1 = 2 ∧ swp 1 2 2 = 1 := by decide
  obtain ⟨s0, h0⟩ : ∃ x, x = s 0 := ⟨_, rfl⟩
  obtain ⟨s1, h1⟩ : ∃ x, x = s 1 := ⟨_, rfl⟩
  obtain ⟨s2, h2⟩ : ∃ x, x = s 2 := ⟨_, rfl⟩
  have hc : (a = 0 ∧ b = 1) ∨ (h = 3 ∧ a = 0 ∧ b = 2) ∨ (h = 3 ∧ a = 1 ∧ b = 2) := by omega
  rcases hc with ⟨rfl, rfl⟩ | ⟨rfl, rfl, rfl⟩ | ⟨rfl, rfl, rfl⟩
  · unfold gpN
    simp only [e01.1, e01.2.1, e01.2.2]
    rw [← h0, ← h1, ← h2]
    split <;> omega
  · unfold gpN
    simp only [e02.1, e02.2.1, e02.2.2, if_true]
    rw [← h0, ← h1, ← h2]
    omega
  · unfold gpN
    simp only [e12.1, e12.2.1, e12.2.2, if_true]
    rw [← h0, ← h1, ← h2]
    omega
theorem gap_swp {h a b : Nat} {v d : Nat → Nat} {c : Nat} (hh : h = 2 ∨ h = 3) (hab : a < b) (hb : b < h) : gap h v (fun k => swp a b (d k)) c = gap h v d c := by
  unfold gap
  rw [← gpN_swp (s := fun j => shr v d j c) hh hab hb]
  exact congrArg (gpN h) (funext fun j => shr_swp)
/-- the first of the fairest, of all ways below a number -/
def Bst (h c : Nat) (v : Nat → Nat) (N g : Nat) (e : Nat → Nat) : Prop := (∀ d, okD h c d → vl h d c < N → g ≤ gap h v d c) ∧ ((N = 0 ∧ g = 1048576) ∨ (okD h c e ∧ vl h e c < N ∧ gap h v e c = g ∧ ∀ d, okD h c d → vl h d c < vl h e c → g < gap h v d c))
theorem Bst_uniq {h c : Nat} {v : Nat → Nat} {N g g' : Nat} {e e' : Nat → Nat} (h1 : Bst h c v N g e) (h2 : Bst h c v N g' e') (hN : 0 < N) : g = g' ∧ vl h e c = vl h e' c ∧ ∀ k, k < c → e k = e' k := by
  obtain ⟨a1, a2⟩ := h1
  obtain ⟨b1, b2⟩ := h2
  obtain ⟨a3, a4, a5, a6⟩ := a2.resolve_left (fun w => by omega)
  obtain ⟨b3, b4, b5, b6⟩ := b2.resolve_left (fun w => by omega)
  have h3 := a1 e' b3 b4
  have h4 := b1 e a3 a4
  have hg : g = g' := by omega
  have hv : vl h e c = vl h e' c := by
    rcases Nat.lt_trichotomy (vl h e c) (vl h e' c) with q | q | q
    · have := b6 e a3 q; omega
    · exact q
    · have := a6 e' b3 q; omega
  exact ⟨hg, hv, vl_inj c a3 b3 hv⟩
theorem Bst_put {h c : Nat} {v : Nat → Nat} {N g : Nat} {e d : Nat → Nat} (hB : Bst h c v N g e) (hd : okD h c d) (hN : vl h d c = N) (h9 : gap h v d c < 1048576) : if gap h v d c < g then Bst h c v (N + 1) (gap h v d c) d else Bst h c v (N + 1) g e := by
  obtain ⟨a1, a2⟩ := hB
  have same : ∀ d', okD h c d' → vl h d' c = N → gap h v d' c = gap h v d c := fun d' o w => gap_congr (vl_inj c o hd (w.trans hN.symm))
  by_cases cg : gap h v d c < g
  · rw [if_pos cg]
    refine ⟨fun d' o w => ?_, Or.inr ⟨hd, by omega, rfl, fun d' o w => ?_⟩⟩
    · by_cases z : vl h d' c = N
      · rw [same d' o z]; exact Nat.le_refl _
      · have := a1 d' o (by omega); omega
    · have := a1 d' o (by omega); omega
  · rw [if_neg cg]
    refine ⟨fun d' o w => ?_, ?_⟩
    · by_cases z : vl h d' c = N
      · rw [same d' o z]; omega
      · exact a1 d' o (by omega)
    · rcases a2 with ⟨_, w⟩ | ⟨a3, a4, a5, a6⟩
      · omega
      · exact Or.inr ⟨a3, by omega, a5, a6⟩
theorem Bst_skip {h c : Nat} {v : Nat → Nat} {N N' g : Nat} {e : Nat → Nat} (hB : Bst h c v N g e) (hN : 0 < N) (hNN : N ≤ N') (hs : ∀ d, okD h c d → N ≤ vl h d c → vl h d c < N' → ∃ d', okD h c d' ∧ vl h d' c < N ∧ gap h v d' c = gap h v d c) : Bst h c v N' g e := by
  obtain ⟨a1, a2⟩ := hB
  obtain ⟨a3, a4, a5, a6⟩ := a2.resolve_left (fun w => by omega)
  refine ⟨fun d o w => ?_, Or.inr ⟨a3, by omega, a5, a6⟩⟩
  rcases Nat.lt_or_ge (vl h d c) N with z | z
  · exact a1 d o z
  · obtain ⟨d', d1, d2, d3⟩ := hs d o z w
    rw [← d3]
    exact a1 d' d1 d2
/-- heirs beyond the next new one bring nothing new -/
theorem skip_new {h k q used : Nat} {v p d : Nat → Nat} (hh : h = 2 ∨ h = 3) (hp : okD h k p) (hu : ∀ j, j < k → p j < used) (hd : okD h (k + (q + 1)) d) (h1 : (vl h p k * h + (used + 1)) * h ^ q ≤ vl h d (k + (q + 1))) (h2 : vl h d (k + (q + 1)) < (vl h p k + 1) * h ^ (q + 1)) : ∃ d', okD h (k + (q + 1)) d' ∧ vl h d' (k + (q + 1)) < (vl h p k * h + (used + 1)) * h ^ q ∧ gap h v d' (k + (q + 1)) = gap h v d (k + (q + 1)) := by
  have e1 : k + (q + 1) = (k + 1) + q := by omega
  have g2 := (vl_pre (h := h) (d := d) (q + 1) k (vl h p k + 1) hd).mp h2
  have g1 : ¬ vl h d (k + 1) < vl h p k * h + (used + 1) := fun w => by
    have := (vl_pre (h := h) (d := d) q (k + 1) (vl h p k * h + (used + 1)) (by rw [← e1]; exact hd)).mpr w
    rw [← e1] at this
    omega
  have g3 : vl h d (k + 1) = vl h d k * h + d k := rfl
  have hdk := hd k (by omega)
  have ek : vl h d k = vl h p k := by
    rcases Nat.lt_or_ge (vl h d k) (vl h p k) with w | w
    · have := dg_lt (h := h) (x := d k) (y := used + 1) hdk w
      omega
    · omega
  rw [g3, ek] at g1
  have hlt : used < d k := by omega
  have epre := vl_inj k (hd.le (by omega)) hp ek
  refine ⟨fun j => swp used (d k) (d j), fun j hj => ?_, ?_, gap_swp hh hlt hdk⟩
  · show swp used (d k) (d j) < h
    have := hd j hj
    unfold swp
    split
    · exact hdk
    · split <;> omega
  · rw [e1]
    refine (vl_pre (h := h) (d := fun j => swp used (d k) (d j)) q (k + 1) _ (fun j hj => ?_)).mpr ?_
    · show swp used (d k) (d j) < h
      have := hd j (by omega)
      unfold swp
      split
      · exact hdk
      · split <;> omega
    · show vl h (fun j => swp used (d k) (d j)) k * h + swp used (d k) (d k) < _
      have e2 : vl h (fun j => swp used (d k) (d j)) k = vl h p k := vl_congr k (fun j hj => by
        show swp used (d k) (d j) = p j
        have z1 := epre j hj
        have z2 := hu j hj
        rw [z1]
        unfold swp
        rw [if_neg (by omega), if_neg (by omega)])
      have e3 : swp used (d k) (d k) = used := by
        unfold swp
        rw [if_neg (by omega), if_pos rfl]
      rw [e2, e3]
      omega
