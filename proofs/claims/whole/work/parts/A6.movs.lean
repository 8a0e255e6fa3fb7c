/-! moves: states of the lowland by where its lakes lie -/
def xbS (S : HI) (l : Nat) : Nat := (S 1 l).toNatClampNeg
def stS (S : HI) (nl l : Nat) : Bool := decide (l < nl) && decide (0 < xbS S l)
def scP (S : HI) (nl : Nat) (p : Nat → Nat) : HI := fun a k => if a = 2 ∧ stS S nl k = true then nI (p k) else S a k
def rsP (S : HI) (nl : Nat) (p : Nat → Nat) (h : Nat) : Nat := smN (fun l => if stS S nl l = true ∧ p l = h then xbS S l else 0) nl
def HD (D : HI) (h : Nat) : Nat := (D 4 h).toNatClampNeg
def rmP (D S : HI) (nl : Nat) (p : Nat → Nat) (h : Nat) : Nat := HD D h - rsP S nl p h
def ctP (S : HI) (nl : Nat) (p : Nat → Nat) (h : Nat) : Nat := cnt (fun l => stS S nl l && decide (p l = h)) nl
def mayP (D S : HI) (nl : Nat) (p : Nat → Nat) (l h : Nat) : Bool := mayB D (scP S nl p) l h (rmP D S nl p h) (ctP S nl p h)
def goodP (D S : HI) (nh nl : Nat) (p : Nat → Nat) : Prop := (∀ l, stS S nl l = true → p l < nh) ∧ (∀ l, ¬ stS S nl l = true → p l = 0) ∧ ∀ h, h < nh → rsP S nl p h ≤ HD D h
theorem stS_iff {S : HI} {nl l : Nat} : stS S nl l = true ↔ l < nl ∧ 0 < xbS S l := by
  unfold stS
  rw [Bool.and_eq_true, decide_eq_true_iff, decide_eq_true_iff]
theorem scP_ne {S : HI} {nl a k : Nat} {p : Nat → Nat} (h : a ≠ 2) : scP S nl p a k = S a k := if_neg (fun w => h w.1)
theorem scP_st {S : HI} {nl k : Nat} {p : Nat → Nat} (h : stS S nl k = true) : scP S nl p 2 k = nI (p k) := if_pos ⟨rfl, h⟩
theorem scP_no {S : HI} {nl k : Nat} {p : Nat → Nat} (h : ¬ stS S nl k = true) : scP S nl p 2 k = S 2 k := if_neg (fun w => h w.2)
section
variable {D S : HI} {nh no nl : Nat} {p : Nat → Nat}
theorem xb_of (hS : SW D S nh no nl) {l : Nat} (hl : l < 8) : S 1 l = nI (xbS S l) ∧ xbS S l ≤ 999 := by
  obtain ⟨x, x1, x2, _⟩ := hS.2.1 l hl
  have : xbS S l = x := by unfold xbS; rw [x2, nI_clamp (by omega)]
  rw [this]
  exact ⟨x2, x1⟩
theorem no_of (hS : SW D S nh no nl) (hn : nl ≤ 8) {l : Nat} (hl : l < 8) (h : ¬ stS S nl l = true) : S 2 l = mI 1 ∧ xbS S l = 0 := by
  obtain ⟨x, x1, x2, x3, x4⟩ := hS.2.1 l hl
  have e : xbS S l = x := by unfold xbS; rw [x2, nI_clamp (by omega)]
  rcases Nat.eq_zero_or_pos x with w | w
  · exact ⟨(x3 w).1, by omega⟩
  · exact absurd (stS_iff.mpr ⟨(x4 w).1, by omega⟩) h
theorem good8 (hh : nh ≤ 8) (hp : goodP D S nh nl p) (l : Nat) : p l < 8 := by
  by_cases c : stS S nl l = true
  · have := hp.1 l c; omega
  · rw [hp.2.1 l c]; decide
/-- it lies in this hollow -/
theorem lies_iff (hS : SW D S nh no nl) (hn : nl ≤ 8) (hh : nh ≤ 8) (hp : goodP D S nh nl p) {l h : Nat} (hl : l < 8) (hh' : h < nh) : scP S nl p 2 l = nI h ↔ stS S nl l = true ∧ p l = h := by
  by_cases c : stS S nl l = true
  · have := hp.1 l c
    rw [scP_st c, nI_eq (by omega) (by omega)]
    exact ⟨fun w => ⟨c, w⟩, fun w => w.2⟩
  · rw [scP_no c, (no_of hS hn hl c).1]
    exact ⟨fun w => absurd ((mI_eq_nI (by omega) (by decide)).mp w) id, fun w => absurd w.1 c⟩
theorem rs_eq (hS : SW D S nh no nl) (hn : nl ≤ 8) (hh : nh ≤ 8) (hp : goodP D S nh nl p) {h : Nat} (hh' : h < nh) : rs (scP S nl p) h nl = rsP S nl p h := by
  unfold rs rsP
  refine smN_congr (fun l hl => ?_)
  have e := lies_iff hS hn hh hp (l := l) (h := h) (by omega) hh'
  by_cases c : scP S nl p 2 l = nI h
  · rw [if_pos c, if_pos (e.mp c), scP_ne (by decide)]
    rfl
  · rw [if_neg c, if_neg (fun w => c (e.mpr w))]
theorem HD_of (hD : LWf D nh) {h : Nat} (hh : h < nh) : D 4 h = nI (HD D h) ∧ HD D h ≤ 999 := by
  obtain ⟨⟨x, x1, x2⟩, _⟩ := hD.2.2 h hh
  have : HD D h = x := by unfold HD; rw [x2, nI_clamp (by omega)]
  rw [this]
  exact ⟨x2, x1⟩
theorem SW_p (hS : SW D S nh no nl) (hD : LWf D nh) (hn : nl ≤ 8) (hh : nh ≤ 8) (hp : goodP D S nh nl p) : SW D (scP S nl p) nh no nl := by
  refine SW.mk' ⟨?_, fun l hl => ?_, ?_⟩ hS hD hn (fun h H hh' e1 e2 _ => ?_)
  · rw [scP_ne (by decide)]
    exact hS.1
  · rw [scP_ne (by decide), scP_ne (show 3 ≠ 2 by decide)]
    obtain ⟨x, x1, x2, x3, x4⟩ := hS.2.1 l hl
    by_cases c : stS S nl l = true
    · rw [scP_st c]
      obtain ⟨c1, c2⟩ := stS_iff.mp c
      have e : xbS S l = x := by unfold xbS; rw [x2, nI_clamp (by omega)]
      refine ⟨x, x1, x2, fun w => by omega, fun w => ⟨c1, ⟨p l, hp.1 l c, rfl⟩, (x4 w).2.2⟩⟩
    · rw [scP_no c]
      exact ⟨x, x1, x2, x3, x4⟩
  · intro k hk
    rw [scP_ne (by decide)]
    exact hS.2.2.1 k hk
  · rw [rs_eq hS hn hh hp hh']
    have := hp.2.2 h hh'
    obtain ⟨f1, f2⟩ := HD_of hD hh'
    have : HD D h = H := (nI_eq (by omega) (by omega)).mp (f1.symm.trans e1)
    omega
theorem room_p (hS : SW D S nh no nl) (hD : LWf D nh) (hn : nl ≤ 8) (hh : nh ≤ 8) (hp : goodP D S nh nl p) {h : Nat} (hh' : h < nh) : rmI D (scP S nl p) h nl = nI (rmP D S nl p h) ∧ rmP D S nl p h ≤ 999 := by
  obtain ⟨f1, f2⟩ := HD_of hD hh'
  obtain ⟨g1, g2⟩ := (SW_p hS hD hn hh hp).room hn hh' f1 f2
  rw [rs_eq hS hn hh hp hh'] at g2
  refine ⟨g2, ?_⟩
  unfold rmP
  omega
theorem count_p (hS : SW D S nh no nl) (hn : nl ≤ 8) (hh : nh ≤ 8) (hp : goodP D S nh nl p) {h : Nat} (hh' : h < nh) : cnt (fun l => decide (scP S nl p 2 l = nI h)) nl = ctP S nl p h := by
  unfold ctP
  refine cnt_congr (fun l hl => ?_)
  have e := lies_iff hS hn hh hp (l := l) (h := h) (by omega) hh'
  by_cases c : scP S nl p 2 l = nI h
  · rw [decide_eq_true c, (e.mp c).1, decide_eq_true (e.mp c).2]
    rfl
  · rw [decide_eq_false c]
    cases c2 : stS S nl l
    · rfl
    · rw [decide_eq_false (fun w => c (e.mpr ⟨c2, w⟩))]
      rfl
theorem bes_p (hS : SW D S nh no nl) (hn : nl ≤ 8) (hh : nh ≤ 8) (hp : goodP D S nh nl p) {l h : Nat} (hh' : h < nh) (hl : stS S nl l = true) (hne : h ≠ p l) : besI (scP S nl p) nl (nI h) l = ctP S nl p h := by
  rw [← count_p hS hn hh hp hh']
  refine cnt_ne (p := fun j => decide (scP S nl p 2 j = nI h)) (fun w => ?_)
  have := (lies_iff hS hn hh hp (l := l) (h := h) (by have := (stS_iff.mp hl).1; omega) hh').mp (decide_eq_true_iff.mp w)
  exact hne this.2.symm
theorem rsP_up {l h t : Nat} (hl : stS S nl l = true) : rsP S nl (upP p l h) t + (if p l = t then xbS S l else 0) = rsP S nl p t + (if h = t then xbS S l else 0) := by
  have e := (smN_upd (f := fun j => if stS S nl j = true ∧ p j = t then xbS S j else 0) (g := fun j => if stS S nl j = true ∧ upP p l h j = t then xbS S j else 0) (a := l) (u := if h = t then xbS S l else 0) (by
    show (if stS S nl l = true ∧ upP p l h l = t then xbS S l else 0) = _
    rw [upP_eq]
    by_cases c : h = t
    · rw [if_pos c, if_pos ⟨hl, c⟩]
    · rw [if_neg c, if_neg (fun w => c w.2)]) (fun j hj => by
    show (if stS S nl j = true ∧ upP p l h j = t then xbS S j else 0) = _
    rw [upP_ne hj]) nl).1 (stS_iff.mp hl).1
  have e2 : (if stS S nl l = true ∧ p l = t then xbS S l else 0) = if p l = t then xbS S l else 0 := by
    by_cases c : p l = t
    · rw [if_pos c, if_pos ⟨hl, c⟩]
    · rw [if_neg c, if_neg (fun w => c w.2)]
  rw [e2] at e
  exact e
theorem ctP_up {l h t : Nat} (hl : stS S nl l = true) : ctP S nl (upP p l h) t + (if p l = t then 1 else 0) = ctP S nl p t + (if h = t then 1 else 0) := by
  have e := (cnt_up (f := fun j => stS S nl j && decide (p j = t)) (g := fun j => stS S nl j && decide (upP p l h j = t)) (a := l) (fun j hj => by
    show (stS S nl j && decide (upP p l h j = t)) = _
    rw [upP_ne hj]) nl).1 (stS_iff.mp hl).1
  have e1 : (if (fun j => stS S nl j && decide (p j = t)) l = true then 1 else 0) = if p l = t then 1 else 0 := by
    show (if (stS S nl l && decide (p l = t)) = true then 1 else 0) = _
    rw [hl, Bool.true_and]
    by_cases c : p l = t
    · rw [if_pos c, if_pos (decide_eq_true c)]
    · rw [if_neg c, if_neg (fun w => c (decide_eq_true_iff.mp w))]
  have e2 : (if (fun j => stS S nl j && decide (upP p l h j = t)) l = true then 1 else 0) = if h = t then 1 else 0 := by
    show (if (stS S nl l && decide (upP p l h l = t)) = true then 1 else 0) = _
    rw [hl, Bool.true_and, upP_eq]
    by_cases c : h = t
    · rw [if_pos c, if_pos (decide_eq_true c)]
    · rw [if_neg c, if_neg (fun w => c (decide_eq_true_iff.mp w))]
  rw [e1, e2] at e
  exact e
theorem good_mv (hp : goodP D S nh nl p) {l h : Nat} (hh' : h < nh) (hm : mvP (stS S nl) (mayP D S nl) p l h) : goodP D S nh nl (upP p l h) := by
  obtain ⟨m1, m2, m3⟩ := hm
  have hle := mayB_lt m3
  rw [scP_ne (by decide)] at hle
  have hx : xbS S l ≤ rmP D S nl p h := hle
  have hx0 := (stS_iff.mp m1).2
  refine ⟨fun j hj => ?_, fun j hj => ?_, fun t ht => ?_⟩
  · by_cases c : j = l
    · rw [c, upP_eq]; exact hh'
    · rw [upP_ne c]; exact hp.1 j hj
  · have c : j ≠ l := fun w => hj (by rw [w]; exact m1)
    rw [upP_ne c]
    exact hp.2.1 j hj
  · have e := rsP_up (p := p) (h := h) (t := t) m1
    have g := hp.2.2 t ht
    by_cases c : h = t
    · subst c
      rw [if_pos rfl, if_neg (fun w => m2 w.symm)] at e
      unfold rmP at hx
      omega
    · rw [if_neg c] at e
      omega
theorem may_loc {l h m t : Nat} (hl : stS S nl l = true) (h1 : m ≠ l) (h2 : t ≠ h) (h3 : t ≠ p l) : mayP D S nl (upP p l h) m t = mayP D S nl p m t := by
  have e1 := rsP_up (p := p) (h := h) (t := t) hl
  have e2 := ctP_up (p := p) (h := h) (t := t) hl
  rw [if_neg (fun w => h3 w.symm), if_neg (fun w => h2 w.symm), Nat.add_zero, Nat.add_zero] at e1 e2
  have e3 : ∀ a, scP S nl (upP p l h) a m = scP S nl p a m := fun a => by
    unfold scP
    rw [upP_ne h1]
  have e4 : scP S nl (upP p l h) 0 1 = scP S nl p 0 1 := by rw [scP_ne (by decide), scP_ne (by decide)]
  unfold mayP rmP
  rw [e1, e2]
  unfold mayB mayV
  rw [e3, e3, e4]
theorem may_heavy {l h : Nat} (hv : D 0 5 < S 1 l) : ¬ mayP D S nl p l h = true := by
  unfold mayP
  rw [mb1 (by rw [scP_ne (by decide)]; exact hv)]
  exact Bool.false_ne_true
end
