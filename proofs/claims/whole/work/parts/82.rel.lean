/-! what stands between the class and the reference -/
def RTp (I J : HI) : Prop := ∃ T, T ≤ 1600 ∧ I 1 1 = nI T ∧ J 100 1 = nI T ∧ ∀ k, k < 1600 → I 2 k = J 101 k ∧ ∃ x, x < 256 ∧ I 2 k = nI x
def RFl (I J : HI) : Prop := I 1 5 = J 100 10 ∧ I 1 6 = J 100 11
def RRf (I J : HI) : Prop := ∀ k, k < 6 → I 5 k = J 126 k
def RLt (I : HI) (M : HL) : Prop := ∃ L, L < 2 ^ 31 ∧ I 1 17 = nI L ∧ M 100 55 = lN L
def RSt (I J : HI) (nl : Nat) : Prop := ∃ r, r ≤ 8 ∧ I 1 16 = nI r ∧ J 100 66 = nI r ∧ ∀ k, k < r → (∃ l, l < nl ∧ I 3 k = nI l) ∧ I 3 k = J 144 k ∧ (∃ x, x ≤ 999 ∧ I 4 k = nI x) ∧ I 4 k = J 145 k
def RIm (I J : HI) : Prop := ∃ z, z ≤ 107 ∧ I 47 1 = nI z ∧ J 100 70 = nI z ∧ ∀ k, k < z → I 48 k = J 146 k
def SE (S S' : HI) : Prop := S 0 1 = S' 0 1 ∧ (∀ k, k < 8 → S 1 k = S' 1 k ∧ S 2 k = S' 2 k ∧ S 3 k = S' 3 k) ∧ ∀ k, k < 36 → S 4 k = S' 4 k
/-- as far as lakes are told -/
def SEp (n : Nat) (S S' : HI) : Prop := S 0 1 = S' 0 1 ∧ (∀ k, k < min n 8 → S 1 k = S' 1 k ∧ S 2 k = S' 2 k ∧ S 3 k = S' 3 k) ∧ (∀ k, k < 36 → S 4 k = S' 4 k) ∧ ∀ k, k < 8 → S 1 k = S' 1 k
def SW (D S : HI) (nh no nl : Nat) : Prop := (∃ n, n ≤ 9999 ∧ S 0 1 = nI n) ∧ (∀ l, l < 8 → ∃ x, x ≤ 999 ∧ S 1 l = nI x ∧ (x = 0 → S 2 l = mI 1 ∧ S 3 l = mI 1) ∧ (0 < x → l < nl ∧ (∃ h, h < nh ∧ S 2 l = nI h) ∧ ∃ o, o < no ∧ S 3 l = nI o)) ∧ (∀ k, k < 36 → ∃ x, x ≤ 9999 ∧ S 4 k = nI x) ∧ ∀ h, h < nh → ∃ x, x ≤ 999 ∧ rmI D S h nl = nI x
def LWf (D : HI) (nh : Nat) : Prop := (∃ c, c ≤ 999 ∧ D 0 5 = nI c) ∧ (∃ d, d ≤ 100 ∧ D 0 4 = nI d) ∧ ∀ h, h < nh → (∃ x, x ≤ 999 ∧ D 4 h = nI x) ∧ ∃ p, p ≤ 99 ∧ D 5 h = nI p
/-- names: letters 1 .. 26, five bits each, the first lowest; eight bits each, the last lowest -/
def pk5 : List Nat → Nat
  | [] => 0
  | a :: w => a + 32 * pk5 w
def pk8 (w : List Nat) : Nat := w.foldl (fun x a => 256 * x + (a + 96)) 0
def NR (x : Int32) (y : Int64) : Prop := ∃ w : List Nat, (∀ a ∈ w, 1 ≤ a ∧ a ≤ 26) ∧ 1 ≤ w.length ∧ w.length ≤ 6 ∧ x = nI (pk5 w) ∧ y = lN (pk8 w)
def NM (D : HI) (M : HL) (b nh no nl : Nat) : Prop := (∀ k, k < nh → NR (D 1 k) (M 117 (8 * b + k))) ∧ (∀ k, k < no → NR (D 2 k) (M 118 (6 * b + k))) ∧ ∀ k, k < nl → NR (D 3 k) (M 119 (8 * b + k))
/-- a row of the history, as a scene -/
def rwv (r : Nat → Int32) : HI := fun a k => if a = 0 then r 0 else if a = 1 then r (1 + k) else if a = 2 then r (9 + k) else if a = 3 then r (17 + k) else r (25 + k)
/-- so many payments: those that are told, in a layer and in the ring -/
def PR (I J : HI) (q slot : Nat) : Prop := J 132 slot = nI (min 40 q) ∧ ∀ k c, k < min 40 q → c < 4 → J 133 (160 * slot + (4 * k + c)) = I 33 (4 * ((q - min 40 q + k) % 60) + c)
def RHx (n : Nat) (I J D : HI) (nh no nl nx dp f : Nat) (tt : Nat → Nat) : Prop := nx < 20 ∧ dp ≤ 20 ∧ f < 20 ∧ I 9 2 = nI nx ∧ I 9 3 = nI dp ∧ J 100 53 = nI f ∧ J 100 54 = nI dp ∧ I 32 1 = nI (tt dp) ∧ tt dp ≤ n ∧ (∀ j k, j ≤ k → k ≤ dp → tt j ≤ tt k ∧ tt k ≤ tt j + (k - j)) ∧ PR I J (tt dp) 0 ∧
  ∀ k, k < dp → I 11 ((nx + 20 - dp + k) % 20) = nI (tt k) ∧ SEp nl (rwv (I (12 + (nx + 20 - dp + k) % 20))) (lv J (6 + (f + k) % 20)) ∧ SW D (rwv (I (12 + (nx + 20 - dp + k) % 20))) nh no nl ∧ PR I J (tt k) (6 + (f + k) % 20)
def RHs (n : Nat) (I J D : HI) (nh no nl : Nat) : Prop := ∃ nx dp f : Nat, ∃ tt : Nat → Nat, RHx n I J D nh no nl nx dp f tt
def RLd (I : HI) (R : HR) (J : HI) (M : HL) (t b nh no nl : Nat) : Prop := R 1 2 = t ∧ R 1 3 = 147 - t ∧ CL I R 49 t nh no nl ∧ LR (vw I t) ∧ ML J b nh no nl (vw I t) ∧ LWf (vw I t) nh ∧ NM (vw I t) M b nh no nl
def RSc (I J D : HI) (nh no nl : Nat) : Prop := SEp nl (sc I 49) (lv J 0) ∧ SW D (sc I 49) nh no nl
def RelB (n : Nat) (I : HI) (R : HR) (J : HI) (M : HL) (t b nh no nl : Nat) : Prop := RTp I J ∧ RFl I J ∧ RRf I J ∧ RLt I M ∧ RSt I J nl ∧ RIm I J ∧ RLd I R J M t b nh no nl ∧ RSc I J (vw I t) nh no nl ∧ RHs n I J (vw I t) nh no nl
def Rel (n : Nat) (I : HI) (R : HR) (J : HI) (M : HL) : Prop := ∃ t b nh no nl : Nat, RelB n I R J M t b nh no nl
/-! cells that count -/
def SX (t : Nat) (I I' : HI) : Prop := ∀ x, x ≤ 5 ∨ (9 ≤ x ∧ x ≤ 33) ∨ (47 ≤ x ∧ x ≤ 53) ∨ (t ≤ x ∧ x ≤ t + 12) → I' x = I x
def SR (R R' : HR) : Prop := R' 1 2 = R 1 2 ∧ R' 1 3 = R 1 3 ∧ R' 49 0 = R 49 0
def SM (J J' : HI) : Prop := (∀ k, k = 1 ∨ k = 10 ∨ k = 11 ∨ k = 13 ∨ k = 53 ∨ k = 54 ∨ k = 66 ∨ k = 70 → J' 100 k = J 100 k) ∧ (∀ x, 101 ≤ x ∧ x ≤ 116 ∨ x = 126 ∨ x = 144 ∨ x = 145 ∨ x = 146 → J' x = J x) ∧ (∀ v, v = 0 ∨ 6 ≤ v → J' 127 v = J 127 v ∧ J' 132 v = J 132 v) ∧ (∀ k, k < 8 ∨ 48 ≤ k → J' 128 k = J 128 k ∧ J' 129 k = J 129 k ∧ J' 130 k = J 130 k) ∧ (∀ k, k < 36 ∨ 216 ≤ k → J' 131 k = J 131 k) ∧ ∀ k, k < 160 ∨ 960 ≤ k → J' 133 k = J 133 k
def SL (M M' : HL) : Prop := (∀ x, x = 117 ∨ x = 118 ∨ x = 119 → M' x = M x) ∧ M' 100 55 = M 100 55
theorem SX.refl {t : Nat} {I : HI} : SX t I I := fun _ _ => rfl
theorem SX.trans {t : Nat} {I I' I'' : HI} (h : SX t I I') (h' : SX t I' I'') : SX t I I'' := fun x hx => (h' x hx).trans (h x hx)
theorem SR.refl {R : HR} : SR R R := ⟨rfl, rfl, rfl⟩
theorem SL.refl {M : HL} : SL M M := ⟨fun _ _ => rfl, rfl⟩
theorem OtL.SL {M M' : HL} (h : OtL M M') : SL M M' := ⟨fun x hx => h x (by omega), by rw [h 100 (by decide)]⟩
theorem SL.trans {M M' M'' : HL} (h : SL M M') (h' : SL M' M'') : SL M M'' := ⟨fun x hx => (h'.1 x hx).trans (h.1 x hx), h'.2.trans h.2⟩
theorem SM.refl {J : HI} : SM J J := ⟨fun _ _ => rfl, fun _ _ => rfl, fun _ _ => ⟨rfl, rfl⟩, fun _ _ => ⟨rfl, rfl, rfl⟩, fun _ _ => rfl, fun _ _ => rfl⟩
theorem SM.trans {J J' J'' : HI} (h : SM J J') (h' : SM J' J'') : SM J J'' := by
  refine ⟨fun k hk => (h'.1 k hk).trans (h.1 k hk), fun x hx => (h'.2.1 x hx).trans (h.2.1 x hx), fun v hv => ?_, fun k hk => ?_, fun k hk => (h'.2.2.2.2.1 k hk).trans (h.2.2.2.2.1 k hk), fun k hk => (h'.2.2.2.2.2 k hk).trans (h.2.2.2.2.2 k hk)⟩
  · exact ⟨(h'.2.2.1 v hv).1.trans (h.2.2.1 v hv).1, (h'.2.2.1 v hv).2.trans (h.2.2.1 v hv).2⟩
  · exact ⟨(h'.2.2.2.1 k hk).1.trans (h.2.2.2.1 k hk).1, (h'.2.2.2.1 k hk).2.1.trans (h.2.2.2.1 k hk).2.1, (h'.2.2.2.1 k hk).2.2.trans (h.2.2.2.1 k hk).2.2⟩
theorem AO.SM {J J' : HI} (h : AO J J') : SM J J' := by
  refine ⟨fun k hk => by rw [h 100 (by decide)], fun x hx => h x (by omega), fun v hv => ?_, fun k hk => ?_, fun k hk => by rw [h 131 (by decide)], fun k hk => by rw [h 133 (by decide)]⟩
  · rw [h 127 (by decide), h 132 (by decide)]; exact ⟨rfl, rfl⟩
  · rw [h 128 (by decide), h 129 (by decide), h 130 (by decide)]; exact ⟨rfl, rfl, rfl⟩
theorem MO.SX {t : Nat} {I I' : HI} {s : Nat} (h : MO s I I') (hs : s = 49 ∨ s = 58) (ht : t = 67 ∨ t = 80) : SX t I I' := fun x hx => h x (by omega)
theorem SE_lv {S J J' : HI} {n v : Nat} (h : SEp n S (lv J v)) (h7 : J' 127 v = J 127 v) (h8 : ∀ k, 8 * v ≤ k → k < 8 * v + 8 → J' 128 k = J 128 k ∧ J' 129 k = J 129 k ∧ J' 130 k = J 130 k) (h9 : ∀ k, 36 * v ≤ k → k < 36 * v + 36 → J' 131 k = J 131 k) : SEp n S (lv J' v) := by
  refine ⟨h.1.trans h7.symm, fun k hk => ?_, fun k hk => (h.2.2.1 k hk).trans (h9 (36 * v + k) (by omega) (by omega)).symm, fun k hk => (h.2.2.2 k hk).trans (h8 (8 * v + k) (by omega) (by omega)).1.symm⟩
  obtain ⟨a, b, c⟩ := h.2.1 k hk
  obtain ⟨a', b', c'⟩ := h8 (8 * v + k) (by omega) (by omega)
  exact ⟨a.trans a'.symm, b.trans b'.symm, c.trans c'.symm⟩
theorem PR_congr {I I' J J' : HI} {q v : Nat} (h : PR I J q v) (h1 : J' 132 v = J 132 v) (h2 : ∀ k, 160 * v ≤ k → k < 160 * v + 160 → J' 133 k = J 133 k) (h3 : ∀ k, k < 240 → I' 33 k = I 33 k) : PR I' J' q v := by
  refine ⟨h1.trans h.1, fun k c hk hc => ?_⟩
  rw [h2 _ (by omega) (by omega), h.2 k c hk hc, h3 _ (by omega)]
theorem RHx_congr {n n' : Nat} {I I' J J' D : HI} {nh no nl nx dp f : Nat} {tt : Nat → Nat} (h : RHx n I J D nh no nl nx dp f tt) (hn : n ≤ n') (hx : ∀ x, 9 ≤ x → x ≤ 33 → I' x = I x) (hj1 : J' 100 53 = J 100 53 ∧ J' 100 54 = J 100 54) (hj2 : ∀ v, v = 0 ∨ 6 ≤ v → J' 127 v = J 127 v ∧ J' 132 v = J 132 v) (hj3 : ∀ k, 48 ≤ k → J' 128 k = J 128 k ∧ J' 129 k = J 129 k ∧ J' 130 k = J 130 k) (hj4 : ∀ k, 216 ≤ k → J' 131 k = J 131 k) (hj5 : ∀ k, k < 160 ∨ 960 ≤ k → J' 133 k = J 133 k) : RHx n' I' J' D nh no nl nx dp f tt := by
  obtain ⟨a1, a2, a3, a4, a5, a6, a7, a8, a9, a10, a11, a12⟩ := h
  refine ⟨a1, a2, a3, by rw [hx 9 (by decide) (by decide)]; exact a4, by rw [hx 9 (by decide) (by decide)]; exact a5, hj1.1.trans a6, hj1.2.trans a7, by rw [hx 32 (by decide) (by decide)]; exact a8, by omega, a10, PR_congr a11 (hj2 0 (by decide)).2 (fun k h1 h2 => hj5 k (by omega)) (fun k _ => by rw [hx 33 (by decide) (by decide)]), fun k hk => ?_⟩
  obtain ⟨b1, b2, b3, b4⟩ := a12 k hk
  have e : I' (12 + (nx + 20 - dp + k) % 20) = I (12 + (nx + 20 - dp + k) % 20) := hx _ (by omega) (by omega)
  refine ⟨by rw [hx 11 (by decide) (by decide)]; exact b1, ?_, by rw [e]; exact b3, PR_congr b4 (hj2 _ (by omega)).2 (fun k h1 h2 => hj5 k (by omega)) (fun k _ => by rw [hx 33 (by decide) (by decide)])⟩
  rw [e]
  exact SE_lv b2 (hj2 _ (by omega)).1 (fun k h1 h2 => hj3 k (by omega)) (fun k h1 h2 => hj4 k (by omega))
theorem Rel_same {n n' : Nat} {I I' : HI} {R R' : HR} {J J' : HI} {M M' : HL} {t b nh no nl : Nat} (h : RelB n I R J M t b nh no nl) (hn : n ≤ n') (hx : SX t I I') (hr : SR R R') (hm : SM J J') (hl : SL M M') : RelB n' I' R' J' M' t b nh no nl := by
  obtain ⟨⟨T, t1, t2, t3, t4⟩, f1, r1, ⟨L, l1, l2, l3⟩, ⟨r, s1, s2, s3, s4⟩, ⟨z, i1, i2, i3, i4⟩, ⟨d1, d2, d3, d4, d5, d6, d7⟩, ⟨c1, c2⟩, ⟨nx, dp, f, tt, hh⟩⟩ := h
  obtain ⟨m1, m2, m3, m4, m5, m6⟩ := hm
  have ht := d3.2.2.1
  have ev : vw I' t = vw I t := vw_congr (fun a ha => hx _ (by omega))
  have es : sc I' 49 = sc I 49 := sc_congr (fun a ha => hx _ (by omega))
  have e1 : I' 1 = I 1 := hx 1 (by omega)
  have e2 : I' 2 = I 2 := hx 2 (by omega)
  have e3 : I' 3 = I 3 := hx 3 (by omega)
  have e4 : I' 4 = I 4 := hx 4 (by omega)
  have e5 : I' 5 = I 5 := hx 5 (by omega)
  have e47 : I' 47 = I 47 := hx 47 (by omega)
  have e48 : I' 48 = I 48 := hx 48 (by omega)
  have et : I' t = I t := hx t (by omega)
  refine ⟨⟨T, t1, by rw [e1]; exact t2, by rw [m1 1 (by decide)]; exact t3, by rw [e2, m2 101 (by decide)]; exact t4⟩, ⟨by rw [e1, m1 10 (by decide)]; exact f1.1, by rw [e1, m1 11 (by decide)]; exact f1.2⟩, by unfold RRf; rw [e5, m2 126 (by decide)]; exact r1, ⟨L, l1, by rw [e1]; exact l2, by rw [hl.2]; exact l3⟩, ⟨r, s1, by rw [e1]; exact s2, by rw [m1 66 (by decide)]; exact s3, by rw [e3, e4, m2 144 (by decide), m2 145 (by decide)]; exact s4⟩, ⟨z, i1, by rw [e47]; exact i2, by rw [m1 70 (by decide)]; exact i3, by rw [e48, m2 146 (by decide)]; exact i4⟩, ⟨hr.1.trans d1, hr.2.1.trans d2, ?_, by rw [ev]; exact d4, ?_, by rw [ev]; exact d6, ?_⟩, ⟨?_, by rw [ev, es]; exact c2⟩, ⟨nx, dp, f, tt, ?_⟩⟩
  · obtain ⟨h0, h1, h2, h3, h4, h5, h6, h7, h8, h9⟩ := d3
    exact ⟨h0, hr.2.2.trans h1, h2, h3, by rw [et]; exact h4, by rw [et]; exact h5, by rw [et]; exact h6, h7, h8, h9⟩
  · rw [ev]
    exact ML_congr (m1 13 (by decide)) (fun x h1 h2 => m2 x (by omega)) d5
  · rw [ev]
    unfold NM
    rw [hl.1 117 (by decide), hl.1 118 (by decide), hl.1 119 (by decide)]
    exact d7
  · rw [es]
    exact SE_lv c1 (m3 0 (by decide)).1 (fun k h1 h2 => m4 k (by omega)) (fun k h1 h2 => m5 k (by omega))
  · rw [ev]
    exact RHx_congr hh (by omega) (fun x h1 h2 => hx x (by omega)) ⟨m1 53 (by decide), m1 54 (by decide)⟩ m3 (fun k hk => m4 k (by omega)) (fun k hk => m5 k (by omega)) m6
theorem Rel_up (n : Nat) (I : HI) (R : HR) (J : HI) (M : HL) (h : Rel n I R J M) : Rel (n + 6) I R J M := by
  obtain ⟨t, b, nh, no, nl, h⟩ := h
  exact ⟨t, b, nh, no, nl, Rel_same h (by omega) SX.refl SR.refl SM.refl SL.refl⟩
