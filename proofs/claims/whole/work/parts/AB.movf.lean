/-! moves: the fewest, by the class -/
def p0S (S : HI) (nl l : Nat) : Nat := if stS S nl l = true then (S 2 l).toNatClampNeg else 0
/-- the least number of moves, up to four -/
def LsK (P : Nat → Prop) (y : Int32) : Prop := (∃ k, k ≤ 4 ∧ y = nI k ∧ P k ∧ ∀ j, j < k → ¬ P j) ∨ (y = -1 ∧ ∀ j, j ≤ 4 → ¬ P j)
theorem LsK_uniq {P P' : Nat → Prop} {y y' : Int32} (h : LsK P y) (h' : LsK P' y') (he : ∀ k, P k ↔ P' k) : y = y' := by
  rcases h with ⟨k, k1, k2, k3, k4⟩ | ⟨k1, k2⟩
  · rcases h' with ⟨j, j1, j2, j3, j4⟩ | ⟨j1, j2⟩
    · rcases Nat.lt_trichotomy k j with w | w | w
      · exact absurd ((he k).mp k3) (j4 k w)
      · rw [k2, j2, w]
      · exact absurd ((he j).mpr j3) (k4 j w)
    · exact absurd ((he k).mp k3) (j2 k k1)
  · rcases h' with ⟨j, j1, j2, j3, j4⟩ | ⟨j1, j2⟩
    · exact absurd ((he j).mpr j3) (k2 j j1)
    · rw [k1, j1]
section
variable {D S : HI} {nh no nl : Nat}
theorem p0_of (hS : SW D S nh no nl) (hn : nl ≤ 8) (hh : nh ≤ 8) {k : Nat} (hk : stS S nl k = true) : p0S S nl k < nh ∧ S 2 k = nI (p0S S nl k) := by
  obtain ⟨s1, s2⟩ := stS_iff.mp hk
  obtain ⟨x, x1, x2, x3, x4⟩ := hS.2.1 k (by omega)
  have e : xbS S k = x := by unfold xbS; rw [x2, nI_clamp (by omega)]
  obtain ⟨_, ⟨h, h1, h2⟩, _⟩ := x4 (by omega)
  unfold p0S
  rw [if_pos hk, h2, nI_clamp (by omega)]
  exact ⟨h1, rfl⟩
theorem scP_p0 (hS : SW D S nh no nl) (hn : nl ≤ 8) (hh : nh ≤ 8) : scP S nl (p0S S nl) = S := by
  funext a k
  unfold scP
  by_cases c : a = 2 ∧ stS S nl k = true
  · rw [if_pos c]
    obtain ⟨c1, c2⟩ := c
    subst c1
    exact (p0_of hS hn hh c2).2.symm
  · rw [if_neg c]
theorem good_p0 (hS : SW D S nh no nl) (hD : LWf D nh) (hn : nl ≤ 8) (hh : nh ≤ 8) : goodP D S nh nl (p0S S nl) := by
  refine ⟨fun l hl => (p0_of hS hn hh hl).1, fun l hl => if_neg hl, fun h hh' => ?_⟩
  obtain ⟨f1, f2⟩ := HD_of hD hh'
  have e : rsP S nl (p0S S nl) h = rs S h nl := by
    unfold rsP rs
    refine smN_congr (fun l hl => ?_)
    by_cases c : stS S nl l = true
    · obtain ⟨g1, g2⟩ := p0_of hS hn hh c
      by_cases c2 : p0S S nl l = h
      · rw [if_pos ⟨c, c2⟩, if_pos (by rw [g2, c2])]
        rfl
      · rw [if_neg (fun w => c2 w.2), if_neg (fun w => c2 ((nI_eq (by omega) (by omega)).mp (g2.symm.trans w)))]
    · rw [if_neg (fun w => c w.1), (no_of hS hn (by omega) c).1, if_neg (fun w => absurd ((mI_eq_nI (by omega) (by decide)).mp w) id)]
  rw [e]
  exact (hS.room hn hh' f1 f2).1
end
section
variable {I0 D : HI} {R : HR} {t nh no nl fu : Nat} {tg : Nat → Nat}
theorem rooms_C (hM : MVC I0 D R t nh no nl tg) (hf : 1600 < fu) : ∃ K, f_X4_fewest_L16 fu fu I0 R 0 = some K ∧ MN I0 D nh nl K (p0S (sc I0 58) nl) := by
  obtain ⟨g0, g1, g2, g3, g4, g5, g6, g7, g8, g9⟩ := id hM.1
  have e42 := hM.2.1
  have hSW := hM.2.2.2.2.1
  have hD := hM.2.2.2.2.2.1
  have hp := good_p0 hSW hD g9 g7
  have es0 := scP_p0 hSW g9 g7
  have key := loopP (fun n (a : HI) i => f_X4_fewest_L16 fu n a R i) (fun i K => (∀ x, x ≠ 44 → x ≠ 45 → K x = I0 x) ∧ ∀ h, h < i → K 44 h = nI (rmP D (sc I0 58) nl (p0S (sc I0 58) nl) h) ∧ K 45 h = nI (ctP (sc I0 58) nl (p0S (sc I0 58) nl) h)) (fun K => (∀ x, x ≠ 44 → x ≠ 45 → K x = I0 x) ∧ ∀ h, h < nh → K 44 h = nI (rmP D (sc I0 58) nl (p0S (sc I0 58) nl) h) ∧ K 45 h = nI (ctP (sc I0 58) nl (p0S (sc I0 58) nl) h)) nh fu I0 ⟨fun _ _ _ => rfl, fun h hh => absurd hh (by omega)⟩ ?_ ?_ (by omega)
  · obtain ⟨K, k1, k2, k3⟩ := key
    refine ⟨K, k1, fun x x1 x2 _ _ _ => k2 x x1 x2, fun k => ?_, k3⟩
    rw [es0, k2 60 (by decide) (by decide)]
    rfl
  · intro n i K hi ha
    obtain ⟨a1, a2⟩ := ha
    have hCK : CL K R 58 t nh no nl := CLx hM.1 (a1 t (by omega) (by omega))
    obtain ⟨f0, f1, f2, f3, f4, f5, f6, f7, f8, f9⟩ := id hCK
    have ev : vw K t = D := by
      rw [← hM.2.2.1]
      exact vw_congr (fun a ha => a1 _ (by omega) (by omega))
    have es : sc K 58 = sc I0 58 := sc_congr (fun a ha => a1 _ (by omega) (by omega))
    have r1 := roomIn_C (fu := fu) hCK (by omega) (x := i) (by omega)
    have r2 := (room_p hSW hD g9 g7 hp hi).1
    rw [es0] at r2
    rw [ev, es, r2] at r1
    obtain ⟨K1, hK1⟩ : ∃ K1, K1 = sI K 44 i (nI (rmP D (sc I0 58) nl (p0S (sc I0 58) nl) i)) := ⟨_, rfl⟩
    have hC1 : CL K1 R 58 t nh no nl := CLx hCK (by rw [hK1, zs_ne (by omega)])
    have c0 := countIn_C (fu := fu) hC1 (by omega) (nI i)
    have c2 := count_p hSW g9 g7 hp hi
    rw [es0] at c2
    have c3 : cnt (fun l => decide (K1 (58 + 2) l = nI i)) nl = ctP (sc I0 58) nl (p0S (sc I0 58) nl) i := by
      rw [← c2, hK1]
      refine cnt_congr (fun l hl => ?_)
      rw [zs_ne (by decide), a1 (58 + 2) (by decide) (by decide)]
      rfl
    rw [c3, hK1] at c0
    have c1 : ¬ nI nh ≤ nI i := nI_ge hi (by omega)
    have A1 : nI i + 1 = nI (i + 1) := nI_1 i
    refine ⟨sI K1 45 i (nI (ctP (sc I0 58) nl (p0S (sc I0 58) nl) i)), ?_, fun x x1 x2 => by rw [zs_ne x2, hK1, zs_ne x1]; exact a1 x x1 x2, fun h hh => ?_⟩
    · simp (disch := omega) only [f_X4_fewest_L16, e42, zg_ok okS, f1, zg_ok f0, f4, if_neg c1, r1, Option.bind_some, inb_ok, bnd, nI_clamp, c0, A1, hK1]
    · rw [zs_eq, zs_ne (by decide), hK1, zs_eq, zs_ne (by decide)]
      by_cases c : h = i
      · rw [c, zs_same, zs_same]
        exact ⟨rfl, rfl⟩
      · rw [zs_other c, zs_other c]
        exact a2 h (by omega)
  · intro n K ha
    have hCK : CL K R 58 t nh no nl := CLx hM.1 (ha.1 t (by omega) (by omega))
    obtain ⟨f0, f1, f2, f3, f4, f5, f6, f7, f8, f9⟩ := id hCK
    have c1 : nI nh ≤ nI nh := Int32.le_refl _
    refine ⟨K, ?_, ha⟩
    simp only [f_X4_fewest_L16, e42, zg_ok okS, f1, zg_ok f0, f4, if_pos c1]
theorem chs_all (hM : MVC I0 D R t nh no nl tg) (hf : 10000 < fu) : CHs I0 D R nh nl fu tg 20 0 (fun _ => True) ∧ CHs I0 D R nh nl fu tg 20 1 (fun _ => True) ∧ CHs I0 D R nh nl fu tg 20 2 (TBk I0 D nh nl tg) ∧ CHs I0 D R nh nl fu tg 20 3 (TBk I0 D nh nl tg) ∧ CHs I0 D R nh nl fu tg 20 4 (TBk I0 D nh nl tg) := by
  have hf' : 1600 < fu := by omega
  have n1 : ∀ r Q, CHs I0 D R nh nl fu tg (r + 4) 1 Q := fun r Q => node_C hM hf' (r := r + 1) (left := 0) (node0_C hM hf' (r := r)) (by decide) (by decide)
  have n2 : ∀ r, CHs I0 D R nh nl fu tg (r + 7) 2 (TBk I0 D nh nl tg) := fun r => node2_C hM hf (r := r + 4) (fun T => n1 r _)
  have n3 : ∀ r, CHs I0 D R nh nl fu tg (r + 10) 3 (TBk I0 D nh nl tg) := fun r => node_C hM hf' (r := r + 7) (left := 2) (n2 r) (by decide) (by decide)
  have n4 : ∀ r, CHs I0 D R nh nl fu tg (r + 13) 4 (TBk I0 D nh nl tg) := fun r => node_C hM hf' (r := r + 10) (left := 3) (n3 r) (by decide) (by decide)
  exact ⟨node0_C hM hf' (r := 19), n1 16 _, n2 13, n3 10, n4 7⟩
theorem fewest_C {R0 : HR} (hR : R = sR R0 42 4 58) (hM : MVC I0 D R t nh no nl tg) (hf : 10000 < fu) : ∃ y K', f_X4_fewest fu I0 R0 58 = some (y, K', R) ∧ (∀ x, x ≠ 44 → x ≠ 45 → x ≠ 46 → x ≠ 60 → x < 64 ∨ 67 ≤ x → K' x = I0 x) ∧ LsK (fun k => EnC I0 D nh nl tg k (p0S (sc I0 58) nl)) y := by
  obtain ⟨g0, g1, g2, g3, g4, g5, g6, g7, g8, g9⟩ := id hM.1
  have hSW := hM.2.2.2.2.1
  have hD := hM.2.2.2.2.2.1
  have hp := good_p0 hSW hD g9 g7
  have es0 := scP_p0 hSW g9 g7
  have n3 : ¬ (1 : Int32) = 0 := by decide
  obtain ⟨m0, m1, m2, m3, m4⟩ := chs_all hM hf
  unfold f_X4_fewest
  rcases heavy_C (fu := fu) hM (by omega) (K := I0) (p := p0S (sc I0 58) nl) (fun _ _ => rfl) hp (fun k => by rw [es0]; rfl) with ⟨w1, u, u1, u2, u3⟩ | w1
  · refine ⟨-1, I0, ?_, fun _ _ _ _ _ _ => rfl, Or.inr ⟨rfl, fun j _ => En_heavy u1 (fun p h => may_heavy u3) j _ u2⟩⟩
    simp only [bnd, ← hR, w1, Option.bind_some, if_neg n3]
  · obtain ⟨K0, r1, r2⟩ := rooms_C (fu := fu) hM (by omega)
    have call : ∀ k, k ≤ 4 → ∀ K, MN I0 D nh nl K (p0S (sc I0 58) nl) → (∀ j, j < k → ¬ EnC I0 D nh nl tg j (p0S (sc I0 58) nl)) → ∃ K1 y K', f_X4_forgetSeen fu K (nI k) = some K1 ∧ g_X4 fu 20 0 K1 R (nI k) 0 0 = some (y, K') ∧ MN I0 D nh nl K' (p0S (sc I0 58) nl) ∧ ((y = 1 ∧ EnC I0 D nh nl tg k (p0S (sc I0 58) nl)) ∨ (y = 0 ∧ ¬ EnC I0 D nh nl tg k (p0S (sc I0 58) nl))) := fun k hk K h hno => by
      have weak : ∀ (Q : (Nat → Int32) → Prop) (K1 : HI), CHs I0 D R nh nl fu tg 20 k Q → MN I0 D nh nl K1 (p0S (sc I0 58) nl) → Q (K1 46) → ∃ y K', g_X4 fu 20 0 K1 R (nI k) 0 0 = some (y, K') ∧ MN I0 D nh nl K' (p0S (sc I0 58) nl) ∧ ((y = 1 ∧ EnC I0 D nh nl tg k (p0S (sc I0 58) nl)) ∨ (y = 0 ∧ ¬ EnC I0 D nh nl tg k (p0S (sc I0 58) nl))) := fun Q K1 hc h1 hQ => by
        obtain ⟨y, K', y1, y2, y3⟩ := hc K1 _ hp h1 hQ hno
        refine ⟨y, K', y1, y2, ?_⟩
        rcases y3 with z | ⟨z1, z2, _⟩
        · exact Or.inl z
        · exact Or.inr ⟨z1, z2⟩
      by_cases ck : k ≤ 1
      · have ck' : nI k ≤ 1 := nI_le (b := 1) ck (by decide)
        obtain ⟨y, K', y1, y2, y3⟩ := weak (fun _ => True) K (by
          rcases (show k = 0 ∨ k = 1 by omega) with z | z
          · rw [z]; exact m0
          · rw [z]; exact m1) h trivial
        exact ⟨K, y, K', by unfold f_X4_forgetSeen; rw [if_pos ck'], y1, y2, y3⟩
      · have ck' : ¬ nI k ≤ 1 := nI_ge (b := k) (a := 1) (by omega) (by omega)
        obtain ⟨K1, f1, f2, f3⟩ := fill_J (fu := fu) (a0 := 46) (n := 2048) (v := 0) (by omega) (by decide) K
        have h1 : MN I0 D nh nl K1 (p0S (sc I0 58) nl) := ⟨fun x x1 x2 x3 x4 x5 => by rw [f2 x x3]; exact h.1 x x1 x2 x3 x4 x5, fun k => by rw [f2 60 (by decide)]; exact h.2.1 k, fun h' hh' => by rw [f2 44 (by decide), f2 45 (by decide)]; exact h.2.2 h' hh'⟩
        obtain ⟨y, K', y1, y2, y3⟩ := weak (TBk I0 D nh nl tg) K1 (by
          rcases (show k = 2 ∨ k = 3 ∨ k = 4 by omega) with z | z | z
          · rw [z]; exact m2
          · rw [z]; exact m3
          · rw [z]; exact m4) h1 (fun i hi => Or.inl (f3 i hi))
        exact ⟨K1, y, K', by unfold f_X4_forgetSeen; rw [if_neg ck', f1]; rfl, y1, y2, y3⟩
    have loop : ∀ (q k n : Nat) (K : HI), k + q = 5 → q < n → MN I0 D nh nl K (p0S (sc I0 58) nl) → (∀ j, j < k → ¬ EnC I0 D nh nl tg j (p0S (sc I0 58) nl)) → ∃ K', MN I0 D nh nl K' (p0S (sc I0 58) nl) ∧ ((∃ k', k' ≤ 4 ∧ f_X4_fewest_L66 fu n K R (nI k) = some (.inl (nI k', K', R)) ∧ EnC I0 D nh nl tg k' (p0S (sc I0 58) nl) ∧ ∀ j, j < k' → ¬ EnC I0 D nh nl tg j (p0S (sc I0 58) nl)) ∨ (f_X4_fewest_L66 fu n K R (nI k) = some (.inr K') ∧ ∀ j, j ≤ 4 → ¬ EnC I0 D nh nl tg j (p0S (sc I0 58) nl))) := by
      intro q
      induction q with
      | zero =>
        intro k n K e1 e2 h hno
        obtain ⟨n, rfl⟩ : ∃ z, n = z + 1 := ⟨n - 1, by omega⟩
        have ek : k = 5 := by omega
        subst ek
        have c1 : (4 : Int32) < nI 5 := by decide
        refine ⟨K, h, Or.inr ⟨?_, fun j hj => hno j (by omega)⟩⟩
        simp only [f_X4_fewest_L66, if_pos c1]
      | succ q ih =>
        intro k n K e1 e2 h hno
        obtain ⟨n, rfl⟩ : ∃ z, n = z + 1 := ⟨n - 1, by omega⟩
        have c1 : ¬ (4 : Int32) < nI k := Int32.not_lt.mpr (nI_le (b := 4) (by omega) (by decide))
        have A1 : nI k + 1 = nI (k + 1) := nI_1 k
        obtain ⟨K1, y, K2, y1, y2, y3, y4⟩ := call k (by omega) K h hno
        rcases y4 with ⟨z1, z2⟩ | ⟨z1, z2⟩
        · subst z1
          refine ⟨K2, y3, Or.inl ⟨k, by omega, ?_, z2, hno⟩⟩
          simp only [f_X4_fewest_L66, if_neg c1, y1, Option.bind_some, y2, if_neg n3]
        · subst z1
          obtain ⟨K', k1, k2⟩ := ih (k + 1) n K2 (by omega) (by omega) y3 (fun j hj => by
            by_cases w : j = k
            · rw [w]; exact z2
            · exact hno j (by omega))
          refine ⟨K', k1, ?_⟩
          have st : f_X4_fewest_L66 fu (n + 1) K R (nI k) = f_X4_fewest_L66 fu n K2 R (nI (k + 1)) := by
            simp only [f_X4_fewest_L66, if_neg c1, y1, Option.bind_some, y2, if_true, A1]
          rw [st]
          exact k2
    obtain ⟨K', k1, k2⟩ := loop 5 0 fu K0 (by omega) (by omega) r2 (fun j hj => absurd hj (by omega))
    rcases k2 with ⟨k', z1, z2, z3, z4⟩ | ⟨z1, z2⟩
    · have z2' : f_X4_fewest_L66 fu fu K0 R 0 = some (.inl (nI k', K', R)) := z2
      refine ⟨nI k', K', ?_, k1.1, Or.inl ⟨k', z1, rfl, z3, z4⟩⟩
      simp only [bnd, ← hR, w1, Option.bind_some, if_true, r1, z2', Sum.elim_inl]
    · have z1' : f_X4_fewest_L66 fu fu K0 R 0 = some (.inr K') := z1
      refine ⟨-1, K', ?_, k1.1, Or.inr ⟨rfl, z2⟩⟩
      simp only [bnd, ← hR, w1, Option.bind_some, if_true, r1, z1', Sum.elim_inr]
end
