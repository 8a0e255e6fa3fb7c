/-! pour, part -/
theorem sc50 {I : HI} {k : Nat} {v : Int32} : sc (sI I 50 k v) 49 = sI (sc I 49) 1 k v := sc_put (s := 49) (a := 1) (by decide)
theorem sc51 {I : HI} {k : Nat} {v : Int32} : sc (sI I 51 k v) 49 = sI (sc I 49) 2 k v := sc_put (s := 49) (a := 2) (by decide)
theorem sc52 {I : HI} {k : Nat} {v : Int32} : sc (sI I 52 k v) 49 = sI (sc I 49) 3 k v := sc_put (s := 49) (a := 3) (by decide)
theorem sc53 {I : HI} {k : Nat} {v : Int32} : sc (sI I 53 k v) 49 = sI (sc I 49) 4 k v := sc_put (s := 49) (a := 4) (by decide)
theorem lv128 {J : HI} {k : Nat} {v : Int32} : lv (sI J 128 k v) 0 = sI (lv J 0) 1 k v := lv_put0 (a := 1) (by decide)
theorem lv129 {J : HI} {k : Nat} {v : Int32} : lv (sI J 129 k v) 0 = sI (lv J 0) 2 k v := lv_put0 (a := 2) (by decide)
theorem lv130 {J : HI} {k : Nat} {v : Int32} : lv (sI J 130 k v) 0 = sI (lv J 0) 3 k v := lv_put0 (a := 3) (by decide)
theorem SE_131 {n : Nat} {S J : HI} (h : SEp n S (lv J 0)) {k : Nat} {v : Int32} : SEp n (sI S 4 k v) (lv (sI J 131 k v) 0) := by
  obtain ⟨h1, h2, h3, h4⟩ := h
  refine ⟨?_, fun j hj => ?_, fun j hj => ?_, fun j hj => by rw [zs_ne (by decide)]; exact h4 j hj⟩
  · rw [zs_ne (by decide)]
    exact h1
  · rw [zs_ne (show 1 ≠ 4 by decide), zs_ne (show 2 ≠ 4 by decide), zs_ne (show 3 ≠ 4 by decide)]
    exact h2 j hj
  · rw [zs_eq]
    show upd (S 4) k v j = sI J 131 k v 131 (36 * 0 + j)
    rw [zs_eq, Nat.mul_zero, Nat.zero_add]
    by_cases c : j = k
    · subst c; rw [zs_same, zs_same]
    · rw [zs_other c, zs_other c, h3 j hj]
      show J 131 (36 * 0 + j) = _
      rw [Nat.mul_zero, Nat.zero_add]
theorem AC.p128 {J : HI} {k : Nat} {v : Int32} (hk : k < 8) : AC J (sI J 128 k v) := AC.put (a := 1) (by decide) hk
theorem AC.p129 {J : HI} {k : Nat} {v : Int32} (hk : k < 8) : AC J (sI J 129 k v) := AC.put (a := 2) (by decide) hk
theorem AC.p130 {J : HI} {k : Nat} {v : Int32} (hk : k < 8) : AC J (sI J 130 k v) := AC.put (a := 3) (by decide) hk
theorem AC.p131 {J : HI} {k : Nat} {v : Int32} (hk : k < 36) : AC J (sI J 131 k v) := ⟨fun x hx => zs_ne (by omega), fun w _ => by rw [zs_ne (by omega)], fun j _ => by rw [zs_ne (by decide), zs_ne (by decide), zs_ne (by decide)]; exact ⟨rfl, rfl, rfl⟩, fun j hj => by rw [zs_eq, zs_other (by omega)]⟩
def ct (S : HI) (h a : Nat) : Nat := if S 2 a = nI h then (S 1 a).toNatClampNeg else 0
theorem rs_one {S S' : HI} {h a nl : Nat} (ha : a < nl) (ho : ∀ j, j ≠ a → S' 1 j = S 1 j ∧ S' 2 j = S 2 j) : rs S' h nl + ct S h a = rs S h nl + ct S' h a :=
  (smN_upd (f := fun j => if S 2 j = nI h then (S 1 j).toNatClampNeg else 0) (g := fun j => if S' 2 j = nI h then (S' 1 j).toNatClampNeg else 0) (a := a) (u := ct S' h a) rfl (fun j hj => by
    show (if S' 2 j = nI h then (S' 1 j).toNatClampNeg else 0) = _
    rw [(ho j hj).1, (ho j hj).2]) nl).1 ha
theorem eq_pour : Eq_pour Rel := by
  intro n I R J M a0 a1 hn hR
  obtain ⟨t, b, nh, no, nl, h⟩ := hR
  obtain ⟨hC, hL, hM, hE, hS, hB, hB', h1⟩ := h.get
  have h9 := hC.2.2.2.2.2.2.2.2.2
  have ht := hC.2.2.1
  have hD : LWf (vw I t) nh := h.2.2.2.2.2.2.1.2.2.2.2.2.1
  have n3 : ¬ (1 : Int32) = 0 := by decide
  have r1 : f_X11_refuse I 3 = _ := refuse_C (I := I) (k := 3) (by decide)
  have r2 : f_X12_refuses J 3 = _ := refuses_M (J := J) (k := 3) (by decide)
  have fail : ∃ (r : Int32) (I' : HI) (J' : HI), ((f_X11_refuse I 3).bind fun x2 => some (x2.1, x2.2)) = some (r, I') ∧ ((f_X12_refuses J 3).bind fun x28 => some (x28.1, x28.2)) = some (r, J') ∧ Rel (n + 6) I' R J' M := ⟨-1, _, _, by rw [r1]; rfl, by rw [r2]; rfl, (Rel_ref h.up (k := 3) (by decide)).rel⟩
  unfold f_X11_pour f_X12_pour f_X9_canPour
  rw [isLake_M hM, isLake_M hM]
  simp only [jnt]
  rcases own_cases (x := a0) (no := nl) h9 with c | ⟨p, hp, rfl, c⟩
  · rw [stands_C hC, if_neg (fun q => c q.1), if_neg c]
    simp only [Option.bind_some, if_true, gz_0]
    exact fail
  rw [if_pos c]
  rcases own_cases (x := a1) (no := nl) h9 with d | ⟨s, hs, rfl, d⟩
  · rw [if_neg d, stands_C hC a1, if_neg (fun q => d q.1)]
    simp only [Option.bind_some, if_true, gz_0, if_neg n3]
    have e : ∀ y : Int32, (if y = 0 then gz 0 (some 0) else gz 0 (some 0) : Option Int32) = some 0 := fun y => by split <;> exact gz_0
    rw [stands_Cn hC hp]
    simp only [Option.bind_some, gz_0, ite_self]
    exact fail
  rw [if_pos d, stands_Cn hC hp, stands_Cn hC hs]
  obtain ⟨x, x1, x2, x3, x4⟩ := hS.2.1 p (by omega)
  obtain ⟨y, y1, y2, y3, y4⟩ := hS.2.1 s (by omega)
  have x2' : I (49 + 1) p = nI x := x2
  have y2' : I (49 + 1) s = nI y := y2
  have fp : f_X12_fill J 0 (nI p) = _ := fill_M (J := J) (v := 0) (l := p) (by decide) (by omega)
  have fs : f_X12_fill J 0 (nI s) = _ := fill_M (J := J) (v := 0) (l := s) (by decide) (by omega)
  have lp : f_X12_liesIn J 0 (nI p) = _ := liesIn_M (J := J) (v := 0) (l := p) (by decide) (by omega)
  have ls : f_X12_liesIn J 0 (nI s) = _ := liesIn_M (J := J) (v := 0) (l := s) (by decide) (by omega)
  have op : f_X12_ownerOf J 0 (nI p) = _ := ownerOf_M (J := J) (v := 0) (l := p) (by decide) (by omega)
  have os : f_X12_ownerOf J 0 (nI s) = _ := ownerOf_M (J := J) (v := 0) (l := s) (by decide) (by omega)
  rw [← (hE.2.1 p (by omega)).1, x2] at fp
  rw [← (hE.2.1 s (by omega)).1, y2] at fs
  rw [← (hE.2.1 p (by omega)).2.1] at lp
  rw [← (hE.2.1 s (by omega)).2.1] at ls
  rw [← (hE.2.1 p (by omega)).2.2] at op
  rw [← (hE.2.1 s (by omega)).2.2] at os
  rw [x2', y2']
  simp only [Option.bind_some, if_neg n3]
  by_cases eps : p = s
  · subst eps
    simp only [if_true]
    by_cases cx : nI x ≤ 0
    · simp only [if_pos cx, if_true, gz_0, Option.bind_some]
      exact fail
    · simp only [if_neg cx, if_neg n3, gz_0, ite_self, Option.bind_some, if_true]
      exact fail
  have eps' : ¬ nI p = nI s := fun q => eps ((nI_eq (by omega) (by omega)).mp q)
  simp only [if_neg eps', fp, fs, lp, ls, op, os, Option.bind_some, if_neg n3]
  by_cases cx : nI x ≤ 0
  · simp only [if_pos cx, if_true, gz_0, Option.bind_some]
    exact fail
  simp only [if_neg cx, if_neg n3]
  by_cases cy : nI y ≤ 0
  · simp only [if_pos cy, if_true, gz_0, Option.bind_some]
    exact fail
  simp (disch := omega) only [if_neg cy, if_neg n3, ldI_ok]
  have hx0 : 0 < x := by
    rcases Nat.eq_zero_or_pos x with q | q
    · subst q; exact absurd (by decide) cx
    · exact q
  have hy0 : 0 < y := by
    rcases Nat.eq_zero_or_pos y with q | q
    · subst q; exact absurd (by decide) cy
    · exact q
  have w1 : I (49 + 3) p = sc I 49 3 p := rfl
  have w2 : I (49 + 3) s = sc I 49 3 s := rfl
  have w3 : I (49 + 2) p = sc I 49 2 p := rfl
  have w4 : I (49 + 2) s = sc I 49 2 s := rfl
  rw [w1, w2, w3, w4]
  by_cases co : sc I 49 3 p = sc I 49 3 s
  · simp only [if_pos co]
    by_cases cl : sc I 49 2 p = sc I 49 2 s
    · simp only [if_pos cl, x2', y2', nI_add, zq999]
      by_cases cs : nI 999 < nI (x + y)
      · simp only [if_pos cs, gz_0, Option.bind_some, if_true]
        exact fail
      · have hxy : x + y ≤ 999 := by
          rcases Nat.lt_or_ge 999 (x + y) with q | q
          · exact absurd (nI_lt q (by clear x3 x4 y3 y4; omega)) cs
          · exact q
        simp only [if_neg cs, gz_1, Option.bind_some, if_neg n3]
        obtain ⟨I2, J2, q1, q2, q3, q4, q5, q6, q7, q8, q9, q10, q11⟩ := push_R (fu := FU) h FU_big.1
        have es : sc I2 49 = sc I 49 := sc_congr (fun a ha => q5 _ (by clear x3 x4 y3 y4; omega))
        have ev : vw I2 t = vw I t := vw_congr (fun a ha => q5 _ (by clear x3 x4 y3 y4; omega))
        have xp : I2 50 p = nI x := by rw [q5 50 (by omega)]; exact x2'
        have ys : I2 50 s = nI y := by rw [q5 50 (by omega)]; exact y2'
        have xj : J2 128 p = nI x := by
          rw [(q8 p (by omega)).1]
          have := (hE.2.1 p (by omega)).1
          rw [x2] at this
          have q : lv J 0 1 p = J 128 (8 * 0 + p) := rfl
          rw [q, Nat.mul_zero, Nat.zero_add] at this
          exact this.symm
        have yj : J2 128 s = nI y := by
          rw [(q8 s (by omega)).1]
          have := (hE.2.1 s (by omega)).1
          rw [y2] at this
          have q : lv J 0 1 s = J 128 (8 * 0 + s) := rfl
          rw [q, Nat.mul_zero, Nat.zero_add] at this
          exact this.symm
        have sb : f_X9_setBarrels (sI I2 50 p (nI (x + y))) 49 (nI s) 0 = some (sI (sI (sI (sI I2 50 p (nI (x + y))) 50 s (nI 0)) 51 s (mI 1)) 52 s (mI 1)) := by
          have := setBarrels_C (s := 49) (K := sI I2 50 p (nI (x + y))) (j := s) (x := 0) (by clear x3 x4 y3 y4; omega) (by decide)
          rw [if_pos rfl] at this
          exact this
        have ss : f_X12_sets (sI J2 128 p (nI (x + y))) 0 (nI s) 0 = some (sI (sI (sI (sI J2 128 p (nI (x + y))) 128 s (nI 0)) 129 s (mI 1)) 130 s (mI 1)) := by
          have := sets_M (v := 0) (K := sI J2 128 p (nI (x + y))) (j := s) (x := 0) (by decide) (by clear x3 x4 y3 y4; omega) (by decide)
          rw [if_pos rfl, Nat.mul_zero, Nat.zero_add] at this
          exact this
        have p8 : p < 8 := by clear x3 x4 y3 y4; omega
        have s8 : s < 8 := by clear x3 x4 y3 y4; omega
        simp (disch := omega) only [q1, q2, Option.bind_some, ldI_ok, inb_ok, xp, ys, xj, yj, nI_add, bnd, nI_clamp, sb, ss]
        refine ⟨nI (x + y), sI (sI (sI (sI I2 50 p (nI (x + y))) 50 s (nI 0)) 51 s (mI 1)) 52 s (mI 1), sI (sI (sI (sI J2 128 p (nI (x + y))) 128 s (nI 0)) 129 s (mI 1)) 130 s (mI 1), ?_, ?_, (Rel_act (n' := n + 6) q3 (by omega) (fun x _ hx => ?_) (fun k _ => ?_) (((AC.p128 p8).trans (AC.p128 s8)).trans ((AC.p129 s8).trans (AC.p130 s8))) (RLt_c q3.2.2.2.1 ?_ rfl) (fun _ _ => rfl) ?_ ?_).rel⟩
        · simp (disch := omega) only [bnd, jnt, zg_ok, gz_0, gz_1, gz_n0, gz_n1, zs_eq, zs_ne, zs_same, zs_other, zA_eq, zA_ne, Option.bind_some, Option.bind_none]
        · simp (disch := omega) only [bnd, jnt, zg_ok, gz_0, gz_1, gz_n0, gz_n1, zs_eq, zs_ne, zs_same, zs_other, zA_eq, zA_ne, Option.bind_some, Option.bind_none]
        · rw [zs_ne (by omega), zs_ne (by omega), zs_ne (by omega), zs_ne (by omega)]
        · rw [zs_ne (by omega), zs_ne (by omega), zs_ne (by omega), zs_ne (by omega)]
        · rw [zs_ne (by omega), zs_ne (by omega), zs_ne (by omega), zs_ne (by omega)]
        · rw [sc52, sc51, sc50, sc50, lv130, lv129, lv128, lv128]
          exact (((q3.get.2.2.2.1.put (by decide)).put (by decide)).put (by decide)).put (by decide)
        · rw [sc52, sc51, sc50, sc50, es, ev]
          obtain ⟨hpl, ⟨g, hg, eg⟩, ⟨o, ho, eo⟩⟩ := x4 hx0
          refine SW.mk' ⟨by simp (disch := omega) only [zs_ne]; exact hS.1, fun j hj => ?_, by simp (disch := omega) only [zs_ne]; exact hS.2.2.1⟩ hS hD h9 (fun h' H' hh' e3 e4 e5 => ?_)
          · by_cases cj : j = s
            · subst cj
              exact ⟨0, by omega, by simp (disch := omega) only [bnd, jnt, zg_ok, gz_0, gz_1, gz_n0, gz_n1, zs_eq, zs_ne, zs_same, zs_other, zA_eq, zA_ne, Option.bind_some, Option.bind_none], fun _ => ⟨by simp (disch := omega) only [bnd, jnt, zg_ok, gz_0, gz_1, gz_n0, gz_n1, zs_eq, zs_ne, zs_same, zs_other, zA_eq, zA_ne, Option.bind_some, Option.bind_none], by simp (disch := omega) only [bnd, jnt, zg_ok, gz_0, gz_1, gz_n0, gz_n1, zs_eq, zs_ne, zs_same, zs_other, zA_eq, zA_ne, Option.bind_some, Option.bind_none]⟩, fun q => absurd q (by omega)⟩
            · by_cases cj2 : j = p
              · subst cj2
                exact ⟨x + y, hxy, by simp (disch := omega) only [bnd, jnt, zg_ok, gz_0, gz_1, gz_n0, gz_n1, zs_eq, zs_ne, zs_same, zs_other, zA_eq, zA_ne, Option.bind_some, Option.bind_none], fun q => absurd q (by omega), fun _ => ⟨hpl, ⟨g, hg, by simp (disch := omega) only [bnd, jnt, zg_ok, gz_0, gz_1, gz_n0, gz_n1, zs_eq, zs_ne, zs_same, zs_other, zA_eq, zA_ne, Option.bind_some, Option.bind_none]; exact eg⟩, ⟨o, ho, by simp (disch := omega) only [bnd, jnt, zg_ok, gz_0, gz_1, gz_n0, gz_n1, zs_eq, zs_ne, zs_same, zs_other, zA_eq, zA_ne, Option.bind_some, Option.bind_none]; exact eo⟩⟩⟩
              · simp (disch := omega) only [bnd, jnt, zg_ok, gz_0, gz_1, gz_n0, gz_n1, zs_eq, zs_ne, zs_same, zs_other, zA_eq, zA_ne, Option.bind_some, Option.bind_none]
                exact hS.2.1 j hj
          · have k1 := rs_one (S := sc I 49) (S' := sI (sc I 49) 1 p (nI (x + y))) (h := h') (a := p) (nl := nl) hp (fun j hj => by simp (disch := omega) only [bnd, jnt, zg_ok, gz_0, gz_1, gz_n0, gz_n1, zs_eq, zs_ne, zs_same, zs_other, zA_eq, zA_ne, Option.bind_some, Option.bind_none]; exact ⟨trivial, trivial⟩)
            have k2 := rs_one (S := sI (sc I 49) 1 p (nI (x + y))) (S' := sI (sI (sI (sI (sc I 49) 1 p (nI (x + y))) 1 s (nI 0)) 2 s (mI 1)) 3 s (mI 1)) (h := h') (a := s) (nl := nl) hs (fun j hj => by
              by_cases cj2 : j = p
              · subst cj2
                simp (disch := omega) only [bnd, jnt, zg_ok, gz_0, gz_1, gz_n0, gz_n1, zs_eq, zs_ne, zs_same, zs_other, zA_eq, zA_ne, Option.bind_some, Option.bind_none]
                exact ⟨trivial, trivial⟩
              · simp (disch := omega) only [bnd, jnt, zg_ok, gz_0, gz_1, gz_n0, gz_n1, zs_eq, zs_ne, zs_same, zs_other, zA_eq, zA_ne, Option.bind_some, Option.bind_none]
                exact ⟨trivial, trivial⟩)
            have m1 : ct (sc I 49) h' p = if sc I 49 2 s = nI h' then x else 0 := by
              unfold ct
              rw [cl, x2, nI_clamp (by omega)]
            have m2 : ct (sI (sc I 49) 1 p (nI (x + y))) h' p = if sc I 49 2 s = nI h' then x + y else 0 := by
              unfold ct
              simp (disch := omega) only [bnd, jnt, zg_ok, gz_0, gz_1, gz_n0, gz_n1, zs_eq, zs_ne, zs_same, zs_other, zA_eq, zA_ne, Option.bind_some, Option.bind_none]
              rw [cl, nI_clamp (by omega)]
            have m3 : ct (sI (sc I 49) 1 p (nI (x + y))) h' s = if sc I 49 2 s = nI h' then y else 0 := by
              unfold ct
              simp (disch := omega) only [bnd, jnt, zg_ok, gz_0, gz_1, gz_n0, gz_n1, zs_eq, zs_ne, zs_same, zs_other, zA_eq, zA_ne, Option.bind_some, Option.bind_none]
              rw [y2, nI_clamp (by omega)]
            have m4 : ct (sI (sI (sI (sI (sc I 49) 1 p (nI (x + y))) 1 s (nI 0)) 2 s (mI 1)) 3 s (mI 1)) h' s = 0 := by
              unfold ct
              simp (disch := omega) only [bnd, jnt, zg_ok, gz_0, gz_1, gz_n0, gz_n1, zs_eq, zs_ne, zs_same, zs_other, zA_eq, zA_ne, Option.bind_some, Option.bind_none]
              rw [nI_clamp (by decide), ite_self]
            rw [m1, m2] at k1
            rw [m3, m4] at k2
            split at k1 <;> split at k2 <;> first
              | omega
              | (rename_i q1 q2; exact absurd q1 q2)
              | (rename_i q1 q2; exact absurd q2 q1)
    · simp only [if_neg cl, gz_0, Option.bind_some, if_true]
      exact fail
  · simp only [if_neg co]
    by_cases cl : sc I 49 2 p = sc I 49 2 s
    · simp only [if_pos cl, gz_0, Option.bind_some, if_true]
      exact fail
    · simp only [if_neg cl, gz_0, Option.bind_some, if_true]
      exact fail
theorem ex_first (P : Nat → Prop) [DecidablePred P] : ∀ n, ∃ f, f ≤ n ∧ (∀ j, j < f → ¬ P j) ∧ (f < n → P f) := by
  intro n
  induction n with
  | zero => exact ⟨0, Nat.le_refl 0, fun j hj => absurd hj (by omega), fun h => absurd h (by omega)⟩
  | succ n ih =>
    obtain ⟨f, h1, h2, h3⟩ := ih
    by_cases c : f < n
    · exact ⟨f, by omega, h2, fun _ => h3 c⟩
    · have : f = n := by omega
      subst this
      by_cases hp : P f
      · exact ⟨f, by omega, h2, fun _ => hp⟩
      · exact ⟨f + 1, by omega, fun j hj => by
          by_cases cj : j = f
          · subst cj; exact hp
          · exact h2 j (by omega), fun h => absurd h (by omega)⟩
theorem firstGone_C {I : HI} {R : HR} {s t nh no nl fu f : Nat} (h : CL I R s t nh no nl) (hf : 8 < fu) (h1 : f ≤ nl) (h2 : ∀ j, j < f → ¬ I (s + 1) j = nI 0) (h3 : f < nl → I (s + 1) f = nI 0) : f_X9_firstGone fu I R s = some (if f < nl then nI f else -1) := by
  obtain ⟨g0, g1, g2, g3, g4, g5, g6, g7, g8, g9⟩ := h
  have key : ∀ k i m, i + k = f → k < m → f_X9_firstGone_L2 m I R s (nI i) = some (if f < nl then .inl (nI f) else .inr ()) := by
    intro k
    induction k with
    | zero =>
      intro i m e1 e2
      obtain ⟨m, rfl⟩ : ∃ q, m = q + 1 := ⟨m - 1, by omega⟩
      have : i = f := by omega
      subst this
      by_cases c : i < nl
      · rw [if_pos c]
        have e := h3 c
        simp (disch := omega) only [f_X9_firstGone_L2, sdm, ↓zm1, ↓zm2, ↓zm3, ↓zm4, ↓zm5, ↓zm6, ↓zm7, ↓zm8, ↓zm9, ↓zm10, ↓zm11, ↓zm12, ↓zm13, ↓zm14, ↓zm15, ↓zm16, ↓zm17, ↓zm18, ↓zm19, ↓zm20, ↓zm1000000000, zq0, zq1, zq2, zq3, zq4, zq5, zq6, zq7, zq8, zq9, zq10, zq11, zq12, zq13, zq14, zq15, zq16, zq17, zq18, zq19, zq20, zq21, zq22, zq23, zq24, zq25, zq26, zq30, zq31, zq32, zq33, zq34, zq35, zq36, zq37, zq38, zq39, zq40, zq41, zq42, zq43, zq44, zq45, zq47, zq48, zq57, zq59, zq60, zq61, zq62, zq80, zq91, zq93, zq97, zq99, zq100, zq107, zq110, zq120, zq122, zq128, zq149, zq160, zq208, zq240, zq251, zq255, zq256, zq500, zq936, zq999, zq1600, zq1800, zq2048, zq3200, zq4160, zq9999, zq12345, zq1000000, zq1048576, zq100000000, bnd, jnt, zg_ok, gz_0, gz_1, gz_n0, gz_n1, zs_eq, zs_ne, zs_same, zs_other, zA_eq, zA_ne, Option.bind_some, Option.bind_none, nI_add, pk_mul, nI_clamp, nI_leI, nI_ltI, nI_eq, pk_sub, nI_mI, nI_eq_mI, mI_eq_nI, nI_lt_m, ldI_ok, inb_ok, if_pos, if_neg, dv_ok, rem_ok, div_ok, if_true, if_false, zg_ok g0, g1, g6, e]
      · rw [if_neg c]
        simp (disch := omega) only [f_X9_firstGone_L2, sdm, ↓zm1, ↓zm2, ↓zm3, ↓zm4, ↓zm5, ↓zm6, ↓zm7, ↓zm8, ↓zm9, ↓zm10, ↓zm11, ↓zm12, ↓zm13, ↓zm14, ↓zm15, ↓zm16, ↓zm17, ↓zm18, ↓zm19, ↓zm20, ↓zm1000000000, zq0, zq1, zq2, zq3, zq4, zq5, zq6, zq7, zq8, zq9, zq10, zq11, zq12, zq13, zq14, zq15, zq16, zq17, zq18, zq19, zq20, zq21, zq22, zq23, zq24, zq25, zq26, zq30, zq31, zq32, zq33, zq34, zq35, zq36, zq37, zq38, zq39, zq40, zq41, zq42, zq43, zq44, zq45, zq47, zq48, zq57, zq59, zq60, zq61, zq62, zq80, zq91, zq93, zq97, zq99, zq100, zq107, zq110, zq120, zq122, zq128, zq149, zq160, zq208, zq240, zq251, zq255, zq256, zq500, zq936, zq999, zq1600, zq1800, zq2048, zq3200, zq4160, zq9999, zq12345, zq1000000, zq1048576, zq100000000, bnd, jnt, zg_ok, gz_0, gz_1, gz_n0, gz_n1, zs_eq, zs_ne, zs_same, zs_other, zA_eq, zA_ne, Option.bind_some, Option.bind_none, nI_add, pk_mul, nI_clamp, nI_leI, nI_ltI, nI_eq, pk_sub, nI_mI, nI_eq_mI, mI_eq_nI, nI_lt_m, ldI_ok, inb_ok, if_pos, if_neg, dv_ok, rem_ok, div_ok, if_true, if_false, zg_ok g0, g1, g6]
    | succ k ih =>
      intro i m e1 e2
      obtain ⟨m, rfl⟩ : ∃ q, m = q + 1 := ⟨m - 1, by omega⟩
      rw [← ih (i + 1) m (by omega) (by omega)]
      have e := h2 i (by omega)
      simp (disch := omega) only [f_X9_firstGone_L2, sdm, ↓zm1, ↓zm2, ↓zm3, ↓zm4, ↓zm5, ↓zm6, ↓zm7, ↓zm8, ↓zm9, ↓zm10, ↓zm11, ↓zm12, ↓zm13, ↓zm14, ↓zm15, ↓zm16, ↓zm17, ↓zm18, ↓zm19, ↓zm20, ↓zm1000000000, zq0, zq1, zq2, zq3, zq4, zq5, zq6, zq7, zq8, zq9, zq10, zq11, zq12, zq13, zq14, zq15, zq16, zq17, zq18, zq19, zq20, zq21, zq22, zq23, zq24, zq25, zq26, zq30, zq31, zq32, zq33, zq34, zq35, zq36, zq37, zq38, zq39, zq40, zq41, zq42, zq43, zq44, zq45, zq47, zq48, zq57, zq59, zq60, zq61, zq62, zq80, zq91, zq93, zq97, zq99, zq100, zq107, zq110, zq120, zq122, zq128, zq149, zq160, zq208, zq240, zq251, zq255, zq256, zq500, zq936, zq999, zq1600, zq1800, zq2048, zq3200, zq4160, zq9999, zq12345, zq1000000, zq1048576, zq100000000, bnd, jnt, zg_ok, gz_0, gz_1, gz_n0, gz_n1, zs_eq, zs_ne, zs_same, zs_other, zA_eq, zA_ne, Option.bind_some, Option.bind_none, nI_add, pk_mul, nI_clamp, nI_leI, nI_ltI, nI_eq, pk_sub, nI_mI, nI_eq_mI, mI_eq_nI, nI_lt_m, ldI_ok, inb_ok, if_pos, if_neg, dv_ok, rem_ok, div_ok, if_true, if_false, zg_ok g0, g1, g6, if_neg e]
  have := key f 0 fu (by omega) (by omega)
  unfold f_X9_firstGone
  rw [show (0 : Int32) = nI 0 from rfl, this]
  split
  · rfl
  · rfl
theorem part_M {J : HI} {b nh no nl fu f : Nat} {D : HI} (h : ML J b nh no nl D) (hB : BW (lv J 0)) (hf : 8 < fu) (h1 : f ≤ nl) (h2 : ∀ j, j < f → ¬ lv J 0 1 j = nI 0) (h3 : f < nl → lv J 0 1 f = nI 0) : f_X12_part_L2 fu J 0 = some (nI f) := by
  obtain ⟨⟨m0, m1⟩, m2, m3, m4, m5, m6, m7, m8, m9, m10⟩ := h
  have key : ∀ k i m, i + k = f → k < m → f_X12_part_L2 m J (nI i) = some (nI f) := by
    intro k
    induction k with
    | zero =>
      intro i m e1 e2
      obtain ⟨m, rfl⟩ : ∃ q, m = q + 1 := ⟨m - 1, by omega⟩
      have : i = f := by omega
      subst this
      by_cases c : i < nl
      · have e := h3 c
        have hq : f_X12_fill J (nI 0) (nI i) = _ := fill_M (J := J) (v := 0) (l := i) (by decide) (by omega)
        rw [e] at hq
        simp (disch := omega) only [f_X12_part_L2, sdm, ↓zm1, ↓zm2, ↓zm3, ↓zm4, ↓zm5, ↓zm6, ↓zm7, ↓zm8, ↓zm9, ↓zm10, ↓zm11, ↓zm12, ↓zm13, ↓zm14, ↓zm15, ↓zm16, ↓zm17, ↓zm18, ↓zm19, ↓zm20, ↓zm1000000000, zq0, zq1, zq2, zq3, zq4, zq5, zq6, zq7, zq8, zq9, zq10, zq11, zq12, zq13, zq14, zq15, zq16, zq17, zq18, zq19, zq20, zq21, zq22, zq23, zq24, zq25, zq26, zq30, zq31, zq32, zq33, zq34, zq35, zq36, zq37, zq38, zq39, zq40, zq41, zq42, zq43, zq44, zq45, zq47, zq48, zq57, zq59, zq60, zq61, zq62, zq80, zq91, zq93, zq97, zq99, zq100, zq107, zq110, zq120, zq122, zq128, zq149, zq160, zq208, zq240, zq251, zq255, zq256, zq500, zq936, zq999, zq1600, zq1800, zq2048, zq3200, zq4160, zq9999, zq12345, zq1000000, zq1048576, zq100000000, bnd, jnt, zg_ok, gz_0, gz_1, gz_n0, gz_n1, zs_eq, zs_ne, zs_same, zs_other, zA_eq, zA_ne, Option.bind_some, Option.bind_none, nI_add, pk_mul, nI_clamp, nI_leI, nI_ltI, nI_eq, pk_sub, nI_mI, nI_eq_mI, mI_eq_nI, nI_lt_m, ldI_ok, inb_ok, if_pos, if_neg, dv_ok, rem_ok, div_ok, if_true, if_false, m0, m4, hq]
      · simp (disch := omega) only [f_X12_part_L2, sdm, ↓zm1, ↓zm2, ↓zm3, ↓zm4, ↓zm5, ↓zm6, ↓zm7, ↓zm8, ↓zm9, ↓zm10, ↓zm11, ↓zm12, ↓zm13, ↓zm14, ↓zm15, ↓zm16, ↓zm17, ↓zm18, ↓zm19, ↓zm20, ↓zm1000000000, zq0, zq1, zq2, zq3, zq4, zq5, zq6, zq7, zq8, zq9, zq10, zq11, zq12, zq13, zq14, zq15, zq16, zq17, zq18, zq19, zq20, zq21, zq22, zq23, zq24, zq25, zq26, zq30, zq31, zq32, zq33, zq34, zq35, zq36, zq37, zq38, zq39, zq40, zq41, zq42, zq43, zq44, zq45, zq47, zq48, zq57, zq59, zq60, zq61, zq62, zq80, zq91, zq93, zq97, zq99, zq100, zq107, zq110, zq120, zq122, zq128, zq149, zq160, zq208, zq240, zq251, zq255, zq256, zq500, zq936, zq999, zq1600, zq1800, zq2048, zq3200, zq4160, zq9999, zq12345, zq1000000, zq1048576, zq100000000, bnd, jnt, zg_ok, gz_0, gz_1, gz_n0, gz_n1, zs_eq, zs_ne, zs_same, zs_other, zA_eq, zA_ne, Option.bind_some, Option.bind_none, nI_add, pk_mul, nI_clamp, nI_leI, nI_ltI, nI_eq, pk_sub, nI_mI, nI_eq_mI, mI_eq_nI, nI_lt_m, ldI_ok, inb_ok, if_pos, if_neg, dv_ok, rem_ok, div_ok, if_true, if_false, m0, m4]
    | succ k ih =>
      intro i m e1 e2
      obtain ⟨m, rfl⟩ : ∃ q, m = q + 1 := ⟨m - 1, by omega⟩
      rw [← ih (i + 1) m (by omega) (by omega)]
      have e := h2 i (by omega)
      have hq : f_X12_fill J (nI 0) (nI i) = _ := fill_M (J := J) (v := 0) (l := i) (by decide) (by omega)
      obtain ⟨x, hx, ex⟩ := hB.1 i (by omega)
      have x0 : 0 < x := by
        rcases Nat.eq_zero_or_pos x with q | q
        · subst q; exact absurd ex e
        · exact q
      rw [ex] at hq
      simp (disch := omega) only [f_X12_part_L2, sdm, ↓zm1, ↓zm2, ↓zm3, ↓zm4, ↓zm5, ↓zm6, ↓zm7, ↓zm8, ↓zm9, ↓zm10, ↓zm11, ↓zm12, ↓zm13, ↓zm14, ↓zm15, ↓zm16, ↓zm17, ↓zm18, ↓zm19, ↓zm20, ↓zm1000000000, zq0, zq1, zq2, zq3, zq4, zq5, zq6, zq7, zq8, zq9, zq10, zq11, zq12, zq13, zq14, zq15, zq16, zq17, zq18, zq19, zq20, zq21, zq22, zq23, zq24, zq25, zq26, zq30, zq31, zq32, zq33, zq34, zq35, zq36, zq37, zq38, zq39, zq40, zq41, zq42, zq43, zq44, zq45, zq47, zq48, zq57, zq59, zq60, zq61, zq62, zq80, zq91, zq93, zq97, zq99, zq100, zq107, zq110, zq120, zq122, zq128, zq149, zq160, zq208, zq240, zq251, zq255, zq256, zq500, zq936, zq999, zq1600, zq1800, zq2048, zq3200, zq4160, zq9999, zq12345, zq1000000, zq1048576, zq100000000, bnd, jnt, zg_ok, gz_0, gz_1, gz_n0, gz_n1, zs_eq, zs_ne, zs_same, zs_other, zA_eq, zA_ne, Option.bind_some, Option.bind_none, nI_add, pk_mul, nI_clamp, nI_leI, nI_ltI, nI_eq, pk_sub, nI_mI, nI_eq_mI, mI_eq_nI, nI_lt_m, ldI_ok, inb_ok, if_pos, if_neg, dv_ok, rem_ok, div_ok, if_true, if_false, m0, m4, hq]
  exact key f 0 fu (by omega) (by omega)
theorem eq_part : Eq_part Rel := by
  intro n I R J M a0 a1 hn hR
  obtain ⟨t, b, nh, no, nl, h⟩ := hR
  obtain ⟨hC, hL, hM, hE, hS, hB, hB', h1⟩ := h.get
  have h9 := hC.2.2.2.2.2.2.2.2.2
  have ht := hC.2.2.1
  have hD : LWf (vw I t) nh := h.2.2.2.2.2.2.1.2.2.2.2.2.1
  have n3 : ¬ (1 : Int32) = 0 := by decide
  have r1 : f_X11_refuse I 3 = _ := refuse_C (I := I) (k := 3) (by decide)
  have r2 : f_X12_refuses J 3 = _ := refuses_M (J := J) (k := 3) (by decide)
  have fail : ∃ (r : Int32) (I' : HI) (J' : HI), ((f_X11_refuse I 3).bind fun x2 => some (x2.1, x2.2)) = some (r, I') ∧ ((f_X12_refuses J 3).bind fun x28 => some (x28.1, x28.2)) = some (r, J') ∧ Rel (n + 6) I' R J' M := ⟨-1, _, _, by rw [r1]; rfl, by rw [r2]; rfl, (Rel_ref h.up (k := 3) (by decide)).rel⟩
  obtain ⟨f, f1, f2, f3⟩ := ex_first (fun j => sc I 49 1 j = nI 0) nl
  have gC := firstGone_C (fu := FU) hC FU_big.2 f1 f2 f3
  have gM := part_M (fu := FU) hM hB' FU_big.2 f1 (fun j hj => by rw [← (hE.2.1 j (by omega)).1]; exact f2 j hj) (fun hj => by rw [← (hE.2.1 f (by omega)).1]; exact f3 hj)
  obtain ⟨⟨m0, m1⟩, m2, m3, m4, m5, m6, m7, m8, m9, m10⟩ := id hM
  unfold f_X11_part f_X12_part
  rw [gC, gM, isLake_M hM]
  simp only [jnt, Option.bind_some]
  rcases own_cases (x := a0) (no := nl) h9 with c | ⟨l, hl, rfl, c⟩
  · rw [stands_C hC, if_neg (fun q => c q.1), if_neg c]
    simp only [Option.bind_some, if_true]
    exact fail
  rw [if_pos c, stands_Cn hC hl]
  obtain ⟨x, x1, x2, x3, x4⟩ := hS.2.1 l (by omega)
  have x2' : I (49 + 1) l = nI x := x2
  have ef : f_X12_fill J 0 (nI l) = _ := fill_M (J := J) (v := 0) (l := l) (by decide) (by omega)
  rw [← (hE.2.1 l (by omega)).1, x2] at ef
  rw [x2', ef]
  simp (disch := omega) only [Option.bind_some, if_neg n3, m0, ldI_ok, m4, x2']
  by_cases cf : f = nl
  · have e1 : ¬ f < nl := by omega
    have e2 : nI f = nI nl := by rw [cf]
    simp only [if_neg e1, if_pos e2, if_true, ite_self]
    exact fail
  have e1 : f < nl := by omega
  have e2 : ¬ nI f = nI nl := fun q => cf ((nI_eq (by omega) (by omega)).mp q)
  have e3 : ¬ nI f = -1 := fun q => (nI_eq_mI (a := f) (b := 1) (by omega) (by decide)).mp q
  have f3' := f3 e1
  simp only [if_pos e1, if_neg e2, if_neg e3]
  unfold f_X12_is
  have hzx : (nI x).toInt = x := nI_toInt (by omega)
  have hz1 : (nI x - 1).toInt = (x : Int) - 1 := by
    rw [Int32.toInt_sub, hzx, zt1, Int.bmod_eq_of_le (by omega) (by omega)]
  rcases x_cases a1 x (by omega) with d | d | ⟨p, hp, rfl⟩
  · simp (disch := omega) only [Int32.le_iff_toInt_le, Int32.lt_iff_toInt_lt, ← Int32.toInt_inj, zt0, zt1, zt2, zt3, zt4, zt5, zt6, zt7, zt8, zt9, zt10, zt11, zt12, zt13, zt14, zt15, zt16, zt17, zt18, zt19, zt20, zt21, zt22, zt23, zt24, zt25, zt26, zt30, zt31, zt32, zt33, zt34, zt35, zt36, zt37, zt38, zt39, zt40, zt41, zt42, zt43, zt44, zt45, zt47, zt48, zt57, zt59, zt60, zt61, zt62, zt80, zt91, zt93, zt97, zt99, zt100, zt107, zt110, zt120, zt122, zt128, zt149, zt160, zt208, zt240, zt251, zt255, zt256, zt500, zt936, zt999, zt1600, zt1800, zt2048, zt3200, zt4160, zt9999, zt12345, zt1000000, zt1048576, zt100000000, zu1, zu2, zu3, zu4, zu5, zu6, zu7, zu8, zu9, zu10, zu11, zu12, zu13, zu14, zu15, zu16, zu17, zu18, zu19, zu20, zu1000000000, if_pos, if_neg, gz_0, gz_1, Option.bind_some, if_true, if_false]
    simp only [ite_self]
    exact fail
  · by_cases cx : nI x ≤ 0
    · simp only [if_pos cx, if_true]
      have : a1 < 1 ∨ nI x - 1 < a1 := by
        right
        rw [Int32.lt_iff_toInt_lt, hz1]
        omega
      by_cases cq : a1 < 1
      · simp only [if_pos cq, gz_0, Option.bind_some, if_true]
        exact fail
      · simp only [if_neg cq, if_pos (this.resolve_left cq), gz_0, Option.bind_some, if_true]
        exact fail
    · have k1 : nI x - 1 < a1 := by
        rw [Int32.lt_iff_toInt_lt, hz1]
        omega
      have k2 : ¬ a1 < nI x := by
        rw [Int32.lt_iff_toInt_lt, hzx]
        omega
      simp only [if_neg cx, if_neg n3, if_pos k1, if_neg k2, gz_0, Option.bind_some, if_true, ite_self]
      exact fail
  · have x0 : ¬ nI x ≤ 0 := nI_nle (by omega) (by omega)
    simp only [if_neg x0, if_neg n3]
    by_cases cp : p = 0
    · subst cp
      have k1 : nI 0 < 1 := by decide
      simp only [if_pos k1, gz_0, Option.bind_some, if_true]
      exact fail
    have k1 : ¬ nI p < 1 := Int32.not_lt.mpr (nI_le (a := 1) (by omega) (by omega))
    have k2 : nI p < nI x := nI_lt hp (by omega)
    have k3 : ¬ nI x - 1 < nI p := by
      rw [Int32.lt_iff_toInt_lt, hz1, nI_toInt (by omega)]
      omega
    simp only [if_neg k1, if_pos k2, if_neg k3, gz_1, Option.bind_some, if_neg n3]
    obtain ⟨I2, J2, q1, q2, q3, q4, q5, q6, q7, q8, q9, q10, q11⟩ := push_R (fu := FU) h FU_big.1
    have es : sc I2 49 = sc I 49 := sc_congr (fun a ha => q5 _ (by clear x3 x4; omega))
    have ev : vw I2 t = vw I t := vw_congr (fun a ha => q5 _ (by clear x3 x4; omega))
    have hlf : l ≠ f := fun q => by
      subst q
      rw [x2] at f3'
      have := (nI_eq (by omega) (by decide)).mp f3'
      omega
    obtain ⟨hll, ⟨g, hg, eg⟩, ⟨o, ho, eo⟩⟩ := x4 (by omega)
    have a50 : I2 50 l = nI x := by rw [q5 50 (by omega)]; exact x2'
    have a51 : I2 51 l = nI g := by rw [q5 51 (by omega)]; exact eg
    have a52 : I2 52 l = nI o := by rw [q5 52 (by omega)]; exact eo
    have lvj : ∀ a j, j < 8 → (a = 1 → lv J2 0 1 j = J2 128 j) ∧ (a = 2 → lv J2 0 2 j = J2 129 j) ∧ (a = 3 → lv J2 0 3 j = J2 130 j) := fun a j _ => by
      refine ⟨fun _ => ?_, fun _ => ?_, fun _ => ?_⟩
      · show J2 128 (8 * 0 + j) = _
        rw [Nat.mul_zero, Nat.zero_add]
      · show J2 129 (8 * 0 + j) = _
        rw [Nat.mul_zero, Nat.zero_add]
      · show J2 130 (8 * 0 + j) = _
        rw [Nat.mul_zero, Nat.zero_add]
    have hE2 := q3.get.2.2.2.1
    have b128 : J2 128 l = nI x := by rw [← (lvj 1 l (by omega)).1 rfl, ← (hE2.2.1 l (by omega)).1, es, x2]
    have b129 : J2 129 l = nI g := by rw [← (lvj 2 l (by omega)).2.1 rfl, ← (hE2.2.1 l (by omega)).2.1, es, eg]
    have b130 : J2 130 l = nI o := by rw [← (lvj 3 l (by omega)).2.2 rfl, ← (hE2.2.1 l (by omega)).2.2, es, eo]
    refine ⟨nI f, sI (sI (sI (sI I2 50 l (nI (x - p))) 50 f (nI p)) 51 f (nI g)) 52 f (nI o), sI (sI (sI (sI J2 128 l (nI (x - p))) 128 f (nI p)) 129 f (nI g)) 130 f (nI o), ?_, ?_, (Rel_act (n' := n + 6) q3 (by omega) (fun x _ hx => ?_) (fun k _ => ?_) (((AC.p128 (by omega)).trans (AC.p128 (by omega))).trans ((AC.p129 (by omega)).trans (AC.p130 (by omega)))) (RLt_c q3.2.2.2.1 ?_ rfl) (fun _ _ => rfl) ?_ ?_).rel⟩
    · simp (disch := omega) only [q1, Option.bind_some, ldI_ok, inb_ok, a50, a51, a52, pk_sub, nI_clamp, bnd, jnt, zg_ok, gz_0, gz_1, gz_n0, gz_n1, zs_eq, zs_ne, zs_same, zs_other, zA_eq, zA_ne, Option.bind_some, Option.bind_none]
    · simp (disch := omega) only [q2, Option.bind_some, ldI_ok, inb_ok, b128, b129, b130, pk_sub, nI_clamp, bnd, jnt, zg_ok, gz_0, gz_1, gz_n0, gz_n1, zs_eq, zs_ne, zs_same, zs_other, zA_eq, zA_ne, Option.bind_some, Option.bind_none]
    · rw [zs_ne (by omega), zs_ne (by omega), zs_ne (by omega), zs_ne (by omega)]
    · rw [zs_ne (by omega), zs_ne (by omega), zs_ne (by omega), zs_ne (by omega)]
    · rw [zs_ne (by omega), zs_ne (by omega), zs_ne (by omega), zs_ne (by omega)]
    · rw [sc52, sc51, sc50, sc50, lv130, lv129, lv128, lv128]
      exact (((hE2.put (by decide)).put (by decide)).put (by decide)).put (by decide)
    · rw [sc52, sc51, sc50, sc50, es, ev]
      refine SW.mk' ⟨by simp (disch := omega) only [zs_ne]; exact hS.1, fun j hj => ?_, by simp (disch := omega) only [zs_ne]; exact hS.2.2.1⟩ hS hD h9 (fun h' H' hh' e3 e4 e5 => ?_)
      · by_cases cj : j = f
        · subst cj
          exact ⟨p, by omega, by simp (disch := omega) only [bnd, jnt, zg_ok, gz_0, gz_1, gz_n0, gz_n1, zs_eq, zs_ne, zs_same, zs_other, zA_eq, zA_ne, Option.bind_some, Option.bind_none], fun q => absurd q cp, fun _ => ⟨e1, ⟨g, hg, by simp (disch := omega) only [bnd, jnt, zg_ok, gz_0, gz_1, gz_n0, gz_n1, zs_eq, zs_ne, zs_same, zs_other, zA_eq, zA_ne, Option.bind_some, Option.bind_none]⟩, ⟨o, ho, by simp (disch := omega) only [bnd, jnt, zg_ok, gz_0, gz_1, gz_n0, gz_n1, zs_eq, zs_ne, zs_same, zs_other, zA_eq, zA_ne, Option.bind_some, Option.bind_none]⟩⟩⟩
        · by_cases cj2 : j = l
          · subst cj2
            exact ⟨x - p, by omega, by simp (disch := omega) only [bnd, jnt, zg_ok, gz_0, gz_1, gz_n0, gz_n1, zs_eq, zs_ne, zs_same, zs_other, zA_eq, zA_ne, Option.bind_some, Option.bind_none], fun q => absurd q (by omega), fun _ => ⟨hll, ⟨g, hg, by simp (disch := omega) only [bnd, jnt, zg_ok, gz_0, gz_1, gz_n0, gz_n1, zs_eq, zs_ne, zs_same, zs_other, zA_eq, zA_ne, Option.bind_some, Option.bind_none]; exact eg⟩, ⟨o, ho, by simp (disch := omega) only [bnd, jnt, zg_ok, gz_0, gz_1, gz_n0, gz_n1, zs_eq, zs_ne, zs_same, zs_other, zA_eq, zA_ne, Option.bind_some, Option.bind_none]; exact eo⟩⟩⟩
          · simp (disch := omega) only [bnd, jnt, zg_ok, gz_0, gz_1, gz_n0, gz_n1, zs_eq, zs_ne, zs_same, zs_other, zA_eq, zA_ne, Option.bind_some, Option.bind_none]
            exact hS.2.1 j hj
      · have k1 := rs_one (S := sc I 49) (S' := sI (sc I 49) 1 l (nI (x - p))) (h := h') (a := l) (nl := nl) hl (fun j hj => by simp (disch := omega) only [bnd, jnt, zg_ok, gz_0, gz_1, gz_n0, gz_n1, zs_eq, zs_ne, zs_same, zs_other, zA_eq, zA_ne, Option.bind_some, Option.bind_none]; exact ⟨trivial, trivial⟩)
        have k2 := rs_one (S := sI (sc I 49) 1 l (nI (x - p))) (S' := sI (sI (sI (sI (sc I 49) 1 l (nI (x - p))) 1 f (nI p)) 2 f (nI g)) 3 f (nI o)) (h := h') (a := f) (nl := nl) e1 (fun j hj => by
          by_cases cj2 : j = l
          · subst cj2
            simp (disch := omega) only [bnd, jnt, zg_ok, gz_0, gz_1, gz_n0, gz_n1, zs_eq, zs_ne, zs_same, zs_other, zA_eq, zA_ne, Option.bind_some, Option.bind_none]
            exact ⟨trivial, trivial⟩
          · simp (disch := omega) only [bnd, jnt, zg_ok, gz_0, gz_1, gz_n0, gz_n1, zs_eq, zs_ne, zs_same, zs_other, zA_eq, zA_ne, Option.bind_some, Option.bind_none]
            exact ⟨trivial, trivial⟩)
        have z1 : ct (sc I 49) h' l = if nI g = nI h' then x else 0 := by
          unfold ct
          rw [eg, x2, nI_clamp (by omega)]
        have z2 : ct (sI (sc I 49) 1 l (nI (x - p))) h' l = if nI g = nI h' then x - p else 0 := by
          unfold ct
          simp (disch := omega) only [bnd, jnt, zg_ok, gz_0, gz_1, gz_n0, gz_n1, zs_eq, zs_ne, zs_same, zs_other, zA_eq, zA_ne, Option.bind_some, Option.bind_none]
          rw [eg, nI_clamp (by omega)]
        have z3 : ct (sI (sc I 49) 1 l (nI (x - p))) h' f = 0 := by
          unfold ct
          simp (disch := omega) only [bnd, jnt, zg_ok, gz_0, gz_1, gz_n0, gz_n1, zs_eq, zs_ne, zs_same, zs_other, zA_eq, zA_ne, Option.bind_some, Option.bind_none]
          rw [f3', nI_clamp (by decide), ite_self]
        have z4 : ct (sI (sI (sI (sI (sc I 49) 1 l (nI (x - p))) 1 f (nI p)) 2 f (nI g)) 3 f (nI o)) h' f = if nI g = nI h' then p else 0 := by
          unfold ct
          simp (disch := omega) only [bnd, jnt, zg_ok, gz_0, gz_1, gz_n0, gz_n1, zs_eq, zs_ne, zs_same, zs_other, zA_eq, zA_ne, Option.bind_some, Option.bind_none]
          rw [nI_clamp (by omega)]
        rw [z1, z2] at k1
        rw [z3, z4] at k2
        split at k1 <;> split at k2 <;> first
          | omega
          | (rename_i q1 q2; exact absurd q1 q2)
          | (rename_i q1 q2; exact absurd q2 q1)
