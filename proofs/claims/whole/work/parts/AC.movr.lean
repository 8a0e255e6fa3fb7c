/-! moves: the reference's layers -/
theorem SM_put {J : HI} {d : Nat} {v : Int32} : SM J (sI J 138 d v) := by
  refine ⟨fun k hk => by rw [zs_ne (by decide)], fun x hx => zs_ne (by omega), fun w hw => ?_, fun k hk => ?_, fun k hk => by rw [zs_ne (by decide)], fun k hk => by rw [zs_ne (by decide)]⟩
  · rw [zs_ne (by decide), zs_ne (by decide)]; exact ⟨rfl, rfl⟩
  · rw [zs_ne (by decide), zs_ne (by decide), zs_ne (by decide)]; exact ⟨rfl, rfl, rfl⟩
theorem SM_put2 {J : HI} {w l : Nat} {v : Int32} (hw : 1 ≤ w ∧ w ≤ 5) (hl : l < 8) : SM J (sI J 129 (8 * w + l) v) := by
  refine ⟨fun k hk => by rw [zs_ne (by decide)], fun x hx => zs_ne (by omega), fun w hw => ?_, fun k hk => ?_, fun k hk => by rw [zs_ne (by decide)], fun k hk => by rw [zs_ne (by decide)]⟩
  · rw [zs_ne (by decide), zs_ne (by decide)]; exact ⟨rfl, rfl⟩
  · rw [zs_ne (by decide), zs_eq, zs_other (by omega), zs_ne (by decide)]; exact ⟨rfl, rfl, rfl⟩
/-- below a depth all stays -/
def FRm (d : Nat) (J J' : HI) : Prop := (∀ v, v ≤ d + 1 → J' 127 v = J 127 v ∧ J' 132 v = J 132 v) ∧ (∀ k, k < 8 * (d + 2) → J' 128 k = J 128 k ∧ J' 129 k = J 129 k ∧ J' 130 k = J 130 k) ∧ (∀ k, k < 36 * (d + 2) → J' 131 k = J 131 k) ∧ ∀ j, j < d → J' 138 j = J 138 j
theorem FRm.refl {d : Nat} {J : HI} : FRm d J J := ⟨fun _ _ => ⟨rfl, rfl⟩, fun _ _ => ⟨rfl, rfl, rfl⟩, fun _ _ => rfl, fun _ _ => rfl⟩
theorem FRm.trans {d : Nat} {J J' J'' : HI} (h : FRm d J J') (h' : FRm d J' J'') : FRm d J J'' := ⟨fun v hv => ⟨(h'.1 v hv).1.trans (h.1 v hv).1, (h'.1 v hv).2.trans (h.1 v hv).2⟩, fun k hk => ⟨(h'.2.1 k hk).1.trans (h.2.1 k hk).1, (h'.2.1 k hk).2.1.trans (h.2.1 k hk).2.1, (h'.2.1 k hk).2.2.trans (h.2.1 k hk).2.2⟩, fun k hk => (h'.2.2.1 k hk).trans (h.2.2.1 k hk), fun j hj => (h'.2.2.2 j hj).trans (h.2.2.2 j hj)⟩
theorem FRm.of {d : Nat} {J J' : HI} (h : ∀ x, x ≠ 135 → J' x = J x) : FRm d J J' := ⟨fun v _ => by rw [h 127 (by decide), h 132 (by decide)]; exact ⟨rfl, rfl⟩, fun k _ => by rw [h 128 (by decide), h 129 (by decide), h 130 (by decide)]; exact ⟨rfl, rfl, rfl⟩, fun k _ => by rw [h 131 (by decide)], fun j _ => by rw [h 138 (by decide)]⟩
theorem FRm.le {d e : Nat} {J J' : HI} (h : FRm e J J') (hd : d ≤ e) : FRm d J J' := ⟨fun v hv => h.1 v (by omega), fun k hk => h.2.1 k (by omega), fun k hk => h.2.2.1 k (by omega), fun j hj => h.2.2.2 j (by omega)⟩
theorem FRm.put {d e : Nat} {J : HI} {v : Int32} (hd : d ≤ e) : FRm d J (sI J 138 e v) := ⟨fun w _ => by rw [zs_ne (by decide), zs_ne (by decide)]; exact ⟨rfl, rfl⟩, fun k _ => by rw [zs_ne (by decide), zs_ne (by decide), zs_ne (by decide)]; exact ⟨rfl, rfl, rfl⟩, fun k _ => by rw [zs_ne (by decide)], fun j hj => by rw [zs_eq, zs_other (by omega)]⟩
theorem FRm.put2 {d l : Nat} {J : HI} {v : Int32} : FRm d J (sI J 129 (8 * (d + 2) + l) v) := ⟨fun w _ => by rw [zs_ne (by decide), zs_ne (by decide)]; exact ⟨rfl, rfl⟩, fun k hk => by rw [zs_ne (by decide), zs_eq, zs_other (by omega), zs_ne (by decide)]; exact ⟨rfl, rfl, rfl⟩, fun k _ => by rw [zs_ne (by decide)], fun j hj => by rw [zs_ne (by decide)]⟩
theorem FRm.co {d fr m : Nat} {J J' : HI} (h : CO (d + 2) fr m J J') : FRm d J J' := by
  obtain ⟨g0, g1, g2, g3, g4, g5, g6, g7⟩ := h
  refine ⟨fun v hv => ⟨?_, ?_⟩, fun k hk => ⟨?_, ?_, ?_⟩, fun k hk => ?_, fun j hj => by rw [g0 138 (by decide)]⟩
  · rw [g1, zs_other (by omega)]
  · rw [g6, zs_other (by omega)]
  · rw [g2, cpy_out (by omega)]
  · rw [g3, cpy_out (by omega)]
  · rw [g4, cpy_out (by omega)]
  · rw [g5, cpy_out (by omega)]
section
variable {J0 D S : HI} {b nh no nl fu : Nat} {tg : Nat → Nat}
/-- what stands fast while the reference searches -/
def MVM (J0 D S : HI) (b nh no nl : Nat) (tg : Nat → Nat) : Prop := ML J0 b nh no nl D ∧ LR D ∧ SW D S nh no nl ∧ LWf D nh ∧ (∀ l, l < 8 → J0 137 l = tgI (tg l)) ∧ (∀ l, tg l ≠ 99 → tg l < nh ∧ stS S nl l = true)
def RBm (J0 J : HI) : Prop := SM J0 J ∧ J 137 = J0 137
def LYm (S : HI) (nl : Nat) (J : HI) (v : Nat) (p : Nat → Nat) : Prop := SEp nl (scP S nl p) (lv J v) ∧ ∃ m, m ≤ 40 ∧ J 132 v = nI m
def EnM (D S : HI) (nh nl : Nat) (tg : Nat → Nat) (k : Nat) (p : Nat → Nat) : Prop := EnP nl nh (stS S nl) tg (mayP D S nl) k p
theorem RBm.ML (hM : MVM J0 D S b nh no nl tg) {J : HI} (h : RBm J0 J) : ML J b nh no nl D := ML_congr (h.1.1 13 (by decide)) (fun x x1 x2 => h.1.2.1 x (by omega)) hM.1
theorem LYm.fr {d v : Nat} {J J' : HI} {p : Nat → Nat} (h : LYm S nl J v p) (hF : FRm d J J') (hv : v ≤ d + 1) : LYm S nl J' v p := by
  obtain ⟨m, m1, m2⟩ := h.2
  exact ⟨SE_lv h.1 (hF.1 v hv).1 (fun k k1 k2 => hF.2.1 k (by omega)) (fun k k1 k2 => hF.2.2.1 k (by omega)), m, m1, by rw [(hF.1 v hv).2]; exact m2⟩
theorem MVM.tg8 (hM : MVM J0 D S b nh no nl tg) (l : Nat) : tg l < 8 ∨ tg l = 99 := by
  by_cases c : tg l = 99
  · exact Or.inr c
  · have := (hM.2.2.2.2.2 l c).1
    have := hM.1.2.2.2.2.1
    omega
theorem astray_M (hM : MVM J0 D S b nh no nl tg) (hf : 8 < fu) {J : HI} (hJ : RBm J0 J) {v : Nat} (hv : v < 26) {p : Nat → Nat} (hp : goodP D S nh nl p) (hL : LYm S nl J v p) : f_X12_astray fu J (nI v) = some (nI (nS nl tg p)) := by
  obtain ⟨⟨m0, m1⟩, m2, m3, m4, m5, m6, m7, m8, m9, m10⟩ := hJ.ML hM
  have hl : f_X12_astray_L4 fu J (nI v) 0 0 = some (nI (nS nl tg p)) := by
    refine loopCf (fun n a i => f_X12_astray_L4 n J (nI v) a i) (fun i => nI (cnt (sgP tg p) i)) _ nl fu ?_ ?_ (by omega)
    · intro n i hi
      have c1 : ¬ nI nl ≤ nI i := nI_ge hi (by omega)
      have A1 : nI i + 1 = nI (i + 1) := nI_1 i
      have e137 : J 137 i = tgI (tg i) := by rw [hJ.2]; exact hM.2.2.2.2.1 i (by omega)
      have t8 := hM.tg8 i
      have hq := liesIn_M (J := J) (v := v) (l := i) hv (by omega)
      rw [← (hL.1.2.1 i (by omega)).2.1] at hq
      have A2 : nI (cnt (sgP tg p) i) + 0 = nI (cnt (sgP tg p) i) := Int32.add_zero _
      by_cases c : tg i = 99
      · have c2 : tgI (tg i) = -1 := (tgI_m t8).mpr c
        rw [cnt_f (fun w => (sgP_iff.mp w).1 c)]
        simp (disch := omega) only [f_X12_astray_L4, m0, ldI_ok, m4, if_neg c1, e137, jnt, if_pos c2, bnd, A2, A1]
      · have c2 : ¬ tgI (tg i) = -1 := fun w => c ((tgI_m t8).mp w)
        have p8 := good8 m5 hp i
        rw [scP_st (hM.2.2.2.2.2 i c).2] at hq
        by_cases c3 : tg i = p i
        · have c4 : nI (p i) = tgI (tg i) := ((tgI_eq t8 p8).mpr c3).symm
          rw [cnt_f (fun w => (sgP_iff.mp w).2 c3.symm)]
          simp (disch := omega) only [f_X12_astray_L4, m0, ldI_ok, m4, if_neg c1, e137, jnt, if_neg c2, hq, Option.bind_some, if_pos c4, bnd, A2, A1]
        · have c4 : ¬ nI (p i) = tgI (tg i) := fun w => c3 ((tgI_eq t8 p8).mp w.symm)
          have A3 : nI (cnt (sgP tg p) i) + 1 = nI (cnt (sgP tg p) i + 1) := nI_1 _
          rw [cnt_t (sgP_iff.mpr ⟨c, fun w => c3 w.symm⟩)]
          simp (disch := omega) only [f_X12_astray_L4, m0, ldI_ok, m4, if_neg c1, e137, jnt, if_neg c2, hq, Option.bind_some, if_neg c4, bnd, A3, A1]
    · intro n
      have c1 : nI nl ≤ nI nl := Int32.le_refl _
      simp (disch := omega) only [f_X12_astray_L4, m0, ldI_ok, m4, if_pos c1]
      rfl
  unfold f_X12_astray
  rw [hl]
  rfl
theorem canMv_M (hM : MVM J0 D S b nh no nl tg) (hf : 1600 < fu) {J : HI} {M : HL} (hJ : RBm J0 J) {v : Nat} (hv : v < 26) {p : Nat → Nat} (hp : goodP D S nh nl p) (hL : LYm S nl J v p) {l h : Nat} (hl : l < nl) (hh : h < nh) : ∃ y J' M', f_X12_canMove fu J M (nI v) (nI l) (nI h) = some (y, J', M') ∧ AO J J' ∧ OtL M M' ∧ ((y = 1 ∧ mvP (stS S nl) (mayP D S nl) p l h) ∨ (y = 0 ∧ ¬ mvP (stS S nl) (mayP D S nl) p l h)) := by
  have hMJ := hJ.ML hM
  obtain ⟨⟨m0, m1⟩, m2, m3, m4, m5, m6, m7, m8, m9, m10⟩ := id hMJ
  obtain ⟨hE, _⟩ := hL
  have hSW := hM.2.2.1
  have hD := hM.2.2.2.1
  obtain ⟨e1, e2, e3⟩ := hE.2.1 l (by omega)
  obtain ⟨x1, x2⟩ := xb_of hSW (l := l) (by omega)
  rw [scP_ne (by decide)] at e1
  have hq := fill_M (J := J) (v := v) (l := l) hv (by omega)
  rw [← e1, x1] at hq
  by_cases c : stS S nl l = true
  · obtain ⟨s1, s2⟩ := stS_iff.mp c
    have c0 : ¬ nI (xbS S l) = 0 := nI_ne0 (by omega) (by omega)
    rw [scP_st c] at e2
    have hpl := hp.1 l c
    by_cases c2 : h = p l
    · refine ⟨0, J, M, ?_, AO.refl, fun _ _ => rfl, Or.inr ⟨rfl, fun w => w.2.1 c2⟩⟩
      have hq2 := liesIn_M (J := J) (v := v) (l := l) hv (by omega)
      rw [← e2, ← c2] at hq2
      unfold f_X12_canMove
      simp only [hq, Option.bind_some, if_neg c0, hq2, if_true, gz_0]
    · obtain ⟨r1, r2⟩ := room_p hSW hD m7 m5 hp hh
      have bw : BW (lv J v) := hE.bw (SW_p hSW hD m7 m5 hp).bw
      obtain ⟨J', M', a1, a2, a3⟩ := canMove_M (fu := fu) (M := M) (v := v) (l := l) (x := h) (g := p l) (r := rmP D S nl p h) hMJ hM.2.1 bw hD hf hv hl hh hpl e2.symm (fun w => c2 w.symm) (by rw [← e1, x1]; exact c0) (by rw [← hE.rmE nl (Nat.le_refl _) m7]; exact r1) (by omega)
      rw [← besI_congr hE m7, bes_p hSW m7 m5 hp hh c c2, ← mayB_congr hE (by omega)] at a1
      have em : mayB D (scP S nl p) l h (rmP D S nl p h) (ctP S nl p h) = mayP D S nl p l h := rfl
      rw [em] at a1
      by_cases cm : mayP D S nl p l h = true
      · rw [if_pos cm] at a1
        exact ⟨1, J', M', a1, a2, a3, Or.inl ⟨rfl, c, c2, cm⟩⟩
      · rw [if_neg cm] at a1
        exact ⟨0, J', M', a1, a2, a3, Or.inr ⟨rfl, fun w => cm w.2.2⟩⟩
  · refine ⟨0, J, M, ?_, AO.refl, fun _ _ => rfl, Or.inr ⟨rfl, fun w => c w.1⟩⟩
    rw [(no_of hSW m7 (by omega) c).2] at hq
    have c0 : nI 0 = 0 := rfl
    unfold f_X12_canMove
    simp only [hq, Option.bind_some, if_pos c0, gz_0]
/-- the layer above, after a move -/
theorem layer_M (hM : MVM J0 D S b nh no nl tg) (hf : 1600 < fu) {J : HI} (hJ : RBm J0 J) {d : Nat} (hd : d ≤ 3) {p : Nat → Nat} (hL : LYm S nl J (d + 1) p) {l h : Nat} (hl : stS S nl l = true) : ∃ J1, f_X12_copies fu J (nI (d + 2)) (nI (d + 1)) = some J1 ∧ RBm J0 (sI J1 129 (8 * (d + 2) + l) (nI h)) ∧ FRm d J (sI J1 129 (8 * (d + 2) + l) (nI h)) ∧ LYm S nl (sI J1 129 (8 * (d + 2) + l) (nI h)) (d + 2) (upP p l h) ∧ J1 138 = J 138 := by
  obtain ⟨hE, m, m1, m2⟩ := hL
  have hn := hM.1.2.2.2.2.2.2.1
  have l8 : l < 8 := by have := (stS_iff.mp hl).1; omega
  obtain ⟨J1, a1, a2⟩ := copies_M (J := J) (fu := fu) (to := d + 2) (fr := d + 1) (m := m) hf (by omega) (by omega) (by omega) m2 m1
  refine ⟨J1, a1, ⟨hJ.1.trans ((a2.SM (by omega) m1).trans (SM_put2 (by omega) l8)), ?_⟩, (FRm.co a2).trans FRm.put2, ⟨?_, m, m1, ?_⟩, a2.1 138 (by decide)⟩
  · rw [zs_ne (by decide), a2.1 137 (by decide)]
    exact hJ.2
  · have e1 : lv (sI J1 (127 + 2) (8 * (d + 2) + l) (nI h)) (d + 2) = sI (lv J1 (d + 2)) 2 l (nI h) := lv_put (by decide)
    have e2 : sI (scP S nl p) 2 l (nI h) = scP S nl (upP p l h) := by
      funext a k
      by_cases ca : a = 2
      · subst ca
        rw [zs_eq]
        by_cases ck : k = l
        · rw [ck, zs_same, scP_st hl, upP_eq]
        · rw [zs_other ck]
          unfold scP
          rw [upP_ne ck]
      · rw [zs_ne ca, scP_ne ca, scP_ne ca]
    have e1' : lv (sI J1 129 (8 * (d + 2) + l) (nI h)) (d + 2) = sI (lv J1 (d + 2)) 2 l (nI h) := e1
    rw [e1', ← e2]
    exact (SEp.lr ⟨rfl, fun _ _ => ⟨rfl, rfl, rfl⟩, fun _ _ => rfl⟩ hE a2.lvE).put (by decide)
  · rw [zs_ne (by decide), a2.2.2.2.2.2.2.1, zs_same]
    exact m2
end
