/-! moves: the reference's search, whole -/
def BdM : Nat → Nat → Nat
  | 0, _ => 0
  | l + 1, q => 1 + q * (1 + BdM l 64)
theorem BdM_mono {l q q' : Nat} (h : q ≤ q') : BdM l q ≤ BdM l q' := by
  cases l with
  | zero => exact Nat.le_refl _
  | succ l =>
    have := Nat.mul_le_mul_right (1 + BdM l 64) h
    show 1 + q * (1 + BdM l 64) ≤ 1 + q' * (1 + BdM l 64)
    omega
theorem BdM_step {l q q' : Nat} (h : q' + 1 ≤ q) : 1 + BdM l 64 + BdM (l + 1) q' ≤ BdM (l + 1) q := by
  have := Nat.mul_le_mul_right (1 + BdM l 64) h
  rw [Nat.add_mul] at this
  show 1 + BdM l 64 + (1 + q' * (1 + BdM l 64)) ≤ 1 + q * (1 + BdM l 64)
  omega
section
variable {J0 D S : HI} {b nh no nl fu : Nat} {tg : Nat → Nat} {M0 : HL}
theorem node_M (hM : MVM J0 D S b nh no nl tg) (hf : 1600 < fu) {k : Nat} (hk : k ≤ 4) : ∀ (left q i d n : Nat) (J : HI) (M : HL) (p : Nat → Nat), d + (left + 1) = k → i + q = 8 * nl → BdM (left + 1) q < n → goodP D S nh nl p → RBm J0 J → LYm S nl J (d + 1) p → J 138 d = nI i + -1 → OtL M0 M → (∃ J' M', f_X12_isEnough_L32 fu n J M (nI k) (nI d) = some (.inl (1, J', M')) ∧ RBm J0 J' ∧ OtL M0 M' ∧ ∃ i', i ≤ i' ∧ i' < 8 * nl ∧ pasM D S nh nl tg p (left + 1) i' ∧ EnM D S nh nl tg left (upP p (i' / 8) (i' % 8))) ∨ (∃ m J' M', n ≤ m + BdM (left + 1) q ∧ f_X12_isEnough_L32 fu n J M (nI k) (nI d) = f_X12_isEnough_L32 fu m J' M' (nI k) (nI d + -1) ∧ RBm J0 J' ∧ FRm d J J' ∧ OtL M0 M' ∧ ∀ i', i ≤ i' → i' < 8 * nl → ¬ (pasM D S nh nl tg p (left + 1) i' ∧ EnM D S nh nl tg left (upP p (i' / 8) (i' % 8)))) := by
  have m7 := hM.1.2.2.2.2.2.2.1
  have m5 := hM.1.2.2.2.2.1
  have n3 : ¬ (1 : Int32) = 0 := by decide
  intro left
  induction left with
  | zero =>
    intro q i d n J M p e1 e2 e3 hp hJ hL h138 hO
    obtain ⟨n, rfl⟩ : ∃ z, n = z + 1 := ⟨n - 1, by omega⟩
    have c0 : ¬ nI d < 0 := nI_pos (by omega)
    have el : nI k - nI d = nI (0 + 1) := by
      rw [pk_sub (by omega)]
      congr 1
      omega
    rcases next_M (fu := fu) (M0 := M0) hM hf (d := d) (left := 0 + 1) (by omega) (by omega) hp (i := i) (by omega) hJ hL h138 hO with ⟨i', J', M', w1, w2, w3, w4, w5, w6, w7, w8, w9, w10⟩ | ⟨J', M', w1, w2, w3, w4, w5⟩
    · left
      have ek : nI d + 1 = nI k := by
        rw [nI_1]
        congr 1
      refine ⟨J', M', ?_, w8, w10, i', w1, w2, w4, ?_⟩
      · simp only [f_X12_isEnough_L32, if_neg c0, el, w3, Option.bind_some, if_neg n3, if_pos ek, gz_1]
      · have := w4.2.2.2
        show nS nl tg (upP p (i' / 8) (i' % 8)) = 0
        omega
    · right
      refine ⟨n, J', M', ?_, ?_, w3, w4, w5, fun i' z1 z2 z3 => w2 i' z1 z2 z3.1⟩
      · have : 1 ≤ BdM (0 + 1) q := by
          show 1 ≤ 1 + q * (1 + BdM 0 64)
          omega
        omega
      · simp only [f_X12_isEnough_L32, if_neg c0, el, w1, Option.bind_some, if_true]
  | succ left ihl =>
    intro q
    induction q using Nat.strongRecOn with
    | ind q ihq =>
      intro i d n J M p e1 e2 e3 hp hJ hL h138 hO
      obtain ⟨n, rfl⟩ : ∃ z, n = z + 1 := ⟨n - 1, by omega⟩
      have c0 : ¬ nI d < 0 := nI_pos (by omega)
      have el : nI k - nI d = nI (left + 1 + 1) := by
        rw [pk_sub (by omega)]
        congr 1
        omega
      rcases next_M (fu := fu) (M0 := M0) hM hf (d := d) (left := left + 1 + 1) (by omega) (by omega) hp (i := i) (by omega) hJ hL h138 hO with ⟨i', J', M', w1, w2, w3, w4, w5, w6, w7, w8, w9, w10⟩ | ⟨J', M', w1, w2, w3, w4, w5⟩
      · have ek : ¬ nI (d + 1) = nI k := fun w => by
          have := (nI_eq (by omega) (by omega)).mp w
          omega
        have A1 : nI d + 1 = nI (d + 1) := nI_1 d
        have hpc := good_mv hp w4.1 w4.2.2.1
        obtain ⟨J2, hJ2⟩ : ∃ J2, J2 = sI J' 138 (d + 1) (-1) := ⟨_, rfl⟩
        have hF2 : FRm (d + 1) J' J2 := by rw [hJ2]; exact FRm.put (Nat.le_refl _)
        have hJJ2 : RBm J0 J2 := by
          rw [hJ2]
          exact ⟨w8.1.trans SM_put, by rw [zs_ne (by decide)]; exact w8.2⟩
        have h2138 : J2 138 (d + 1) = nI 0 + -1 := by
          rw [hJ2, zs_eq, zs_same]
          decide
        have st : f_X12_isEnough_L32 fu (n + 1) J M (nI k) (nI d) = f_X12_isEnough_L32 fu n J2 M' (nI k) (nI (d + 1)) := by
          have ib : ∀ kk : Option ((Int32 × HI × HL) ⊕ (HI × HL)), inb 5 (nI (d + 1)) kk = kk := fun kk => by rw [inb_ok (by omega)]
          have tt : (nI (d + 1)).toNatClampNeg = d + 1 := nI_clamp (by omega)
          simp only [f_X12_isEnough_L32, if_neg c0, el, w3, Option.bind_some, if_neg n3, A1, if_neg ek, ib, bnd, tt, hJ2]
        have hb1 : BdM (left + 1) (8 * nl) ≤ BdM (left + 1) 64 := BdM_mono (by omega)
        obtain ⟨q', hq'⟩ : ∃ q', q' = 8 * nl - (i' + 1) := ⟨_, rfl⟩
        have hb2 := BdM_step (l := left + 1) (q := q) (q' := q') (by omega)
        rcases ihl (8 * nl) 0 (d + 1) n J2 M' (upP p (i' / 8) (i' % 8)) (by omega) (by omega) (by omega) hpc hJJ2 (w7.fr hF2 (by omega)) h2138 w10 with ⟨J3, M3, v1, v2, v3, v4⟩ | ⟨m, J3, M3, v1, v2, v3, v4, v5, v6⟩
        · left
          refine ⟨J3, M3, by rw [st]; exact v1, v2, v3, i', w1, w2, w4, ?_⟩
          obtain ⟨j, j1, j2, j3, j4⟩ := v4
          exact (En_pas m5).mpr ⟨j, j2, j3, j4⟩
        · have hnot : ¬ EnM D S nh nl tg (left + 1) (upP p (i' / 8) (i' % 8)) := fun w => by
            obtain ⟨j, j1, j2, j3⟩ := (En_pas m5).mp w
            exact v6 j (by omega) j1 ⟨j2, j3⟩
          have hF3 : FRm d J J3 := (w9.trans (hF2.le (by omega))).trans (v4.le (by omega))
          have hJ3d : J3 138 d = nI (i' + 1) + -1 := by
            rw [v4.2.2.2 d (by omega), hJ2, zs_eq, zs_other (by omega), w6, dec1]
          have hL3 := hL.fr hF3 (by omega)
          rw [dec1] at v2
          have skip : ∀ j, i ≤ j → ¬ i' + 1 ≤ j → ¬ (pasM D S nh nl tg p (left + 1 + 1) j ∧ EnM D S nh nl tg (left + 1) (upP p (j / 8) (j % 8))) := fun j z1 z2 z3 => by
            rcases Nat.lt_or_ge j i' with z | z
            · exact w5 j z1 z z3.1
            · have : j = i' := by omega
              rw [this] at z3
              exact hnot z3.2
          rcases ihq q' (by omega) (i' + 1) d m J3 M3 p e1 (by omega) (by omega) hp v3 hL3 hJ3d v5 with ⟨J4, M4, u1, u2, u3, j, j1, j2, j3, j4⟩ | ⟨m', J4, M4, u1, u2, u3, u4, u5, u6⟩
          · left
            exact ⟨J4, M4, by rw [st, v2]; exact u1, u2, u3, j, by omega, j2, j3, j4⟩
          · right
            refine ⟨m', J4, M4, by omega, by rw [st, v2]; exact u2, u3, hF3.trans u4, u5, fun j z1 z2 => ?_⟩
            by_cases z : i' + 1 ≤ j
            · exact u6 j z z2
            · exact skip j z1 z
      · right
        refine ⟨n, J', M', ?_, ?_, w3, w4, w5, fun i' z1 z2 z3 => w2 i' z1 z2 z3.1⟩
        · have : 1 ≤ BdM (left + 1 + 1) q := by
            show 1 ≤ 1 + q * (1 + BdM (left + 1) 64)
            omega
          omega
        · simp only [f_X12_isEnough_L32, if_neg c0, el, w1, Option.bind_some, if_true]
theorem BdM_big : ∀ k, k ≤ 4 → BdM k 64 < 100000000 := by decide
theorem enough_M (hM : MVM J0 D S b nh no nl tg) (hf : 100000000 < fu) {k : Nat} (hk : k ≤ 4) {J : HI} {M : HL} (hJ : RBm J0 J) (hL0 : LYm S nl J0 0 (p0S S nl)) (hO : OtL M0 M) : ∃ y J' M', f_X12_isEnough fu J M (nI k) = some (y, J', M') ∧ RBm J0 J' ∧ OtL M0 M' ∧ ((y = 1 ∧ EnM D S nh nl tg k (p0S S nl)) ∨ (y = 0 ∧ ¬ EnM D S nh nl tg k (p0S S nl))) := by
  have m7 := hM.1.2.2.2.2.2.2.1
  have m5 := hM.1.2.2.2.2.1
  have hp := good_p0 hM.2.2.1 hM.2.2.2.1 m7 m5
  have n3 : ¬ (1 : Int32) = 0 := by decide
  obtain ⟨hE0, m, mm1, mm2⟩ := hL0
  have hE1 : SEp nl (scP S nl (p0S S nl)) (lv J 0) := SE_lv hE0 (hJ.1.2.2.1 0 (by omega)).1 (fun k k1 k2 => hJ.1.2.2.2.1 k (by omega)) (fun k k1 k2 => hJ.1.2.2.2.2.1 k (by omega))
  have mm3 : J 132 0 = nI m := by rw [(hJ.1.2.2.1 0 (by omega)).2]; exact mm2
  obtain ⟨J1, a1, a2⟩ := copies_M (J := J) (fu := fu) (to := 1) (fr := 0) (m := m) (by omega) (by decide) (by decide) (by decide) mm3 mm1
  have a1' : f_X12_copies fu J 1 0 = some J1 := a1
  have hJ1 : RBm J0 J1 := ⟨hJ.1.trans (a2.SM (by decide) mm1), by rw [a2.1 137 (by decide)]; exact hJ.2⟩
  have hL1 : LYm S nl J1 1 (p0S S nl) := ⟨SEp.lr ⟨rfl, fun _ _ => ⟨rfl, rfl, rfl⟩, fun _ _ => rfl⟩ hE1 a2.lvE, m, mm1, by rw [a2.2.2.2.2.2.2.1, zs_same]; exact mm3⟩
  have as : f_X12_astray fu J1 1 = some (nI (nS nl tg (p0S S nl))) := astray_M (fu := fu) hM (by omega) hJ1 (v := 1) (by decide) hp hL1
  have hs8 : nS nl tg (p0S S nl) ≤ 8 := Nat.le_trans (cnt_le nl) m7
  unfold f_X12_isEnough
  by_cases c1 : nS nl tg (p0S S nl) ≤ k
  · have c1' : nI (nS nl tg (p0S S nl)) ≤ nI k := nI_le c1 (by omega)
    by_cases c2 : k = 0
    · have c2' : nI k = 0 := by rw [c2]; rfl
      refine ⟨1, J1, M, ?_, hJ1, hO, Or.inl ⟨rfl, ?_⟩⟩
      · simp only [a1', Option.bind_some, as, if_pos c1', if_pos c2', gz_1]
      · subst c2
        show nS nl tg (p0S S nl) = 0
        omega
    · have c2' : ¬ nI k = 0 := nI_ne0 (by omega) (by omega)
      obtain ⟨left, hleft⟩ : ∃ left, k = left + 1 := ⟨k - 1, by omega⟩
      have ib : ∀ kk : Option (Int32 × HI × HL), inb 5 0 kk = kk := fun kk => by rw [zq0, inb_ok (by decide)]
      have t0 : (0 : Int32).toNatClampNeg = 0 := by decide
      obtain ⟨J2, hJ2⟩ : ∃ J2, J2 = sI J1 138 0 (-1) := ⟨_, rfl⟩
      have hJJ2 : RBm J0 J2 := by
        rw [hJ2]
        exact ⟨hJ1.1.trans SM_put, by rw [zs_ne (by decide)]; exact hJ1.2⟩
      have hF2 : FRm 0 J1 J2 := by rw [hJ2]; exact FRm.put (Nat.le_refl _)
      have hb := BdM_big k hk
      have hb1 : BdM (left + 1) (8 * nl) ≤ BdM (left + 1) 64 := BdM_mono (by omega)
      rw [hleft] at hb
      rcases node_M (fu := fu) (M0 := M0) hM (by omega) hk left (8 * nl) 0 0 fu J2 M (p0S S nl) (by omega) (by omega) (by omega) hp hJJ2 (hL1.fr hF2 (by omega)) (by rw [hJ2, zs_eq, zs_same]; decide) hO with ⟨J3, M3, v1, v2, v3, v4⟩ | ⟨m', J3, M3, v1, v2, v3, v4, v5, v6⟩
      · have v1' : f_X12_isEnough_L32 fu fu (sI J1 138 0 (-1)) M (nI k) 0 = some (.inl (1, J3, M3)) := by rw [hJ2] at v1; exact v1
        refine ⟨1, J3, M3, ?_, v2, v3, Or.inl ⟨rfl, ?_⟩⟩
        · simp only [a1', Option.bind_some, as, if_pos c1', if_neg c2', ib, bnd, t0, v1', Sum.elim_inl]
        · obtain ⟨j, j1, j2, j3, j4⟩ := v4
          rw [hleft]
          exact (En_pas m5).mpr ⟨j, j2, j3, j4⟩
      · obtain ⟨m', rfl⟩ : ∃ z, m' = z + 1 := ⟨m' - 1, by omega⟩
        have cn : nI 0 + -1 < 0 := by decide
        have v2' : f_X12_isEnough_L32 fu fu (sI J1 138 0 (-1)) M (nI k) 0 = some (.inr (J3, M3)) := by
          rw [hJ2] at v2
          refine Eq.trans v2 ?_
          simp only [f_X12_isEnough_L32, if_pos cn]
        refine ⟨0, J3, M3, ?_, v3, v5, Or.inr ⟨rfl, fun w => ?_⟩⟩
        · simp only [a1', Option.bind_some, as, if_pos c1', if_neg c2', ib, bnd, t0, v2', Sum.elim_inr, gz_0]
        · rw [hleft] at w
          obtain ⟨j, j1, j2, j3⟩ := (En_pas m5).mp w
          exact v6 j (by omega) j1 ⟨j2, j3⟩
  · have c1' : ¬ nI (nS nl tg (p0S S nl)) ≤ nI k := nI_ge (by omega) (by omega)
    refine ⟨0, J1, M, ?_, hJ1, hO, Or.inr ⟨rfl, fun w => c1 (En_le _ _ w)⟩⟩
    simp only [a1', Option.bind_some, as, if_neg c1', gz_0]
theorem fewest_M (hM : MVM J0 D S b nh no nl tg) (hf : 100000000 < fu) {M : HL} (hL0 : LYm S nl J0 0 (p0S S nl)) : ∃ y J' M', (f_X12_moves_L178 fu fu J0 M 0).bind (Sum.elim (fun r => some r) fun x46 => some ((-1), x46.1, x46.2)) = some (y, J', M') ∧ SM J0 J' ∧ OtL M M' ∧ LsK (fun k => EnM D S nh nl tg k (p0S S nl)) y := by
  have n3 : ¬ (1 : Int32) = 0 := by decide
  have loop : ∀ (q k n : Nat) (J : HI) (L : HL), k + q = 5 → q < n → RBm J0 J → OtL M L → (∀ j, j < k → ¬ EnM D S nh nl tg j (p0S S nl)) → ∃ J' M', RBm J0 J' ∧ OtL M M' ∧ ((∃ k', k' ≤ 4 ∧ f_X12_moves_L178 fu n J L (nI k) = some (.inl (nI k', J', M')) ∧ EnM D S nh nl tg k' (p0S S nl) ∧ ∀ j, j < k' → ¬ EnM D S nh nl tg j (p0S S nl)) ∨ (f_X12_moves_L178 fu n J L (nI k) = some (.inr (J', M')) ∧ ∀ j, j ≤ 4 → ¬ EnM D S nh nl tg j (p0S S nl))) := by
    intro q
    induction q with
    | zero =>
      intro k n J L e1 e2 hJ hO hno
      obtain ⟨n, rfl⟩ : ∃ z, n = z + 1 := ⟨n - 1, by omega⟩
      have ek : k = 5 := by omega
      subst ek
      have c1 : (4 : Int32) < nI 5 := by decide
      refine ⟨J, L, hJ, hO, Or.inr ⟨?_, fun j hj => hno j (by omega)⟩⟩
      simp only [f_X12_moves_L178, if_pos c1]
    | succ q ih =>
      intro k n J L e1 e2 hJ hO hno
      obtain ⟨n, rfl⟩ : ∃ z, n = z + 1 := ⟨n - 1, by omega⟩
      have c1 : ¬ (4 : Int32) < nI k := Int32.not_lt.mpr (nI_le (b := 4) (by omega) (by decide))
      have A1 : nI k + 1 = nI (k + 1) := nI_1 k
      obtain ⟨y, J1, M1, y1, y2, y3, y4⟩ := enough_M (fu := fu) (M0 := M) hM hf (k := k) (by omega) hJ hL0 hO
      rcases y4 with ⟨z1, z2⟩ | ⟨z1, z2⟩
      · subst z1
        refine ⟨J1, M1, y2, y3, Or.inl ⟨k, by omega, ?_, z2, hno⟩⟩
        simp only [f_X12_moves_L178, if_neg c1, y1, Option.bind_some, if_neg n3]
      · subst z1
        obtain ⟨J', M', k0, k1, k2⟩ := ih (k + 1) n J1 M1 (by omega) (by omega) y2 y3 (fun j hj => by
          by_cases w : j = k
          · rw [w]; exact z2
          · exact hno j (by omega))
        refine ⟨J', M', k0, k1, ?_⟩
        have st : f_X12_moves_L178 fu (n + 1) J L (nI k) = f_X12_moves_L178 fu n J1 M1 (nI (k + 1)) := by
          simp only [f_X12_moves_L178, if_neg c1, y1, Option.bind_some, if_true, A1]
        rw [st]
        exact k2
  obtain ⟨J', M', k0, k1, k2⟩ := loop 5 0 fu J0 M (by omega) (by omega) ⟨SM.refl, rfl⟩ OtL.refl (fun j hj => absurd hj (by omega))
  rw [show (0 : Int32) = nI 0 from rfl]
  rcases k2 with ⟨k', z1, z2, z3, z4⟩ | ⟨z1, z2⟩
  · rw [z2]
    exact ⟨nI k', J', M', rfl, k0.1, k1, Or.inl ⟨k', z1, rfl, z3, z4⟩⟩
  · rw [z1]
    exact ⟨-1, J', M', rfl, k0.1, k1, Or.inr ⟨rfl, z2⟩⟩
end
