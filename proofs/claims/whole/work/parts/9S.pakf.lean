/-- the room of a hollow without the owner's own lakes -/
def rW (S : HI) (m v : Nat → Nat) (rm0 c h : Nat) : Nat := rm0 + smN (fun k => if S 2 (m k) = nI h then v k else 0) c
theorem roomW_C {K : HI} {R : HR} {t nh no nl fu c h rm0 : Nat} {m v : Nat → Nat} (hC : CL K R 49 t nh no nl) (hf : 8 < fu) (hh : h < 8) (hc : c ≤ 8) (h1 : K 34 2 = nI c) (hm : ∀ k, k < c → m k < 8 ∧ K 35 k = nI (m k) ∧ K 36 k = nI (v k)) (hr : rmI (vw K t) (sc K 49) h nl = nI rm0) : f_X0_roomWithout fu K R 49 (nI h) = some (nI (rW (sc K 49) m v rm0 c h)) := by
  have hl : f_X0_roomWithout_L9 fu K 49 (nI h) (nI rm0) 0 = some (nI (rW (sc K 49) m v rm0 c h)) := by
    refine loopCf (fun n a i => f_X0_roomWithout_L9 n K 49 (nI h) a i) (fun i => nI (rW (sc K 49) m v rm0 i h)) _ c fu ?_ ?_ (by omega)
    · intro n i hi
      obtain ⟨m1, m2, m3⟩ := hm i hi
      have e51 : K (49 + 2) (m i) = sc K 49 2 (m i) := rfl
      have es : rW (sc K 49) m v rm0 (i + 1) h = rW (sc K 49) m v rm0 i h + (if sc K 49 2 (m i) = nI h then v i else 0) := by
        unfold rW
        show rm0 + (smN _ i + (if sc K 49 2 (m i) = nI h then v i else 0)) = _
        omega
      have c1 : ¬ nI c ≤ nI i := nI_ge hi (by omega)
      have A1 : nI i + 1 = nI (i + 1) := nI_1 i
      show f_X0_roomWithout_L9 (n + 1) K 49 (nI h) (nI (rW (sc K 49) m v rm0 i h)) (nI i) = f_X0_roomWithout_L9 n K 49 (nI h) (nI (rW (sc K 49) m v rm0 (i + 1) h)) (nI (i + 1))
      rw [es]
      by_cases cb : sc K 49 2 (m i) = nI h
      · rw [if_pos cb]
        simp (disch := omega) only [f_X0_roomWithout_L9, h1, if_neg c1, ldI_ok, m2, e51, jnt, bnd, if_pos cb, m3, nI_add, A1]
      · rw [if_neg cb]
        simp (disch := omega) only [f_X0_roomWithout_L9, h1, if_neg c1, ldI_ok, m2, e51, jnt, bnd, if_neg cb, A1, Nat.add_zero]
    · intro n
      have c1 : nI c ≤ nI c := Int32.le_refl _
      simp (disch := omega) only [f_X0_roomWithout_L9, h1, if_pos c1]
  unfold f_X0_roomWithout
  rw [roomIn_C hC hf hh, hr]
  simp only [Option.bind_some, hl]
theorem packs_C {I : HI} {R : HR} {t nh no nl fu c : Nat} {m v S : Nat → Nat} {rm0 : Nat → Nat} (hC : CL I R 49 t nh no nl) (hf : 1600 < fu) (hc : c ≤ 8) (h1 : I 34 2 = nI c) (hm : ∀ k, k < c → m k < 8 ∧ I 35 k = nI (m k) ∧ I 36 k = nI (v k)) (hr : ∀ h, h < nh → rmI (vw I t) (sc I 49) h nl = nI (rm0 h) ∧ rW (sc I 49) m v (rm0 h) c h ≤ 9999) (hS : ∀ s, s < 2 ^ c → I 37 s = nI (S s) ∧ S s ≤ 9999) :
    ∀ (q h n : Nat) (K : HI) (b : Nat → Nat), h + q = nh → q < n → (∀ y, y ≠ 38 → K y = I y) → (∀ s, s < 256 → K 38 s = nI (b s)) → (∀ s, s < 256 → b s ≤ 1048576) → (∀ s, s < 2 ^ c → LeC (fun H => PK S (fun h => rW (sc I 49) m v (rm0 h) c h) h H s) (b s)) →
    ∃ (K' : HI) (b' : Nat → Nat), f_X0_packing_L39 fu n K R 49 (nI (2 ^ c - 1)) (nI h) = some K' ∧ (∀ y, y ≠ 38 → K' y = I y) ∧ (∀ s, s < 256 → K' 38 s = nI (b' s)) ∧ (∀ s, s < 256 → b' s ≤ 1048576) ∧ (∀ s, s < 2 ^ c → LeC (fun H => PK S (fun h => rW (sc I 49) m v (rm0 h) c h) nh H s) (b' s)) := by
  obtain ⟨g0, g1, g2, g3, g4, g5, g6, g7, g8, g9⟩ := id hC
  have hpos : 0 < 2 ^ c := pow_pos'
  have hp8 : 2 ^ c ≤ 2 ^ 8 := Nat.pow_le_pow_right (by decide) hc
  intro q
  induction q with
  | zero =>
    intro h n K b e1 e2 k1 k2 k3 k4
    obtain ⟨n, rfl⟩ : ∃ z, n = z + 1 := ⟨n - 1, by omega⟩
    have : h = nh := by omega
    subst this
    have e4 : K t 1 = nI h := by rw [k1 t (by omega)]; exact g4
    have c1 : nI h ≤ nI h := Int32.le_refl _
    refine ⟨K, b, ?_, k1, k2, k3, k4⟩
    simp only [f_X0_packing_L39, g1, zg_ok g0, e4, if_pos c1]
  | succ q ih =>
    intro h n K b e1 e2 k1 k2 k3 k4
    obtain ⟨n, rfl⟩ : ∃ z, n = z + 1 := ⟨n - 1, by omega⟩
    have e4 : K t 1 = nI nh := by rw [k1 t (by omega)]; exact g4
    have c1 : ¬ nI nh ≤ nI h := nI_ge (by omega) (by omega)
    have hCK : CL K R 49 t nh no nl := CLx hC (k1 t (by omega))
    have ev : vw K t = vw I t := vw_congr (fun a ha => k1 _ (by omega))
    have es : sc K 49 = sc I 49 := sc_congr (fun a ha => k1 _ (by omega))
    obtain ⟨r1, r2⟩ := hr h (by omega)
    have hp7 : 2 ^ h ≤ 2 ^ 7 := Nat.pow_le_pow_right (by decide) (by omega)
    have hrw := roomW_C (fu := fu) (h := h) (rm0 := rm0 h) (m := m) (v := v) (c := c) hCK (by omega) (by omega) hc (by rw [k1 34 (by decide)]; exact h1) (fun k hk => by rw [k1 35 (by decide), k1 36 (by decide)]; exact hm k hk) (by rw [ev, es]; exact r1)
    rw [es] at hrw
    obtain ⟨K', nb, a1, a2, a3, a4, a5, a6⟩ := into_C (I := I) (fu := fu) (cost := 256 + 2 ^ h) (rm := rW (sc I 49) m v (rm0 h) c h) (c := c) (b := b) (S := S) hf hc (by omega) r2 hS k3 (2 ^ c - 1) fu K b (by omega) (by omega) k1 (fun s hs => by rw [ite_self]; exact k2 s hs) k3 (fun s s1 s2 => absurd s2 (by omega))
    have hL := LeC_step (S := S) (r := fun h => rW (sc I 49) m v (rm0 h) c h) (h := h) (c := c) (b := b) (nb := nb) (by omega) hc k3 k4 a5 a6
    obtain ⟨K2, b2, d1, d2⟩ := ih (h + 1) n K' nb (by omega) (by omega) a2 a3 a4 hL
    refine ⟨K2, b2, ?_, d2⟩
    rw [← d1]
    have A1 : nI h + 1 = nI (h + 1) := nI_1 h
    have esh : (256 : Int32) + (1 : Int32) <<< (nI h &&& 31) = nI (256 + 2 ^ h) := by
      rw [zq1, zq31, sh_ok (by omega), zq256, nI_add]
    have hin : f_X0_packInto fu K (nI (256 + 2 ^ h)) (nI (rW (sc I 49) m v (rm0 h) c h)) (nI (2 ^ c - 1)) = some K' := by
      unfold f_X0_packInto
      rw [a1]
      rfl
    simp only [f_X0_packing_L39, g1, zg_ok g0, e4, if_neg c1, hrw, Option.bind_some, esh, hin, A1]
theorem packing_C {I : HI} {R : HR} {t nh no nl fu p c : Nat} {m v : Nat → Nat} {rm0 : Nat → Nat} {x : Int32} (hC : CL I R 49 t nh no nl) (hL : LR (vw I t)) (hB : BW (sc I 49)) (hf : 1600 < fu) (hcc : c = cnt (pO (sc I 49) x) nl) (hm : m = fun k => nth (pO (sc I 49) x) k nl) (hv : v = fun k => (sc I 49 1 (m k)).toNatClampNeg) (hr : ∀ h, h < nh → rmI (vw I t) (sc I 49) h nl = nI (rm0 h) ∧ rm0 h ≤ 999) : ∃ y K, f_X0_packing fu I R 49 x = some (if y = 1048576 then -1 else nI y, K) ∧ (∀ z, z < 34 ∨ 39 ≤ z → z < 55 ∨ 58 ≤ z → K z = I z) ∧ y ≤ 1048576 ∧ LeC (fun H => PK (fun s => WS (fun l => (sc I 49 1 l).toNatClampNeg) nl (exM m s c)) (fun h => rW (sc I 49) m v (rm0 h) c h) nh H (2 ^ c - 1)) y := by
  obtain ⟨g0, g1, g2, g3, g4, g5, g6, g7, g8, g9⟩ := id hC
  have hc8 : c ≤ 8 := by rw [hcc]; exact Nat.le_trans (cnt_le nl) g9
  have hpos : 0 < 2 ^ c := pow_pos'
  have hp8 : 2 ^ c ≤ 2 ^ 8 := Nat.pow_le_pow_right (by decide) hc8
  have hinc : inc m c := fun j k hj hk => by
    rw [hm]
    exact nth_lt hj (by rw [← hcc]; exact hk)
  have hm1 : ∀ k, k < c → m k < nl := fun k hk => by
    rw [hm]
    exact (nth_2 (p := pO (sc I 49) x) (k := k) nl (by rw [← hcc]; exact hk)).1
  have hv9 : ∀ l, l < 8 → (sc I 49 1 l).toNatClampNeg ≤ 999 := fun l hl => by
    obtain ⟨y, y1, y2⟩ := hB.1 l hl
    rw [y2, nI_clamp (by omega)]
    exact y1
  obtain ⟨K1, q1, q2, q3, q4⟩ := collect_C (fu := fu) hC hL hB hf x (w := 0) (by decide) (val := fun l => if 0 = 0 then (sc I 49 1 l).toNatClampNeg else woN (vw I t) (sc I 49) nl l) rfl
  have q1' : f_X0_collect fu I R 49 x 0 = some K1 := q1
  rw [← hcc] at q3 q4
  have q5 : ∀ k, k < c → K1 35 k = nI (m k) ∧ K1 36 k = nI (v k) := fun k hk => by
    obtain ⟨z1, z2⟩ := q4 k hk
    rw [hv, hm]
    exact ⟨z1, z2⟩
  obtain ⟨K2, s1, s2, s3⟩ := sumUp_C (fu := fu) (I := K1) (c := c) (v := fun k => nI (v k)) hf hc8 q3 (fun k hk => (q5 k hk).2)
  obtain ⟨K3, f1, f2, f3⟩ := fill_J (fu := fu) (a0 := 38) (n := 256) (v := 1048576) (by omega) (by decide) K2
  have hS : ∀ s, s < 2 ^ c → K2 37 s = nI (WS (fun l => (sc I 49 1 l).toNatClampNeg) nl (exM m s c)) ∧ WS (fun l => (sc I 49 1 l).toNatClampNeg) nl (exM m s c) ≤ 9999 := fun s hs => by
    refine ⟨?_, ?_⟩
    · rw [s3 s hs]
      exact SSI_ws (m := m) (wo := fun l => (sc I 49 1 l).toNatClampNeg) (nl := nl) c hinc (fun j hj => ⟨hm1 j hj, by rw [hv]⟩)
    · have := smN_le (f := fun l => if (exM m s c).testBit l = true then (sc I 49 1 l).toNatClampNeg else 0) (m := 999) nl (fun i hi => by
        show (if (exM m s c).testBit i = true then (sc I 49 1 i).toNatClampNeg else 0) ≤ 999
        have := hv9 i (by omega)
        split <;> omega)
      have h10 : nl * 999 ≤ 8 * 999 := Nat.mul_le_mul_right _ g9
      show smN (fun l => if (exM m s c).testBit l = true then (sc I 49 1 l).toNatClampNeg else 0) nl ≤ 9999
      omega
  have hK3 : ∀ z, z < 34 ∨ 39 ≤ z → z < 55 ∨ 58 ≤ z → K3 z = I z := fun z z1 z2 => by rw [f2 z (by omega), s2 z (by omega), q2 z (by omega) z2]
  obtain ⟨K4, hK4⟩ : ∃ K4, K4 = sI K3 38 0 (nI 0) := ⟨_, rfl⟩
  have o4 : ∀ z, z ≠ 38 → K4 z = K2 z := fun z hz => by rw [hK4, zs_ne hz, f2 z hz]
  have i4 : ∀ z, z < 34 ∨ 39 ≤ z → z < 55 ∨ 58 ≤ z → K4 z = I z := fun z z1 z2 => by rw [o4 z (by omega), s2 z (by omega), q2 z (by omega) z2]
  have ev : vw K4 t = vw I t := vw_congr (fun a ha => i4 _ (by omega) (by omega))
  have es : sc K4 49 = sc I 49 := sc_congr (fun a ha => i4 _ (by omega) (by omega))
  have hrw : ∀ h, h < nh → rW (sc I 49) m v (rm0 h) c h ≤ 9999 := fun h hh => by
    have := smN_le (f := fun k => if sc I 49 2 (m k) = nI h then v k else 0) (m := 999) c (fun i hi => by
      show (if sc I 49 2 (m i) = nI h then v i else 0) ≤ 999
      have : v i ≤ 999 := by
        rw [hv]
        exact hv9 _ (by have := hm1 i hi; omega)
      split <;> omega)
    have h10 : c * 999 ≤ 8 * 999 := Nat.mul_le_mul_right _ hc8
    have := (hr h hh).2
    unfold rW
    omega
  obtain ⟨K5, b, p1, p2, p3, p4, p5⟩ := packs_C (I := K4) (R := R) (t := t) (nh := nh) (no := no) (nl := nl) (fu := fu) (c := c) (m := m) (v := v) (S := fun s => WS (fun l => (sc I 49 1 l).toNatClampNeg) nl (exM m s c)) (rm0 := rm0) (CLx hC (i4 t (by omega) (by omega))) hf hc8 (by rw [o4 34 (by decide), s2 34 (by decide)]; exact q3) (fun k hk => ⟨by have := hm1 k hk; omega, by rw [o4 35 (by decide), s2 35 (by decide)]; exact (q5 k hk).1, by rw [o4 36 (by decide), s2 36 (by decide)]; exact (q5 k hk).2⟩) (fun h hh => by rw [ev, es]; exact ⟨(hr h hh).1, hrw h hh⟩) (fun s hs => by rw [o4 37 (by decide)]; exact hS s hs) nh 0 fu K4 (fun s => if s = 0 then 0 else 1048576) (by omega) (by omega) (fun _ _ => rfl) (fun s hs => by
    rw [hK4, zs_eq]
    by_cases c0 : s = 0
    · subst c0; rw [zs_same, if_pos rfl]
    · rw [zs_other c0, f3 s hs, if_neg c0]; rfl) (fun s hs => by
    show (if s = 0 then 0 else 1048576) ≤ 1048576
    split <;> omega) (fun s hs => by
    show LeC _ (if s = 0 then 0 else 1048576)
    by_cases c0 : s = 0
    · subst c0
      rw [if_pos rfl]
      exact ⟨fun H _ => Nat.zero_le _, Or.inr ⟨0, ⟨rfl, rfl⟩, rfl⟩⟩
    · rw [if_neg c0]
      exact ⟨fun H hH => absurd hH.2 c0, Or.inl rfl⟩)
  rw [es] at p5
  have esh : (1 : Int32) <<< (nI c &&& 31) - 1 = nI (2 ^ c - 1) := by
    rw [zq1, zq31, sh_ok (by omega), pk_sub (by omega)]
  have e34 : K2 34 2 = nI c := by rw [s2 34 (by decide)]; exact q3
  have t0 : (0 : Int32).toNatClampNeg = 0 := by decide
  have i0 : ∀ k : Option (Int32 × HI), inb 256 0 k = k := fun k => by rw [zq0, inb_ok (by decide)]
  have p1' : f_X0_packing_L39 fu fu (sI K3 38 0 0) R 49 (nI (2 ^ c - 1)) 0 = some K5 := by rw [hK4] at p1; exact p1
  have hy := p4 (2 ^ c - 1) (by omega)
  refine ⟨b (2 ^ c - 1), K5, ?_, fun z z1 z2 => by rw [p2 z (by omega)]; exact i4 z z1 z2, hy, p5 (2 ^ c - 1) (by omega)⟩
  unfold f_X0_packing
  have l5 : ∀ k : Int32 → Option (Int32 × HI), ldI (K5 38) 256 (nI (2 ^ c - 1)) k = k (nI (b (2 ^ c - 1))) := fun k => by rw [ldI_ok (by omega), p3 _ (by omega)]
  simp only [q1', s1, Option.bind_some, bnd, e34, esh, f1, i0, t0, p1', l5]
  by_cases cy : b (2 ^ c - 1) = 1048576
  · rw [if_pos (show (1048576 : Int32) ≤ nI (b (2 ^ c - 1)) by rw [cy]; decide), if_pos cy]
  · rw [if_neg (show ¬ (1048576 : Int32) ≤ nI (b (2 ^ c - 1)) from nI_ge (b := 1048576) (by omega) (by decide)), if_neg cy]
