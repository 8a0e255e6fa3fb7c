/-! a rule told, over all that is told so far -/
theorem VL_pos {K : HI} {t r0 c0 c1 nd ts : Nat} (h : VL K t r0 c0 c1 nd ts) (hn : nd ≤ 100) : c0 < c1 := by
  have h1 := h.1
  obtain ⟨v, h2, _⟩ := h.2 (fun _ => some 0) ⟨fun k v hv => by
    have : v = 0 := (Option.some.inj hv).symm
    rw [this]
    exact ⟨by decide, by decide⟩, fun k _ => ⟨0, rfl⟩⟩ [] (by simpa using hn)
  by_cases q : c0 < c1
  · exact q
  · rw [show c1 - c0 = 0 by omega] at h2
    exact absurd (Option.some.inj h2) (by simp)
section
variable {tp : Nat → Nat} {sz fu t b nh no nl cj k at' e r0 : Nat} {I J : HI} {M : HL} {R : HR}
theorem rule_C0 {K1 K : HI} {y : Int32} (ht : t = 67 ∨ t = 80) (ho : okLd t = true) (h16 : I t 16 = nI cj) (ha : f_X10_advance fu (sI I 8 2 (nI r0)) = some (1, K1)) (k8 : K1 8 2 = nI r0) (hr : r0 < 3) (hg : (r0 = 2 ∧ g_X8 fu 80 7 K1 (sR R 8 1 t) 0 0 = some (y, K)) ∨ (r0 ≠ 2 ∧ g_X8 fu 80 6 K1 (sR R 8 1 t) 0 0 = some (y, K))) : (y = 0 → f_X8_readRule fu I R (nI r0) t = some (0, K, sR R 8 1 t)) ∧ (y = 1 → K 8 2 = nI r0 → f_X8_readRule fu I R (nI r0) t = some (1, sI (sI K (t + 11) r0 (nI cj)) (t + 12) r0 (K t 16), sR R 8 1 t)) := by
  have n3 : ¬ (1 : Int32) = 0 := by decide
  have e1 : (sI I 8 2 (nI r0)) t 16 = nI cj := by rw [zs_ne (by omega)]; exact h16
  have er : (sR R 8 1 t) 8 1 = t := zR_eq
  have ib : ∀ q : Option (Int32 × HI × HR), inb 3 (nI r0) q = q := fun q => by rw [inb_ok (by omega)]
  have tc : (nI r0).toNatClampNeg = r0 := nI_clamp (by omega)
  have e8 : ∀ w, (sI K (t + 11) r0 w) 8 2 = K 8 2 := fun w => by rw [zs_ne (by omega)]
  have e16 : ∀ w, (sI K (t + 11) r0 w) t 16 = K t 16 := fun w => by rw [zs_ne (by omega)]
  rcases hg with ⟨q, g⟩ | ⟨q, g⟩
  · have z2 : nI r0 = 2 := by rw [q]; rfl
    refine ⟨fun hy => ?_, fun hy h8 => ?_⟩
    · subst hy
      unfold f_X8_readRule
      simp only [bnd, er, zg_ok ho, e1, ha, Option.bind_some, jnt, k8, if_pos z2, g, if_true, gz_0]
    · subst hy
      unfold f_X8_readRule
      simp only [bnd, er, zg_ok ho, e1, ha, Option.bind_some, jnt, k8, if_pos z2, g, if_neg n3, h8, ib, tc, e8, e16, gz_1]
  · have z2 : ¬ nI r0 = 2 := fun w => q ((nI_eq (a := r0) (b := 2) (by omega) (by decide)).mp w)
    refine ⟨fun hy => ?_, fun hy h8 => ?_⟩
    · subst hy
      unfold f_X8_readRule
      simp only [bnd, er, zg_ok ho, e1, ha, Option.bind_some, jnt, k8, if_neg z2, g, if_true, gz_0]
    · subst hy
      unfold f_X8_readRule
      simp only [bnd, er, zg_ok ho, e1, ha, Option.bind_some, jnt, k8, if_neg z2, g, if_neg n3, h8, ib, tc, e8, e16, gz_1]
theorem rule_M0 {J1 J2 : HI} {M1 M2 : HL} (h33 : J 100 33 = nI b) (hb : b < 2) (hr : r0 < 3) (h113 : J 113 (3 * b + r0) = mI 1) (cn : f_X12_counts fu J M 0 = some (1, J1, M1)) (g32 : J1 100 32 = nI cj) (rd : (r0 = 2 ∧ f_X12_reads fu (sI (sI J1 100 34 (nI (akN r0))) 113 (3 * b + r0) (nI cj)) M1 1 = some (J2, M2)) ∨ (r0 ≠ 2 ∧ f_X12_reads fu (sI (sI J1 100 34 (nI (akN r0))) 113 (3 * b + r0) (nI cj)) M1 0 = some (J2, M2))) : f_X12_reading fu J M (nI r0) = some (sI J2 114 (3 * b + r0) (J2 100 32), M2) := by
  have n3 : ¬ (1 : Int32) = 0 := by decide
  have ix : 3 * nI b + nI r0 = nI (3 * b + r0) := by rw [zq3, pk_mul, nI_add]
  have l5 : ∀ (k : Int32 → Option (HI × HL)), ldI (J 113) 6 (nI (3 * b + r0)) k = k (mI 1) := fun k => by rw [ldI_ok (by omega), h113]
  have m1 : mI 1 = (-1 : Int32) := rfl
  have ib : ∀ q : Option (HI × HL), inb 6 (nI (3 * b + r0)) q = q := fun q => by rw [inb_ok (by omega)]
  have tc : (nI (3 * b + r0)).toNatClampNeg = 3 * b + r0 := nI_clamp (by omega)
  have e32 : ∀ w, (sI J1 100 34 w) 100 32 = nI cj := fun w => by rw [zs_eq, zs_other (by decide)]; exact g32
  unfold f_X12_reading
  rcases rd with ⟨q, g⟩ | ⟨q, g⟩
  · have z2 : nI r0 = 2 := by rw [q]; rfl
    have ak : nI (akN r0) = 110 := by rw [q]; rfl
    rw [ak] at g
    simp only [bnd, h33, ix, l5, if_pos m1, jnt, cn, Option.bind_some, if_neg n3, if_pos z2, e32, ib, tc, g]
  · have z2 : ¬ nI r0 = 2 := fun w => q ((nI_eq (a := r0) (b := 2) (by omega) (by decide)).mp w)
    by_cases q0 : r0 = 0
    · have z0 : nI r0 = 0 := by rw [q0]; rfl
      have ak : nI (akN r0) = 30 := by rw [q0]; rfl
      rw [ak] at g
      simp only [bnd, h33, ix, l5, if_pos m1, jnt, cn, Option.bind_some, if_neg n3, if_neg z2, if_pos z0, e32, ib, tc, g]
    · have z0 : ¬ nI r0 = 0 := fun w => q0 ((nI_eq (a := r0) (b := 0) (by omega) (by decide)).mp w)
      have ak : nI (akN r0) = 14 := by rw [show r0 = 1 by omega]; rfl
      rw [ak] at g
      simp only [bnd, h33, ix, l5, if_pos m1, jnt, cn, Option.bind_some, if_neg n3, if_neg z2, if_neg z0, e32, ib, tc, g]
theorem rul_told {K K' J' : HI} {M' : HL} {cj' : Nat} (hT : TOLD I J M t b nh no nl cj) (hr : r0 < 3) (h1 : cj < cj') (h2 : cj' ≤ 1600) (k0 : ∀ s, s ≠ 16 → K' t s = I t s) (k16 : K' t 16 = nI cj') (kx : ∀ a, 1 ≤ a → a ≤ 9 → K' (t + a) = I (t + a)) (k10 : ∀ j, j < cj → K' (t + 10) j = I (t + 10) j) (k10' : K' (t + 10) = K (t + 10)) (k11 : K' (t + 11) r0 = nI cj) (k11o : ∀ r, r ≠ r0 → K' (t + 11) r = I (t + 11) r) (k12 : K' (t + 12) r0 = nI cj') (k12o : ∀ r, r ≠ r0 → K' (t + 12) r = I (t + 12) r) (jx : ∀ x, 102 ≤ x → x ≤ 112 → J' x = J x) (j3 : J' 113 (3 * b + r0) = nI cj) (j3o : ∀ i, i ≠ 3 * b + r0 → J' 113 i = J 113 i) (j4 : J' 114 (3 * b + r0) = nI cj') (j4o : ∀ i, i ≠ 3 * b + r0 → J' 114 i = J 114 i) (j32 : J' 100 32 = nI cj') (j33 : J' 100 33 = J 100 33) (cr : CRs K' J' t b cj') (mx : ∀ x, x = 117 ∨ x = 118 ∨ x = 119 → M' x = M x) (vl : VL K t r0 cj cj' 42 (if r0 = 2 then 1 else 0)) : TOLD K' J' M' t b nh no nl cj' := by
  obtain ⟨a1, a2, a3, a4, a5, a6, a7, a8⟩ := hT
  have e := kx
  have f := jx
  refine ⟨NMr_w (NMr_g a1 (fun s hs => k0 s (by omega)) (fun i _ => by rw [e 1 (by decide) (by decide)]) (fun i _ => by rw [e 2 (by decide) (by decide)]) (fun i _ => by rw [e 3 (by decide) (by decide)])) ⟨by rw [f 102 (by decide) (by decide)], by rw [f 105 (by decide) (by decide)], by rw [f 106 (by decide) (by decide)], j33⟩ (fun i _ => by rw [mx 117 (by decide)]) (fun i _ => by rw [mx 118 (by decide)]) (fun i _ => by rw [mx 119 (by decide)]), LKr_w (LKr_g a2 (fun s hs => k0 s (by omega)) (fun i _ => by rw [e 4 (by decide) (by decide)]) (fun i _ => ⟨by rw [e 6 (by decide) (by decide)], by rw [e 7 (by decide) (by decide)]⟩)) ⟨by rw [f 102 (by decide) (by decide)], by rw [f 106 (by decide) (by decide)], j33⟩ (fun i _ => by rw [f 103 (by decide) (by decide)]) (fun i _ => ⟨by rw [f 107 (by decide) (by decide)], by rw [f 108 (by decide) (by decide)]⟩), HPr_c a3 (fun i _ => by rw [e 4 (by decide) (by decide)]) (fun i _ => by rw [e 5 (by decide) (by decide)]) (fun i _ => by rw [f 104 (by decide) (by decide)]), LWr_c a4 (fun i _ => by rw [e 6 (by decide) (by decide)]) (fun i _ => by rw [e 7 (by decide) (by decide)]) (fun i _ => by rw [e 8 (by decide) (by decide)]) (fun i _ => by rw [f 109 (by decide) (by decide)]), RMr_c a5 (fun i _ => by rw [e 4 (by decide) (by decide)]) (fun i _ => ⟨by rw [e 6 (by decide) (by decide)], by rw [e 7 (by decide) (by decide)]⟩), DBr_c a6 (fun i _ => by rw [e 9 (by decide) (by decide)]) (fun a c _ _ => by rw [f 110 (by decide) (by decide)]), NCr_c a7 (k0 4 (by decide)) (k0 5 (by decide)) (by rw [f 111 (by decide) (by decide)]) (by rw [f 112 (by decide) (by decide)]), ⟨j32, k16, h2⟩, cr, fun r hr' => ?_⟩
  by_cases q : r = r0
  · subst q
    exact Or.inr ⟨cj, cj' - cj, by omega, by omega, k11, by rw [show cj + (cj' - cj) = cj' by omega]; exact k12, j3, by rw [show cj + (cj' - cj) = cj' by omega]; exact j4, by rw [show cj + (cj' - cj) = cj' by omega]; exact VL_congr vl (fun j _ _ => by rw [k10'])⟩
  · rcases a8.2.2 r hr' with ⟨u1, u2, u3⟩ | ⟨a, n, u1, u2, u3, u4, u5, u6, u7⟩
    · left
      rw [k11o r q, k12o r q, j3o _ (by omega)]
      exact ⟨u1, u2, u3⟩
    · right
      refine ⟨a, n, u1, by omega, ?_, ?_, ?_, ?_, VL_congr u7 (fun j _ w => k10 j (by omega))⟩
      · rw [k11o r q]; exact u3
      · rw [k12o r q]; exact u4
      · rw [j3o _ (by omega)]; exact u5
      · rw [j4o _ (by omega)]; exact u6
end
