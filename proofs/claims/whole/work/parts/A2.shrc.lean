/-! share: the class divides -/
theorem min_ok {a b : Nat} (ha : a < 2 ^ 31) (hb : b < 2 ^ 31) : f_J9_min_7cf53 (nI a) (nI b) = some (nI (min a b)) := by
  unfold f_J9_min_7cf53
  by_cases c : b < a
  · rw [if_pos (nI_lt c ha), show min a b = b by omega]
  · rw [if_neg (nI_nlt (by omega) hb), show min a b = a by omega]
theorem max_ok {a b : Nat} (ha : a < 2 ^ 31) (hb : b < 2 ^ 31) : f_J9_max_7cf53 (nI a) (nI b) = some (nI (max a b)) := by
  unfold f_J9_max_7cf53
  by_cases c : a < b
  · rw [if_pos (nI_lt c hb), show max a b = b by omega]
  · rw [if_neg (nI_nlt (by omega) ha), show max a b = a by omega]
theorem keep_C {K : HI} {h g : Nat} {s : Nat → Nat} (hh : h = 2 ∨ h = 3) (hs : ∀ j, j < 3 → K 39 j = nI (s j)) (hs9 : ∀ j, s j ≤ 79992) (hg : K 34 8 = nI g) (hg9 : g ≤ 1048576) : ∃ K', f_X0_keepIfFairer K (nI h) = some K' ∧ ((¬ gpN h s < g ∧ K' = K) ∨ (gpN h s < g ∧ (∀ x, x ≠ 34 → x ≠ 41 → K' x = K x) ∧ (∀ x, x ≠ 8 → K' 34 x = K 34 x) ∧ K' 34 8 = nI (gpN h s) ∧ ∀ k, k < 8 → K' 41 k = K 40 k)) := by
  have h0 := hs9 0
  have h1 := hs9 1
  have h2 := hs9 2
  have e0 : ∀ k : Int32 → Option HI, ldI (K 39) 3 0 k = k (nI (s 0)) := fun k => by rw [zq0, ldI_ok (by omega), hs 0 (by omega)]
  have e1 : ∀ k : Int32 → Option HI, ldI (K 39) 3 1 k = k (nI (s 1)) := fun k => by rw [zq1, ldI_ok (by omega), hs 1 (by omega)]
  have e2 : ∀ k : Int32 → Option HI, ldI (K 39) 3 2 k = k (nI (s 2)) := fun k => by rw [zq2, ldI_ok (by omega), hs 2 (by omega)]
  have m1 := min_ok (a := s 0) (b := s 1) (by omega) (by omega)
  have m2 := max_ok (a := s 0) (b := s 1) (by omega) (by omega)
  have m3 := min_ok (a := min (s 0) (s 1)) (b := s 2) (by omega) (by omega)
  have m4 := max_ok (a := max (s 0) (s 1)) (b := s 2) (by omega) (by omega)
  have hgp := gpN_le (h := h) hs9
  have t0 : (0 : Int32).toNatClampNeg = 0 := by decide
  have t8 : (8 : Int32).toNatClampNeg = 8 := by decide
  have fin : ∀ (x : HI), x = sA (sI K 34 8 (nI (gpN h s))) 41 (va_cpy ((sI K 34 8 (nI (gpN h s))) 40) ((sI K 34 8 (nI (gpN h s))) 41) 0 0 8) → (∀ z, z ≠ 34 → z ≠ 41 → x z = K z) ∧ (∀ z, z ≠ 8 → x 34 z = K 34 z) ∧ x 34 8 = nI (gpN h s) ∧ ∀ k, k < 8 → x 41 k = K 40 k := fun x hx => by
    subst hx
    refine ⟨fun z z1 z2 => by rw [zA_ne z2, zs_ne z1], fun z z1 => by rw [zA_ne (by decide), zs_eq, zs_other z1], by rw [zA_ne (by decide), zs_eq, zs_same], fun k hk => ?_⟩
    rw [zA_eq, zs_ne (by decide)]
    unfold va_cpy
    rw [if_pos (by omega), show 0 + (k - 0) = k by omega]
  have gen : f_X0_keepIfFairer K (nI h) = if nI g ≤ nI (gpN h s) then some K else some (sA (sI K 34 8 (nI (gpN h s))) 41 (va_cpy ((sI K 34 8 (nI (gpN h s))) 40) ((sI K 34 8 (nI (gpN h s))) 41) 0 0 8)) := by
    rcases hh with rfl | rfl
    · have c3 : ¬ nI 2 = 3 := by decide
      have eg : gpN 2 s = max (s 0) (s 1) - min (s 0) (s 1) := if_neg (by decide)
      have es : nI (max (s 0) (s 1)) - nI (min (s 0) (s 1)) = nI (gpN 2 s) := by rw [eg, pk_sub (by omega)]
      unfold f_X0_keepIfFairer
      simp only [e0, e1, m1, m2, Option.bind_some, jnt, if_neg c3, es, hg, bnd, t0, t8]
    · have c3 : nI 3 = 3 := rfl
      have eg : gpN 3 s = max (max (s 0) (s 1)) (s 2) - min (min (s 0) (s 1)) (s 2) := if_pos rfl
      have es : nI (max (max (s 0) (s 1)) (s 2)) - nI (min (min (s 0) (s 1)) (s 2)) = nI (gpN 3 s) := by rw [eg, pk_sub (by omega)]
      unfold f_X0_keepIfFairer
      simp only [e0, e1, e2, m1, m2, m3, m4, Option.bind_some, jnt, if_pos c3, es, hg, bnd, t0, t8]
  rw [gen]
  by_cases c : gpN h s < g
  · rw [if_neg (nI_ge c (by omega))]
    exact ⟨_, rfl, Or.inr ⟨c, fin _ rfl⟩⟩
  · rw [if_pos (nI_le (by omega) (by omega))]
    exact ⟨K, rfl, Or.inl ⟨c, rfl⟩⟩
/-- the chooser's cells while it divides -/
def DV (I : HI) (h c : Nat) (v : Nat → Nat) (K : HI) (d : Nat → Nat) (k N : Nat) : Prop := (∀ x, x ≠ 34 → x ≠ 39 → x ≠ 40 → x ≠ 41 → K x = I x) ∧ (∀ s, s ≠ 8 → K 34 s = I 34 s) ∧ (∀ j, j < 3 → K 39 j = nI (shr v d j k)) ∧ (∀ j, j < k → K 40 j = nI (d j)) ∧ ∃ g e, g ≤ 1048576 ∧ K 34 8 = nI g ∧ Bst h c v N g e ∧ (0 < N → ∀ j, j < c → K 41 j = nI (e j))
section
variable {I : HI} {h c fu : Nat} {v : Nat → Nat}
theorem leaf_C (hh : h = 2 ∨ h = 3) (hc : c ≤ 8) (hv : ∀ k, k < c → I 36 k = nI (v k) ∧ v k ≤ 9999) {K : HI} {d : Nat → Nat} (hd : okD h c d) (hK : DV I h c v K d c (vl h d c)) : ∃ K', f_X0_keepIfFairer K (nI h) = some K' ∧ DV I h c v K' d c (vl h d c + 1) := by
  obtain ⟨k1, k2, k3, k4, g, e, k5, k6, k7, k8⟩ := hK
  have hs9 : ∀ j, shr v d j c ≤ 79992 := fun j => shr_le hc (fun k hk => (hv k hk).2)
  have hgp : gap h v d c ≤ 79992 := gpN_le hs9
  have hp := Bst_put k7 hd rfl (by omega)
  obtain ⟨K', a1, a2⟩ := keep_C (K := K) (s := fun j => shr v d j c) hh k3 hs9 k6 k5
  refine ⟨K', a1, ?_⟩
  rcases a2 with ⟨b1, b2⟩ | ⟨b1, b2, b3, b4, b5⟩
  · rw [if_neg (show ¬ gap h v d c < g from b1)] at hp
    subst b2
    refine ⟨k1, k2, k3, k4, g, e, k5, k6, hp, fun _ => ?_⟩
    rcases Nat.eq_zero_or_pos (vl h d c) with w | w
    · exfalso
      rcases k7.2 with ⟨_, z⟩ | ⟨_, z, _⟩
      · have b1' : ¬ gap h v d c < g := b1
        omega
      · omega
    · exact k8 w
  · rw [if_pos (show gap h v d c < g from b1)] at hp
    refine ⟨fun x x1 x2 x3 x4 => by rw [b2 x x1 x4]; exact k1 x x1 x2 x3 x4, fun s hs => by rw [b3 s hs]; exact k2 s hs, fun j hj => by rw [b2 39 (by decide) (by decide)]; exact k3 j hj, fun j hj => by rw [b2 40 (by decide) (by decide)]; exact k4 j hj, gap h v d c, d, by omega, b4, hp, fun _ j hj => by rw [b5 j (by omega)]; exact k4 j hj⟩
theorem divide_C (hh : h = 2 ∨ h = 3) (hc : c ≤ 8) (hv : ∀ k, k < c → I 36 k = nI (v k) ∧ v k ≤ 9999) (h1 : I 34 2 = nI c) (hf : 8 < fu) :
    ∀ (q k r w used : Nat) (K : HI) (d : Nat → Nat), k + q = c → q < r → okD h k d → used ≤ h → (∀ j, j < k → d j < used) → DV I h c v K d k (vl h d k * h ^ q) → ∃ K', g_X0 fu r w K (nI k) (nI used) (nI h) = some K' ∧ DV I h c v K' d k ((vl h d k + 1) * h ^ q) := by
  intro q
  induction q with
  | zero =>
    intro k r w used K d e1 e2 hd hu hp hK
    obtain ⟨r, rfl⟩ : ∃ z, r = z + 1 := ⟨r - 1, by omega⟩
    have ek : k = c := by omega
    subst ek
    rw [Nat.pow_zero, Nat.mul_one] at hK ⊢
    obtain ⟨K', a1, a2⟩ := leaf_C hh hc hv hd hK
    have e34 : K 34 2 = nI k := by rw [hK.2.1 2 (by decide)]; exact h1
    have c1 : ¬ nI k < nI k := nI_nlt (Nat.le_refl _) (by omega)
    refine ⟨K', ?_, a2⟩
    show f_X0_divide (g_X0 fu r) fu K (nI k) (nI used) (nI h) = some K'
    unfold f_X0_divide
    simp only [e34, if_neg c1, a1, Option.bind_some]
  | succ q ih =>
    intro k r w used K d e1 e2 hd hu hp hK
    obtain ⟨r, rfl⟩ : ∃ z, r = z + 1 := ⟨r - 1, by omega⟩
    have hkc : k < c := by omega
    have hvk := hv k hkc
    have loop : ∀ (z i n : Nat) (K : HI), (i + z = h ∨ i + z = used + 1) → i + z ≤ h → i + z ≤ used + 1 → z < n → DV I h c v K d k ((vl h d k * h + i) * h ^ q) → ∃ K', f_X0_divide_L17 (g_X0 fu r) n K (nI k) (nI used) (nI h) (nI i) = some K' ∧ DV I h c v K' d k ((vl h d k + 1) * h ^ (q + 1)) := by
      intro z
      induction z with
      | zero =>
        intro i n K f1 f2 f3 f4 hK
        obtain ⟨n, rfl⟩ : ∃ y, n = y + 1 := ⟨n - 1, by omega⟩
        have eN : (vl h d k + 1) * h ^ (q + 1) = (vl h d k * h + h) * h ^ q := by
          rw [Nat.pow_succ, Nat.mul_comm (h ^ q) h, ← Nat.mul_assoc, Nat.add_mul, Nat.one_mul]
        by_cases ci : i = h
        · subst ci
          have c1 : nI i ≤ nI i := Int32.le_refl _
          refine ⟨K, ?_, by rw [eN]; exact hK⟩
          simp only [f_X0_divide_L17, if_pos c1]
        · have ci2 : i = used + 1 := by omega
          subst ci2
          have c1 : ¬ nI h ≤ nI (used + 1) := nI_ge (by omega) (by omega)
          have c2 : nI used < nI (used + 1) := nI_lt (by omega) (by omega)
          refine ⟨K, ?_, ?_⟩
          · simp only [f_X0_divide_L17, if_neg c1, if_pos c2]
          · obtain ⟨k1, k2, k3, k4, g, e, k5, k6, k7, k8⟩ := hK
            have hpos : 0 < (vl h d k * h + (used + 1)) * h ^ q := Nat.mul_pos (by omega) (Nat.pow_pos (by omega))
            refine ⟨k1, k2, k3, k4, g, e, k5, k6, ?_, fun _ => k8 hpos⟩
            refine Bst_skip k7 hpos ?_ (fun d' o w1 w2 => ?_)
            · rw [eN]
              exact Nat.mul_le_mul_right _ (by omega)
            · rw [← e1] at o w1 w2 ⊢
              exact skip_new hh hd hp o w1 w2
      | succ z ihz =>
        intro i n K f1 f2 f3 f4 hK
        obtain ⟨n, rfl⟩ : ∃ y, n = y + 1 := ⟨n - 1, by omega⟩
        have hi : i < h := by omega
        have hiu : i ≤ used := by omega
        obtain ⟨k1, k2, k3, k4, g, e, k5, k6, k7, k8⟩ := hK
        obtain ⟨d', hd'⟩ : ∃ d' : Nat → Nat, d' = fun j => if j = k then i else d j := ⟨_, rfl⟩
        have dk : d' k = i := by rw [hd']; exact if_pos rfl
        have dj : ∀ j, j < k → d' j = d j := fun j hj => by rw [hd']; exact if_neg (by omega)
        have es : ∀ j, shr v d' j (k + 1) = shr v d j k + (if i = j then v k else 0) := fun j => by
          rw [shr_1, shr_congr dj, dk]
        have ev : vl h d' (k + 1) = vl h d k * h + i := by
          show vl h d' k * h + d' k = _
          rw [vl_congr k dj, dk]
        have hs9 : ∀ j, shr v d j k ≤ 79992 := fun j => shr_le (by omega) (fun k' hk => (hv k' (by omega)).2)
        obtain ⟨K4, hK4⟩ : ∃ K4, K4 = sI (sI K 40 k (nI i)) 39 i (nI (shr v d i k + v k)) := ⟨_, rfl⟩
        have o4 : ∀ x, x ≠ 39 → x ≠ 40 → K4 x = K x := fun x x1 x2 => by rw [hK4, zs_ne x1, zs_ne x2]
        have s4 : ∀ j, j < 3 → K4 39 j = nI (shr v d' j (k + 1)) := fun j hj => by
          rw [hK4, zs_eq, es]
          by_cases cj : i = j
          · subst cj
            rw [zs_same, if_pos rfl]
          · rw [zs_other (by omega), zs_ne (by decide), if_neg cj, Nat.add_zero]
            exact k3 j hj
        have h4 : ∀ j, j < k + 1 → K4 40 j = nI (d' j) := fun j hj => by
          rw [hK4, zs_ne (by decide), zs_eq]
          by_cases cj : j = k
          · subst cj
            rw [zs_same, dk]
          · rw [zs_other cj, dj j (by omega)]
            exact k4 j (by omega)
        have hD4 : DV I h c v K4 d' (k + 1) (vl h d' (k + 1) * h ^ q) := by
          rw [ev]
          refine ⟨fun x x1 x2 x3 x4 => by rw [o4 x x2 x3]; exact k1 x x1 x2 x3 x4, fun s hs => by rw [o4 34 (by decide) (by decide)]; exact k2 s hs, s4, h4, g, e, k5, by rw [o4 34 (by decide) (by decide)]; exact k6, k7, fun w' j hj => by rw [o4 41 (by decide) (by decide)]; exact k8 w' j hj⟩
        obtain ⟨u', hu'⟩ : ∃ u', u' = if i = used then used + 1 else used := ⟨_, rfl⟩
        have hu1 : used ≤ u' ∧ u' ≤ h ∧ i < u' := by
          rw [hu']
          by_cases ci : i = used
          · rw [if_pos ci]; omega
          · rw [if_neg ci]; omega
        obtain ⟨K8, r1, r2⟩ := ih (k + 1) r 0 u' K4 d' (by omega) (by omega) (fun j hj => by
          by_cases cj : j = k
          · rw [cj, dk]; exact hi
          · rw [dj j (by omega)]; exact hd j (by omega)) hu1.2.1 (fun j hj => by
          by_cases cj : j = k
          · rw [cj, dk]; exact hu1.2.2
          · rw [dj j (by omega)]
            have := hp j (by omega)
            omega) hD4
        obtain ⟨g1, g2, g3, g4, gg, ee, g5, g6, g7, g8⟩ := r2
        rw [ev] at g7 g8
        obtain ⟨K11, hK11⟩ : ∃ K11, K11 = sI K8 39 i (nI (shr v d i k)) := ⟨_, rfl⟩
        have o11 : ∀ x, x ≠ 39 → K11 x = K8 x := fun x x1 => by rw [hK11, zs_ne x1]
        have hD11 : DV I h c v K11 d k ((vl h d k * h + (i + 1)) * h ^ q) := by
          refine ⟨fun x x1 x2 x3 x4 => by rw [o11 x x2]; exact g1 x x1 x2 x3 x4, fun s hs => by rw [o11 34 (by decide)]; exact g2 s hs, fun j hj => ?_, fun j hj => ?_, gg, ee, g5, by rw [o11 34 (by decide)]; exact g6, g7, fun w' j hj => by rw [o11 41 (by decide)]; exact g8 w' j hj⟩
          · rw [hK11, zs_eq]
            by_cases cj : j = i
            · subst cj
              rw [zs_same]
            · rw [zs_other cj, g3 j hj, es, if_neg (by omega), Nat.add_zero]
          · rw [o11 40 (by decide), g4 j (by omega), dj j hj]
        obtain ⟨K', z1, z2⟩ := ihz (i + 1) n K11 (by omega) (by omega) (by omega) (by omega) hD11
        refine ⟨K', ?_, z2⟩
        rw [← z1]
        have c1 : ¬ nI h ≤ nI i := nI_ge hi (by omega)
        have c2 : ¬ nI used < nI i := nI_nlt hiu (by omega)
        have l1 : ∀ kk : Int32 → Option HI, ldI ((sI K 40 k (nI i)) 39) 3 (nI i) kk = kk (nI (shr v d i k)) := fun kk => by
          rw [ldI_ok (by omega), zs_ne (by decide), k3 i (by omega)]
        have l2 : ∀ kk : Int32 → Option HI, ldI ((sI K 40 k (nI i)) 36) 8 (nI k) kk = kk (nI (v k)) := fun kk => by
          rw [ldI_ok (by omega), zs_ne (by decide), k1 36 (by decide) (by decide) (by decide) (by decide), hvk.1]
        have l3 : ∀ kk : Int32 → Option HI, ldI (K8 39) 3 (nI i) kk = kk (nI (shr v d i k + v k)) := fun kk => by
          rw [ldI_ok (by omega), g3 i (by omega), es, if_pos rfl]
        have l4 : ∀ kk : Int32 → Option HI, ldI (K8 36) 8 (nI k) kk = kk (nI (v k)) := fun kk => by
          rw [ldI_ok (by omega), g1 36 (by decide) (by decide) (by decide) (by decide), hvk.1]
        have n40 : ∀ kk : Option HI, inb 8 (nI k) kk = kk := fun kk => by rw [inb_ok (by omega)]
        have n39 : ∀ kk : Option HI, inb 3 (nI i) kk = kk := fun kk => by rw [inb_ok (by omega)]
        have t1 : (nI k).toNatClampNeg = k := nI_clamp (by omega)
        have t2 : (nI i).toNatClampNeg = i := nI_clamp (by omega)
        have ea : nI (shr v d i k) + nI (v k) = nI (shr v d i k + v k) := by rw [nI_add]
        have eb : nI (shr v d i k + v k) - nI (v k) = nI (shr v d i k) := by
          rw [pk_sub (by omega)]
          congr 1
          omega
        have A1 : nI i + 1 = nI (i + 1) := nI_1 i
        have A2 : nI k + 1 = nI (k + 1) := nI_1 k
        have A3 : nI used + 1 = nI (used + 1) := nI_1 used
        rw [hK4] at r1
        by_cases ci : i = used
        · have ci' : nI i = nI used := by rw [ci]
          rw [hu', if_pos ci] at r1
          simp only [f_X0_divide_L17, if_neg c1, if_neg c2, n40, bnd, t1, t2, l1, l2, ea, n39, jnt, if_pos ci', A2, A3, r1, Option.bind_some, l3, l4, eb, A1, hK11]
        · have ci' : ¬ nI i = nI used := fun w' => ci ((nI_eq (by omega) (by omega)).mp w')
          rw [hu', if_neg ci] at r1
          simp only [f_X0_divide_L17, if_neg c1, if_neg c2, n40, bnd, t1, t2, l1, l2, ea, n39, jnt, if_neg ci', A2, r1, Option.bind_some, l3, l4, eb, A1, hK11]
    have e34 : K 34 2 = nI c := by rw [hK.2.1 2 (by decide)]; exact h1
    have c1 : nI k < nI c := nI_lt hkc (by omega)
    have hN : vl h d k * h ^ (q + 1) = (vl h d k * h + 0) * h ^ q := by
      rw [Nat.pow_succ, Nat.mul_comm (h ^ q) h, ← Nat.mul_assoc, Nat.add_zero]
    rw [hN] at hK
    obtain ⟨K', a1, a2⟩ := loop (min h (used + 1)) 0 fu K (by omega) (by omega) (by omega) (by omega) hK
    have a1' : f_X0_divide_L17 (g_X0 fu r) fu K (nI k) (nI used) (nI h) 0 = some K' := a1
    refine ⟨K', ?_, a2⟩
    show f_X0_divide (g_X0 fu r) fu K (nI k) (nI used) (nI h) = some K'
    unfold f_X0_divide
    simp only [e34, if_pos c1, a1', Option.bind_some]
end
theorem fairest_C {I : HI} {R : HR} {t nh no nl fu h c : Nat} {m v : Nat → Nat} {x : Int32} (hC : CL I R 49 t nh no nl) (hL : LR (vw I t)) (hB : BW (sc I 49)) (hf : 1600 < fu) (hh : h = 2 ∨ h = 3) (hcc : c = cnt (pO (sc I 49) x) nl) (hm : m = fun k => nth (pO (sc I 49) x) k nl) (hv : v = fun k => woN (vw I t) (sc I 49) nl (m k)) (hv9 : ∀ k, k < c → v k ≤ 9999) : ∃ g e K, f_X0_fairest fu I R 49 x (nI h) = some (nI g, K) ∧ (∀ z, z < 34 ∨ 42 ≤ z → z < 55 ∨ 58 ≤ z → K z = I z) ∧ g ≤ 1048576 ∧ Bst h c v (h ^ c) g e ∧ K 34 2 = nI c ∧ (∀ k, k < c → K 35 k = nI (m k)) ∧ ∀ k, k < c → K 41 k = nI (e k) := by
  obtain ⟨g0, g1, g2, g3, g4, g5, g6, g7, g8, g9⟩ := id hC
  have hc8 : c ≤ 8 := by rw [hcc]; exact Nat.le_trans (cnt_le nl) g9
  obtain ⟨K1, q1, q2, q3, q4⟩ := collect_C (fu := fu) hC hL hB hf x (w := 1) (by decide) (val := fun l => if 1 = 0 then (sc I 49 1 l).toNatClampNeg else woN (vw I t) (sc I 49) nl l) rfl
  have q1' : f_X0_collect fu I R 49 x 1 = some K1 := q1
  rw [← hcc] at q3 q4
  have q5 : ∀ k, k < c → K1 35 k = nI (m k) ∧ K1 36 k = nI (v k) := fun k hk => by
    obtain ⟨z1, z2⟩ := q4 k hk
    rw [hv, hm]
    exact ⟨z1, z2⟩
  obtain ⟨K2, f1, f2, f3⟩ := fill_J (fu := fu) (a0 := 39) (n := 3) (v := 0) (by omega) (by decide) K1
  obtain ⟨K3, hK3⟩ : ∃ K3, K3 = sI K2 34 8 (nI 1048576) := ⟨_, rfl⟩
  have o3 : ∀ z, z ≠ 34 → z ≠ 39 → K3 z = K1 z := fun z z1 z2 => by rw [hK3, zs_ne z1, f2 z z2]
  have e3 : ∀ s, s ≠ 8 → K3 34 s = K1 34 s := fun s hs => by rw [hK3, zs_eq, zs_other hs, f2 34 (by decide)]
  have h34 : K3 34 2 = nI c := by rw [e3 2 (by decide)]; exact q3
  have hD : DV K3 h c v K3 (fun _ => 0) 0 (vl h (fun _ => 0) 0 * h ^ c) := by
    have e0 : vl h (fun _ => 0) 0 * h ^ c = 0 := Nat.zero_mul _
    rw [e0]
    refine ⟨fun _ _ _ _ _ => rfl, fun _ _ => rfl, fun j hj => ?_, fun j hj => absurd hj (by omega), 1048576, fun _ => 0, Nat.le_refl _, by rw [hK3, zs_eq, zs_same], ⟨fun d _ w => absurd w (by omega), Or.inl ⟨rfl, rfl⟩⟩, fun w => absurd w (by omega)⟩
    rw [hK3, zs_ne (by decide), f3 j hj]
    rfl
  obtain ⟨K', a1, a2⟩ := divide_C (I := K3) (h := h) (c := c) (v := v) (fu := fu) hh hc8 (fun k hk => ⟨by rw [o3 36 (by decide) (by decide)]; exact (q5 k hk).2, hv9 k hk⟩) h34 (by omega) c 0 12 0 0 K3 (fun _ => 0) (by omega) (by omega) (fun j hj => absurd hj (by omega)) (by omega) (fun j hj => absurd hj (by omega)) hD
  obtain ⟨k1, k2, k3, k4, g, e, k5, k6, k7, k8⟩ := a2
  have eN : (vl h (fun _ => 0) 0 + 1) * h ^ c = h ^ c := by
    show (0 + 1) * h ^ c = h ^ c
    rw [Nat.zero_add, Nat.one_mul]
  rw [eN] at k7 k8
  have hpos : 0 < h ^ c := Nat.pow_pos (by omega)
  have a1' : g_X0 fu 12 0 (sI K2 34 8 1048576) 0 0 (nI h) = some K' := by rw [hK3] at a1; exact a1
  refine ⟨g, e, K', ?_, fun z z1 z2 => ?_, k5, k7, ?_, fun k hk => ?_, k8 hpos⟩
  · unfold f_X0_fairest
    simp only [q1', f1, bnd, a1', Option.bind_some, k6]
  · rw [k1 z (by omega) (by omega) (by omega) (by omega), o3 z (by omega) (by omega), q2 z (by omega) z2]
  · rw [k2 2 (by decide)]; exact h34
  · rw [k1 35 (by decide) (by decide) (by decide) (by decide), o3 35 (by decide) (by decide)]
    exact (q5 k hk).1
