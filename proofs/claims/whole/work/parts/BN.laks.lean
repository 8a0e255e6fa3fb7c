/-! a lake told, over all that is told so far -/
theorem oL5 : lN (ownL 5) = (6840691 : Int64) := by
  rw [show ownL 5 = 6840691 from by decide +kernel]
  rfl
theorem oL6 : lN (ownL 6) = (26990 : Int64) := by
  rw [show ownL 6 = 26990 from by decide +kernel]
  rfl
theorem oL7 : lN (ownL 7) = (28518 : Int64) := by
  rw [show ownL 7 = 28518 from by decide +kernel]
  rfl
theorem room_F {I : HI} {t nl h fu : Nat} (h3 : I t 3 = nI nl) (hn : nl ≤ 8) (hh : h < 8) (hf : 100 < fu) : f_X2_roomAtFirst fu I t (nI h) = some (rmF (I (t + 4)) (I (t + 6)) (I (t + 7)) h nl) := by
  have lp : ∀ m j, j + m = nl → ∀ n, m < n → f_X2_roomAtFirst_L9 n I t (nI h) (rmF (I (t + 4)) (I (t + 6)) (I (t + 7)) h j) (nI j) = some (rmF (I (t + 4)) (I (t + 6)) (I (t + 7)) h nl) := by
    intro m
    induction m with
    | zero =>
      intro j hj n hm
      obtain ⟨n, rfl⟩ : ∃ z, n = z + 1 := ⟨n - 1, by omega⟩
      have z : nI nl ≤ nI j := (nI_leI (by omega) (by omega)).mpr (by omega)
      simp only [f_X2_roomAtFirst_L9, h3, if_pos z]
      rw [show j = nl by omega]
    | succ m ih =>
      intro j hj n hm
      obtain ⟨n, rfl⟩ : ∃ z, n = z + 1 := ⟨n - 1, by omega⟩
      have z : ¬ nI nl ≤ nI j := fun w => by
        have := (nI_leI (a := nl) (b := j) (by omega) (by omega)).mp w
        omega
      have A1 : nI j + 1 = nI (j + 1) := nI_1 j
      have l7 : ∀ (k : Int32 → Option Int32), ldI (I (t + 7)) 8 (nI j) k = k (I (t + 7) j) := fun k => by rw [ldI_ok (by omega)]
      have l6 : ∀ (k : Int32 → Option Int32), ldI (I (t + 6)) 8 (nI j) k = k (I (t + 6) j) := fun k => by rw [ldI_ok (by omega)]
      have r := ih (j + 1) (by omega) n (by omega)
      simp only [f_X2_roomAtFirst_L9, h3, if_neg z, jnt, l7, l6, bnd, A1]
      rw [← r]
      show _ = f_X2_roomAtFirst_L9 n I t (nI h) (rmF (I (t + 4)) (I (t + 6)) (I (t + 7)) h j - (if I (t + 7) j = nI h then I (t + 6) j else 0)) (nI (j + 1))
      by_cases q : I (t + 7) j = nI h
      · rw [if_pos q, if_pos q]
      · rw [if_neg q, if_neg q, Int32.sub_zero]
  unfold f_X2_roomAtFirst
  have r := lp nl 0 (by omega) fu (by omega)
  have r' : f_X2_roomAtFirst_L9 fu I t (nI h) (I (t + 4) h) 0 = some (rmF (I (t + 4)) (I (t + 6)) (I (t + 7)) h nl) := r
  rw [ldI_ok (by omega), r']
  rfl
section
variable {I K J J' : HI} {M M' : HL} {t b nh no nl cj : Nat}
theorem lak_told {x : Int32} {y : Int64} {v q o z : Nat} (hT : TOLD I J M t b nh no nl cj) (hnl : nl < 8) (hx : NR x y) (hv : 1 ≤ v ∧ v ≤ 999) (hq : q < nh) (hoo : o < no) (hz : rmF (I (t + 4)) (I (t + 6)) (I (t + 7)) q nl = nI z) (hz2 : z ≤ 999 ∧ v ≤ z) (k0 : ∀ s, s ≠ 3 → K t s = I t s) (k1 : K t 3 = nI (nl + 1)) (kn : K (t + 3) nl = x) (ko : ∀ i, i ≠ nl → K (t + 3) i = I (t + 3) i) (k6 : K (t + 6) nl = nI v) (k6o : ∀ i, i ≠ nl → K (t + 6) i = I (t + 6) i) (k7 : K (t + 7) nl = nI q) (k7o : ∀ i, i ≠ nl → K (t + 7) i = I (t + 7) i) (k8 : K (t + 8) nl = nI o) (k8o : ∀ i, i ≠ nl → K (t + 8) i = I (t + 8) i) (kx : ∀ a, 1 ≤ a → a ≤ 12 → a ≠ 3 → ¬ (6 ≤ a ∧ a ≤ 8) → K (t + a) = I (t + a)) (j2 : J' 106 b = nI (nl + 1)) (j7 : J' 107 (8 * b + nl) = nI v) (j7o : ∀ i, i ≠ 8 * b + nl → J' 107 i = J 107 i) (j8 : J' 108 (8 * b + nl) = nI q) (j8o : ∀ i, i ≠ 8 * b + nl → J' 108 i = J 108 i) (j9 : J' 109 (8 * b + nl) = nI o) (j9o : ∀ i, i ≠ 8 * b + nl → J' 109 i = J 109 i) (jx : ∀ x, 102 ≤ x → x ≤ 116 → ¬ (106 ≤ x ∧ x ≤ 109) → J' x = J x) (j32 : J' 100 32 = J 100 32) (j33 : J' 100 33 = J 100 33) (mn : M' 119 (8 * b + nl) = y) (mo : ∀ i, i ≠ 8 * b + nl → M' 119 i = M 119 i) (m7 : M' 117 = M 117) (m8 : M' 118 = M 118) : TOLD K J' M' t b nh no (nl + 1) cj := by
  obtain ⟨a1, a2, a3, a4, a5, a6, a7, a8⟩ := hT
  have e := kx
  have f := jx
  refine ⟨?_, ?_, HPr_c a3 (fun i _ => by rw [e 4 (by decide) (by decide) (by decide) (by decide)]) (fun i _ => by rw [e 5 (by decide) (by decide) (by decide) (by decide)]) (fun i _ => by rw [f 104 (by decide) (by decide) (by decide)]), fun j hj => ?_, fun h hh => ?_, DBr_c a6 (fun i _ => by rw [e 9 (by decide) (by decide) (by decide) (by decide)]) (fun a c _ _ => by rw [f 110 (by decide) (by decide) (by decide)]), NCr_c a7 (k0 4 (by decide)) (k0 5 (by decide)) (by rw [f 111 (by decide) (by decide) (by decide)]) (by rw [f 112 (by decide) (by decide) (by decide)]), RUr_c a8 j32 (k0 16 (by decide)) (fun x hx => e x (by omega) (by omega) (by omega) (by omega)) (fun x x1 x2 => f x (by omega) x2 (by omega))⟩
  · obtain ⟨⟨p1, p2, p3⟩, ⟨q1, q2, q3⟩, ⟨r1, r2, r3⟩, d1, d2, d3, d4, d5⟩ := a1
    refine ⟨⟨(k0 1 (by decide)).trans p1, by rw [f 102 (by decide) (by decide) (by decide)]; exact p2, p3⟩, ⟨(k0 2 (by decide)).trans q1, by rw [f 105 (by decide) (by decide) (by decide)]; exact q2, q3⟩, ⟨k1, j2, by omega⟩, fun i hi => by rw [e 1 (by decide) (by decide) (by decide) (by decide), m7]; exact d1 i hi, fun i hi => by rw [e 2 (by decide) (by decide) (by decide) (by decide), m8]; exact d2 i hi, fun i hi => ?_, j33.trans d4, d5⟩
    by_cases q : i = nl
    · rw [q, kn, mn]
      exact hx
    · rw [ko i q, mo _ (by omega)]
      exact d3 i (by omega)
  · obtain ⟨⟨p1, p2, p3⟩, ⟨q1, q2, q3⟩, ⟨r1, r2⟩, d1, d2⟩ := a2
    refine ⟨⟨(k0 1 (by decide)).trans p1, by rw [f 102 (by decide) (by decide) (by decide)]; exact p2, p3⟩, ⟨k1, j2, by omega⟩, ⟨j33.trans r1, r2⟩, fun i hi => by rw [e 4 (by decide) (by decide) (by decide) (by decide), f 103 (by decide) (by decide) (by decide)]; exact d1 i hi, fun i hi => ?_⟩
    by_cases q : i = nl
    · rw [q, k6, k7, j7, j8]
      exact ⟨rfl, rfl⟩
    · rw [k6o i q, k7o i q, j7o _ (by omega), j8o _ (by omega)]
      exact d2 i (by omega)
  · by_cases w : j = nl
    · rw [w, k6, k7, k8, j9]
      exact ⟨rfl, ⟨v, hv, rfl⟩, ⟨q, hq, rfl⟩, o, hoo, rfl⟩
    · rw [k6o j w, k7o j w, k8o j w, j9o _ (by omega)]
      exact a4 j (by omega)
  · have hn8 := a1.1.2.2
    have ec := rmF_c (hd := I (t + 4)) (hs := I (t + 6)) (ls := I (t + 7)) (hd' := K (t + 4)) (hs' := K (t + 6)) (ls' := K (t + 7)) (h := h) nl (by rw [e 4 (by decide) (by decide) (by decide) (by decide)]) (fun i hi => ⟨k6o i (by omega), k7o i (by omega)⟩)
    show ∃ x, x ≤ 999 ∧ rmF (K (t + 4)) (K (t + 6)) (K (t + 7)) h nl - (if K (t + 7) nl = nI h then K (t + 6) nl else 0) = nI x
    rw [ec, k7, k6]
    by_cases w : h = q
    · subst w
      rw [if_pos rfl, hz]
      exact ⟨z - v, by omega, pk_sub (by omega)⟩
    · rw [if_neg (fun u => w ((nI_eq (a := q) (b := h) (by omega) (by omega)).mp u).symm), Int32.sub_zero]
      exact a5 h hh
theorem lak_eq {fu : Nat} {J1 J2 J3 J4 J5 J6 J7 J8 : HI} {M1 M2 M3 M4 M5 M6 M7 M8 : HL} {y : Int64} {v w q o : Int32} (h33 : J 100 33 = nI b) (hb : b < 2) (h106 : J 106 b = nI nl) (hnl : nl < 8) (cn : f_X12_counts fu J M 0 = some (1, J1, M1)) (g33 : J1 100 33 = nI b) (g106 : J1 106 b = nI nl) (s1 : f_X12_fresh fu J1 M1 = some (y, J2, M2)) (s2 : f_X12_must_ fu J2 (sL M2 119 (8 * b + nl) y) 6840691 = some (J3, M3)) (s3 : f_X12_number fu J3 M3 1 999 = some (v, J4, M4)) (s4 : f_X12_must_ fu (sI J4 107 (8 * b + nl) v) M4 26990 = some (J5, M5)) (s5 : J5 107 (8 * b + nl) = v) (s6 : f_X12_without fu J5 v = some w) (s7 : f_X12_askedBut fu J5 M5 0 w = some (q, J6, M6)) (s8 : f_X12_must_ fu (sI J6 108 (8 * b + nl) q) M6 28518 = some (J7, M7)) (s9 : f_X12_askedBut fu J7 M7 1 0 = some (o, J8, M8)) (p33 : J8 100 33 = nI b) (p106 : J8 106 b = nI nl) : f_X12_laking fu J M = some (if J8 100 8 = 0 then sI (sI J8 109 (8 * b + nl) o) 106 b (nI (nl + 1)) else sI J8 109 (8 * b + nl) o, M8) := by
  have n3 : ¬ (1 : Int32) = 0 := by decide
  have n8 : ¬ nI nl = (8 : Int32) := fun w => by
    have := (nI_eq (a := nl) (b := 8) (by omega) (by decide)).mp w
    omega
  have l5 : ∀ (k : Int32 → Option (HI × HL)), ldI (J 106) 2 (nI b) k = k (nI nl) := fun k => by rw [ldI_ok (by omega), h106]
  have l6 : ∀ (k : Int32 → Option (HI × HL)), ldI (J1 106) 2 (nI b) k = k (nI nl) := fun k => by rw [ldI_ok (by omega), g106]
  have ix : 8 * nI b + nI nl = nI (8 * b + nl) := by rw [zq8, pk_mul, nI_add]
  have ib : ∀ q : Option (HI × HL), inb 16 (nI (8 * b + nl)) q = q := fun q => by rw [inb_ok (by omega)]
  have lb : ∀ (k : Int32 → Option (HI × HL)), ldI (J5 107) 16 (nI (8 * b + nl)) k = k v := fun k => by rw [ldI_ok (by omega), s5]
  have tc : (nI (8 * b + nl)).toNatClampNeg = 8 * b + nl := nI_clamp (by omega)
  have A1 : nI nl + 1 = nI (nl + 1) := nI_1 nl
  have te : (nI b).toNatClampNeg = b := nI_clamp (by omega)
  have id : ∀ q : Option (HI × HL), inb 2 (nI b) q = q := fun q => by rw [inb_ok (by omega)]
  have e8 : (sI J8 109 (8 * b + nl) o) 100 = J8 100 := zs_ne (by decide)
  have e2 : (sI J8 109 (8 * b + nl) o) 106 = J8 106 := zs_ne (by decide)
  have l7 : ∀ (k : Int32 → Option (HI × HL)), ldI (J8 106) 2 (nI b) k = k (nI nl) := fun k => by rw [ldI_ok (by omega), p106]
  unfold f_X12_laking
  simp only [h33, l5, if_neg n8, jnt, cn, Option.bind_some, if_neg n3, g33, l6, ix, bnd, s1, ib, tc, s2, s3, s4, lb, s6, s7, s8, s9, e8, e2, p33, l7, id, te, A1]
  by_cases q : J8 100 8 = 0
  · rw [if_pos q, if_pos q]
  · rw [if_neg q, if_neg q]
end
