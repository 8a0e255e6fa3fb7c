/-! lowland -/
theorem lowl_eq {fu : Nat} {I : HI} {R : HR} : f_X11_lowland fu I R = (gr (okLd (R 1 3)) <| (f_X7_readAll fu (sI I 1 1 0) R (I 1 1) (R 1 3)).bind fun x3 =>
    if x3.1 = 0 then
      bnd (sI x3.2.1 1 5 (x3.2.1 7 7)) fun I4 =>
      bnd (sI I4 1 6 (I4 7 8)) fun I5 =>
      (f_X11_refuse I5 1).bind fun x6 =>
      some (x6.1, x6.2, x3.2.2)
    else lowW fu x3.2.1 x3.2.2) := rfl
theorem low_R {fu n t b nh no nl : Nat} {I J : HI} {M : HL} {R : HR} (hf : 2000 < fu) (h : RelB n I R J M t b nh no nl) : ∃ (r : Int32) (I' : HI) (R' : HR) (J' : HI) (M' : HL), f_X11_lowland fu I R = some (r, I', R') ∧ f_X12_lowland fu J M = some (r, J', M') ∧ Rel (n + 6) I' R' J' M' := by
  have h' := h
  obtain ⟨⟨T, t1, t2, t3, t4⟩, _, _, _, _, _, d1, _, _⟩ := h'
  have ht := d1.2.2.1.2.2.1
  have hb := d1.2.2.2.2.1.1.2
  have h13 := d1.2.2.2.2.1.1.1
  have r2 : R 1 2 = t := d1.1
  have r3 : R 1 3 = 147 - t := d1.2.1
  obtain ⟨td, hd⟩ : ∃ td, td = 147 - t := ⟨_, rfl⟩
  obtain ⟨b', hb'⟩ : ∃ b', b' = 1 - b := ⟨_, rfl⟩
  have hdd : td = 67 ∨ td = 80 := by omega
  have hod : okLd td = true := by rcases hdd with w | w <;> rw [w] <;> rfl
  rw [← hd] at r3
  have tpc : TPc (sI I 1 1 0) J (fun k => (I 2 k).toNatClampNeg) := fun k hk => by
    obtain ⟨w1, x, w2, w3⟩ := t4 k hk
    have e : (I 2 k).toNatClampNeg = x := by rw [w3]; exact nI_clamp (by omega)
    show (I 2 k).toNatClampNeg < 256 ∧ (sI I 1 1 0) 2 k = nI ((I 2 k).toNatClampNeg) ∧ J 101 k = nI ((I 2 k).toNatClampNeg)
    rw [e, zs_ne (by decide), ← w1]
    exact ⟨w2, w3, w3⟩
  obtain ⟨K, Jn, Mn, k, at', e, a1, a2, a3, a4, a5, a6, a7, a8, a9, a10, a11⟩ := begC_R (fu := fu) (t := td) (b := b') (T := T) (I := sI I 1 1 0) (J := J) (M := M) (R := R) hf hod hdd (by omega) t1 t3 tpc (by rw [hb', show 1 - (1 - b) = b by omega]; exact h13)
  have r62 : (sR R 6 2 td) 6 2 = td := zR_eq
  have rx : ∀ x, x ≠ 6 → (sR R 6 2 td) x = R x := fun x hx => zR_ne hx
  have oA := all_R (tp := fun k => (I 2 k).toNatClampNeg) (sz := T) (fu := fu) (t := td) (b := b') hod hdd hf 80 0 (by decide) K Jn Mn (sR R 6 2 td) k at' e 0 0 0 0 fu fu a3 a4 (Nat.zero_le _) a5 (fun w => absurd w (by decide)) r62 (by omega) (by omega)
  rcases oA with ⟨K2, R', N, J2, M2, k2, at2, e2, nh2, no2, nl2, cj2, o1, o2, o3, o4, ⟨o5, o6, o7⟩, ⟨o8, o9⟩, o10, o11⟩ | ⟨K2, R', N, J2, M2, f, pl, o2, o3, o4, ⟨o5, o6, o7⟩, o8, o9, o10, o11, o12⟩
  · have r' : ∀ x, x ≠ 6 → x ≠ 8 → R' x = R x := fun x x1 x2 => by rw [o4 x x2, rx x x1]
    have q2 : R' 1 2 = t := by rw [r' 1 (by decide) (by decide)]; exact r2
    have q3 : R' 1 3 = td := by rw [r' 1 (by decide) (by decide)]; exact r3
    obtain ⟨I', R'', g1, g2, g3, g4, g5, g6, g7, g8, g9⟩ := lowG_C (fu := fu) (by omega) ht hd q2 q3 o8 o11.1.2.2.1.1 o11.1.2.2.1.2.2
    obtain ⟨J', m1, m2, m3, m4, m5, m6, m7, m8, m9, m10⟩ := lowG_M (fu := fu) (M' := M2) (r := nI N) (by omega) o11.1.2.2.2.2.2.2.2 o10.2.2.1 (o9.trans a11) o11.1.2.2.2.2.2.2.1 o11.1.2.1.2.1 o11.1.2.2.1.2.1 o11.1.2.1.2.2 o11.1.2.2.1.2.2
    have rel := rel_new h hd hb' o11 (a6.trans o5) (fun x i x1 x2 => (o6.1 x i x1 x2).trans (a8 x i x1 x2)) (fun s hs => (o6.2 s (by omega)).trans (a9 s hs)) ((o6.2 1 (by decide)).trans a10) (a7.trans o7) g2 g3 g4 g5 g6 g7 g8 g9 m2 m3 m4 m5 m6 m7 m8 m9 m10
    refine ⟨nI N, I', R'', J', M2, ?_, ?_, td, b', nh2, no2, nl2, rel⟩
    · have n3 : ¬ (1 : Int32) = 0 := by decide
      rw [lowl_eq, r3, zg_ok hod, t2, a1, o2]
      simp only [Option.bind_some, lowC, Sum.elim_inr, gz_1, if_neg n3]
      exact g1
    · rw [a2, o3]
      simp only [Option.bind_some]
      exact m1
  · have r' : ∀ x, x ≠ 6 → x ≠ 8 → R' x = R x := fun x x1 x2 => by rw [o4 x x2, rx x x1]
    have hK : FrC (147 - t) (sI I 1 1 0) K2 := by rw [← hd]; exact a6.trans o5
    have hJ : ∀ x i, x ≠ 100 → ¬ inBk (1 - b) x i → J2 x i = J x i := by rw [← hb']; exact fun x i x1 x2 => (o6.1 x i x1 x2).trans (a8 x i x1 x2)
    have hM : FrL (1 - b) M M2 := by rw [← hb']; exact a7.trans o7
    have rel := low_bad (f := f) (pl := pl) (R' := R') h hK r' hJ (fun s hs => (o6.2 s (by omega)).trans (a9 s hs)) ((o6.2 1 (by decide)).trans a10) hM
    refine ⟨-1, _, R', _, M2, ?_, ?_, t, b, nh, no, nl, rel⟩
    · rw [lowl_eq, r3, zg_ok hod, t2, a1, o2]
      have e1 : (sI K2 1 5 (nI f)) 7 8 = nI pl := by rw [zs_ne (by decide)]; exact o9
      have ib : ∀ q : Option (Int32 × HI), inb 6 1 q = q := fun q => inb_ok (n := 6) (a := 1) (by decide)
      have t1 : (1 : Int32).toNatClampNeg = 1 := by decide
      have l5 : ∀ (k : Int32 → Option (Int32 × HI)), ldI ((sI (sI K2 1 5 (nI f)) 1 6 (nI pl)) 5) 6 1 k = k (K2 5 1) := fun k => by
        rw [zs_ne (by decide), zs_ne (by decide)]
        exact ldI_ok (n := 6) (a := 1) (by decide)
      simp only [Option.bind_some, lowC, Sum.elim_inl, if_true, bnd, o8, e1, f_X11_refuse, l5, ib, t1]
    · rw [a2, o3]
      have e1 : (sI J2 100 10 (nI f)) 100 9 = nI pl := by rw [zs_eq, zs_other (by decide)]; exact o11
      have e2 : (sI (sI J2 100 10 (nI f)) 100 11 (nI pl)) 100 8 = nI f := by rw [zs_eq, zs_other (by decide), zs_eq, zs_other (by decide)]; exact o10
      have z : ¬ nI f ≤ 0 := nI_ge (b := f) (a := 0) (by have := o12.1; omega) (by have := o12.1; omega)
      have ib : ∀ q : Option (Int32 × HI), inb 6 1 q = q := fun q => inb_ok (n := 6) (a := 1) (by decide)
      have t1 : (1 : Int32).toNatClampNeg = 1 := by decide
      have l5 : ∀ (k : Int32 → Option (Int32 × HI)), ldI ((sI (sI J2 100 10 (nI f)) 100 11 (nI pl)) 126) 6 1 k = k (J2 126 1) := fun k => by
        rw [zs_ne (by decide), zs_ne (by decide)]
        exact ldI_ok (n := 6) (a := 1) (by decide)
      simp only [Option.bind_some, lowT, bnd, o10, e1, e2, if_neg z, f_X12_refuses, l5, ib, t1]
theorem eq_lowland : Eq_lowland Rel := by
  intro n I R J M _ h
  obtain ⟨t, b, nh, no, nl, h⟩ := h
  exact low_R (by decide) h
