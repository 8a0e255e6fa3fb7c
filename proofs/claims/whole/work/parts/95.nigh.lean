/-! rooms as numbers; nights, chance -/
def rs (S : HI) (h n : Nat) : Nat := smN (fun l => if S 2 l = nI h then (S 1 l).toNatClampNeg else 0) n
theorem smN_mono {f g : Nat → Nat} : ∀ n, (∀ i, i < n → f i ≤ g i) → smN f n ≤ smN g n := by
  intro n
  induction n with
  | zero => intro _; exact Nat.le_refl 0
  | succ n ih =>
    intro h
    have h1 := ih (fun i hi => h i (by omega))
    have h2 := h n (by omega)
    show smN f n + f n ≤ smN g n + g n
    omega
theorem smN_upd {f g : Nat → Nat} {a u : Nat} (hg : g a = u) (ho : ∀ i, i ≠ a → g i = f i) : ∀ n, (a < n → smN g n + f a = smN f n + u) ∧ (n ≤ a → smN g n = smN f n) := by
  intro n
  induction n with
  | zero => exact ⟨fun h => absurd h (by omega), fun _ => rfl⟩
  | succ n ih =>
    have e1 : smN g (n + 1) = smN g n + g n := rfl
    have e2 : smN f (n + 1) = smN f n + f n := rfl
    rw [e1, e2]
    by_cases c : n = a
    · subst c
      have := ih.2 (Nat.le_refl _)
      exact ⟨fun _ => by omega, fun h => absurd h (by omega)⟩
    · have := ho n c
      exact ⟨fun h => by have := ih.1 (by omega); omega, fun h => by have := ih.2 (by omega); omega⟩
theorem rmZ {D S : HI} {h H : Nat} (hB : ∀ l, l < 8 → ∃ x, x ≤ 999 ∧ S 1 l = nI x) (hD : D 4 h = nI H) (hH : H ≤ 999) : ∀ n, n ≤ 8 → (rmI D S h n).toInt = (H : Int) - rs S h n ∧ rs S h n ≤ 999 * n := by
  intro n
  induction n with
  | zero =>
    intro _
    refine ⟨?_, Nat.le_refl 0⟩
    show (D 4 h).toInt = (H : Int) - ((0 : Nat) : Int)
    rw [hD, nI_toInt (by omega)]
    omega
  | succ n ih =>
    intro hn
    obtain ⟨i1, i2⟩ := ih (by omega)
    obtain ⟨x, hx, ex⟩ := hB n (by omega)
    have e1 : rs S h (n + 1) = rs S h n + (if S 2 n = nI h then (S 1 n).toNatClampNeg else 0) := rfl
    have e2 : rmI D S h (n + 1) = rmI D S h n - (if S 2 n = nI h then S 1 n else 0) := rfl
    rw [e1, e2]
    by_cases c : S 2 n = nI h
    · rw [if_pos c, if_pos c, ex, nI_clamp (by omega), Int32.toInt_sub, i1, nI_toInt (by omega), Int.bmod_eq_of_le (by omega) (by omega)]
      omega
    · rw [if_neg c, if_neg c, Int32.sub_zero, i1]
      omega
theorem SW.room {D S : HI} {nh no nl h H : Nat} (hS : SW D S nh no nl) (hn : nl ≤ 8) (hh : h < nh) (hD : D 4 h = nI H) (hH : H ≤ 999) : rs S h nl ≤ H ∧ rmI D S h nl = nI (H - rs S h nl) := by
  obtain ⟨x, x1, x2⟩ := hS.2.2.2 h hh
  obtain ⟨e1, e2⟩ := rmZ hS.bw.1 hD hH nl hn
  rw [x2, nI_toInt (by omega)] at e1
  refine ⟨by omega, ?_⟩
  rw [x2]
  congr 1
  omega
theorem room_mk {D S : HI} {nl h H : Nat} (hB : ∀ l, l < 8 → ∃ x, x ≤ 999 ∧ S 1 l = nI x) (hn : nl ≤ 8) (hD : D 4 h = nI H) (hH : H ≤ 999) (hr : rs S h nl ≤ H) : rmI D S h nl = nI (H - rs S h nl) := by
  obtain ⟨e1, e2⟩ := rmZ hB hD hH nl hn
  apply Int32.toInt_inj.mp
  rw [e1, nI_toInt (by omega)]
  omega
/-- lakes of a scene, without the rooms -/
def SWl (S : HI) (nh no nl : Nat) : Prop := (∃ n, n ≤ 9999 ∧ S 0 1 = nI n) ∧ (∀ l, l < 8 → ∃ x, x ≤ 999 ∧ S 1 l = nI x ∧ (x = 0 → S 2 l = mI 1 ∧ S 3 l = mI 1) ∧ (0 < x → l < nl ∧ (∃ h, h < nh ∧ S 2 l = nI h) ∧ ∃ o, o < no ∧ S 3 l = nI o)) ∧ (∀ k, k < 36 → ∃ x, x ≤ 9999 ∧ S 4 k = nI x)
theorem SW.mk' {D S S' : HI} {nh no nl : Nat} (h : SWl S' nh no nl) (hS : SW D S nh no nl) (hD : LWf D nh) (hn : nl ≤ 8) (hr : ∀ h H, h < nh → D 4 h = nI H → H ≤ 999 → rs S h nl ≤ H → rs S' h nl ≤ H) : SW D S' nh no nl := by
  refine ⟨h.1, h.2.1, h.2.2, fun h' hh => ?_⟩
  obtain ⟨⟨H, H1, H2⟩, -⟩ := hD.2.2 h' hh
  have hb : ∀ l, l < 8 → ∃ x, x ≤ 999 ∧ S' 1 l = nI x := fun l hl => by
    obtain ⟨x, x1, x2, _⟩ := h.2.1 l hl
    exact ⟨x, x1, x2⟩
  exact ⟨_, by omega, room_mk hb hn H2 H1 (hr h' H hh H2 H1 (hS.room hn hh H2 H1).1)⟩
theorem SW.lak {D S : HI} {nh no nl : Nat} (h : SW D S nh no nl) : SWl S nh no nl := ⟨h.1, h.2.1, h.2.2.1⟩
theorem SW.night {D S S' : HI} {nh no nl n : Nat} {lk : Nat → Nat} (hS : SW D S nh no nl) (hD : LWf D nh) (hn : nl ≤ 8) (h0 : n ≤ 9999 ∧ S' 0 1 = nI n) (h1 : ∀ a k, 1 ≤ a → a ≤ 4 → S' a k = ntS S lk nl a k) : SW D S' nh no nl := by
  refine SW.mk' ⟨⟨n, h0⟩, fun l hl => ?_, fun k hk => ?_⟩ hS hD hn (fun h H hh e1 e2 e3 => Nat.le_trans (smN_mono nl (fun l hl => ?_)) e3)
  · obtain ⟨x, x1, x2, x3, x4⟩ := hS.2.1 l hl
    rw [h1 1 l (by omega) (by omega), h1 2 l (by omega) (by omega), h1 3 l (by omega) (by omega)]
    unfold ntS
    simp only [if_true, Nat.reduceEqDiff, if_false, true_or, or_true, x2, nI_clamp (show x < 2 ^ 31 by omega)]
    by_cases c : l < nl
    · rw [if_pos c]
      by_cases c2 : x - lk l = 0
      · rw [if_pos ⟨c, c2⟩, if_pos ⟨c, c2⟩]
        exact ⟨x - lk l, by omega, rfl, fun _ => ⟨rfl, rfl⟩, fun q => absurd q (by omega)⟩
      · rw [if_neg (fun q => c2 q.2), if_neg (fun q => c2 q.2)]
        exact ⟨x - lk l, by omega, rfl, fun q => absurd q c2, fun q => x4 (by omega)⟩
    · rw [if_neg c, if_neg (fun q => c q.1), if_neg (fun q => c q.1)]
      exact ⟨x, x1, rfl, x3, x4⟩
  · rw [h1 4 k (by omega) (by omega)]
    unfold ntS
    simp only [Nat.reduceEqDiff, if_false, or_self]
    exact hS.2.2.1 k hk
  · obtain ⟨x, x1, x2, x3, x4⟩ := hS.2.1 l (by omega)
    rw [h1 1 l (by omega) (by omega), h1 2 l (by omega) (by omega)]
    unfold ntS
    simp only [if_true, Nat.reduceEqDiff, if_false, true_or, or_true, x2, nI_clamp (show x < 2 ^ 31 by omega), if_pos hl]
    by_cases c2 : x - lk l = 0
    · rw [if_pos (show l < nl ∧ x - lk l = 0 from ⟨hl, c2⟩), c2, nI_clamp (show 0 < 2 ^ 31 by decide)]
      split <;> omega
    · rw [if_neg (show ¬ (l < nl ∧ x - lk l = 0) from fun q => c2 q.2), nI_clamp (show x - lk l < 2 ^ 31 by omega)]
      split <;> omega
section
variable {I : HI} {R : HR} {J : HI} {M : HL} {t b nh no nl fu : Nat}
/-- a night of now -/
theorem pass_now (h : LC I R J 49 0 t b nh no nl) (hS : SW (vw I t) (sc I 49) nh no nl) (hD : LWf (vw I t) nh) (hf : 1600 < fu) {d n : Nat} (hd : d ≤ 1) (hn : n < 9999) (en : I 49 1 = nI n) : ∃ W I' J' M', f_X9_passNight fu I R 49 (nI d) = some (W, I') ∧ f_X12_passes fu J M (nI 0) (nI d) = some (W, J', M') ∧ (∀ x, x < 49 ∨ 58 ≤ x → I' x = I x) ∧ PO 0 J J' ∧ OtL M M' ∧ I' 49 1 = nI (n + 1) ∧ LC I' R J' 49 0 t b nh no nl ∧ SW (vw I t) (sc I' 49) nh no nl := by
  obtain ⟨W, I', J', M', a1, a2, a3, a4, a5, a6, a7, a8⟩ := pass_LC (M := M) h hf hd hn en
  obtain ⟨W2, I2, J2, M2, b0, b1, b2, b3, b4, b5, b6, b7, b8, b9⟩ := pass_L (M := M) h hf hd (by omega) en
  have hh := a1.symm.trans b1
  injection hh with hh
  have e2 := (Prod.mk.inj hh).2
  subst e2
  refine ⟨nI W, I', J', M', a1, a2, a3, a4, a5, a6, a7, ?_⟩
  exact SW.night (lk := fun l => lkN (vw I t) (sc I 49) nl l d) hS hD h.1.2.2.2.2.2.2.2.2.2 ⟨by omega, a6⟩ (fun a k h1 h2 => by
    have e : sc I' 49 a k = I' (49 + a) k := by
      unfold sc
      rw [if_pos (by omega)]
    rw [e]
    exact b8 a k h1 h2)
theorem PO.trans {J' J'' : HI} {v : Nat} (h : PO v J J') (h' : PO v J' J'') : PO v J J'' := ⟨fun x hx => (h'.1 x hx).trans (h.1 x hx), fun k hk => ⟨(h'.2.1 k hk).1.trans (h.2.1 k hk).1, (h'.2.1 k hk).2.1.trans (h.2.1 k hk).2.1, (h'.2.1 k hk).2.2.trans (h.2.1 k hk).2.2⟩, fun w hw => (h'.2.2 w hw).trans (h.2.2 w hw)⟩
theorem PO.refl {v : Nat} : PO v J J := ⟨fun _ _ => rfl, fun _ _ => ⟨rfl, rfl, rfl⟩, fun _ _ => rfl⟩
end
theorem nights_loop {fu t b nh no nl m : Nat} {R : HR} (hf : 1600 < fu) : ∀ (k n i : Nat) (I J : HI) (M : HL) (w : Int32), LC I R J 49 0 t b nh no nl → SW (vw I t) (sc I 49) nh no nl → LWf (vw I t) nh → I 49 1 = nI (m + i) → m + i + k ≤ 9999 → i + k < 2 ^ 30 → k < n → ∃ W I' J' M', f_X11_nights_L27 fu n I R (nI (i + k)) w (nI i) = some (W, I') ∧ f_X12_nights_L23 fu n J M (nI (i + k)) w (nI i) = some (W, J', M') ∧ SEp nl (sc I' 49) (lv J' 0) ∧ SW (vw I t) (sc I' 49) nh no nl ∧ (∀ x, x < 49 ∨ 58 ≤ x → I' x = I x) ∧ PO 0 J J' ∧ OtL M M' := by
  intro k
  induction k with
  | zero =>
    intro n i I J M w hLC hS hD he hk hi hn
    obtain ⟨n, rfl⟩ : ∃ q, n = q + 1 := ⟨n - 1, by omega⟩
    refine ⟨w, I, J, M, ?_, ?_, hLC.2.2.2.1, hS, fun _ _ => rfl, PO.refl, OtL.refl⟩
    · simp (disch := omega) only [f_X11_nights_L27, sdm, ↓zm1, ↓zm2, ↓zm3, ↓zm4, ↓zm5, ↓zm6, ↓zm7, ↓zm8, ↓zm9, ↓zm10, ↓zm11, ↓zm12, ↓zm13, ↓zm14, ↓zm15, ↓zm16, ↓zm17, ↓zm18, ↓zm19, ↓zm20, ↓zm1000000000, zq0, zq1, zq2, zq3, zq4, zq5, zq6, zq7, zq8, zq9, zq10, zq11, zq12, zq13, zq14, zq15, zq16, zq17, zq18, zq19, zq20, zq21, zq22, zq23, zq24, zq25, zq26, zq30, zq31, zq32, zq33, zq34, zq35, zq36, zq37, zq38, zq39, zq40, zq41, zq42, zq43, zq44, zq45, zq47, zq48, zq57, zq59, zq60, zq61, zq62, zq80, zq91, zq93, zq97, zq99, zq100, zq107, zq110, zq120, zq122, zq128, zq149, zq160, zq208, zq240, zq251, zq255, zq256, zq500, zq936, zq999, zq1600, zq1800, zq2048, zq3200, zq4160, zq9999, zq12345, zq1000000, zq1048576, zq100000000, bnd, jnt, zg_ok, gz_0, gz_1, gz_n0, gz_n1, zs_eq, zs_ne, zs_same, zs_other, zA_eq, zA_ne, Option.bind_some, Option.bind_none, nI_add, pk_mul, nI_clamp, nI_leI, nI_ltI, nI_eq, pk_sub, nI_mI, nI_eq_mI, mI_eq_nI, nI_lt_m, ldI_ok, inb_ok, if_pos, if_neg, dv_ok, rem_ok, div_ok, if_true, if_false]
    · simp (disch := omega) only [f_X12_nights_L23, sdm, ↓zm1, ↓zm2, ↓zm3, ↓zm4, ↓zm5, ↓zm6, ↓zm7, ↓zm8, ↓zm9, ↓zm10, ↓zm11, ↓zm12, ↓zm13, ↓zm14, ↓zm15, ↓zm16, ↓zm17, ↓zm18, ↓zm19, ↓zm20, ↓zm1000000000, zq0, zq1, zq2, zq3, zq4, zq5, zq6, zq7, zq8, zq9, zq10, zq11, zq12, zq13, zq14, zq15, zq16, zq17, zq18, zq19, zq20, zq21, zq22, zq23, zq24, zq25, zq26, zq30, zq31, zq32, zq33, zq34, zq35, zq36, zq37, zq38, zq39, zq40, zq41, zq42, zq43, zq44, zq45, zq47, zq48, zq57, zq59, zq60, zq61, zq62, zq80, zq91, zq93, zq97, zq99, zq100, zq107, zq110, zq120, zq122, zq128, zq149, zq160, zq208, zq240, zq251, zq255, zq256, zq500, zq936, zq999, zq1600, zq1800, zq2048, zq3200, zq4160, zq9999, zq12345, zq1000000, zq1048576, zq100000000, bnd, jnt, zg_ok, gz_0, gz_1, gz_n0, gz_n1, zs_eq, zs_ne, zs_same, zs_other, zA_eq, zA_ne, Option.bind_some, Option.bind_none, nI_add, pk_mul, nI_clamp, nI_leI, nI_ltI, nI_eq, pk_sub, nI_mI, nI_eq_mI, mI_eq_nI, nI_lt_m, ldI_ok, inb_ok, if_pos, if_neg, dv_ok, rem_ok, div_ok, if_true, if_false]
  | succ k ih =>
    intro n i I J M w hLC hS hD he hk hi hn
    obtain ⟨n, rfl⟩ : ∃ q, n = q + 1 := ⟨n - 1, by omega⟩
    obtain ⟨W, I1, J1, M1, a1, a2, a3, a4, a5, a6, a7, a8⟩ := pass_now (M := M) hLC hS hD hf (d := 0) (n := m + i) (by decide) (by omega) he
    have ht := hLC.1.2.2.1
    have ev : vw I1 t = vw I t := vw_congr (fun a ha => a3 _ (by omega))
    obtain ⟨W2, I2, J2, M2, b1, b2, b3, b4, b5, b6, b7⟩ := ih n (i + 1) I1 J1 M1 (w + W) a7 (by rw [ev]; exact a8) (by rw [ev]; exact hD) (by rw [a6]; congr 1) (by omega) (by omega) (by omega)
    refine ⟨W2, I2, J2, M2, ?_, ?_, b3, by rw [← ev]; exact b4, fun x hx => (b5 x hx).trans (a3 x hx), a4.trans b6, a5.trans b7⟩
    · simp (disch := omega) only [f_X11_nights_L27, sdm, ↓zm1, ↓zm2, ↓zm3, ↓zm4, ↓zm5, ↓zm6, ↓zm7, ↓zm8, ↓zm9, ↓zm10, ↓zm11, ↓zm12, ↓zm13, ↓zm14, ↓zm15, ↓zm16, ↓zm17, ↓zm18, ↓zm19, ↓zm20, ↓zm1000000000, zq0, zq1, zq2, zq3, zq4, zq5, zq6, zq7, zq8, zq9, zq10, zq11, zq12, zq13, zq14, zq15, zq16, zq17, zq18, zq19, zq20, zq21, zq22, zq23, zq24, zq25, zq26, zq30, zq31, zq32, zq33, zq34, zq35, zq36, zq37, zq38, zq39, zq40, zq41, zq42, zq43, zq44, zq45, zq47, zq48, zq57, zq59, zq60, zq61, zq62, zq80, zq91, zq93, zq97, zq99, zq100, zq107, zq110, zq120, zq122, zq128, zq149, zq160, zq208, zq240, zq251, zq255, zq256, zq500, zq936, zq999, zq1600, zq1800, zq2048, zq3200, zq4160, zq9999, zq12345, zq1000000, zq1048576, zq100000000, bnd, jnt, zg_ok, gz_0, gz_1, gz_n0, gz_n1, zs_eq, zs_ne, zs_same, zs_other, zA_eq, zA_ne, Option.bind_some, Option.bind_none, nI_add, pk_mul, nI_clamp, nI_leI, nI_ltI, nI_eq, pk_sub, nI_mI, nI_eq_mI, mI_eq_nI, nI_lt_m, ldI_ok, inb_ok, if_pos, if_neg, dv_ok, rem_ok, div_ok, if_true, if_false, a1]
      rw [show i + (k + 1) = i + 1 + k by omega]
      exact b1
    · simp (disch := omega) only [f_X12_nights_L23, sdm, ↓zm1, ↓zm2, ↓zm3, ↓zm4, ↓zm5, ↓zm6, ↓zm7, ↓zm8, ↓zm9, ↓zm10, ↓zm11, ↓zm12, ↓zm13, ↓zm14, ↓zm15, ↓zm16, ↓zm17, ↓zm18, ↓zm19, ↓zm20, ↓zm1000000000, zq0, zq1, zq2, zq3, zq4, zq5, zq6, zq7, zq8, zq9, zq10, zq11, zq12, zq13, zq14, zq15, zq16, zq17, zq18, zq19, zq20, zq21, zq22, zq23, zq24, zq25, zq26, zq30, zq31, zq32, zq33, zq34, zq35, zq36, zq37, zq38, zq39, zq40, zq41, zq42, zq43, zq44, zq45, zq47, zq48, zq57, zq59, zq60, zq61, zq62, zq80, zq91, zq93, zq97, zq99, zq100, zq107, zq110, zq120, zq122, zq128, zq149, zq160, zq208, zq240, zq251, zq255, zq256, zq500, zq936, zq999, zq1600, zq1800, zq2048, zq3200, zq4160, zq9999, zq12345, zq1000000, zq1048576, zq100000000, bnd, jnt, zg_ok, gz_0, gz_1, gz_n0, gz_n1, zs_eq, zs_ne, zs_same, zs_other, zA_eq, zA_ne, Option.bind_some, Option.bind_none, nI_add, pk_mul, nI_clamp, nI_leI, nI_ltI, nI_eq, pk_sub, nI_mI, nI_eq_mI, mI_eq_nI, nI_lt_m, ldI_ok, inb_ok, if_pos, if_neg, dv_ok, rem_ok, div_ok, if_true, if_false, a2]
      rw [show i + (k + 1) = i + 1 + k by omega]
      exact b2
theorem eq_nights : Eq_nights Rel := by
  intro n I R J M a0 hn hR
  obtain ⟨t, b, nh, no, nl, h⟩ := hR
  obtain ⟨hC, hL, hM, hE, hS, hB, hB', h1⟩ := h.get
  obtain ⟨m, hm, em⟩ := hS.1
  have em1 : I 49 1 = nI m := em
  have em2 : J 127 0 = nI m := by rw [← em]; exact hE.1.symm
  have n3 : ¬ (1 : Int32) = 0 := by decide
  have r1 : f_X11_refuse I 2 = _ := refuse_C (I := I) (k := 2) (by decide)
  have r2 : f_X12_refuses J 2 = _ := refuses_M (J := J) (k := 2) (by decide)
  have fail : ∃ (r : Int32) (I' : HI) (J' : HI) (M' : HL), ((f_X11_refuse I 2).bind fun x11 => some (x11.1, x11.2)) = some (r, I') ∧ ((f_X12_refuses J 2).bind fun x2 => some (x2.1, x2.2, M)) = some (r, J', M') ∧ Rel (n + 6) I' R J' M' := ⟨-1, _, _, M, by rw [r1]; rfl, by rw [r2]; rfl, (Rel_ref h.up (k := 2) (by decide)).rel⟩
  unfold f_X11_nights f_X12_nights
  rcases x_cases a0 101 (by decide) with c | c | ⟨k, hk, rfl⟩
  · rw [ahead_Mn (by decide) (Or.inl c)]
    simp (disch := omega) only [jnt, Option.bind_some, Int32.le_iff_toInt_le, Int32.lt_iff_toInt_lt, ← Int32.toInt_inj, zt0, zt1, zt2, zt3, zt4, zt5, zt6, zt7, zt8, zt9, zt10, zt11, zt12, zt13, zt14, zt15, zt16, zt17, zt18, zt19, zt20, zt21, zt22, zt23, zt24, zt25, zt26, zt30, zt31, zt32, zt33, zt34, zt35, zt36, zt37, zt38, zt39, zt40, zt41, zt42, zt43, zt44, zt45, zt47, zt48, zt57, zt59, zt60, zt61, zt62, zt80, zt91, zt93, zt97, zt99, zt100, zt107, zt110, zt120, zt122, zt128, zt149, zt160, zt208, zt240, zt251, zt255, zt256, zt500, zt936, zt999, zt1600, zt1800, zt2048, zt3200, zt4160, zt9999, zt12345, zt1000000, zt1048576, zt100000000, zu1, zu2, zu3, zu4, zu5, zu6, zu7, zu8, zu9, zu10, zu11, zu12, zu13, zu14, zu15, zu16, zu17, zu18, zu19, zu20, zu1000000000, if_pos, if_neg, gz_0, gz_1, Option.bind_some, if_true, if_false]
    exact fail
  · rw [ahead_Mn (by decide) (Or.inr c), ahead_Cn (Or.inr c)]
    simp (disch := omega) only [jnt, Option.bind_some, Int32.le_iff_toInt_le, Int32.lt_iff_toInt_lt, ← Int32.toInt_inj, zt0, zt1, zt2, zt3, zt4, zt5, zt6, zt7, zt8, zt9, zt10, zt11, zt12, zt13, zt14, zt15, zt16, zt17, zt18, zt19, zt20, zt21, zt22, zt23, zt24, zt25, zt26, zt30, zt31, zt32, zt33, zt34, zt35, zt36, zt37, zt38, zt39, zt40, zt41, zt42, zt43, zt44, zt45, zt47, zt48, zt57, zt59, zt60, zt61, zt62, zt80, zt91, zt93, zt97, zt99, zt100, zt107, zt110, zt120, zt122, zt128, zt149, zt160, zt208, zt240, zt251, zt255, zt256, zt500, zt936, zt999, zt1600, zt1800, zt2048, zt3200, zt4160, zt9999, zt12345, zt1000000, zt1048576, zt100000000, zu1, zu2, zu3, zu4, zu5, zu6, zu7, zu8, zu9, zu10, zu11, zu12, zu13, zu14, zu15, zu16, zu17, zu18, zu19, zu20, zu1000000000, if_pos, if_neg, gz_0, gz_1, Option.bind_some, if_true, if_false]
    exact fail
  · have p1 := ahead_C (I := I) (k := k) (by omega) hm em1
    have p2 : f_X12_isAhead J (nI k) 1 = _ := ahead_M (J := J) (k := k) (l := 1) (by omega) hm (by decide) em2
    rw [p1, p2]
    by_cases c0 : k = 0
    · subst c0
      simp (disch := omega) only [jnt, Option.bind_some, zq1, nI_ltI, if_pos, if_neg, if_true]
      exact fail
    have k1 : ¬ nI k < 1 := Int32.not_lt.mpr (nI_le (a := 1) (by omega) (by omega))
    by_cases c : m + k ≤ 9999
    · have c1 : k ≤ 100 ∧ m + k ≤ 9999 := ⟨by omega, c⟩
      have c2 : 1 ≤ k ∧ k ≤ 100 ∧ m + k ≤ 9999 := ⟨by omega, by omega, c⟩
      obtain ⟨I1, J1, q1, q2, q3, q4, q5, q6, q7, q8, q9, q10, q11⟩ := push_R (fu := FU) h FU_big.1
      obtain ⟨_, _, _, _, hS1, _, _, _⟩ := q3.get
      obtain ⟨W, I2, J2, M2, s1, s2, s3, s4, s5, s6, s7⟩ := nights_loop (m := m) FU_big.1 k FU 0 I1 J1 M 0 q3.LC hS1 q3.2.2.2.2.2.2.1.2.2.2.2.2.1 (by rw [q5 49 (by omega)]; exact em1) (by omega) (by omega) (by have := FU_big.1; omega)
      rw [Nat.zero_add] at s1 s2
      have s1' : f_X11_nights_L27 FU FU I1 R (nI k) 0 0 = _ := s1
      have s2' : f_X12_nights_L23 FU FU J1 M (nI k) 0 0 = _ := s2
      simp only [jnt, if_neg k1, if_pos c1, if_pos c2, Option.bind_some, if_neg n3, q1, q2, s1', s2']
      refine ⟨W, I2, J2, M2, rfl, rfl, (Rel_act q3 (by omega) (fun x _ hx => s5 x hx) (fun k _ => by rw [s5 1 (by omega)]) s6.AC (RLt_c q3.2.2.2.1 (by rw [s5 1 (by omega)]) (by rw [s7 100 (by decide)])) (fun x hx => s7 x (by omega)) s3 s4).rel⟩
    · have c1 : ¬ (k ≤ 100 ∧ m + k ≤ 9999) := fun q => c q.2
      have c2 : ¬ (1 ≤ k ∧ k ≤ 100 ∧ m + k ≤ 9999) := fun q => c q.2.2
      simp only [jnt, if_neg k1, if_neg c1, if_neg c2, Option.bind_some, if_true]
      exact fail
