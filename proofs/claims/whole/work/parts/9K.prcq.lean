theorem upF_ok {W : Nat → Nat} {price c s : Nat} {f : Option Nat} (hs : s < 2 ^ c) (hf : ∀ s0, f = some s0 → s0 < 2 ^ c ∧ price ≤ W s0) : ∀ s0, upF W price f s = some s0 → s0 < 2 ^ c ∧ price ≤ W s0 := by
  intro s0 h
  unfold upF at h
  by_cases cw : W s < price
  · rw [if_pos cw] at h
    exact hf s0 h
  · rw [if_neg cw] at h
    cases f with
    | none =>
      injection h with h
      subst h
      exact ⟨hs, by omega⟩
    | some s1 =>
      simp only at h
      split at h
      · injection h with h
        subst h
        exact ⟨hs, by omega⟩
      · injection h with h
        subst h
        exact hf s1 rfl
theorem price_loop {fu his price c b nh no nl : Nat} {J K : HI} {D : HI} {wo W : Nat → Nat} {ex : Nat → Nat} (hM : ML J b nh no nl D) (hL : LR D) (hB : BW (lv J 0)) (hfu : 1600 < fu) (hwo : wo = woN D (lv J 0) nl) (hW : ∀ s, s < 2 ^ c → W s = WS wo nl (ex s) ∧ W s ≤ 79992 ∧ pc (ex s) = pc s ∧ ex s < 256) (hK : ∀ s, s < 2 ^ c → K 37 s = nI (W s)) (hc : c ≤ 8) (h1 : K 34 2 = nI c) (hp : price ≤ 9999) (hh : his < 256) (hex : ∀ s, s < 2 ^ c → ex s ≤ his ∧ ∀ l, l < 31 → (ex s).testBit l = true → his.testBit l = true) {E : Nat → Nat} (hE1 : ∀ s, s < 2 ^ c → E s = ex s) (hE2 : E (2 ^ c) = his + 1) (hgap : ∀ s, s < 2 ^ c → ex s < E (s + 1) ∧ ∀ v, ex s < v → v < E (s + 1) → ¬ ∀ l, l < 31 → v.testBit l = true → his.testBit l = true) :
    ∀ (q s u n m : Nat) (J' : HI) (M' : HL) (f : Option Nat), s + q = 2 ^ c → q < m → his + 1 - u < n → u ≤ E s → (∀ v, u ≤ v → v < E s → ¬ ∀ l, l < 31 → v.testBit l = true → his.testBit l = true) → AO J J' → (∀ s0, f = some s0 → s0 < 2 ^ c ∧ price ≤ W s0) → ∃ f' J'' M'', f_X0_payers_L17 m K (nI price) (enF f) (nI s) = some (enF f') ∧ f_X12_price_L49 fu n J' M' (nI price) (nI his) (enF (f.map ex)) (nI (lsF W price f)) (nI u) = some (enF (f'.map ex), nI (lsF W price f'), J'', M'') ∧ AO J J'' ∧ OtL M' M'' ∧ (∀ s0, f' = some s0 → s0 < 2 ^ c ∧ price ≤ W s0) := by
  have hp8 : 2 ^ c ≤ 2 ^ 8 := Nat.pow_le_pow_right (by decide) hc
  have hpos : 0 < 2 ^ c := Nat.pow_pos (by decide)
  intro q
  induction q with
  | zero =>
    intro s u n m J' M' f e1 e2 e3 e4 e5 hA hf
    obtain ⟨m, rfl⟩ : ∃ z, m = z + 1 := ⟨m - 1, by omega⟩
    have hs : s = 2 ^ c := by omega
    subst hs
    rw [hE2] at e4 e5
    refine ⟨f, J', M', ?_, ?_, hA, fun _ _ => rfl, hf⟩
    · have c1 : (1 : Int32) <<< (nI c &&& 31) ≤ nI (2 ^ c) := by
        rw [zq1, zq31, sh_ok (by omega)]
        exact Int32.le_refl _
      simp only [f_X0_payers_L17, h1, if_pos c1]
    · obtain ⟨d, hd⟩ : ∃ d, d = his + 1 - u := ⟨_, rfl⟩
      obtain ⟨k, hk⟩ : ∃ k, n = (k + 1) + d := ⟨n - d - 1, by omega⟩
      rw [hk, price_skip hh d u (k + 1) J' M' (by omega) (fun v v1 v2 => e5 v v1 (by omega)), show u + d = his + 1 by omega]
      have c1 : nI his < nI (his + 1) := nI_lt (by omega) (by omega)
      simp only [f_X12_price_L49, if_pos c1]
  | succ q ih =>
    intro s u n m J' M' f e1 e2 e3 e4 e5 hA hf
    obtain ⟨m, rfl⟩ : ∃ z, m = z + 1 := ⟨m - 1, by omega⟩
    have hs : s < 2 ^ c := by omega
    rw [hE1 s hs] at e4 e5
    obtain ⟨x1, x2⟩ := hex s hs
    obtain ⟨g1, g2⟩ := hgap s hs
    have hEle : E (s + 1) ≤ his + 1 := by
      by_cases c2 : s + 1 < 2 ^ c
      · rw [hE1 _ c2]
        have := (hex (s + 1) c2).1
        omega
      · rw [show s + 1 = 2 ^ c by omega, hE2]
        omega
    obtain ⟨d, hd⟩ : ∃ d, d = ex s - u := ⟨_, rfl⟩
    obtain ⟨k, hk⟩ : ∃ k, n = (k + 1) + d := ⟨n - d - 1, by omega⟩
    have sk := price_skip (fu := fu) (price := price) (x := enF (f.map ex)) (y := nI (lsF W price f)) hh d u (k + 1) J' M' (by omega) (fun v v1 v2 => e5 v v1 (by omega))
    rw [show u + d = ex s by omega] at sk
    obtain ⟨J1, M1, a1, a2, a3⟩ := price_step (fu := fu) (n := k) (M' := M') (his := his) (price := price) (u := ex s) hM hL hB hfu hA hwo rfl hW hs hp hh x1 x2 hf
    obtain ⟨f', J2, M2, b1, b2, b3, b4, b5⟩ := ih (s + 1) (ex s + 1) k m J1 M1 (upF W price f s) (by omega) (by omega) (by omega) (by omega) (fun v v1 v2 => g2 v (by omega) v2) a2 (upF_ok hs hf)
    refine ⟨f', J2, M2, ?_, ?_, b3, a3.trans b4, b5⟩
    · rw [payers_step hc h1 (fun z hz => ⟨hK z hz, (hW z hz).2.1⟩) hp hs hf]
      exact b1
    · rw [hk, sk, a1]
      exact b2
theorem lakeBits_C {K : HI} {fu c s : Nat} {m : Nat → Nat} (hc : c ≤ 8) (hf : 8 < fu) (h1 : K 34 2 = nI c) (hs : s < 256) (hi : inc m c) (hm : ∀ k, k < c → m k < 8 ∧ K 35 k = nI (m k)) : f_X0_lakeBits fu K (nI s) = some (nI (exM m s c)) := by
  have hl : f_X0_lakeBits_L4 fu K (nI s) 0 0 = some (nI (exM m s c)) := by
    refine loopCf (fun n a i => f_X0_lakeBits_L4 n K (nI s) a i) (fun i => nI (exM m s i)) _ c fu ?_ ?_ (by omega)
    · intro n i hic
      obtain ⟨m1, m2⟩ := hm i hic
      have hlt := exM_lt (m := m) (s := s) i (m i) (fun j k hj hk => hi j k hj (by omega)) (fun j hj => hi j i hj hic)
      have e : exM m s (i + 1) = exM m s i + (if s.testBit i = true then 2 ^ m i else 0) := rfl
      by_cases cb : s.testBit i = true
      · have c3 : ¬ nI (s &&& 2 ^ i) = nI 0 := fun q => (and_bit (by omega) (by omega)).mp q cb
        rw [e, if_pos cb, ← or_bit hlt, ← or_ok]
        simp (disch := omega) only [f_X0_lakeBits_L4, sdm, ↓zm1, ↓zm2, ↓zm3, ↓zm4, ↓zm5, ↓zm6, ↓zm7, ↓zm8, ↓zm9, ↓zm10, ↓zm11, ↓zm12, ↓zm13, ↓zm14, ↓zm15, ↓zm16, ↓zm17, ↓zm18, ↓zm19, ↓zm20, ↓zm1000000000, zq0, zq1, zq2, zq3, zq4, zq5, zq6, zq7, zq8, zq9, zq10, zq11, zq12, zq13, zq14, zq15, zq16, zq17, zq18, zq19, zq20, zq21, zq22, zq23, zq24, zq25, zq26, zq30, zq31, zq32, zq33, zq34, zq35, zq36, zq37, zq38, zq39, zq40, zq41, zq42, zq43, zq44, zq45, zq47, zq48, zq57, zq59, zq60, zq61, zq62, zq80, zq91, zq93, zq97, zq99, zq100, zq107, zq110, zq120, zq122, zq128, zq149, zq160, zq208, zq240, zq251, zq255, zq256, zq500, zq936, zq999, zq1600, zq1800, zq2048, zq3200, zq4160, zq9999, zq12345, zq1000000, zq1048576, zq100000000, bnd, jnt, zg_ok, gz_0, gz_1, gz_n0, gz_n1, zs_eq, zs_ne, zs_same, zs_other, zA_eq, zA_ne, Option.bind_some, Option.bind_none, nI_add, pk_mul, nI_clamp, nI_leI, nI_ltI, nI_eq, pk_sub, nI_mI, nI_eq_mI, mI_eq_nI, nI_lt_m, ldI_ok, inb_ok, if_pos, if_neg, dv_ok, rem_ok, div_ok, if_true, if_false, h1, sh_ok, andb_ok, if_neg c3, m2]
      · have c3 : nI (s &&& 2 ^ i) = nI 0 := (and_bit (by omega) (by omega)).mpr cb
        rw [e, if_neg cb]
        simp (disch := omega) only [f_X0_lakeBits_L4, sdm, ↓zm1, ↓zm2, ↓zm3, ↓zm4, ↓zm5, ↓zm6, ↓zm7, ↓zm8, ↓zm9, ↓zm10, ↓zm11, ↓zm12, ↓zm13, ↓zm14, ↓zm15, ↓zm16, ↓zm17, ↓zm18, ↓zm19, ↓zm20, ↓zm1000000000, zq0, zq1, zq2, zq3, zq4, zq5, zq6, zq7, zq8, zq9, zq10, zq11, zq12, zq13, zq14, zq15, zq16, zq17, zq18, zq19, zq20, zq21, zq22, zq23, zq24, zq25, zq26, zq30, zq31, zq32, zq33, zq34, zq35, zq36, zq37, zq38, zq39, zq40, zq41, zq42, zq43, zq44, zq45, zq47, zq48, zq57, zq59, zq60, zq61, zq62, zq80, zq91, zq93, zq97, zq99, zq100, zq107, zq110, zq120, zq122, zq128, zq149, zq160, zq208, zq240, zq251, zq255, zq256, zq500, zq936, zq999, zq1600, zq1800, zq2048, zq3200, zq4160, zq9999, zq12345, zq1000000, zq1048576, zq100000000, bnd, jnt, zg_ok, gz_0, gz_1, gz_n0, gz_n1, zs_eq, zs_ne, zs_same, zs_other, zA_eq, zA_ne, Option.bind_some, Option.bind_none, nI_add, pk_mul, nI_clamp, nI_leI, nI_ltI, nI_eq, pk_sub, nI_mI, nI_eq_mI, mI_eq_nI, nI_lt_m, ldI_ok, inb_ok, if_pos, if_neg, dv_ok, rem_ok, div_ok, if_true, if_false, h1, sh_ok, andb_ok, if_pos c3, Nat.add_zero]
    · intro n
      simp (disch := omega) only [f_X0_lakeBits_L4, sdm, ↓zm1, ↓zm2, ↓zm3, ↓zm4, ↓zm5, ↓zm6, ↓zm7, ↓zm8, ↓zm9, ↓zm10, ↓zm11, ↓zm12, ↓zm13, ↓zm14, ↓zm15, ↓zm16, ↓zm17, ↓zm18, ↓zm19, ↓zm20, ↓zm1000000000, zq0, zq1, zq2, zq3, zq4, zq5, zq6, zq7, zq8, zq9, zq10, zq11, zq12, zq13, zq14, zq15, zq16, zq17, zq18, zq19, zq20, zq21, zq22, zq23, zq24, zq25, zq26, zq30, zq31, zq32, zq33, zq34, zq35, zq36, zq37, zq38, zq39, zq40, zq41, zq42, zq43, zq44, zq45, zq47, zq48, zq57, zq59, zq60, zq61, zq62, zq80, zq91, zq93, zq97, zq99, zq100, zq107, zq110, zq120, zq122, zq128, zq149, zq160, zq208, zq240, zq251, zq255, zq256, zq500, zq936, zq999, zq1600, zq1800, zq2048, zq3200, zq4160, zq9999, zq12345, zq1000000, zq1048576, zq100000000, bnd, jnt, zg_ok, gz_0, gz_1, gz_n0, gz_n1, zs_eq, zs_ne, zs_same, zs_other, zA_eq, zA_ne, Option.bind_some, Option.bind_none, nI_add, pk_mul, nI_clamp, nI_leI, nI_ltI, nI_eq, pk_sub, nI_mI, nI_eq_mI, mI_eq_nI, nI_lt_m, ldI_ok, inb_ok, if_pos, if_neg, dv_ok, rem_ok, div_ok, if_true, if_false, h1]
  unfold f_X0_lakeBits
  rw [hl]
  rfl
theorem eq_price : Eq_price Rel := by
  intro n I R J M a0 a1 a2 hn hR
  obtain ⟨t, b, nh, no, nl, h⟩ := hR
  obtain ⟨hC, hL, hM, hE, hS, hB, hB', h1⟩ := h.get
  have h8 := hC.2.2.2.2.2.2.2.2.1
  have h9 := hC.2.2.2.2.2.2.2.2.2
  have ht := hC.2.2.1
  have hfu := FU_big.1
  have n3 : ¬ (1 : Int32) = 0 := by decide
  unfold f_X11_price f_X12_price f_X12_is
  rw [isOwner_C hC, isOwner_M hM]
  rcases own_cases (x := a0) (no := no) (by omega) with c | ⟨p, hp, rfl, c⟩
  · refine ⟨-1, I, J, M, ?_, ?_, h.up.rel⟩ <;> simp only [if_neg c, Option.bind_some, if_true]
  simp only [if_pos c, Option.bind_some, if_neg n3]
  rcases x_cases a1 10000 (by decide) with d | d | ⟨price, hpr, rfl⟩
  · refine ⟨-1, I, J, M, ?_, ?_, h.up.rel⟩ <;> simp (disch := omega) only [Int32.le_iff_toInt_le, Int32.lt_iff_toInt_lt, ← Int32.toInt_inj, zt0, zt1, zt2, zt3, zt4, zt5, zt6, zt7, zt8, zt9, zt10, zt11, zt12, zt13, zt14, zt15, zt16, zt17, zt18, zt19, zt20, zt21, zt22, zt23, zt24, zt25, zt26, zt30, zt31, zt32, zt33, zt34, zt35, zt36, zt37, zt38, zt39, zt40, zt41, zt42, zt43, zt44, zt45, zt47, zt48, zt57, zt59, zt60, zt61, zt62, zt80, zt91, zt93, zt97, zt99, zt100, zt107, zt110, zt120, zt122, zt128, zt149, zt160, zt208, zt240, zt251, zt255, zt256, zt500, zt936, zt999, zt1600, zt1800, zt2048, zt3200, zt4160, zt9999, zt12345, zt1000000, zt1048576, zt100000000, zu1, zu2, zu3, zu4, zu5, zu6, zu7, zu8, zu9, zu10, zu11, zu12, zu13, zu14, zu15, zu16, zu17, zu18, zu19, zu20, zu1000000000, if_pos, if_neg, gz_0, gz_1, Option.bind_some, if_true, if_false]
  · refine ⟨-1, I, J, M, ?_, ?_, h.up.rel⟩ <;> simp (disch := omega) only [Int32.le_iff_toInt_le, Int32.lt_iff_toInt_lt, ← Int32.toInt_inj, zt0, zt1, zt2, zt3, zt4, zt5, zt6, zt7, zt8, zt9, zt10, zt11, zt12, zt13, zt14, zt15, zt16, zt17, zt18, zt19, zt20, zt21, zt22, zt23, zt24, zt25, zt26, zt30, zt31, zt32, zt33, zt34, zt35, zt36, zt37, zt38, zt39, zt40, zt41, zt42, zt43, zt44, zt45, zt47, zt48, zt57, zt59, zt60, zt61, zt62, zt80, zt91, zt93, zt97, zt99, zt100, zt107, zt110, zt120, zt122, zt128, zt149, zt160, zt208, zt240, zt251, zt255, zt256, zt500, zt936, zt999, zt1600, zt1800, zt2048, zt3200, zt4160, zt9999, zt12345, zt1000000, zt1048576, zt100000000, zu1, zu2, zu3, zu4, zu5, zu6, zu7, zu8, zu9, zu10, zu11, zu12, zu13, zu14, zu15, zu16, zu17, zu18, zu19, zu20, zu1000000000, if_pos, if_neg, gz_0, gz_1, Option.bind_some, if_true, if_false]
  have k1 : ¬ nI price < 0 := nI_pos (by omega)
  have k2 : ¬ 9999 < nI price := Int32.not_lt.mpr (nI_le (b := 9999) (by omega) (by decide))
  simp only [if_neg k1, if_neg k2, gz_1, Option.bind_some, if_neg n3]
  rcases x_cases a2 2 (by decide) with d | d | ⟨w, hw, rfl⟩
  · refine ⟨-1, I, J, M, ?_, ?_, h.up.rel⟩ <;> simp (disch := omega) only [Int32.le_iff_toInt_le, Int32.lt_iff_toInt_lt, ← Int32.toInt_inj, zt0, zt1, zt2, zt3, zt4, zt5, zt6, zt7, zt8, zt9, zt10, zt11, zt12, zt13, zt14, zt15, zt16, zt17, zt18, zt19, zt20, zt21, zt22, zt23, zt24, zt25, zt26, zt30, zt31, zt32, zt33, zt34, zt35, zt36, zt37, zt38, zt39, zt40, zt41, zt42, zt43, zt44, zt45, zt47, zt48, zt57, zt59, zt60, zt61, zt62, zt80, zt91, zt93, zt97, zt99, zt100, zt107, zt110, zt120, zt122, zt128, zt149, zt160, zt208, zt240, zt251, zt255, zt256, zt500, zt936, zt999, zt1600, zt1800, zt2048, zt3200, zt4160, zt9999, zt12345, zt1000000, zt1048576, zt100000000, zu1, zu2, zu3, zu4, zu5, zu6, zu7, zu8, zu9, zu10, zu11, zu12, zu13, zu14, zu15, zu16, zu17, zu18, zu19, zu20, zu1000000000, if_pos, if_neg, gz_0, gz_1, Option.bind_some, if_true, if_false]
  · refine ⟨-1, I, J, M, ?_, ?_, h.up.rel⟩ <;> simp (disch := omega) only [Int32.le_iff_toInt_le, Int32.lt_iff_toInt_lt, ← Int32.toInt_inj, zt0, zt1, zt2, zt3, zt4, zt5, zt6, zt7, zt8, zt9, zt10, zt11, zt12, zt13, zt14, zt15, zt16, zt17, zt18, zt19, zt20, zt21, zt22, zt23, zt24, zt25, zt26, zt30, zt31, zt32, zt33, zt34, zt35, zt36, zt37, zt38, zt39, zt40, zt41, zt42, zt43, zt44, zt45, zt47, zt48, zt57, zt59, zt60, zt61, zt62, zt80, zt91, zt93, zt97, zt99, zt100, zt107, zt110, zt120, zt122, zt128, zt149, zt160, zt208, zt240, zt251, zt255, zt256, zt500, zt936, zt999, zt1600, zt1800, zt2048, zt3200, zt4160, zt9999, zt12345, zt1000000, zt1048576, zt100000000, zu1, zu2, zu3, zu4, zu5, zu6, zu7, zu8, zu9, zu10, zu11, zu12, zu13, zu14, zu15, zu16, zu17, zu18, zu19, zu20, zu1000000000, if_pos, if_neg, gz_0, gz_1, Option.bind_some, if_true, if_false]
  have k3 : ¬ nI w < 0 := nI_pos (by omega)
  have k4 : nI w ≤ 1 := nI_le (b := 1) (by omega) (by decide)
  have k5 : ¬ 1 < nI w := Int32.not_lt.mpr k4
  simp only [if_neg k3, if_pos k4, if_neg k5, gz_1, Option.bind_some, if_neg n3, jnt]
  obtain ⟨Bo, b1, b2, b3, b4⟩ := lakesOf_R (fu := FU) h FU_big.2 (nI p)
  obtain ⟨wo, hwo⟩ : ∃ wo, wo = woN (vw I t) (sc I 49) nl := ⟨_, rfl⟩
  have hwo2 : ∀ l, l < nl → wo l = woN (vw I t) (lv J 0) nl l := fun l hl => by rw [hwo]; exact hE.woE h9 hl
  have hwo9 : ∀ l, l < nl → wo l ≤ 9999 := fun l hl => by
    rw [hwo]
    unfold woN
    split
    · omega
    · split
      · exact clN_le
      · obtain ⟨y, hy, ey⟩ := hB.1 l (by omega)
        rw [ey, nI_clamp (by omega)]
        omega
  obtain ⟨K1, q1, q2, q3, q4⟩ := collect_C (fu := FU) hC hL hB FU_big.1 (nI p) (w := 1) (by decide) (val := fun l => if 1 = 0 then (sc I 49 1 l).toNatClampNeg else woN (vw I t) (sc I 49) nl l) rfl
  have q1' : f_X0_collect FU I R 49 (nI p) 1 = some K1 := q1
  obtain ⟨P, hP⟩ : ∃ P, P = pO (sc I 49) (nI p) := ⟨_, rfl⟩
  rw [← hP] at q3 q4
  obtain ⟨cc, hcc⟩ : ∃ cc, cc = cnt P nl := ⟨_, rfl⟩
  have hcc8 : cc ≤ 8 := by rw [hcc]; exact Nat.le_trans (cnt_le nl) h9
  rw [← hcc] at q3 q4
  obtain ⟨m, hm⟩ : ∃ m : Nat → Nat, m = fun k => nth P k nl := ⟨_, rfl⟩
  have hm1 : ∀ k, k < cc → m k < nl := fun k hk => by
    rw [hm]
    exact (nth_2 (p := P) (k := k) nl (by rw [← hcc]; exact hk)).1
  have hinc : inc m cc := fun j k hj hk => by
    rw [hm]
    exact nth_lt hj (by rw [← hcc]; exact hk)
  have q5 : ∀ k, k < cc → K1 35 k = nI (m k) ∧ K1 36 k = nI (wo (m k)) := fun k hk => by
    obtain ⟨z1, z2⟩ := q4 k hk
    rw [hm, hwo]
    exact ⟨z1, z2⟩
  obtain ⟨K2, s1, s2, s3⟩ := sumUp_C (fu := FU) (I := K1) (c := cc) (v := fun k => nI (wo (m k))) FU_big.1 hcc8 q3 (fun k hk => (q5 k hk).2)
  have hBo : Bo = exM m (2 ^ cc - 1) cc := by
    have := exM_top (p := P) (nl := nl)
    rw [← hcc, ← hm] at this
    rw [this, b2, hP]
    rfl
  have hp8 : 2 ^ cc ≤ 2 ^ 8 := Nat.pow_le_pow_right (by decide) hcc8
  have hpos : 0 < 2 ^ cc := Nat.pow_pos (by decide)
  obtain ⟨ex, hex0⟩ : ∃ ex : Nat → Nat, ex = fun s => exM m s cc := ⟨_, rfl⟩
  have exlt : ∀ s, ex s < 256 := fun s => by
    rw [hex0]
    exact exM_lt cc 8 hinc (fun j hj => by have := hm1 j hj; omega)
  have exsub : ∀ s, ∀ l, (ex s).testBit l = true → Bo.testBit l = true := fun s l hl => by
    rw [hex0] at hl
    obtain ⟨k, z1, z2, z3⟩ := (exM_bit cc hinc).mp hl
    rw [hBo]
    exact (exM_bit cc hinc).mpr ⟨k, z1, z2, by rw [Nat.testBit_two_pow_sub_one, decide_eq_true z1]⟩
  have exmono : ∀ s s', s < s' → s' < 2 ^ cc → ex s < ex s' := fun s s' z1 z2 => by
    rw [hex0]
    exact exM_mono cc s s' hinc z1 z2
  have exle : ∀ s, s < 2 ^ cc → ex s ≤ Bo := fun s hs => by
    have e : Bo = ex (2 ^ cc - 1) := by rw [hBo, hex0]
    rw [e]
    by_cases cs : s = 2 ^ cc - 1
    · rw [cs]; exact Nat.le_refl _
    · exact Nat.le_of_lt (exmono s (2 ^ cc - 1) (by omega) (by omega))
  have exsur : ∀ v, v < 256 → (∀ l, l < 31 → v.testBit l = true → Bo.testBit l = true) → ∃ s, s < 2 ^ cc ∧ ex s = v := fun v hv hsub => by
    rw [hex0]
    refine exM_sur hinc (fun l hl => ?_)
    have hl31 : l < 31 := by
      rcases Nat.lt_or_ge l 31 with z | z
      · exact z
      · have z1 := Nat.ge_two_pow_of_testBit hl
        have z2 : 2 ^ 31 ≤ 2 ^ l := Nat.pow_le_pow_right (by decide) z
        omega
    have := hsub l hl31 hl
    rw [hBo] at this
    obtain ⟨k, z1, z2, _⟩ := (exM_bit cc hinc).mp this
    exact ⟨k, z1, z2⟩
  obtain ⟨W, hW0⟩ : ∃ W : Nat → Nat, W = fun s => WS wo nl (ex s) := ⟨_, rfl⟩
  have hWS : ∀ B, WS (woN (vw I t) (lv J 0) nl) nl B = WS wo nl B := fun B => by
    unfold WS
    exact smN_congr (fun l hl => by rw [hwo2 l hl])
  have hW : ∀ s, s < 2 ^ cc → W s = WS (woN (vw I t) (lv J 0) nl) nl (ex s) ∧ W s ≤ 79992 ∧ pc (ex s) = pc s ∧ ex s < 256 := fun s hs => by
    refine ⟨by rw [hW0, hWS], by rw [hW0]; exact WS_le h9 hwo9, ?_, exlt s⟩
    rw [hex0]
    exact pc_ex cc s hinc (fun j hj => by have := hm1 j hj; omega) hcc8 hs
  have hK : ∀ s, s < 2 ^ cc → K2 37 s = nI (W s) := fun s hs => by
    rw [s3 s hs, SSI_ws (m := m) (wo := wo) (nl := nl) cc hinc (fun j hj => ⟨hm1 j hj, rfl⟩), hW0, hex0]
  have k342 : K2 34 2 = nI cc := by rw [s2 34 (by decide)]; exact q3
  obtain ⟨E, hE1, hE2⟩ : ∃ E : Nat → Nat, (∀ s, s < 2 ^ cc → E s = ex s) ∧ E (2 ^ cc) = Bo + 1 := ⟨fun s => if s < 2 ^ cc then ex s else Bo + 1, fun s hs => if_pos hs, if_neg (Nat.lt_irrefl _)⟩
  have hgap : ∀ s, s < 2 ^ cc → ex s < E (s + 1) ∧ ∀ v, ex s < v → v < E (s + 1) → ¬ ∀ l, l < 31 → v.testBit l = true → Bo.testBit l = true := fun s hs => by
    have hEle : E (s + 1) ≤ Bo + 1 := by
      by_cases c2 : s + 1 < 2 ^ cc
      · rw [hE1 _ c2]
        have := exle (s + 1) c2
        omega
      · rw [show s + 1 = 2 ^ cc by omega, hE2]
        omega
    refine ⟨?_, fun v v1 v2 hsub => ?_⟩
    · by_cases c2 : s + 1 < 2 ^ cc
      · rw [hE1 _ c2]
        exact exmono s (s + 1) (by omega) c2
      · rw [show s + 1 = 2 ^ cc by omega, hE2]
        have := exle s hs
        omega
    · obtain ⟨s', z1, z2⟩ := exsur v (by omega) hsub
      have hss : s < s' := by
        rcases Nat.lt_or_ge s s' with z | z
        · exact z
        · rcases Nat.lt_or_ge s' s with z' | z'
          · have := exmono s' s z' hs
            omega
          · have : s' = s := by omega
            rw [this] at z2
            omega
      have c2 : s + 1 < 2 ^ cc := by omega
      rw [hE1 _ c2] at v2
      by_cases c3 : s' = s + 1
      · rw [c3] at z2
        omega
      · have := exmono (s + 1) s' (by omega) z1
        omega
  have ex0 : E 0 = 0 := by
    rw [hE1 0 hpos, hex0]
    have : ∀ c, exM m 0 c = 0 := by
      intro c
      induction c with
      | zero => rfl
      | succ c ih =>
        show exM m 0 c + (if (0 : Nat).testBit c = true then 2 ^ m c else 0) = 0
        rw [ih, Nat.zero_testBit]
        rfl
    exact this cc
  obtain ⟨f', J2, M2, r1, r2, r3, r4, r5⟩ := price_loop (fu := FU) (his := Bo) (price := price) (c := cc) (K := K2) (W := W) (ex := ex) (E := E) hM hL hB' FU_big.1 rfl hW hK hcc8 k342 (by omega) b1 (fun s hs => ⟨exle s hs, fun l _ hl => exsub s l hl⟩) hE1 hE2 hgap (2 ^ cc) 0 0 FU FU J M none (by omega) (by omega) (by omega) (by omega) (fun v v1 v2 => absurd v2 (by omega)) AO.refl (fun s0 hs0 => by cases hs0)
  have r1' : f_X0_payers_L17 FU K2 (nI price) (-1) 0 = some (enF f') := r1
  have r2' : f_X12_price_L49 FU FU J M (nI price) (nI Bo) (-1) 100000000 0 = some (enF (f'.map ex), nI (lsF W price f'), J2, M2) := r2
  have hx : SX t I K2 := fun x hx => by rw [s2 x (by omega), q2 x (by omega) (by omega)]
  unfold f_X0_payers
  simp only [q1', s1, r1', b4, r2', Option.bind_some]
  cases f' with
  | none =>
    have e1 : enF none = -1 := rfl
    have e2 : enF ((none : Option Nat).map ex) = -1 := rfl
    rw [e1, e2]
    refine ⟨-1, K2, J2, M2, ?_, ?_, (Rel_same h (by omega) hx SR.refl r3.SM r4.SL).rel⟩
    · simp only [if_true, Option.bind_some, ite_self]
    · simp only [if_true]
  | some s0 =>
    obtain ⟨z1, z2⟩ := r5 s0 rfl
    have e1 : enF (some s0) = nI s0 := rfl
    have e2 : enF ((some s0).map ex) = nI (ex s0) := rfl
    have e3 : lsF W price (some s0) = W s0 - price := rfl
    have m1 : ¬ nI s0 = -1 := fun q => (nI_eq_mI (a := s0) (b := 1) (by omega) (by decide)).mp q
    have m2 : ¬ nI (ex s0) = -1 := fun q => (nI_eq_mI (a := ex s0) (b := 1) (by have := exlt s0; omega) (by decide)).mp q
    have w9 := (hW s0 z1).2.1
    have es : nI (W s0) - nI price = nI (W s0 - price) := pk_sub z2
    have lb := lakeBits_C (K := sI K2 34 9 (nI (W s0 - price))) (fu := FU) (c := cc) (s := s0) (m := m) hcc8 FU_big.2 (by rw [zs_eq, zs_other (by decide)]; exact k342) (by omega) hinc (fun k hk => ⟨by have := hm1 k hk; omega, by rw [zs_ne (by decide), s2 35 (by decide)]; exact (q5 k hk).1⟩)
    have lb' : f_X0_lakeBits FU (sI K2 34 9 (nI (W s0 - price))) (nI s0) = some (nI (ex s0)) := by rw [hex0]; exact lb
    have hx' : SX t I (sI K2 34 9 (nI (W s0 - price))) := SX.trans hx (fun x hx => zs_ne (by omega))
    rw [e1, e2, e3]
    have k9 : sI K2 34 9 (nI (W s0 - price)) 34 9 = nI (W s0 - price) := by rw [zs_eq, zs_same]
    have hd : ∀ k : Int32 → Option (Int32 × HI), ldI (K2 37) 256 (nI s0) k = k (nI (W s0)) := fun k => by rw [ldI_ok (by omega), hK s0 z1]
    by_cases cw : w = 0
    · have cw' : nI w = 0 := by rw [cw]; rfl
      refine ⟨nI (ex s0), _, J2, M2, ?_, ?_, (Rel_same h (by omega) hx' SR.refl r3.SM r4.SL).rel⟩
      · simp only [if_neg m1, hd, bnd, es, lb', Option.bind_some, if_pos cw']
      · simp only [if_neg m2, if_pos cw']
    · have cw' : ¬ nI w = 0 := nI_ne0 (by omega) (by omega)
      refine ⟨nI (W s0 - price), _, J2, M2, ?_, ?_, (Rel_same h (by omega) hx' SR.refl r3.SM r4.SL).rel⟩
      · simp only [if_neg m1, hd, bnd, es, lb', Option.bind_some, if_neg cw', if_neg m2, k9]
      · simp only [if_neg m2, if_neg cw']
