/-! price -/
theorem subI {v h : Nat} (hv : v < 2 ^ 31) : (nI v &&& (nI h ^^^ (-1)) = 0) ↔ ∀ l, l < 31 → v.testBit l = true → h.testBit l = true := by
  constructor
  · intro e l hl hb
    exact sub_bits hl e hb
  · intro e
    apply Int32.toBitVec_inj.mp
    have em : (-1 : Int32).toBitVec = BitVec.allOnes 32 := by decide
    show (nI v).toBitVec &&& ((nI h).toBitVec ^^^ (-1 : Int32).toBitVec) = 0#32
    rw [em]
    apply BitVec.eq_of_getLsbD_eq
    intro i hi
    have q1 : (nI v).toBitVec = BitVec.ofNat 32 v := rfl
    have q2 : (nI h).toBitVec = BitVec.ofNat 32 h := rfl
    rw [BitVec.getLsbD_and, BitVec.getLsbD_xor, q1, q2, BitVec.getLsbD_ofNat, BitVec.getLsbD_ofNat, BitVec.getLsbD_allOnes, decide_eq_true hi, BitVec.getLsbD_zero]
    by_cases c : i < 31
    · cases hb : v.testBit i
      · simp
      · rw [e i c hb]
        simp
    · have : v.testBit i = false := Nat.testBit_lt_two_pow (by
        have : 2 ^ 31 ≤ 2 ^ i := Nat.pow_le_pow_right (by decide) (by omega)
        omega)
      rw [this]
      simp
def WS (wo : Nat → Nat) (nl B : Nat) : Nat := smN (fun l => if B.testBit l = true then wo l else 0) nl
theorem WS_add {wo : Nat → Nat} {nl x b : Nat} (hx : x < 2 ^ b) (hb : b < nl) : WS wo nl (x + 2 ^ b) = WS wo nl x + wo b := by
  have h := (smN_upd (f := fun l => if x.testBit l = true then wo l else 0) (g := fun l => if (x + 2 ^ b).testBit l = true then wo l else 0) (a := b) (u := wo b) (by
    show (if (x + 2 ^ b).testBit b = true then wo b else 0) = wo b
    rw [if_pos (by rw [add_bit hx]; simp)]) (fun i hi => by
    show (if (x + 2 ^ b).testBit i = true then wo i else 0) = (if x.testBit i = true then wo i else 0)
    rw [add_bit hx, decide_eq_false (by omega), Bool.or_false]) nl).1 hb
  have e : (if x.testBit b = true then wo b else 0) = 0 := by
    rw [if_neg]
    intro q
    have := Nat.ge_two_pow_of_testBit q
    omega
  unfold WS
  simp only [e] at h
  omega
theorem WS_le {wo : Nat → Nat} {nl B : Nat} (hn : nl ≤ 8) (h : ∀ l, l < nl → wo l ≤ 9999) : WS wo nl B ≤ 79992 := by
  have := smN_le (f := fun l => if B.testBit l = true then wo l else 0) (m := 9999) nl (fun i hi => by
    show (if B.testBit i = true then wo i else 0) ≤ 9999
    have := h i hi
    split <;> omega)
  have h10 : nl * 9999 ≤ 8 * 9999 := Nat.mul_le_mul_right _ hn
  unfold WS
  omega
theorem SSI_ws {m wo : Nat → Nat} {nl s : Nat} {v : Nat → Int32} : ∀ c, inc m c → (∀ j, j < c → m j < nl ∧ v j = nI (wo (m j))) → SSI v s c = nI (WS wo nl (exM m s c)) := by
  intro c
  induction c with
  | zero =>
    intro _ _
    show (0 : Int32) = nI (WS wo nl 0)
    have : WS wo nl 0 = 0 := by
      unfold WS
      have : ∀ n, smN (fun l => if (0 : Nat).testBit l = true then wo l else 0) n = 0 := by
        intro n
        induction n with
        | zero => rfl
        | succ n ih =>
          show smN _ n + (if (0 : Nat).testBit n = true then wo n else 0) = 0
          rw [ih, Nat.zero_testBit]
          rfl
      exact this nl
    rw [this]
    rfl
  | succ c ih =>
    intro hi hv
    have hi' : inc m c := fun j k hj hk => hi j k hj (by omega)
    have hlt := exM_lt (m := m) (s := s) c (m c) hi' (fun j hj => hi j c hj (by omega))
    have ih := ih hi' (fun j hj => hv j (by omega))
    show SSI v s c + (if s.testBit c = true then v c else 0) = nI (WS wo nl (exM m s c + (if s.testBit c = true then 2 ^ m c else 0)))
    obtain ⟨h1, h2⟩ := hv c (by omega)
    by_cases cb : s.testBit c = true
    · rw [if_pos cb, if_pos cb, WS_add hlt h1, ih, h2, nI_add]
    · rw [if_neg cb, if_neg cb, Nat.add_zero, ih, Int32.add_zero]
theorem exM_top {p : Nat → Bool} {nl : Nat} : exM (fun k => nth p k nl) (2 ^ cnt p nl - 1) (cnt p nl) = btN p nl := by
  have hi : inc (fun k => nth p k nl) (cnt p nl) := fun j k hj hk => nth_lt hj hk
  apply Nat.eq_of_testBit_eq
  intro l
  have h := exM_bit (m := fun k => nth p k nl) (s := 2 ^ cnt p nl - 1) (l := l) (cnt p nl) hi
  have h2 : (btN p nl).testBit l = true ↔ ∃ k, k < cnt p nl ∧ nth p k nl = l ∧ (2 ^ cnt p nl - 1).testBit k = true := by
    rw [btN_bit, Bool.and_eq_true, decide_eq_true_iff]
    constructor
    · rintro ⟨h1, h2⟩
      have hk : cnt p l < cnt p nl := by
        have := cnt_mono (p := p) (show l + 1 ≤ nl by omega)
        rw [cnt_t h2] at this
        omega
      exact ⟨cnt p l, hk, nth_1 h1 h2, by rw [Nat.testBit_two_pow_sub_one, decide_eq_true hk]⟩
    · rintro ⟨k, k1, k2, _⟩
      obtain ⟨a, b, _⟩ := nth_2 (p := p) (k := k) nl k1
      rw [k2] at a b
      exact ⟨a, b⟩
  cases ha : (btN p nl).testBit l
  · cases hz : (exM (fun k => nth p k nl) (2 ^ cnt p nl - 1) (cnt p nl)).testBit l
    · rfl
    · rw [h2.mpr (h.mp hz)] at ha
      cases ha
  · exact h.mpr (h2.mp ha)
def enF (f : Option Nat) : Int32 := match f with
  | some s => nI s
  | none => -1
def lsF (W : Nat → Nat) (price : Nat) (f : Option Nat) : Nat := match f with
  | some s => W s - price
  | none => 100000000
def upF (W : Nat → Nat) (price : Nat) (f : Option Nat) (s : Nat) : Option Nat :=
  if W s < price then f else match f with
    | none => some s
    | some s0 => if W s < W s0 ∨ (W s = W s0 ∧ pc s < pc s0) then some s else some s0
theorem payers_step {K : HI} {c price n s : Nat} {W : Nat → Nat} {f : Option Nat} (hc : c ≤ 8) (h1 : K 34 2 = nI c) (hW : ∀ s, s < 2 ^ c → K 37 s = nI (W s) ∧ W s ≤ 79992) (hp : price ≤ 9999) (hs : s < 2 ^ c) (hf : ∀ s0, f = some s0 → s0 < 2 ^ c ∧ price ≤ W s0) : f_X0_payers_L17 (n + 1) K (nI price) (enF f) (nI s) = f_X0_payers_L17 n K (nI price) (enF (upF W price f s)) (nI (s + 1)) := by
  have hp8 : 2 ^ c ≤ 2 ^ 8 := Nat.pow_le_pow_right (by decide) hc
  obtain ⟨w1, w2⟩ := hW s hs
  have c1 : ¬ (1 : Int32) <<< (nI c &&& 31) ≤ nI s := by
    rw [zq1, zq31, sh_ok (by omega)]
    exact nI_ge hs (by omega)
  have A1 : nI s + 1 = nI (s + 1) := nI_1 s
  have n3 : ¬ (1 : Int32) = 0 := by decide
  simp only [f_X0_payers_L17, h1, if_neg c1]
  rw [ldI_ok (by omega), w1, A1]
  simp only [jnt]
  unfold upF
  by_cases cw : W s < price
  · rw [if_pos (nI_lt cw (by omega)), if_pos cw]
  · rw [if_neg (nI_nlt (by omega) (by omega)), if_neg cw]
    cases f with
    | none =>
      have e : enF none = -1 := rfl
      rw [e, if_pos rfl]
      rfl
    | some s0 =>
      obtain ⟨k1, k2⟩ := hf s0 rfl
      obtain ⟨v1, v2⟩ := hW s0 k1
      have e : enF (some s0) = nI s0 := rfl
      have n1 : ¬ nI s0 = -1 := fun q => (nI_eq_mI (a := s0) (b := 1) (by omega) (by decide)).mp q
      have hb : f_X0_paysBetter K (nI s) (nI s0) = some (if W s < W s0 ∨ (W s = W s0 ∧ pc s < pc s0) then 1 else 0) := by
        unfold f_X0_paysBetter
        have p1 := pc_le (s := s)
        have p2 := pc_le (s := s0)
        rw [bitCount_C s (by omega), bitCount_C s0 (by omega)]
        simp (disch := omega) only [ldI_ok, w1, v1, Option.bind_some]
        by_cases ce : W s = W s0
        · rw [if_pos (by rw [ce])]
          by_cases cp : pc s < pc s0
          · rw [if_neg (nI_ge cp (by omega)), gz_1, if_pos (Or.inr ⟨ce, cp⟩)]
          · rw [if_pos (nI_le (by omega) (by omega)), gz_0, if_neg (by omega)]
        · rw [if_neg (fun q => ce ((nI_eq (by omega) (by omega)).mp q))]
          by_cases cl : W s < W s0
          · rw [if_neg (nI_ge cl (by omega)), gz_1, if_pos (Or.inl cl)]
          · rw [if_pos (nI_le (by omega) (by omega)), gz_0, if_neg (by omega)]
      rw [e, if_neg n1, hb]
      simp only [Option.bind_some]
      by_cases cc : W s < W s0 ∨ (W s = W s0 ∧ pc s < pc s0)
      · rw [if_pos cc, if_neg n3, if_pos cc]
        rfl
      · rw [if_neg cc, if_pos rfl, if_neg cc]
        rfl
theorem price_skip {fu his price : Nat} {x y : Int32} (hh : his < 256) : ∀ (d u n : Nat) (J : HI) (M : HL), u + d ≤ his + 1 → (∀ v, u ≤ v → v < u + d → ¬ ∀ l, l < 31 → v.testBit l = true → his.testBit l = true) → f_X12_price_L49 fu (n + d) J M (nI price) (nI his) x y (nI u) = f_X12_price_L49 fu n J M (nI price) (nI his) x y (nI (u + d)) := by
  intro d
  induction d with
  | zero => intro u n J M _ _; rfl
  | succ d ih =>
    intro u n J M h1 h2
    have c1 : ¬ nI his < nI u := nI_nlt (by omega) (by omega)
    have c2 : ¬ (nI u &&& (nI his ^^^ (-1)) = 0) := fun q => h2 u (Nat.le_refl u) (by omega) ((subI (by omega)).mp q)
    rw [show n + (d + 1) = (n + d) + 1 by omega]
    simp only [f_X12_price_L49, if_neg c1, jnt, if_neg c2]
    rw [show nI u + 1 = nI (u + 1) from nI_1 u, ih (u + 1) n J M (by omega) (fun v v1 v2 => h2 v (by omega) (by omega)), show u + 1 + d = u + (d + 1) by omega]
theorem price_step {fu his price u : Nat} {J J' : HI} {M' : HL} {b nh no nl n c s : Nat} {D : HI} {wo W : Nat → Nat} {ex : Nat → Nat} {f : Option Nat} (hM : ML J b nh no nl D) (hL : LR D) (hB : BW (lv J 0)) (hfu : 1600 < fu) (hA : AO J J') (hwo : wo = woN D (lv J 0) nl) (hu : u = ex s) (hW : ∀ s, s < 2 ^ c → W s = WS wo nl (ex s) ∧ W s ≤ 79992 ∧ pc (ex s) = pc s ∧ ex s < 256) (hs : s < 2 ^ c) (hp : price ≤ 9999) (hh : his < 256) (hle : u ≤ his) (hsub : ∀ l, l < 31 → u.testBit l = true → his.testBit l = true) (hf : ∀ s0, f = some s0 → s0 < 2 ^ c ∧ price ≤ W s0) : ∃ J'' M'', f_X12_price_L49 fu (n + 1) J' M' (nI price) (nI his) (enF (f.map ex)) (nI (lsF W price f)) (nI u) = f_X12_price_L49 fu n J'' M'' (nI price) (nI his) (enF ((upF W price f s).map ex)) (nI (lsF W price (upF W price f s))) (nI (u + 1)) ∧ AO J J'' ∧ OtL M' M'' := by
  obtain ⟨w1, w2, w3, w4⟩ := hW s hs
  have hu256 : u < 256 := by omega
  obtain ⟨J'', M'', a1, a2, a3⟩ := worthOf_M (fu := fu) (M := M') (v := 0) (hA.ML hM) hL (by rw [hA.lvE]; exact hB) hfu (by decide) (B := u) (by omega)
  rw [hA.lvE] at a1
  have a1' : f_X12_worthOf fu J' M' 0 (nI u) = some (nI (W s), J'', M'') := by
    rw [w1, hwo, ← hu]
    exact a1
  refine ⟨J'', M'', ?_, hA.trans a2, a3⟩
  have c1 : ¬ nI his < nI u := nI_nlt (by omega) (by omega)
  have c2 : nI u &&& (nI his ^^^ (-1)) = 0 := (subI (by omega)).mpr hsub
  simp only [f_X12_price_L49, if_neg c1, jnt, if_pos c2, a1', Option.bind_some, bnd]
  rw [show nI u + 1 = nI (u + 1) from nI_1 u]
  unfold upF
  by_cases cw : W s < price
  · rw [if_pos (pk_sneg (by omega) cw), if_pos cw]
  · have em : nI (W s) - nI price = nI (W s - price) := pk_sub (by omega)
    rw [em, if_neg (nI_pos (by omega)), if_neg cw]
    cases f with
    | none =>
      have e1 : lsF W price none = 100000000 := rfl
      rw [e1, if_neg (nI_nlt (by omega) (by omega)), if_neg (fun q => absurd ((nI_eq (by omega) (by decide)).mp q) (by omega)), hu]
      rfl
    | some s0 =>
      obtain ⟨k1, k2⟩ := hf s0 rfl
      obtain ⟨v1, v2, v3, v4⟩ := hW s0 k1
      have e1 : lsF W price (some s0) = W s0 - price := rfl
      have e2 : enF ((some s0).map ex) = nI (ex s0) := rfl
      have e3 : enF ((some s).map ex) = nI u := by rw [hu]; rfl
      have e4 : lsF W price (some s) = W s - price := rfl
      rw [e1, e2]
      by_cases cg : W s0 - price < W s - price
      · rw [if_pos (nI_lt cg (by omega))]
        have : ¬ (W s < W s0 ∨ (W s = W s0 ∧ pc s < pc s0)) := by omega
        simp only [if_neg this]
        rfl
      · rw [if_neg (nI_nlt (by omega) (by omega))]
        by_cases ce : W s = W s0
        · have ce' : nI (W s - price) = nI (W s0 - price) := by rw [ce]
          have p1 := pc_le (s := s)
          have p2 := pc_le (s := s0)
          rw [if_pos ce', bits_M hu256 (by omega), bits_M v4 (by omega), hu, w3, v3]
          simp only [Option.bind_some]
          by_cases cp : pc s < pc s0
          · rw [if_pos (nI_lt cp (by omega))]
            simp only [if_pos (show W s < W s0 ∨ (W s = W s0 ∧ pc s < pc s0) from Or.inr ⟨ce, cp⟩)]
            rfl
          · rw [if_neg (nI_nlt (by omega) (by omega))]
            have : ¬ (W s < W s0 ∨ (W s = W s0 ∧ pc s < pc s0)) := by omega
            simp only [if_neg this]
            rfl
        · rw [if_neg (fun q => absurd ((nI_eq (by omega) (by omega)).mp q) (by omega))]
          have : W s < W s0 := by omega
          simp only [if_pos (show W s < W s0 ∨ (W s = W s0 ∧ pc s < pc s0) from Or.inl this)]
          rw [e3, e4]
