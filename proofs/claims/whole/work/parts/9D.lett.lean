/-! letters of names -/
theorem shrL {v k : Nat} {s : Int64} (hs : (s.toBitVec.smod 64).toNat = k) (hv : v < 2 ^ 63) : lN v >>> s = lN (v / 2 ^ k) := by
  have h2 : v / 2 ^ k ≤ v := Nat.div_le_self _ _
  have h1 : (lN v >>> s).toInt = (lN v).toInt >>> k := by
    show ((lN v).toBitVec.sshiftRight (s.toBitVec.smod 64).toNat).toInt = _
    rw [hs, BitVec.toInt_sshiftRight]
    rfl
  apply Int64.toInt_inj.mp
  rw [h1, pk_lT hv, pk_lT (by omega), Int.shiftRight_eq_div_pow]
  rfl
theorem lNn {n : Nat} (h : n < 2 ^ 64) : (lN n).toBitVec.toNat = n := by
  show (BitVec.ofNat 64 n).toNat = n
  rw [BitVec.toNat_ofNat, Nat.mod_eq_of_lt h]
theorem andL255 {v : Nat} (hv : v < 2 ^ 63) : lN v &&& 255 = lN (v % 256) := by
  apply Int64.toBitVec_inj.mp
  apply BitVec.eq_of_toNat_eq
  show ((lN v).toBitVec &&& (255 : Int64).toBitVec).toNat = _
  rw [BitVec.toNat_and, lNn (show v < 2 ^ 64 by omega), lNn (show v % 256 < 2 ^ 64 by omega)]
  have : ((255 : Int64).toBitVec).toNat = 2 ^ 8 - 1 := by decide
  rw [this, Nat.and_two_pow_sub_one_eq_mod]
theorem pk5_lt {w : List Nat} (h : ∀ a ∈ w, 1 ≤ a ∧ a ≤ 26) : pk5 w < 32 ^ w.length := by
  induction w with
  | nil => decide
  | cons a w ih =>
    have h1 := ih (fun x hx => h x (List.mem_cons_of_mem _ hx))
    have h2 := h a (List.mem_cons_self)
    show a + 32 * pk5 w < 32 ^ (w.length + 1)
    rw [Nat.pow_succ]
    omega
theorem pk5_at {w : List Nat} (h : ∀ a ∈ w, 1 ≤ a ∧ a ≤ 26) : ∀ k, pk5 w / 32 ^ k % 32 = w.getD k 0 := by
  induction w with
  | nil =>
    intro k
    show 0 / 32 ^ k % 32 = 0
    rw [Nat.zero_div]
  | cons a w ih =>
    intro k
    have h2 := h a (List.mem_cons_self)
    have e : pk5 (a :: w) = a + 32 * pk5 w := rfl
    cases k with
    | zero =>
      show (a + 32 * pk5 w) / 32 ^ 0 % 32 = a
      rw [Nat.pow_zero, Nat.div_one]
      omega
    | succ k =>
      rw [e, Nat.pow_succ, Nat.mul_comm (32 ^ k) 32, ← Nat.div_div_eq_div_mul, show (a + 32 * pk5 w) / 32 = pk5 w by omega, ih (fun x hx => h x (List.mem_cons_of_mem _ hx)) k]
      rfl
def fo8 (acc : Nat) (w : List Nat) : Nat := w.foldl (fun x a => 256 * x + (a + 96)) acc
theorem fo8_cons {acc a : Nat} {w : List Nat} : fo8 acc (a :: w) = fo8 (256 * acc + (a + 96)) w := rfl
theorem fo8_div {w : List Nat} (h : ∀ a ∈ w, 1 ≤ a ∧ a ≤ 26) : ∀ acc, fo8 acc w / 256 ^ w.length = acc := by
  induction w with
  | nil => intro acc; exact Nat.div_one acc
  | cons a w ih =>
    intro acc
    have h2 := h a (List.mem_cons_self)
    rw [fo8_cons, List.length_cons, Nat.pow_succ, ← Nat.div_div_eq_div_mul, ih (fun x hx => h x (List.mem_cons_of_mem _ hx))]
    omega
theorem fo8_at {w : List Nat} (h : ∀ a ∈ w, 1 ≤ a ∧ a ≤ 26) : ∀ acc k, k < w.length → fo8 acc w / 256 ^ (w.length - 1 - k) % 256 = w.getD k 0 + 96 := by
  induction w with
  | nil => intro acc k hk; exact absurd hk (by simp)
  | cons a w ih =>
    intro acc k hk
    have h2 := h a (List.mem_cons_self)
    have hw := fun x hx => h x (List.mem_cons_of_mem a hx)
    rw [fo8_cons, List.length_cons]
    cases k with
    | zero =>
      rw [show w.length + 1 - 1 - 0 = w.length by omega, fo8_div hw]
      show (256 * acc + (a + 96)) % 256 = a + 96
      omega
    | succ k =>
      rw [List.length_cons] at hk
      rw [show w.length + 1 - 1 - (k + 1) = w.length - 1 - k by omega, ih hw _ k (by omega)]
      rfl
theorem count_M {fu : Nat} : ∀ (n v c m : Nat), n < m → v < 256 ^ n → (0 < n → 256 ^ (n - 1) ≤ v) → v < 2 ^ 63 → f_X12_letter_L58 m (nI c) (lN v) = some (nI (c + n)) := by
  have hs : (((8 : Int32).toInt64 &&& 63).toBitVec.smod 64).toNat = 8 := by decide
  intro n
  induction n with
  | zero =>
    intro v c m h1 h2 h3 h4
    obtain ⟨m, rfl⟩ : ∃ q, m = q + 1 := ⟨m - 1, by omega⟩
    rw [Nat.pow_zero] at h2
    have : v = 0 := by omega
    subst this
    simp only [f_X12_letter_L58]
    rw [if_pos (by decide)]
    rfl
  | succ n ih =>
    intro v c m h1 h2 h3 h4
    obtain ⟨m, rfl⟩ : ∃ q, m = q + 1 := ⟨m - 1, by omega⟩
    have hv : 256 ^ n ≤ v := h3 (by omega)
    have hp : 0 < 256 ^ n := Nat.pow_pos (by decide)
    have c1 : ¬ lg_cmp (lN v) 0 ≤ 0 := by
      rw [lg_cmp_le, show (0 : Int64) = lN 0 from rfl, pk_lLE h4 (by decide)]
      omega
    have e1 : lN v >>> ((8 : Int32).toInt64 &&& 63) = lN (v / 256) := shrL hs h4
    simp only [f_X12_letter_L58, if_neg c1, bnd, e1]
    rw [show nI c + 1 = nI (c + 1) from nI_1 c, ih (v / 256) (c + 1) m (by omega) (by rw [Nat.pow_succ] at h2; omega) (fun hn => by
      obtain ⟨k, rfl⟩ : ∃ k, n = k + 1 := ⟨n - 1, by omega⟩
      rw [Nat.pow_succ] at hv
      rw [show k + 1 - 1 = k by omega]
      omega) (by omega)]
    congr 2
    omega
theorem fo8_lt {w : List Nat} (h : ∀ a ∈ w, 1 ≤ a ∧ a ≤ 26) (acc : Nat) : fo8 acc w < (acc + 1) * 256 ^ w.length := by
  have := fo8_div h acc
  have hp : 0 < 256 ^ w.length := Nat.pow_pos (by decide)
  have := Nat.lt_succ_iff.mpr (Nat.le_of_eq this)
  exact (Nat.div_lt_iff_lt_mul hp).mp this
theorem name_read {x : Int32} {y : Int64} {k fu t : Nat} (h : NR x y) (hk : k ≤ 5) (hf : 8 < fu) : ∃ m r, m ≤ 6 ∧ f_X12_letter_L58 fu 0 y = some (nI m) ∧ f_X2_letterOf t x (nI k) = some r ∧ (k < m → (Int64.toInt32 ((y >>> (((8 * ((nI m - 1) - nI k)) : Int32).toInt64 &&& 63)) &&& 255)) - 97 + 1 = r) ∧ (¬ k < m → r = 0) := by
  obtain ⟨w, h1, h2, h3, rfl, rfl⟩ := h
  have e8 : pk8 w = fo8 0 w := rfl
  have hl : fo8 0 w < 256 ^ w.length := by
    have := fo8_lt h1 0
    rw [Nat.zero_add, Nat.one_mul] at this
    exact this
  have hp6 : 256 ^ w.length ≤ 256 ^ 6 := Nat.pow_le_pow_right (by decide) h3
  have h63 : fo8 0 w < 2 ^ 63 := by omega
  have h5 := pk5_lt h1
  have hp5 : 32 ^ w.length ≤ 32 ^ 6 := Nat.pow_le_pow_right (by decide) h3
  have hge : 256 ^ (w.length - 1) ≤ fo8 0 w := by
    have := fo8_at h1 0 0 (by omega)
    have hp : 0 < 256 ^ (w.length - 1) := Nat.pow_pos (by decide)
    rw [show w.length - 1 - 0 = w.length - 1 by omega] at this
    rcases Nat.lt_or_ge (fo8 0 w) (256 ^ (w.length - 1)) with q | q
    · rw [Nat.div_eq_of_lt q] at this
      omega
    · exact q
  have hcnt := count_M (fu := fu) w.length (fo8 0 w) 0 fu (by omega) hl (fun _ => hge) h63
  rw [Nat.zero_add] at hcnt
  have hz : k = 0 ∨ k = 1 ∨ k = 2 ∨ k = 3 ∨ k = 4 ∨ k = 5 := by omega
  have hlet : f_X2_letterOf t (nI (pk5 w)) (nI k) = some (nI (w.getD k 0)) := by
    unfold f_X2_letterOf
    congr 1
    have hs : (((5 * nI k : Int32).toUInt32 &&& Int32.toUInt32 31).toBitVec % 32).toNat = 5 * k := by
      rcases hz with q | q | q | q | q | q <;> subst q <;> decide
    rw [pk_ushrN (by omega) (5 * nI k) (5 * k) hs, pk_andN (n := pk5 w / 2 ^ (5 * k)) (by
      have : pk5 w / 2 ^ (5 * k) ≤ pk5 w := Nat.div_le_self _ _
      omega) 5 (by decide), Nat.pow_mul]
    exact congrArg nI (pk5_at h1 k)
  refine ⟨w.length, nI (w.getD k 0), h3, hcnt, hlet, fun c => ?_, fun c => ?_⟩
  · have es : (8 : Int32) * ((nI w.length - 1) - nI k) = nI (8 * (w.length - 1 - k)) := by
      rw [zq8, zq1, pk_sub (by omega), pk_sub (by omega), pk_mul]
    obtain ⟨d, hd⟩ : ∃ d, d = w.length - 1 - k := ⟨_, rfl⟩
    rw [es, ← hd]
    have hdz : d = 0 ∨ d = 1 ∨ d = 2 ∨ d = 3 ∨ d = 4 ∨ d = 5 := by omega
    have hs : (((nI (8 * d)).toInt64 &&& 63).toBitVec.smod 64).toNat = 8 * d := by
      rcases hdz with q | q | q | q | q | q <;> rw [q] <;> decide
    have hle : fo8 0 w / 2 ^ (8 * d) ≤ fo8 0 w := Nat.div_le_self _ _
    rw [e8, shrL hs h63, andL255 (by omega), Nat.pow_mul]
    have ha := fo8_at h1 0 k c
    rw [← hd] at ha
    rw [show (2 ^ 8 : Nat) = 256 by decide, ha, lN_i]
    have hb : w.getD k 0 ≤ 26 := by
      rw [List.getD_eq_getElem?_getD, List.getElem?_eq_getElem c]
      exact (h1 _ (List.getElem_mem c)).2
    rw [zq97, zq1, ← nI_add (w.getD k 0) 96]
    have : nI (w.getD k 0) + nI 96 - nI 97 + nI 1 = nI (w.getD k 0) := by
      rw [nI_add, ← nI_add, Int32.sub_eq_add_neg, Int32.add_assoc, Int32.add_assoc]
      have z : nI 96 + (-nI 97 + nI 1) = 0 := by decide
      rw [z, Int32.add_zero]
    exact this
  · rw [List.getD_eq_getElem?_getD, List.getElem?_eq_none (by omega)]
    rfl
theorem eq_letter : Eq_letter Rel := by
  intro n I R J M a0 a1 a2 hn hR
  obtain ⟨t, b, nh, no, nl, h⟩ := hR
  obtain ⟨hC, hL, hM, hE, hS, hB, hB', h1⟩ := h.get
  have hC' := hC
  obtain ⟨c0, c1, c2, c3, c4, c5, c6, c7, c8, c9⟩ := hC'
  obtain ⟨⟨m0, m1⟩, m2, m3, m4, m5, m6, m7, m8, m9, m10⟩ := id hM
  obtain ⟨nm1, nm2, nm3⟩ := h.2.2.2.2.2.2.1.2.2.2.2.2.2
  have n3 : ¬ (1 : Int32) = 0 := by decide
  have key : ∀ (x : Int32) (y : Int64) (k : Nat), k ≤ 5 → NR x y → ∃ r, ((f_X2_letterOf t x (nI k)).bind fun x5 => some x5) = some r ∧ ((f_X12_letter_L58 FU 0 y).bind fun x8 => if nI k < x8 then some (((Int64.toInt32 ((y >>> (((8 * ((x8 - 1) - nI k)) : Int32).toInt64 &&& 63)) &&& 255)) - 97) + 1) else some 0) = some r := by
    intro x y k hk hN
    obtain ⟨m, r, r1, r2, r3, r4, r5⟩ := name_read (fu := FU) (t := t) hN hk FU_big.2
    refine ⟨r, by rw [r3]; rfl, ?_⟩
    rw [r2]
    simp only [Option.bind_some]
    by_cases c : k < m
    · rw [if_pos (nI_lt c (by omega)), r4 c]
    · rw [if_neg (nI_nlt (by omega) (by omega)), r5 c]
  have isn : ∀ (x : Int32) (m : Nat), m ≤ 8 → (¬ (0 ≤ x ∧ x < nI m)) → f_X12_is x 0 (nI m - 1) = some 0 := by
    intro x m hm hx
    unfold f_X12_is
    by_cases c : x < 0
    · rw [if_pos c, gz_0]
    · rw [if_neg c, if_pos, gz_0]
      have : ¬ x < nI m := fun q => hx ⟨Int32.not_lt.mp c, q⟩
      rw [Int32.lt_iff_toInt_lt, nI_toInt (by omega)] at this
      rw [Int32.lt_iff_toInt_lt, Int32.toInt_sub, nI_toInt (by omega), zt1, Int.bmod_eq_of_le (by omega) (by omega)]
      omega
  have isy : ∀ (j m : Nat), m ≤ 8 → j < m → f_X12_is (nI j) 0 (nI m - 1) = some 1 := by
    intro j m hm hj
    unfold f_X12_is
    rw [if_neg (nI_pos (by omega)), if_neg, gz_1]
    rw [Int32.lt_iff_toInt_lt, Int32.toInt_sub, nI_toInt (by omega), zt1, nI_toInt (by omega), Int.bmod_eq_of_le (by omega) (by omega)]
    omega
  rcases x_cases a2 6 (by decide) with d | d | ⟨k, hk, rfl⟩
  · refine ⟨-1, ?_, ?_, h.up.rel⟩
    · unfold f_X11_letter
      simp (disch := omega) only [Int32.le_iff_toInt_le, Int32.lt_iff_toInt_lt, ← Int32.toInt_inj, zt0, zt1, zt2, zt3, zt4, zt5, zt6, zt7, zt8, zt9, zt10, zt11, zt12, zt13, zt14, zt15, zt16, zt17, zt18, zt19, zt20, zt21, zt22, zt23, zt24, zt25, zt26, zt30, zt31, zt32, zt33, zt34, zt35, zt36, zt37, zt38, zt39, zt40, zt41, zt42, zt43, zt44, zt45, zt47, zt48, zt57, zt59, zt60, zt61, zt62, zt80, zt91, zt93, zt97, zt99, zt100, zt107, zt110, zt120, zt122, zt128, zt149, zt160, zt208, zt240, zt251, zt255, zt256, zt500, zt936, zt999, zt1600, zt1800, zt2048, zt3200, zt4160, zt9999, zt12345, zt1000000, zt1048576, zt100000000, zu1, zu2, zu3, zu4, zu5, zu6, zu7, zu8, zu9, zu10, zu11, zu12, zu13, zu14, zu15, zu16, zu17, zu18, zu19, zu20, zu1000000000, if_pos, if_neg, gz_0, gz_1, Option.bind_some, if_true, if_false]
    · unfold f_X12_letter
      have e5 : f_X12_is a2 0 5 = some 0 := by
        unfold f_X12_is
        simp (disch := omega) only [Int32.le_iff_toInt_le, Int32.lt_iff_toInt_lt, ← Int32.toInt_inj, zt0, zt1, zt2, zt3, zt4, zt5, zt6, zt7, zt8, zt9, zt10, zt11, zt12, zt13, zt14, zt15, zt16, zt17, zt18, zt19, zt20, zt21, zt22, zt23, zt24, zt25, zt26, zt30, zt31, zt32, zt33, zt34, zt35, zt36, zt37, zt38, zt39, zt40, zt41, zt42, zt43, zt44, zt45, zt47, zt48, zt57, zt59, zt60, zt61, zt62, zt80, zt91, zt93, zt97, zt99, zt100, zt107, zt110, zt120, zt122, zt128, zt149, zt160, zt208, zt240, zt251, zt255, zt256, zt500, zt936, zt999, zt1600, zt1800, zt2048, zt3200, zt4160, zt9999, zt12345, zt1000000, zt1048576, zt100000000, zu1, zu2, zu3, zu4, zu5, zu6, zu7, zu8, zu9, zu10, zu11, zu12, zu13, zu14, zu15, zu16, zu17, zu18, zu19, zu20, zu1000000000, if_pos, if_neg, gz_0, gz_1, Option.bind_some, if_true, if_false]
      by_cases z : f_X12_is a0 0 2 = some 0
      · rw [z]; rfl
      · have z1 : f_X12_is a0 0 2 = some 1 := by
          unfold f_X12_is at z ⊢
          split at z
          · rw [gz_0] at z; exact absurd rfl z
          · split at z
            · rw [gz_0] at z; exact absurd rfl z
            · rename_i q1 q2
              rw [if_neg q1, if_neg q2, gz_1]
        rw [z1, e5]
        simp only [Option.bind_some, if_neg n3, m0]
        have hmany : ∃ m, m ≤ 8 ∧ f_X12_manyOf J (nI b) a0 = some (nI m) := by
          unfold f_X12_manyOf
          rw [ldI_ok (by omega), ldI_ok (by omega), ldI_ok (by omega), m2, m3, m4]
          split
          · exact ⟨nh, m5, rfl⟩
          · split
            · exact ⟨no, by omega, rfl⟩
            · exact ⟨nl, m7, rfl⟩
        obtain ⟨m, hm, em⟩ := hmany
        rw [em]
        simp only [Option.bind_some]
        rcases own_cases (x := a1) (no := m) hm with q | ⟨j, hj, rfl, q⟩
        · rw [isn a1 m hm q]; rfl
        · rw [isy j m hm hj]; rfl
  · refine ⟨-1, ?_, ?_, h.up.rel⟩
    · unfold f_X11_letter
      simp (disch := omega) only [Int32.le_iff_toInt_le, Int32.lt_iff_toInt_lt, ← Int32.toInt_inj, zt0, zt1, zt2, zt3, zt4, zt5, zt6, zt7, zt8, zt9, zt10, zt11, zt12, zt13, zt14, zt15, zt16, zt17, zt18, zt19, zt20, zt21, zt22, zt23, zt24, zt25, zt26, zt30, zt31, zt32, zt33, zt34, zt35, zt36, zt37, zt38, zt39, zt40, zt41, zt42, zt43, zt44, zt45, zt47, zt48, zt57, zt59, zt60, zt61, zt62, zt80, zt91, zt93, zt97, zt99, zt100, zt107, zt110, zt120, zt122, zt128, zt149, zt160, zt208, zt240, zt251, zt255, zt256, zt500, zt936, zt999, zt1600, zt1800, zt2048, zt3200, zt4160, zt9999, zt12345, zt1000000, zt1048576, zt100000000, zu1, zu2, zu3, zu4, zu5, zu6, zu7, zu8, zu9, zu10, zu11, zu12, zu13, zu14, zu15, zu16, zu17, zu18, zu19, zu20, zu1000000000, if_pos, if_neg, gz_0, gz_1, Option.bind_some, if_true, if_false]
    · unfold f_X12_letter
      have e5 : f_X12_is a2 0 5 = some 0 := by
        unfold f_X12_is
        simp (disch := omega) only [Int32.le_iff_toInt_le, Int32.lt_iff_toInt_lt, ← Int32.toInt_inj, zt0, zt1, zt2, zt3, zt4, zt5, zt6, zt7, zt8, zt9, zt10, zt11, zt12, zt13, zt14, zt15, zt16, zt17, zt18, zt19, zt20, zt21, zt22, zt23, zt24, zt25, zt26, zt30, zt31, zt32, zt33, zt34, zt35, zt36, zt37, zt38, zt39, zt40, zt41, zt42, zt43, zt44, zt45, zt47, zt48, zt57, zt59, zt60, zt61, zt62, zt80, zt91, zt93, zt97, zt99, zt100, zt107, zt110, zt120, zt122, zt128, zt149, zt160, zt208, zt240, zt251, zt255, zt256, zt500, zt936, zt999, zt1600, zt1800, zt2048, zt3200, zt4160, zt9999, zt12345, zt1000000, zt1048576, zt100000000, zu1, zu2, zu3, zu4, zu5, zu6, zu7, zu8, zu9, zu10, zu11, zu12, zu13, zu14, zu15, zu16, zu17, zu18, zu19, zu20, zu1000000000, if_pos, if_neg, gz_0, gz_1, Option.bind_some, if_true, if_false]
      by_cases z : f_X12_is a0 0 2 = some 0
      · rw [z]; rfl
      · have z1 : f_X12_is a0 0 2 = some 1 := by
          unfold f_X12_is at z ⊢
          split at z
          · rw [gz_0] at z; exact absurd rfl z
          · split at z
            · rw [gz_0] at z; exact absurd rfl z
            · rename_i q1 q2
              rw [if_neg q1, if_neg q2, gz_1]
        rw [z1, e5]
        simp only [Option.bind_some, if_neg n3, m0]
        have hmany : ∃ m, m ≤ 8 ∧ f_X12_manyOf J (nI b) a0 = some (nI m) := by
          unfold f_X12_manyOf
          rw [ldI_ok (by omega), ldI_ok (by omega), ldI_ok (by omega), m2, m3, m4]
          split
          · exact ⟨nh, m5, rfl⟩
          · split
            · exact ⟨no, by omega, rfl⟩
            · exact ⟨nl, m7, rfl⟩
        obtain ⟨m, hm, em⟩ := hmany
        rw [em]
        simp only [Option.bind_some]
        rcases own_cases (x := a1) (no := m) hm with q | ⟨j, hj, rfl, q⟩
        · rw [isn a1 m hm q]; rfl
        · rw [isy j m hm hj]; rfl
  · have k1 : ¬ nI k < 0 := nI_pos (by omega)
    have k2 : nI k ≤ 5 := nI_le (b := 5) (by omega) (by decide)
    have e5 : f_X12_is (nI k) 0 5 = some 1 := by
      unfold f_X12_is
      rw [if_neg k1, if_neg (Int32.not_lt.mpr k2), gz_1]
    unfold f_X11_letter f_X12_letter
    rw [isHollow_C hC, isOwner_C hC, isLake_C hC, e5, h1]
    simp only [if_neg k1, if_pos k2, jnt, zg_ok c0, m0, Option.bind_some]
    by_cases e0 : a0 = 0
    · subst e0
      have i0 : f_X12_is 0 0 2 = some 1 := by decide
      have mm : f_X12_manyOf J (nI b) 0 = some (nI nh) := by
        unfold f_X12_manyOf
        rw [if_pos rfl, ldI_ok (by omega), m2]
      have n01 : ¬ (0 : Int32) = 1 := by decide
      have n02 : ¬ (0 : Int32) = 2 := by decide
      rw [i0, mm]
      simp only [Option.bind_some, if_neg n3, if_true, if_neg n01, if_neg n02]
      rcases own_cases (x := a1) (no := nh) c7 with q | ⟨j, hj, rfl, q⟩
      · rw [isn a1 nh c7 q]
        refine ⟨-1, ?_, ?_, h.up.rel⟩ <;> simp only [if_neg q, Option.bind_some, if_true]
      · have nn : f_X12_nameOf M (nI b) 0 (nI j) = some (M 117 (8 * b + j)) := by
          unfold f_X12_nameOf
          rw [if_pos rfl, zq8, pk_mul, nI_add, ldL_ok (by omega)]
        obtain ⟨r, r1, r2⟩ := key (I (t + 1) j) (M 117 (8 * b + j)) k (by omega) (nm1 j hj)
        rw [isy j nh c7 hj, nn]
        refine ⟨r, ?_, ?_, h.up.rel⟩
        · simp (disch := omega) only [if_pos q, if_neg n3, ldI_ok]
          exact r1
        · simp only [Option.bind_some, if_neg n3]
          exact r2
    by_cases e1 : a0 = 1
    · subst e1
      have i0 : f_X12_is 1 0 2 = some 1 := by decide
      have mm : f_X12_manyOf J (nI b) 1 = some (nI no) := by
        unfold f_X12_manyOf
        rw [if_neg n3, if_pos rfl, ldI_ok (by omega), m3]
      have n12 : ¬ (1 : Int32) = 2 := by decide
      rw [i0, mm]
      simp only [Option.bind_some, if_neg n3, if_true, if_neg n12]
      rcases own_cases (x := a1) (no := no) (by omega) with q | ⟨j, hj, rfl, q⟩
      · rw [isn a1 no (by omega) q]
        refine ⟨-1, ?_, ?_, h.up.rel⟩ <;> simp only [if_neg q, Option.bind_some, if_true]
      · have nn : f_X12_nameOf M (nI b) 1 (nI j) = some (M 118 (6 * b + j)) := by
          unfold f_X12_nameOf
          rw [if_neg n3, if_pos rfl, zq6, pk_mul, nI_add, ldL_ok (by omega)]
        obtain ⟨r, r1, r2⟩ := key (I (t + 2) j) (M 118 (6 * b + j)) k (by omega) (nm2 j hj)
        rw [isy j no (by omega) hj, nn]
        refine ⟨r, ?_, ?_, h.up.rel⟩
        · simp (disch := omega) only [if_pos q, if_neg n3, ldI_ok]
          exact r1
        · simp only [Option.bind_some, if_neg n3]
          exact r2
    by_cases e2 : a0 = 2
    · subst e2
      have i0 : f_X12_is 2 0 2 = some 1 := by decide
      have n20 : ¬ (2 : Int32) = 0 := by decide
      have n21 : ¬ (2 : Int32) = 1 := by decide
      have mm : f_X12_manyOf J (nI b) 2 = some (nI nl) := by
        unfold f_X12_manyOf
        rw [if_neg n20, if_neg n21, ldI_ok (by omega), m4]
      rw [i0, mm]
      simp only [Option.bind_some, if_neg n3, if_true, if_neg n20, if_neg n21]
      rcases own_cases (x := a1) (no := nl) c9 with q | ⟨j, hj, rfl, q⟩
      · rw [isn a1 nl c9 q]
        refine ⟨-1, ?_, ?_, h.up.rel⟩ <;> simp only [if_neg q, Option.bind_some, if_true]
      · have nn : f_X12_nameOf M (nI b) 2 (nI j) = some (M 119 (8 * b + j)) := by
          unfold f_X12_nameOf
          rw [if_neg n20, if_neg n21, zq8, pk_mul, nI_add, ldL_ok (by omega)]
        obtain ⟨r, r1, r2⟩ := key (I (t + 3) j) (M 119 (8 * b + j)) k (by omega) (nm3 j hj)
        rw [isy j nl c9 hj, nn]
        refine ⟨r, ?_, ?_, h.up.rel⟩
        · simp (disch := omega) only [if_pos q, if_neg n3, ldI_ok]
          exact r1
        · simp only [Option.bind_some, if_neg n3]
          exact r2
    · have i0 : f_X12_is a0 0 2 = some 0 := by
        unfold f_X12_is
        rcases x_cases a0 3 (by decide) with q | q | ⟨j, hj, rfl⟩
        · simp (disch := omega) only [Int32.le_iff_toInt_le, Int32.lt_iff_toInt_lt, ← Int32.toInt_inj, zt0, zt1, zt2, zt3, zt4, zt5, zt6, zt7, zt8, zt9, zt10, zt11, zt12, zt13, zt14, zt15, zt16, zt17, zt18, zt19, zt20, zt21, zt22, zt23, zt24, zt25, zt26, zt30, zt31, zt32, zt33, zt34, zt35, zt36, zt37, zt38, zt39, zt40, zt41, zt42, zt43, zt44, zt45, zt47, zt48, zt57, zt59, zt60, zt61, zt62, zt80, zt91, zt93, zt97, zt99, zt100, zt107, zt110, zt120, zt122, zt128, zt149, zt160, zt208, zt240, zt251, zt255, zt256, zt500, zt936, zt999, zt1600, zt1800, zt2048, zt3200, zt4160, zt9999, zt12345, zt1000000, zt1048576, zt100000000, zu1, zu2, zu3, zu4, zu5, zu6, zu7, zu8, zu9, zu10, zu11, zu12, zu13, zu14, zu15, zu16, zu17, zu18, zu19, zu20, zu1000000000, if_pos, if_neg, gz_0, gz_1, Option.bind_some, if_true, if_false]
        · simp (disch := omega) only [Int32.le_iff_toInt_le, Int32.lt_iff_toInt_lt, ← Int32.toInt_inj, zt0, zt1, zt2, zt3, zt4, zt5, zt6, zt7, zt8, zt9, zt10, zt11, zt12, zt13, zt14, zt15, zt16, zt17, zt18, zt19, zt20, zt21, zt22, zt23, zt24, zt25, zt26, zt30, zt31, zt32, zt33, zt34, zt35, zt36, zt37, zt38, zt39, zt40, zt41, zt42, zt43, zt44, zt45, zt47, zt48, zt57, zt59, zt60, zt61, zt62, zt80, zt91, zt93, zt97, zt99, zt100, zt107, zt110, zt120, zt122, zt128, zt149, zt160, zt208, zt240, zt251, zt255, zt256, zt500, zt936, zt999, zt1600, zt1800, zt2048, zt3200, zt4160, zt9999, zt12345, zt1000000, zt1048576, zt100000000, zu1, zu2, zu3, zu4, zu5, zu6, zu7, zu8, zu9, zu10, zu11, zu12, zu13, zu14, zu15, zu16, zu17, zu18, zu19, zu20, zu1000000000, if_pos, if_neg, gz_0, gz_1, Option.bind_some, if_true, if_false]
        · have hz : j = 0 ∨ j = 1 ∨ j = 2 := by omega
          rcases hz with q | q | q <;> subst q
          · exact absurd rfl e0
          · exact absurd rfl e1
          · exact absurd rfl e2
      rw [i0]
      refine ⟨-1, ?_, ?_, h.up.rel⟩
      · simp only [if_neg e0, if_neg e1, if_neg e2]
      · simp only [Option.bind_some, if_true]
