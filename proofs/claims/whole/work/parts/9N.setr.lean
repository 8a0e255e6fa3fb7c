/-! settling: the reference -/
theorem andn_ok {u p : Nat} (hu : u < 2 ^ 31) (h : sb p u) : nI u &&& (nI p ^^^ (-1)) = nI (u ^^^ p) := by
  apply Int32.toBitVec_inj.mp
  have em : (-1 : Int32).toBitVec = BitVec.allOnes 32 := by decide
  show (nI u).toBitVec &&& ((nI p).toBitVec ^^^ (-1 : Int32).toBitVec) = (nI (u ^^^ p)).toBitVec
  rw [em]
  apply BitVec.eq_of_getLsbD_eq
  intro i hi
  have q1 : (nI u).toBitVec = BitVec.ofNat 32 u := rfl
  have q2 : (nI p).toBitVec = BitVec.ofNat 32 p := rfl
  have q3 : (nI (u ^^^ p)).toBitVec = BitVec.ofNat 32 (u ^^^ p) := rfl
  rw [BitVec.getLsbD_and, BitVec.getLsbD_xor, q1, q2, q3, BitVec.getLsbD_ofNat, BitVec.getLsbD_ofNat, BitVec.getLsbD_ofNat, BitVec.getLsbD_allOnes, decide_eq_true hi, Nat.testBit_xor]
  cases hp : p.testBit i
  · simp
  · rw [h i hp]
    simp
section
variable {J : HI} {b nh no nl fu : Nat} {D : HI}
theorem netOf_M (hM : ML J b nh no nl D) (hf : 8 < fu) {d : Nat → Int32} (hd : ∀ k, k < 36 → d k = J 131 k) {o : Nat} (ho : o < 6) : f_X12_netOf fu J (nI o) = some (ntI d no o) := by
  have h6 := hM.2.2.2.2.2.1
  obtain ⟨a1, a2⟩ := owed_M (fu := fu) hM hf ho
  unfold f_X12_netOf ntI
  rw [a1, a2]
  simp only [Option.bind_some]
  have e1 : sm (fun p => d (p * 6 + o)) no = sm (fun p => J 131 (6 * p + o)) no := sm_congr (fun p hp => by rw [hd _ (by omega)]; congr 1; omega)
  have e2 : sm (fun p => d (o * 6 + p)) no = sm (fun p => J 131 (6 * o + p)) no := sm_congr (fun p hp => by rw [hd _ (by omega)]; congr 1; omega)
  rw [e1, e2]
theorem sumP_M (hM : ML J b nh no nl D) (hf : 8 < fu) {d : Nat → Int32} (hd : ∀ k, k < 36 → d k = J 131 k) {u : Nat} (hu : u < 64) : f_X12_settling_L76 fu fu J (nI u) 0 0 = some (SU (ntI d no) no u) := by
  have hM' := hM
  obtain ⟨⟨h0, h1⟩, h2, h3, h4, h5, h6, h7, h8, h9, h10⟩ := hM'
  refine loopCf (fun n a i => f_X12_settling_L76 fu n J (nI u) a i) (fun i => SU (ntI d no) i u) _ no fu ?_ ?_ (by omega)
  · intro n i hi
    have hn := netOf_M (fu := fu) hM hf hd (show i < 6 by omega)
    have hb := has2_ok (x := u) (i := i) (by omega) (by omega)
    have es : SU (ntI d no) (i + 1) u = SU (ntI d no) i u + (if u.testBit i = true then ntI d no i else 0) := rfl
    have n4 : ¬ (1 : Int32) = 0 := by decide
    have c1 : ¬ nI no ≤ nI i := nI_ge hi (by omega)
    have A1 : nI i + 1 = nI (i + 1) := nI_1 i
    rw [es]
    by_cases c : u.testBit i = true
    · rw [if_pos c] at hb
      rw [if_pos c]
      simp (disch := omega) only [f_X12_settling_L76, h0, ldI_ok, h3, if_neg c1, hb, Option.bind_some, jnt, bnd, if_neg n4, hn, A1]
    · rw [if_neg c] at hb
      rw [if_neg c]
      simp (disch := omega) only [f_X12_settling_L76, h0, ldI_ok, h3, if_neg c1, hb, Option.bind_some, jnt, bnd, if_true, A1]
  · intro n
    have c1 : nI no ≤ nI no := Int32.le_refl _
    simp (disch := omega) only [f_X12_settling_L76, h0, ldI_ok, h3, if_pos c1]
theorem all_M (hM : ML J b nh no nl D) (hf : 8 < fu) {d : Nat → Int32} (hd : ∀ k, k < 36 → d k = J 131 k) : f_X12_settling_L4 fu fu J 0 0 = some (nI (btN (qN d no) no)) := by
  have hM' := hM
  obtain ⟨⟨h0, h1⟩, h2, h3, h4, h5, h6, h7, h8, h9, h10⟩ := hM'
  refine loopCf (fun n a i => f_X12_settling_L4 fu n J a i) (fun i => nI (btN (qN d no) i)) _ no fu ?_ ?_ (by omega)
  · intro n i hi
    have hn := netOf_M (fu := fu) hM hf hd (show i < 6 by omega)
    have c1 : ¬ nI no ≤ nI i := nI_ge hi (by omega)
    have A1 : nI i + 1 = nI (i + 1) := nI_1 i
    have esh : (1 : Int32) <<< (nI i &&& 31) = nI (2 ^ i) := by rw [zq1, zq31, sh_ok (by omega)]
    by_cases c : ntI d no i = 0
    · have hq : ¬ qN d no i = true := fun w => (of_decide_eq_true w) c
      have z : nI (btN (qN d no) i) ||| 0 = nI (btN (qN d no) i) := Int32.or_zero
      show f_X12_settling_L4 fu (n + 1) J (nI (btN (qN d no) i)) (nI i) = f_X12_settling_L4 fu n J (nI (btN (qN d no) (i + 1))) (nI (i + 1))
      rw [btN_f hq]
      simp (disch := omega) only [f_X12_settling_L4, h0, ldI_ok, h3, if_neg c1, hn, Option.bind_some, jnt, bnd, if_pos c, z, A1]
    · have hq : qN d no i = true := decide_eq_true c
      show f_X12_settling_L4 fu (n + 1) J (nI (btN (qN d no) i)) (nI i) = f_X12_settling_L4 fu n J (nI (btN (qN d no) (i + 1))) (nI (i + 1))
      rw [btN_t hq, ← or_bit (btN_lt i), ← or_ok]
      simp (disch := omega) only [f_X12_settling_L4, h0, ldI_ok, h3, if_neg c1, hn, Option.bind_some, jnt, bnd, if_neg c, esh, A1]
  · intro n
    have c1 : nI no ≤ nI no := Int32.le_refl _
    simp (disch := omega) only [f_X12_settling_L4, h0, ldI_ok, h3, if_pos c1]
/-- the table of one set: from its largest part down -/
def pv (V : HI) (u : Nat) : Int := (V 141 u).toInt
def Cd (su : Nat → Int32) (V : HI) (u q : Nat) : Prop := 0 < q ∧ sb q u ∧ su q = 0 ∧ 0 ≤ pv V (u ^^^ q)
theorem parts_M (hM : ML J b nh no nl D) (hf : 1600 < fu) {d : Nat → Int32} (hd : ∀ k, k < 36 → d k = J 131 k) {u : Nat} (hu : u < 64) {W : HI} (hW : ∀ x, x ≠ 141 → W x = J x) (hlow : ∀ w, w < u → -1 ≤ pv W w ∧ pv W w ≤ w) :
    ∀ (p n : Nat) (V : HI), sb p u → p < n → (∀ x, x ≠ 141 → V x = J x) → (∀ w, w ≠ u → V 141 w = W 141 w) → (-1 ≤ pv V u ∧ pv V u ≤ u) → (∀ q, p < q → Cd (SU (ntI d no) no) W u q → pv W (u ^^^ q) + 1 ≤ pv V u) → (pv V u = -1 ∨ ∃ q, Cd (SU (ntI d no) no) W u q ∧ pv V u = pv W (u ^^^ q) + 1) →
    ∃ V', f_X12_settling_L66 fu n V (nI u) (nI p) = some V' ∧ (∀ x, x ≠ 141 → V' x = J x) ∧ (∀ w, w ≠ u → V' 141 w = W 141 w) ∧ (-1 ≤ pv V' u ∧ pv V' u ≤ u) ∧ (∀ q, Cd (SU (ntI d no) no) W u q → pv W (u ^^^ q) + 1 ≤ pv V' u) ∧ (pv V' u = -1 ∨ ∃ q, Cd (SU (ntI d no) no) W u q ∧ pv V' u = pv W (u ^^^ q) + 1) := by
  intro p
  induction p using Nat.strongRecOn with
  | ind p ih =>
    intro n V hp hn v1 v2 v3 v4 v5
    obtain ⟨n, rfl⟩ : ∃ z, n = z + 1 := ⟨n - 1, by omega⟩
    by_cases c0 : p = 0
    · subst c0
      have c1 : nI 0 ≤ 0 := by decide
      refine ⟨V, ?_, v1, v2, v3, fun q hq => v4 q hq.1 hq, v5⟩
      simp only [f_X12_settling_L66, if_pos c1]
    · have hple := sb_le hp
      have c1 : ¬ nI p ≤ 0 := nI_nle (by omega) (by omega)
      have hsum : f_X12_settling_L76 fu fu V (nI p) 0 0 = some (SU (ntI d no) no p) := sumP_M (ML_congr (by rw [v1 100 (by decide)]) (fun x q1 q2 => v1 x (by omega)) hM) (by omega) (fun k hk => by rw [v1 131 (by decide)]; exact hd k hk) (by omega)
      obtain ⟨p', hp'⟩ : ∃ p', p' = (p - 1) &&& u := ⟨_, rfl⟩
      have hp's : sb p' u := fun l hl => by
        rw [hp', Nat.testBit_and, Bool.and_eq_true] at hl
        exact hl.2
      have hp'lt : p' < p := by
        have : p' ≤ p - 1 := by rw [hp']; exact Nat.and_le_left
        omega
      have enx : (nI p - 1) &&& nI u = nI p' := by rw [zq1, pk_sub (by omega), and_ok, hp']
      have eix := andn_ok (u := u) (p := p) (by omega) hp
      have hxlt := xor_lt hp (by omega)
      have hx64 : u ^^^ p < 64 := by omega
      have hgap : ∀ q, p' < q → q < p → ¬ sb q u := fun q q1 q2 hq => by
        have := sub_pred 6 u p q hu (by omega) (by omega) hp hq q2
        rw [← hp'] at this
        omega
      have eV : V 141 (u ^^^ p) = W 141 (u ^^^ p) := v2 _ (by omega)
      obtain ⟨l1, l2⟩ := hlow _ hxlt
      have tpl : (V 141 (u ^^^ p)).toInt = pv W (u ^^^ p) := by rw [eV]; rfl
      have tpl1 : (V 141 (u ^^^ p) + 1).toInt = pv W (u ^^^ p) + 1 := by
        rw [Int32.toInt_add, tpl, zt1, Int.bmod_eq_of_le (by omega) (by omega)]
      have keep : (¬ Cd (SU (ntI d no) no) W u p ∨ pv W (u ^^^ p) + 1 ≤ pv V u) → f_X12_settling_L66 fu (n + 1) V (nI u) (nI p) = f_X12_settling_L66 fu n V (nI u) (nI p') → ∃ V', f_X12_settling_L66 fu (n + 1) V (nI u) (nI p) = some V' ∧ (∀ x, x ≠ 141 → V' x = J x) ∧ (∀ w, w ≠ u → V' 141 w = W 141 w) ∧ (-1 ≤ pv V' u ∧ pv V' u ≤ u) ∧ (∀ q, Cd (SU (ntI d no) no) W u q → pv W (u ^^^ q) + 1 ≤ pv V' u) ∧ (pv V' u = -1 ∨ ∃ q, Cd (SU (ntI d no) no) W u q ∧ pv V' u = pv W (u ^^^ q) + 1) := by
        intro hk he
        rw [he]
        refine ih p' hp'lt n V hp's (by omega) v1 v2 v3 (fun q hq hcd => ?_) v5
        rcases Nat.lt_trichotomy q p with w | w | w
        · exact absurd hcd.2.1 (hgap q hq w)
        · subst w
          rcases hk with k | k
          · exact absurd hcd k
          · exact k
        · exact v4 q w hcd
      by_cases cs : SU (ntI d no) no p = 0
      · by_cases cn : V 141 (u ^^^ p) < 0
        · refine keep (Or.inl (fun w => ?_)) ?_
          · rw [Int32.lt_iff_toInt_lt, tpl, zt0] at cn
            have := w.2.2.2
            omega
          · simp (disch := omega) only [f_X12_settling_L66, if_neg c1, hsum, Option.bind_some, jnt, bnd, if_pos cs, eix, ldI_ok, if_pos cn, enx]
        · have hn0 : 0 ≤ pv W (u ^^^ p) := by
            rw [Int32.lt_iff_toInt_lt, tpl, zt0] at cn
            omega
          by_cases cl : V 141 (u ^^^ p) + 1 ≤ V 141 u
          · refine keep (Or.inr ?_) ?_
            · rw [Int32.le_iff_toInt_le, tpl1] at cl
              exact cl
            · simp (disch := omega) only [f_X12_settling_L66, if_neg c1, hsum, Option.bind_some, jnt, bnd, if_pos cs, eix, ldI_ok, if_neg cn, if_pos cl, enx]
          · have hcl : pv V u < pv W (u ^^^ p) + 1 := by
              rw [Int32.le_iff_toInt_le, tpl1] at cl
              exact Int.not_le.mp cl
            have hcd : Cd (SU (ntI d no) no) W u p := ⟨by omega, hp, cs, hn0⟩
            obtain ⟨V1, hV1⟩ : ∃ V1, V1 = sI V 141 u (V 141 (u ^^^ p) + 1) := ⟨_, rfl⟩
            have hpv : pv V1 u = pv W (u ^^^ p) + 1 := by
              unfold pv
              rw [hV1, zs_eq, zs_same]
              exact tpl1
            have st : f_X12_settling_L66 fu (n + 1) V (nI u) (nI p) = f_X12_settling_L66 fu n V1 (nI u) (nI p') := by
              rw [hV1]
              simp (disch := omega) only [f_X12_settling_L66, if_neg c1, hsum, Option.bind_some, jnt, bnd, if_pos cs, eix, ldI_ok, if_neg cn, if_neg cl, inb_ok, nI_clamp, enx]
            rw [st]
            refine ih p' hp'lt n V1 hp's (by omega) (fun x hx => by rw [hV1, zs_ne hx]; exact v1 x hx) (fun w hw => by rw [hV1, zs_eq, zs_other hw]; exact v2 w hw) ⟨by rw [hpv]; omega, by rw [hpv]; omega⟩ (fun q hq hcd' => ?_) (Or.inr ⟨p, hcd, hpv⟩)
            rw [hpv]
            rcases Nat.lt_trichotomy q p with w | w | w
            · exact absurd hcd'.2.1 (hgap q hq w)
            · subst w; exact Int.le_refl _
            · have := v4 q w hcd'
              omega
      · refine keep (Or.inl (fun w => cs w.2.2.1)) ?_
        simp (disch := omega) only [f_X12_settling_L66, if_neg c1, hsum, Option.bind_some, jnt, bnd, if_neg cs, enx]
theorem table_M (hM : ML J b nh no nl D) (hf : 1600 < fu) {d : Nat → Int32} (hd : ∀ k, k < 36 → d k = J 131 k) : ∀ (q i n : Nat) (V : HI), i + q = 64 → q < n → (∀ x, x ≠ 141 → V x = J x) → (∀ w, w < i → -1 ≤ pv V w ∧ pv V w ≤ w) → (0 < i → pv V 0 = 0) → (∀ u, 0 < u → u < i → (∀ q, Cd (SU (ntI d no) no) V u q → pv V (u ^^^ q) + 1 ≤ pv V u) ∧ (pv V u = -1 ∨ ∃ q, Cd (SU (ntI d no) no) V u q ∧ pv V u = pv V (u ^^^ q) + 1)) →
    ∃ V', f_X12_settling_L43 fu n V (nI i) = some V' ∧ (∀ x, x ≠ 141 → V' x = J x) ∧ (∀ w, w < 64 → -1 ≤ pv V' w ∧ pv V' w ≤ w) ∧ PT (SU (ntI d no) no) (pv V') := by
  intro q
  induction q with
  | zero =>
    intro i n V e1 e2 v1 v2 v3 v4
    obtain ⟨n, rfl⟩ : ∃ z, n = z + 1 := ⟨n - 1, by omega⟩
    have : i = 64 := by omega
    subst this
    have c1 : (64 : Int32) ≤ nI 64 := by decide
    refine ⟨V, ?_, v1, v2, v3 (by decide), fun u u1 u2 => ?_⟩
    · simp only [f_X12_settling_L43, if_pos c1]
    · obtain ⟨a, c⟩ := v4 u u1 u2
      refine ⟨fun q q1 q2 q3 q4 => a q ⟨q1, q2, q3, q4⟩, ?_⟩
      rcases c with w | ⟨q, ⟨w1, w2, w3, w4⟩, w5⟩
      · exact Or.inl w
      · exact Or.inr ⟨q, w1, w2, w3, w4, w5⟩
  | succ q ih =>
    intro i n V e1 e2 v1 v2 v3 v4
    obtain ⟨n, rfl⟩ : ∃ z, n = z + 1 := ⟨n - 1, by omega⟩
    have c1 : ¬ (64 : Int32) ≤ nI i := nI_ge (b := 64) (by omega) (by decide)
    have A1 : nI i + 1 = nI (i + 1) := nI_1 i
    obtain ⟨x0, hx0⟩ : ∃ x0 : Int32, x0 = if i = 0 then 0 else -1 := ⟨_, rfl⟩
    obtain ⟨V0, hV0⟩ : ∃ V0, V0 = sI V 141 i x0 := ⟨_, rfl⟩
    have o0 : ∀ w, w ≠ i → V0 141 w = V 141 w := fun w hw => by rw [hV0, zs_eq, zs_other hw]
    have p0 : ∀ w, w ≠ i → pv V0 w = pv V w := fun w hw => by unfold pv; rw [o0 w hw]
    have pi : pv V0 i = if i = 0 then 0 else -1 := by
      unfold pv
      rw [hV0, zs_eq, zs_same, hx0]
      split
      · exact zt0
      · decide
    have key : ∃ V1, f_X12_settling_L66 fu fu V0 (nI i) (nI i) = some V1 ∧ (∀ x, x ≠ 141 → V1 x = J x) ∧ (∀ w, w ≠ i → V1 141 w = V0 141 w) ∧ (-1 ≤ pv V1 i ∧ pv V1 i ≤ i) ∧ (i = 0 → pv V1 i = 0) ∧ (0 < i → (∀ q, Cd (SU (ntI d no) no) V0 i q → pv V0 (i ^^^ q) + 1 ≤ pv V1 i) ∧ (pv V1 i = -1 ∨ ∃ q, Cd (SU (ntI d no) no) V0 i q ∧ pv V1 i = pv V0 (i ^^^ q) + 1)) := by
      by_cases ci : i = 0
      · subst ci
        have c2 : nI 0 ≤ 0 := by decide
        obtain ⟨F, hF⟩ : ∃ F, fu = F + 1 := ⟨fu - 1, by omega⟩
        rw [if_pos rfl] at pi
        refine ⟨V0, ?_, fun x hx => by rw [hV0, zs_ne hx]; exact v1 x hx, fun _ _ => rfl, by rw [pi]; omega, fun _ => pi, fun w => absurd w (by omega)⟩
        rw [hF]
        simp only [f_X12_settling_L66, if_pos c2]
      · rw [if_neg ci] at pi
        obtain ⟨V1, a1, a2, a3, a4, a5, a6⟩ := parts_M (J := J) (W := V0) (u := i) hM hf hd (by omega) (fun x hx => by rw [hV0, zs_ne hx]; exact v1 x hx) (fun w hw => by rw [p0 w (by omega)]; exact v2 w hw) i fu V0 sb_refl (by omega) (fun x hx => by rw [hV0, zs_ne hx]; exact v1 x hx) (fun _ _ => rfl) (by rw [pi]; omega) (fun q hq hcd => absurd (sb_le hcd.2.1) (by omega)) (Or.inl pi)
        exact ⟨V1, a1, a2, a3, a4, fun w => absurd w ci, fun _ => ⟨a5, a6⟩⟩
    obtain ⟨V1, a1, a2, a3, a4, a5, a6⟩ := key
    have q1 : ∀ w, w ≠ i → pv V1 w = pv V w := fun w hw => by unfold pv; rw [a3 w hw, o0 w hw]
    have q0 : ∀ w, w ≠ i → pv V0 w = pv V1 w := fun w hw => by rw [p0 w hw, q1 w hw]
    have hcd0 : ∀ u q, u < i → (Cd (SU (ntI d no) no) V1 u q ↔ Cd (SU (ntI d no) no) V u q) := fun u q hu => by
      unfold Cd
      constructor
      · rintro ⟨w1, w2, w3, w4⟩
        have := xor_lt w2 w1
        rw [q1 _ (by omega)] at w4
        exact ⟨w1, w2, w3, w4⟩
      · rintro ⟨w1, w2, w3, w4⟩
        have := xor_lt w2 w1
        refine ⟨w1, w2, w3, ?_⟩
        rw [q1 _ (by omega)]
        exact w4
    have hcdi : ∀ q, (Cd (SU (ntI d no) no) V1 i q ↔ Cd (SU (ntI d no) no) V0 i q) := fun q => by
      unfold Cd
      constructor
      · rintro ⟨w1, w2, w3, w4⟩
        have := xor_lt w2 w1
        refine ⟨w1, w2, w3, ?_⟩
        rw [q0 _ (by omega)]
        exact w4
      · rintro ⟨w1, w2, w3, w4⟩
        have := xor_lt w2 w1
        rw [q0 _ (by omega)] at w4
        exact ⟨w1, w2, w3, w4⟩
    obtain ⟨V', b1, b2⟩ := ih (i + 1) n V1 (by omega) (by omega) a2 (fun w hw => by
      by_cases cw : w = i
      · subst cw; exact a4
      · rw [q1 w cw]; exact v2 w (by omega)) (fun _ => by
      by_cases ci : i = 0
      · have := a5 ci
        rw [ci] at this
        exact this
      · rw [q1 0 (by omega)]
        exact v3 (by omega)) (fun u u1 u2 => by
      by_cases cu : u = i
      · subst cu
        obtain ⟨y1, y2⟩ := a6 u1
        refine ⟨fun q hq => ?_, ?_⟩
        · have hq' := (hcdi q).mp hq
          have := xor_lt hq'.2.1 hq'.1
          rw [← q0 _ (by omega)]
          exact y1 q hq'
        · rcases y2 with w | ⟨q, w1, w2⟩
          · exact Or.inl w
          · have := xor_lt w1.2.1 w1.1
            exact Or.inr ⟨q, (hcdi q).mpr w1, by rw [← q0 (u ^^^ q) (by omega)]; exact w2⟩
      · obtain ⟨y1, y2⟩ := v4 u u1 (by omega)
        refine ⟨fun q hq => ?_, ?_⟩
        · have hq' := (hcd0 u q (by omega)).mp hq
          have := xor_lt hq'.2.1 hq'.1
          rw [q1 _ (by omega), q1 u cu]
          exact y1 q hq'
        · rcases y2 with w | ⟨q, w1, w2⟩
          · exact Or.inl (by rw [q1 u cu]; exact w)
          · have := xor_lt w1.2.1 w1.1
            exact Or.inr ⟨q, (hcd0 u q (by omega)).mpr w1, by rw [q1 u cu, q1 (u ^^^ q) (by omega)]; exact w2⟩)
    refine ⟨V', ?_, b2⟩
    rw [← b1]
    by_cases ci : i = 0
    · have ci' : nI i = 0 := by rw [ci]; rfl
      rw [if_pos ci] at hx0
      rw [hV0, hx0] at a1
      simp (disch := omega) only [f_X12_settling_L43, if_neg c1, jnt, bnd, if_pos ci', inb_ok, nI_clamp, a1, Option.bind_some, A1]
    · have ci' : ¬ nI i = 0 := nI_ne0 (by omega) (by omega)
      rw [if_neg ci] at hx0
      rw [hV0, hx0] at a1
      simp (disch := omega) only [f_X12_settling_L43, if_neg c1, jnt, bnd, if_neg ci', inb_ok, nI_clamp, a1, Option.bind_some, A1]
end
theorem sm_swap {f : Nat → Nat → Int32} {b : Nat} : ∀ a, sm (fun o => sm (fun p => f o p) b) a = sm (fun p => sm (fun o => f o p) a) b := by
  intro a
  induction a with
  | zero =>
    show (0 : Int32) = sm (fun _ => 0) b
    induction b with
    | zero => rfl
    | succ b ih =>
      show (0 : Int32) = sm (fun _ => 0) b + 0
      rw [← ih]
      rfl
  | succ a ih =>
    show sm (fun o => sm (fun p => f o p) b) a + sm (fun p => f a p) b = sm (fun p => sm (fun o => f o p) (a + 1)) b
    rw [ih]
    exact (sm_add (fun i _ => rfl)).symm
theorem nets_0 {d : Nat → Int32} {no : Nat} : sm (ntI d no) no = 0 := by
  have h1 : sm (fun o => sm (fun p => d (p * 6 + o)) no) no = sm (ntI d no) no + sm (fun o => sm (fun p => d (o * 6 + p)) no) no := sm_add (fun i _ => by
    unfold ntI
    rw [Int32.sub_add_cancel])
  have h2 : sm (fun o => sm (fun p => d (p * 6 + o)) no) no = sm (fun o => sm (fun p => d (o * 6 + p)) no) no := sm_swap (f := fun o p => d (p * 6 + o)) no
  rw [h2] at h1
  generalize sm (ntI d no) no = x at *
  generalize sm (fun o => sm (fun p => d (o * 6 + p)) no) no = y at *
  have : x = (x + y) - y := by rw [Int32.add_sub_cancel]
  rw [this, ← h1, Int32.sub_self]
theorem pc_full : ∀ c, c ≤ 8 → pc (2 ^ c - 1) = c := by decide
theorem eq_settling : Eq_settling Rel := by
  intro n I R J M hn hR
  obtain ⟨t, b, nh, no, nl, h⟩ := hR
  obtain ⟨hC, hL, hM, hE, hS, hB, hB', h1⟩ := h.get
  have h8 := hC.2.2.2.2.2.2.2.2.1
  have ht := hC.2.2.1
  have hfu := FU_big.1
  have hd : ∀ k, k < 36 → I 53 k = J 131 k := h.LC.2.2.2.2.2.2
  obtain ⟨c, hcc⟩ : ∃ c, c = cnt (qN (I 53) no) no := ⟨_, rfl⟩
  obtain ⟨m, hm⟩ : ∃ m : Nat → Nat, m = fun k => nth (qN (I 53) no) k no := ⟨_, rfl⟩
  have hc6 : c ≤ 6 := by rw [hcc]; exact Nat.le_trans (cnt_le no) h8
  have hinc : inc m c := fun j k hj hk => by
    rw [hm]
    exact nth_lt hj (by rw [← hcc]; exact hk)
  have hm1 : ∀ k, k < c → m k < no := fun k hk => by
    rw [hm]
    exact (nth_2 (p := qN (I 53) no) (k := k) no (by rw [← hcc]; exact hk)).1
  obtain ⟨z, K, a1, a2, a3, a4⟩ := payments_C (fu := FU) hC FU_big.1 hcc hm
  obtain ⟨V, b1, b2, b3, b4⟩ := table_M (fu := FU) (d := I 53) hM FU_big.1 hd 64 0 FU J (by omega) (by omega) (fun _ _ => rfl) (fun w hw => absurd hw (by omega)) (fun w => absurd w (by omega)) (fun u _ u2 => absurd u2 (by omega))
  have b1' : f_X12_settling_L43 FU FU J 0 = some V := b1
  have al := all_M (fu := FU) hM FU_big.2 hd
  have hA : exM m (2 ^ c - 1) c = btN (qN (I 53) no) no := by
    have := exM_top (p := qN (I 53) no) (nl := no)
    rw [← hcc, ← hm] at this
    exact this
  have hpos : 0 < 2 ^ c := pow_pos'
  have hA64 : exM m (2 ^ c - 1) c < 64 := exM_lt c 6 hinc (fun j hj => by have := hm1 j hj; omega)
  have hsum : SU (ntI (I 53) no) no (exM m (2 ^ c - 1) c) = 0 := by
    rw [← nets_0 (d := I 53) (no := no)]
    refine sm_congr (fun o ho => ?_)
    show (if (exM m (2 ^ c - 1) c).testBit o = true then ntI (I 53) no o else 0) = ntI (I 53) no o
    rw [hA, btN_bit, decide_eq_true ho, Bool.true_and]
    by_cases q : ntI (I 53) no o = 0
    · rw [q, ite_self]
    · rw [if_pos (show qN (I 53) no o = true from decide_eq_true q)]
  have heq := settle_eq hinc (fun k hk => by have := hm1 k hk; omega) a3 b4 (show 2 ^ c - 1 < 2 ^ c by omega) hsum
  rw [hA] at heq hA64
  have hv : V 141 (btN (qN (I 53) no) no) = nI (z (2 ^ c - 1)) := by
    apply Int32.toInt_inj.mp
    rw [nI_toInt (by omega)]
    exact heq
  have hpc : pc (btN (qN (I 53) no) no) = c := by
    rw [← hA, pc_ex c (2 ^ c - 1) hinc (fun j hj => by have := hm1 j hj; omega) (by omega) (by omega), pc_full c (by omega)]
  have hb := bits_M (u := btN (qN (I 53) no) no) (fu := FU) (by omega) FU_big.2
  rw [hpc] at hb
  unfold f_X11_settling f_X12_settling
  refine ⟨nI c - nI (z (2 ^ c - 1)), K, V, ?_, ?_, (Rel_same h (by omega) (fun x hx => a2 x (by omega)) SR.refl ⟨fun k _ => by rw [b2 100 (by decide)], fun x hx => b2 x (by omega), fun v _ => by rw [b2 127 (by decide), b2 132 (by decide)]; exact ⟨rfl, rfl⟩, fun k _ => by rw [b2 128 (by decide), b2 129 (by decide), b2 130 (by decide)]; exact ⟨rfl, rfl, rfl⟩, fun k _ => by rw [b2 131 (by decide)], fun k _ => by rw [b2 133 (by decide)]⟩ SL.refl).rel⟩
  · simp only [a1, Option.bind_some]
  · simp only [al, b1', hb, Option.bind_some]
    rw [ldI_ok (by omega), hv]
