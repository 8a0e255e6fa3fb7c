/-! calls that read the scene -/
theorem SEp.woE {D S S' : HI} {nl l : Nat} (h : SEp nl S S') (hn : nl ≤ 8) (hl : l < nl) : woN D S nl l = woN D S' nl l := by
  obtain ⟨h1, h2, h3⟩ := h
  obtain ⟨a, b, c⟩ := h2 l (by omega)
  have e : besI S nl (S' 2 l) l = besI S' nl (S' 2 l) l := cnt_congr (fun i hi => by rw [(h2 i (by omega)).2.1])
  unfold woN
  rw [a, b, h1, e]
theorem SEp.lkE {D S S' : HI} {nl l : Nat} {d : Int} (h : SEp nl S S') (hn : nl ≤ 8) (hl : l < nl) : lkN D S nl l d = lkN D S' nl l d := by
  obtain ⟨h1, h2, h3⟩ := h
  obtain ⟨a, b, c⟩ := h2 l (by omega)
  have e : besI S nl (S' 2 l) l = besI S' nl (S' 2 l) l := cnt_congr (fun i hi => by rw [(h2 i (by omega)).2.1])
  unfold lkN
  rw [a, b, h1, e]
theorem SE.rmE {D S S' : HI} {h0 : Nat} (h : SE S S') : ∀ nl, nl ≤ 8 → rmI D S h0 nl = rmI D S' h0 nl := by
  intro nl
  induction nl with
  | zero => intro _; rfl
  | succ n ih =>
    intro hn
    show rmI D S h0 n - (if S 2 n = nI h0 then S 1 n else 0) = rmI D S' h0 n - (if S' 2 n = nI h0 then S' 1 n else 0)
    obtain ⟨a, b, c⟩ := h.2.1 n (by omega)
    rw [ih (by omega), a, b]
theorem SW.bw {D S : HI} {nh no nl : Nat} (h : SW D S nh no nl) : BW S := by
  refine ⟨fun l hl => ?_, h.1⟩
  obtain ⟨x, a, b, _⟩ := h.2.1 l hl
  exact ⟨x, a, b⟩
theorem SEp.rmE {D S S' : HI} {h0 nl : Nat} (h : SEp nl S S') : ∀ n, n ≤ nl → n ≤ 8 → rmI D S h0 n = rmI D S' h0 n := by
  intro n
  induction n with
  | zero => intro _ _; rfl
  | succ n ih =>
    intro hn hm
    show rmI D S h0 n - (if S 2 n = nI h0 then S 1 n else 0) = rmI D S' h0 n - (if S' 2 n = nI h0 then S' 1 n else 0)
    obtain ⟨a, b, c⟩ := h.2.1 n (by omega)
    rw [ih (by omega) (by omega), a, b]
theorem SEp.bw {n : Nat} {S S' : HI} (h : SEp n S S') (hW : BW S) : BW S' := by
  refine ⟨fun l hl => ?_, ?_⟩
  · obtain ⟨x, a, b⟩ := hW.1 l hl
    exact ⟨x, a, (h.2.2.2 l hl).symm.trans b⟩
  · obtain ⟨x, a, b⟩ := hW.2
    exact ⟨x, a, h.1.symm.trans b⟩
theorem SE.bw {S S' : HI} (h : SE S S') (hW : BW S) : BW S' := by
  refine ⟨fun l hl => ?_, ?_⟩
  · obtain ⟨x, a, b⟩ := hW.1 l hl
    exact ⟨x, a, (h.2.1 l hl).1.symm.trans b⟩
  · obtain ⟨x, a, b⟩ := hW.2
    exact ⟨x, a, h.1.symm.trans b⟩
section
variable {n : Nat} {I : HI} {R : HR} {J : HI} {M : HL} {t b nh no nl fu : Nat}
theorem RelB.get (h : RelB n I R J M t b nh no nl) : CL I R 49 t nh no nl ∧ LR (vw I t) ∧ ML J b nh no nl (vw I t) ∧ SEp nl (sc I 49) (lv J 0) ∧ SW (vw I t) (sc I 49) nh no nl ∧ BW (sc I 49) ∧ BW (lv J 0) ∧ R 1 2 = t := by
  obtain ⟨g1, g2, g3, g4, g5, g6, ⟨d1, d2, d3, d4, d5, d6, d7⟩, ⟨c1, c2⟩, g9⟩ := h
  exact ⟨d3, d4, d5, c1, c2, c2.bw, c1.bw c2.bw, d1⟩
theorem worth_R (h : RelB n I R J M t b nh no nl) (hf : 1600 < fu) {l : Nat} (hl : l < nl) : ∃ I' J' M', f_X9_worthOf fu I R 49 (nI l) = some (nI (woN (vw I t) (sc I 49) nl l), I') ∧ f_X12_worth fu J M 0 (nI l) = some (nI (woN (vw I t) (sc I 49) nl l), J', M') ∧ SX t I I' ∧ SM J J' ∧ SL M M' := by
  obtain ⟨hC, hL, hM, hE, hS, hB, hB', h1⟩ := h.get
  obtain ⟨I', a1, a2⟩ := worthOf_C (fu := fu) hC hL hB hf hl
  obtain ⟨J', M', b1, b2, b3⟩ := worth_M (fu := fu) (M := M) (v := 0) hM hL hB' hf (by decide) hl
  rw [← hE.woE hC.2.2.2.2.2.2.2.2.2 hl] at b1
  exact ⟨I', J', M', a1, b1, a2.SX (by decide) hC.2.2.1, b2.SM, b3.SL⟩
theorem leak_R (h : RelB n I R J M t b nh no nl) (hf : 1600 < fu) {l d : Nat} (hd : d ≤ 1) (hl : l < nl) : ∃ I' J' M', f_X9_leakOf fu I R 49 (nI l) (nI d) = some (nI (lkN (vw I t) (sc I 49) nl l d), I') ∧ f_X12_leaking fu J M 0 (nI l) (nI d) = some (nI (lkN (vw I t) (sc I 49) nl l d), J', M') ∧ SX t I I' ∧ SM J J' ∧ SL M M' := by
  obtain ⟨hC, hL, hM, hE, hS, hB, hB', h1⟩ := h.get
  obtain ⟨I', a1, a2⟩ := leakOf_C (fu := fu) hC hL hB hf hd hl
  obtain ⟨J', M', b1, b2, b3⟩ := leaking_M (fu := fu) (M := M) (v := 0) hM hL hB' hf (by decide) hd hl
  rw [← hE.lkE hC.2.2.2.2.2.2.2.2.2 hl] at b1
  exact ⟨I', J', M', a1, b1, a2.SX (by decide) hC.2.2.1, b2.SM, b3.SL⟩
theorem worths_R (h : RelB n I R J M t b nh no nl) (hf : 1600 < fu) {B B' : Nat} (hB0 : B < 2 ^ 31) (hB1 : B' < 2 ^ 31) (he : ∀ l, l < nl → B.testBit l = B'.testBit l) : ∃ W I' J' M', f_X9_worthOfBits fu I R 49 (nI B) = some (nI W, I') ∧ f_X12_worthOf fu J M 0 (nI B') = some (nI W, J', M') ∧ SX t I I' ∧ SM J J' ∧ SL M M' ∧ W = smN (fun l => if B.testBit l = true then woN (vw I t) (sc I 49) nl l else 0) nl := by
  obtain ⟨hC, hL, hM, hE, hS, hB, hB', h1⟩ := h.get
  obtain ⟨I', a1, a2⟩ := worthOfBits_C (fu := fu) hC hL hB hf hB0
  obtain ⟨J', M', b1, b2, b3⟩ := worthOf_M (fu := fu) (M := M) (v := 0) hM hL hB' hf (by decide) hB1
  have e : smN (fun l => if B'.testBit l = true then woN (vw I t) (lv J 0) nl l else 0) nl = smN (fun l => if B.testBit l = true then woN (vw I t) (sc I 49) nl l else 0) nl := smN_congr (fun l hl => by rw [he l hl, hE.woE hC.2.2.2.2.2.2.2.2.2 hl])
  rw [e] at b1
  exact ⟨_, I', J', M', a1, b1, a2.SX (by decide) hC.2.2.1, b2.SM, b3.SL, rfl⟩
theorem lakesOf_R (h : RelB n I R J M t b nh no nl) (hf : 8 < fu) (x : Int32) : ∃ B, B < 256 ∧ B = btN (fun l => decide (sc I 49 3 l = x)) nl ∧ f_X9_lakesOf fu I R 49 x = some (nI B) ∧ f_X12_lakesOf fu J 0 x = some (nI B) := by
  obtain ⟨hC, hL, hM, hE, hS, hB, hB', h1⟩ := h.get
  have h9 := hC.2.2.2.2.2.2.2.2.2
  have e : btN (fun l => decide (lv J 0 3 l = x)) nl = btN (fun l => decide (sc I 49 3 l = x)) nl := btN_congr (fun l hl => by rw [(hE.2.1 l (by omega)).2.2])
  have b1 : f_X12_lakesOf fu J 0 x = _ := lakesOf_M (fu := fu) (v := 0) hM hf (by decide) x
  rw [e] at b1
  refine ⟨_, ?_, rfl, lakesOf_C hC hf x, b1⟩
  have h2 := btN_lt (p := fun l => decide (sc I 49 3 l = x)) nl
  have h3 : 2 ^ nl ≤ 2 ^ 8 := Nat.pow_le_pow_right (by decide) h9
  exact Nat.lt_of_lt_of_le h2 h3
theorem owed_R (h : RelB n I R J M t b nh no nl) (hf : 8 < fu) {x : Nat} (hx : x < no) : f_X12_owed fu J (nI x) 1 = f_X9_owedBy fu I R 49 (nI x) ∧ f_X12_owed fu J (nI x) 0 = f_X9_owedTo fu I R 49 (nI x) ∧ f_X9_owedBy fu I R 49 (nI x) = some (sm (fun p => sc I 49 4 (x * 6 + p)) no) ∧ f_X9_owedTo fu I R 49 (nI x) = some (sm (fun p => sc I 49 4 (p * 6 + x)) no) := by
  obtain ⟨hC, hL, hM, hE, hS, hB, hB', h1⟩ := h.get
  have h8 := hC.2.2.2.2.2.2.2.2.1
  obtain ⟨b1, b2⟩ := owed_M (fu := fu) hM hf (show x < 6 by omega)
  have a1 := owedBy_C (fu := fu) hC hf (show x < 6 by omega)
  have a2 := owedTo_C (fu := fu) hC hf (show x < 6 by omega)
  have hk : ∀ k, k < 36 → I (49 + 4) k = J 131 k := fun k hk => by
    have := hE.2.2.1 k hk
    simp only [lv, sc] at this
    simpa using this
  refine ⟨?_, ?_, a1, a2⟩
  · rw [a1, b1]
    congr 1
    exact sm_congr (fun i hi => by rw [hk _ (by omega)]; congr 1; omega)
  · rw [a2, b2]
    congr 1
    exact sm_congr (fun i hi => by rw [hk _ (by omega)]; congr 1; omega)
end
theorem FU_big : 1600 < FU ∧ 8 < FU := by
  unfold FU
  omega
theorem own_cases {x : Int32} {no : Nat} (hno : no ≤ 8) : (¬ (0 ≤ x ∧ x < nI no)) ∨ ∃ j, j < no ∧ x = nI j ∧ (0 ≤ x ∧ x < nI no) := by
  by_cases c : 0 ≤ x ∧ x < nI no
  · right
    obtain ⟨j, hj, rfl⟩ := nI_of (Int32.not_lt.mpr c.1)
    exact ⟨j, (nI_ltI hj (by omega)).mp c.2, rfl, c⟩
  · exact Or.inl c
theorem eq_owes : Eq_owes Rel := by
  intro n I R J M a0 a1 hn hR
  obtain ⟨t, b, nh, no, nl, h⟩ := hR
  obtain ⟨hC, hL, hM, hE, hS, hB, hB', h1⟩ := h.get
  have h8 := hC.2.2.2.2.2.2.2.2.1
  have n3 : ¬ (1 : Int32) = 0 := by decide
  unfold f_X11_owes f_X12_owes f_X9_areTwoOwners
  rw [isOwner_C hC, isOwner_C hC, isOwner_M hM, isOwner_M hM]
  rcases own_cases (x := a0) (no := no) (by omega) with c | ⟨i, hi, rfl, c⟩
  · refine ⟨-1, ?_, ?_, h.up.rel⟩ <;> simp only [if_neg c, Option.bind_some, gz_0, if_true]
  · rcases own_cases (x := a1) (no := no) (by omega) with d | ⟨j, hj, rfl, d⟩
    · refine ⟨-1, ?_, ?_, h.up.rel⟩ <;> simp only [if_pos c, if_neg d, Option.bind_some, gz_0, if_true, if_neg n3]
    · by_cases e : i = j
      · refine ⟨-1, ?_, ?_, h.up.rel⟩ <;> simp only [if_pos c, if_pos d, Option.bind_some, gz_0, if_true, if_neg n3, e]
      · have e' : ¬ nI i = nI j := fun q => e ((nI_eq (by omega) (by omega)).mp q)
        refine ⟨I 53 (i * 6 + j), ?_, ?_, h.up.rel⟩
        · simp (disch := omega) only [if_pos c, if_pos d, Option.bind_some, gz_1, if_neg n3, if_neg e', zq6, pk_mul, nI_add, ldI_ok]
        · have q := hE.2.2.1 (i * 6 + j) (by omega)
          have q' : I 53 (i * 6 + j) = J 131 (6 * i + j) := by
            have : I 53 (i * 6 + j) = J 131 (36 * 0 + (i * 6 + j)) := q
            rw [this]
            congr 1
            omega
          rw [q']
          unfold f_X12_debt
          simp (disch := omega) only [if_pos c, if_pos d, Option.bind_some, if_neg n3, if_neg e', zq6, pk_mul, nI_add, ldI_ok]
theorem eq_net : Eq_net Rel := by
  intro n I R J M a0 hn hR
  obtain ⟨t, b, nh, no, nl, h⟩ := hR
  obtain ⟨hC, hL, hM, hE, hS, hB, hB', h1⟩ := h.get
  have h8 := hC.2.2.2.2.2.2.2.2.1
  have n3 : ¬ (1 : Int32) = 0 := by decide
  unfold f_X11_net f_X12_net f_X9_netOf f_X12_netOf
  rw [isOwner_C hC, isOwner_M hM]
  rcases own_cases (x := a0) (no := no) (by omega) with c | ⟨i, hi, rfl, c⟩
  · refine ⟨-1000000000, ?_, ?_, h.up.rel⟩ <;> simp only [if_neg c, Option.bind_some, if_true]
  · obtain ⟨o1, o2, o3, o4⟩ := owed_R h FU_big.2 hi
    refine ⟨sm (fun p => sc I 49 4 (p * 6 + i)) no - sm (fun p => sc I 49 4 (i * 6 + p)) no, ?_, ?_, h.up.rel⟩
    · simp only [if_pos c, Option.bind_some, if_neg n3, o3, o4]
    · simp only [if_pos c, Option.bind_some, if_neg n3, o1, o2, o3, o4]
theorem eq_hollow : Eq_hollow Rel := by
  intro n I R J M a0 a1 hn hR
  obtain ⟨t, b, nh, no, nl, h⟩ := hR
  obtain ⟨hC, hL, hM, hE, hS, hB, hB', h1⟩ := h.get
  have h7 := hC.2.2.2.2.2.2.2.1
  have h9 := hC.2.2.2.2.2.2.2.2.2
  have h0 := hC.1
  have ht := hC.2.2.1
  have n3 : ¬ (1 : Int32) = 0 := by decide
  have hm0 := hM.1.1
  have hmb := hM.1.2
  unfold f_X11_hollow f_X12_hollow
  rw [isHollow_C hC, isHollow_M hM, h1]
  rcases own_cases (x := a0) (no := nh) (by omega) with c | ⟨i, hi, rfl, c⟩
  · refine ⟨-1, ?_, ?_, h.up.rel⟩ <;> simp only [if_neg c, Option.bind_some, if_true]
  · obtain ⟨d1, d2⟩ := hM.2.2.2.2.2.2.2.1 i hi
    have d1 : J 103 (8 * b + i) = I (t + 4) i := d1
    have d2 : J 104 (8 * b + i) = I (t + 5) i := d2
    simp only [if_pos c, Option.bind_some, if_neg n3]
    by_cases e0 : a1 = 0
    · refine ⟨I (t + 4) i, ?_, ?_, h.up.rel⟩
      · simp (disch := omega) only [if_pos e0, zg_ok h0, ldI_ok]
      · simp (disch := omega) only [if_pos e0, hm0, zq8, pk_mul, nI_add, ldI_ok, d1]
    · by_cases e1 : a1 = 1
      · refine ⟨I (t + 5) i, ?_, ?_, h.up.rel⟩
        · simp (disch := omega) only [if_neg e0, if_pos e1, zg_ok h0, ldI_ok]
        · simp (disch := omega) only [if_neg e0, if_pos e1, hm0, zq8, pk_mul, nI_add, ldI_ok, d2]
      · by_cases e2 : a1 = 2
        · have r1 := roomIn_C (fu := FU) hC FU_big.2 (show i < 8 by omega)
          have r2 : f_X12_room FU J 0 (nI i) = _ := room_M (fu := FU) (v := 0) hM FU_big.2 (by decide) hi
          rw [← hE.rmE nl (Nat.le_refl nl) h9] at r2
          refine ⟨rmI (vw I t) (sc I 49) i nl, ?_, ?_, h.up.rel⟩
          · simp only [if_neg e0, if_neg e1, if_pos e2, r1, Option.bind_some]
          · simp only [if_neg e0, if_neg e1, if_pos e2, r2, Option.bind_some]
        · by_cases e3 : a1 = 3
          · have r1 := lakesIn_C (fu := FU) hC FU_big.2 (nI i)
            have e : btN (fun l => decide (lv J 0 2 l = nI i)) nl = btN (fun l => decide (I (49 + 2) l = nI i)) nl := btN_congr (fun l hl => by rw [← (hE.2.1 l (by omega)).2.1]; rfl)
            have r2 : f_X12_hollow_L82 FU J (nI i) 0 0 = some (nI (btN (fun l => decide (lv J 0 2 l = nI i)) nl)) := by
              obtain ⟨⟨m0, m1⟩, m2, m3, m4, m5, m6, m7, m8, m9, m10⟩ := hM
              refine loopCf (fun n a i' => f_X12_hollow_L82 n J (nI i) a i') (fun k => nI (btN (fun l => decide (lv J 0 2 l = nI i)) k)) _ nl FU ?_ ?_ (by have := FU_big.2; omega)
              · intro n k hk
                have hq : f_X12_liesIn J (nI 0) (nI k) = _ := liesIn_M (J := J) (v := 0) (l := k) (by decide) (by omega)
                by_cases c : lv J 0 2 k = nI i
                · rw [btN_t (decide_eq_true c), ← or_bit (btN_lt k), ← or_ok]
                  simp (disch := omega) only [f_X12_hollow_L82, ↓zm1, ↓zm2, ↓zm3, ↓zm4, ↓zm5, ↓zm6, ↓zm7, ↓zm8, ↓zm9, ↓zm10, ↓zm11, ↓zm12, ↓zm13, ↓zm14, ↓zm15, ↓zm16, ↓zm17, ↓zm18, ↓zm19, ↓zm20, ↓zm1000000000, zq0, zq1, zq2, zq3, zq4, zq5, zq6, zq7, zq8, zq9, zq10, zq11, zq12, zq13, zq14, zq15, zq16, zq17, zq18, zq19, zq20, zq21, zq22, zq23, zq24, zq25, zq26, zq30, zq31, zq32, zq33, zq34, zq35, zq36, zq37, zq38, zq39, zq40, zq41, zq42, zq43, zq44, zq45, zq47, zq48, zq57, zq59, zq60, zq61, zq62, zq80, zq91, zq93, zq97, zq99, zq100, zq107, zq110, zq120, zq122, zq128, zq149, zq160, zq208, zq240, zq251, zq255, zq256, zq500, zq936, zq999, zq1600, zq1800, zq2048, zq3200, zq4160, zq9999, zq12345, zq1000000, zq1048576, zq100000000, bnd, jnt, zg_ok, gz_0, gz_1, gz_n0, gz_n1, zs_eq, zs_ne, zs_same, zs_other, zA_eq, zA_ne, Option.bind_some, Option.bind_none, nI_add, pk_mul, nI_clamp, nI_leI, nI_ltI, nI_eq, pk_sub, nI_mI, nI_eq_mI, mI_eq_nI, nI_lt_m, ldI_ok, inb_ok, if_pos, if_neg, dv_ok, rem_ok, div_ok, if_true, if_false, m0, m4, hq, c, sh_ok]
                · rw [btN_f (by rw [decide_eq_true_iff]; exact c)]
                  simp (disch := omega) only [f_X12_hollow_L82, ↓zm1, ↓zm2, ↓zm3, ↓zm4, ↓zm5, ↓zm6, ↓zm7, ↓zm8, ↓zm9, ↓zm10, ↓zm11, ↓zm12, ↓zm13, ↓zm14, ↓zm15, ↓zm16, ↓zm17, ↓zm18, ↓zm19, ↓zm20, ↓zm1000000000, zq0, zq1, zq2, zq3, zq4, zq5, zq6, zq7, zq8, zq9, zq10, zq11, zq12, zq13, zq14, zq15, zq16, zq17, zq18, zq19, zq20, zq21, zq22, zq23, zq24, zq25, zq26, zq30, zq31, zq32, zq33, zq34, zq35, zq36, zq37, zq38, zq39, zq40, zq41, zq42, zq43, zq44, zq45, zq47, zq48, zq57, zq59, zq60, zq61, zq62, zq80, zq91, zq93, zq97, zq99, zq100, zq107, zq110, zq120, zq122, zq128, zq149, zq160, zq208, zq240, zq251, zq255, zq256, zq500, zq936, zq999, zq1600, zq1800, zq2048, zq3200, zq4160, zq9999, zq12345, zq1000000, zq1048576, zq100000000, bnd, jnt, zg_ok, gz_0, gz_1, gz_n0, gz_n1, zs_eq, zs_ne, zs_same, zs_other, zA_eq, zA_ne, Option.bind_some, Option.bind_none, nI_add, pk_mul, nI_clamp, nI_leI, nI_ltI, nI_eq, pk_sub, nI_mI, nI_eq_mI, mI_eq_nI, nI_lt_m, ldI_ok, inb_ok, if_pos, if_neg, dv_ok, rem_ok, div_ok, if_true, if_false, m0, m4, hq, if_neg c, or_ok, Nat.or_zero]
              · intro n
                simp (disch := omega) only [f_X12_hollow_L82, ↓zm1, ↓zm2, ↓zm3, ↓zm4, ↓zm5, ↓zm6, ↓zm7, ↓zm8, ↓zm9, ↓zm10, ↓zm11, ↓zm12, ↓zm13, ↓zm14, ↓zm15, ↓zm16, ↓zm17, ↓zm18, ↓zm19, ↓zm20, ↓zm1000000000, zq0, zq1, zq2, zq3, zq4, zq5, zq6, zq7, zq8, zq9, zq10, zq11, zq12, zq13, zq14, zq15, zq16, zq17, zq18, zq19, zq20, zq21, zq22, zq23, zq24, zq25, zq26, zq30, zq31, zq32, zq33, zq34, zq35, zq36, zq37, zq38, zq39, zq40, zq41, zq42, zq43, zq44, zq45, zq47, zq48, zq57, zq59, zq60, zq61, zq62, zq80, zq91, zq93, zq97, zq99, zq100, zq107, zq110, zq120, zq122, zq128, zq149, zq160, zq208, zq240, zq251, zq255, zq256, zq500, zq936, zq999, zq1600, zq1800, zq2048, zq3200, zq4160, zq9999, zq12345, zq1000000, zq1048576, zq100000000, bnd, jnt, zg_ok, gz_0, gz_1, gz_n0, gz_n1, zs_eq, zs_ne, zs_same, zs_other, zA_eq, zA_ne, Option.bind_some, Option.bind_none, nI_add, pk_mul, nI_clamp, nI_leI, nI_ltI, nI_eq, pk_sub, nI_mI, nI_eq_mI, mI_eq_nI, nI_lt_m, ldI_ok, inb_ok, if_pos, if_neg, dv_ok, rem_ok, div_ok, if_true, if_false, m0, m4]
            rw [e] at r2
            refine ⟨nI (btN (fun l => decide (I (49 + 2) l = nI i)) nl), ?_, ?_, h.up.rel⟩
            · simp only [if_neg e0, if_neg e1, if_neg e2, if_pos e3, r1, Option.bind_some]
            · simp only [if_neg e0, if_neg e1, if_neg e2, if_pos e3, r2, Option.bind_some]
          · refine ⟨-1, ?_, ?_, h.up.rel⟩ <;> simp only [if_neg e0, if_neg e1, if_neg e2, if_neg e3]
theorem eq_lake : Eq_lake Rel := by
  intro n I R J M a0 a1 hn hR
  obtain ⟨t, b, nh, no, nl, h⟩ := hR
  obtain ⟨hC, hL, hM, hE, hS, hB, hB', h1⟩ := h.get
  have h9 := hC.2.2.2.2.2.2.2.2.2
  have n3 : ¬ (1 : Int32) = 0 := by decide
  unfold f_X11_lake f_X12_lake
  rw [isLake_C hC, isLake_M hM]
  rcases own_cases (x := a0) (no := nl) (by omega) with c | ⟨i, hi, rfl, c⟩
  · refine ⟨-1, _, _, _, ?_, ?_, h.up.rel⟩ <;> simp only [if_neg c, Option.bind_some, if_true]
  · obtain ⟨w1, w2, w3⟩ := hE.2.1 i (by omega)
    have q1 : f_X12_fill J 0 (nI i) = some (lv J 0 1 i) := fill_M (v := 0) (by decide) (by omega)
    have q2 : f_X12_liesIn J 0 (nI i) = some (lv J 0 2 i) := liesIn_M (v := 0) (by decide) (by omega)
    have q3 : f_X12_ownerOf J 0 (nI i) = some (lv J 0 3 i) := ownerOf_M (v := 0) (by decide) (by omega)
    rw [← w1] at q1
    rw [← w2] at q2
    rw [← w3] at q3
    simp only [if_pos c, Option.bind_some, if_neg n3]
    by_cases e0 : a1 = 0
    · refine ⟨sc I 49 1 i, _, _, _, ?_, ?_, h.up.rel⟩
      · simp (disch := omega) only [if_pos e0, ldI_ok]
        rfl
      · simp only [if_pos e0, q1, Option.bind_some]
    · by_cases e1 : a1 = 1
      · refine ⟨sc I 49 2 i, _, _, _, ?_, ?_, h.up.rel⟩
        · simp (disch := omega) only [if_neg e0, if_pos e1, ldI_ok]
          rfl
        · simp only [if_neg e0, if_pos e1, q2, Option.bind_some]
      · by_cases e2 : a1 = 2
        · refine ⟨sc I 49 3 i, _, _, _, ?_, ?_, h.up.rel⟩
          · simp (disch := omega) only [if_neg e0, if_neg e1, if_pos e2, ldI_ok]
            rfl
          · simp only [if_neg e0, if_neg e1, if_pos e2, q3, Option.bind_some]
        · by_cases e3 : a1 = 3
          · obtain ⟨I', J', M', a1, a2, a3, a4, a5⟩ := worth_R h FU_big.1 hi
            refine ⟨nI (woN (vw I t) (sc I 49) nl i), I', J', M', ?_, ?_, (Rel_same h (by omega) a3 SR.refl a4 a5).rel⟩
            · simp only [if_neg e0, if_neg e1, if_neg e2, if_pos e3, a1, Option.bind_some]
            · simp only [if_neg e0, if_neg e1, if_neg e2, if_pos e3, a2, Option.bind_some]
          · by_cases e4 : a1 = 4
            · obtain ⟨I', J', M', a1, a2, a3, a4, a5⟩ := leak_R (d := 0) h FU_big.1 (by decide) hi
              rw [nI_0] at a1 a2
              refine ⟨nI (lkN (vw I t) (sc I 49) nl i ((0 : Nat) : Int)), I', J', M', ?_, ?_, (Rel_same h (by omega) a3 SR.refl a4 a5).rel⟩
              · simp only [if_neg e0, if_neg e1, if_neg e2, if_neg e3, if_pos e4, a1, Option.bind_some]
              · simp only [if_neg e0, if_neg e1, if_neg e2, if_neg e3, if_pos e4, a2, Option.bind_some]
            · refine ⟨-1, _, _, _, ?_, ?_, h.up.rel⟩ <;> simp only [if_neg e0, if_neg e1, if_neg e2, if_neg e3, if_neg e4]
