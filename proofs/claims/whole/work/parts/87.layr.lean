/-! a scene of the class against a layer of the reference -/
def LC (I : HI) (R : HR) (J : HI) (s v t b nh no nl : Nat) : Prop := CL I R s t nh no nl ∧ LR (vw I t) ∧ ML J b nh no nl (vw I t) ∧ SEp nl (sc I s) (lv J v) ∧ BW (sc I s) ∧ v < 26 ∧ ∀ k, k < 36 → I (s + 4) k = J 131 k
section
variable {I : HI} {R : HR} {J : HI} {M : HL} {s v t b nh no nl fu : Nat}
theorem worth_L (h : LC I R J s v t b nh no nl) (hf : 1600 < fu) {l : Nat} (hl : l < nl) : ∃ I' J' M', f_X9_worthOf fu I R s (nI l) = some (nI (woN (vw I t) (sc I s) nl l), I') ∧ f_X12_worth fu J M (nI v) (nI l) = some (nI (woN (vw I t) (sc I s) nl l), J', M') ∧ MO s I I' ∧ AO J J' ∧ OtL M M' := by
  obtain ⟨hC, hL, hM, hE, hB, hv, hd⟩ := h
  obtain ⟨I', a1, a2⟩ := worthOf_C (fu := fu) hC hL hB hf hl
  obtain ⟨J', M', b1, b2, b3⟩ := worth_M (fu := fu) (M := M) (v := v) hM hL (hE.bw hB) hf hv hl
  rw [← hE.woE hC.2.2.2.2.2.2.2.2.2 hl] at b1
  exact ⟨I', J', M', a1, b1, a2, b2, b3⟩
theorem worths_L (h : LC I R J s v t b nh no nl) (hf : 1600 < fu) {B B' : Nat} (hB0 : B < 2 ^ 31) (hB1 : B' < 2 ^ 31) (he : ∀ l, l < nl → B.testBit l = B'.testBit l) : ∃ I' J' M', f_X9_worthOfBits fu I R s (nI B) = some (nI (smN (fun l => if B.testBit l = true then woN (vw I t) (sc I s) nl l else 0) nl), I') ∧ f_X12_worthOf fu J M (nI v) (nI B') = some (nI (smN (fun l => if B.testBit l = true then woN (vw I t) (sc I s) nl l else 0) nl), J', M') ∧ MO s I I' ∧ AO J J' ∧ OtL M M' := by
  obtain ⟨hC, hL, hM, hE, hB, hv, hd⟩ := h
  obtain ⟨I', a1, a2⟩ := worthOfBits_C (fu := fu) hC hL hB hf hB0
  obtain ⟨J', M', b1, b2, b3⟩ := worthOf_M (fu := fu) (M := M) (v := v) hM hL (hE.bw hB) hf hv hB1
  have e : smN (fun l => if B'.testBit l = true then woN (vw I t) (lv J v) nl l else 0) nl = smN (fun l => if B.testBit l = true then woN (vw I t) (sc I s) nl l else 0) nl := smN_congr (fun l hl => by rw [he l hl, hE.woE hC.2.2.2.2.2.2.2.2.2 hl])
  rw [e] at b1
  exact ⟨I', J', M', a1, b1, a2, b2, b3⟩
theorem lakesOf_L (h : LC I R J s v t b nh no nl) (hf : 8 < fu) (x : Int32) : ∃ B, B < 256 ∧ B = btN (fun l => decide (sc I s 3 l = x)) nl ∧ f_X9_lakesOf fu I R s x = some (nI B) ∧ f_X12_lakesOf fu J (nI v) x = some (nI B) := by
  obtain ⟨hC, hL, hM, hE, hB, hv, hd⟩ := h
  have h9 := hC.2.2.2.2.2.2.2.2.2
  have e : btN (fun l => decide (lv J v 3 l = x)) nl = btN (fun l => decide (sc I s 3 l = x)) nl := btN_congr (fun l hl => by rw [(hE.2.1 l (by omega)).2.2])
  have b1 := lakesOf_M (fu := fu) (v := v) hM hf hv x
  rw [e] at b1
  refine ⟨_, ?_, rfl, lakesOf_C hC hf x, b1⟩
  have h2 := btN_lt (p := fun l => decide (sc I s 3 l = x)) nl
  have h3 : 2 ^ nl ≤ 2 ^ 8 := Nat.pow_le_pow_right (by decide) h9
  exact Nat.lt_of_lt_of_le h2 h3
theorem owed_L (h : LC I R J s v t b nh no nl) (hf : 8 < fu) {x : Nat} (hx : x < no) : f_X12_owed fu J (nI x) 1 = some (sm (fun p => I (s + 4) (x * 6 + p)) no) ∧ f_X12_owed fu J (nI x) 0 = some (sm (fun p => I (s + 4) (p * 6 + x)) no) ∧ f_X9_owedBy fu I R s (nI x) = some (sm (fun p => I (s + 4) (x * 6 + p)) no) ∧ f_X9_owedTo fu I R s (nI x) = some (sm (fun p => I (s + 4) (p * 6 + x)) no) := by
  obtain ⟨hC, hL, hM, hE, hB, hv, hk⟩ := h
  have h8 := hC.2.2.2.2.2.2.2.2.1
  obtain ⟨b1, b2⟩ := owed_M (fu := fu) hM hf (show x < 6 by omega)
  refine ⟨?_, ?_, owedBy_C (fu := fu) hC hf (show x < 6 by omega), owedTo_C (fu := fu) hC hf (show x < 6 by omega)⟩
  · rw [b1]
    congr 1
    exact sm_congr (fun i hi => by rw [hk _ (by omega)]; congr 1; omega)
  · rw [b2]
    congr 1
    exact sm_congr (fun i hi => by rw [hk _ (by omega)]; congr 1; omega)
theorem isBroke_L (h : LC I R J s v t b nh no nl) (hf : 1600 < fu) {x : Nat} (hx : x < no) : ∃ r I' J' M', (r = 0 ∨ r = 1) ∧ f_X9_isBroke fu I R s (nI x) = some (r, I') ∧ f_X12_isBroke fu J M (nI v) (nI x) = some (r, J', M') ∧ MO s I I' ∧ AO J J' ∧ OtL M M' ∧ (sm (fun p => I (s + 4) (x * 6 + p)) no = 0 → r = 0) := by
  obtain ⟨B, c1, c2, c3, c4⟩ := lakesOf_L h (show 8 < fu by omega) (nI x)
  obtain ⟨o1, o2, o3, o4⟩ := owed_L h (show 8 < fu by omega) hx
  obtain ⟨I', J', M', w1, w2, w3, w4, w5⟩ := worths_L (M := M) h hf (B := B) (B' := B) (by omega) (by omega) (fun _ _ => rfl)
  unfold f_X9_isBroke f_X12_isBroke
  rw [o1, o3, c3, c4]
  simp only [Option.bind_some, w1, w2]
  by_cases c : sm (fun p => I (s + 4) (x * 6 + p)) no ≤ nI (smN (fun l => if B.testBit l = true then woN (vw I t) (sc I s) nl l else 0) nl)
  · exact ⟨0, I', J', M', Or.inl rfl, by rw [if_pos c, gz_0], by rw [if_pos c, gz_0], w3, w4, w5, fun _ => rfl⟩
  · refine ⟨1, I', J', M', Or.inr rfl, by rw [if_neg c, gz_1], by rw [if_neg c, gz_1], w3, w4, w5, fun q => ?_⟩
    rw [q] at c
    refine absurd (nI_pos' ?_) c
    have hb : smN (fun l => if B.testBit l = true then woN (vw I t) (sc I s) nl l else 0) nl ≤ nl * 9999 := smN_le nl (fun i hi => by
      show (if B.testBit i = true then woN (vw I t) (sc I s) nl i else 0) ≤ 9999
      split
      · unfold woN
        split
        · omega
        · split
          · exact clN_le
          · have h9 := h.1.2.2.2.2.2.2.2.2.2
            obtain ⟨y, hy, ey⟩ := h.2.2.2.2.1.1 i (by omega)
            rw [ey, nI_clamp (by omega)]
            omega
      · omega)
    have h9 := h.1.2.2.2.2.2.2.2.2.2
    have h10 : nl * 9999 ≤ 8 * 9999 := Nat.mul_le_mul_right _ h9
    omega
/-- a night on both sides -/
theorem pass_L (h : LC I R J s v t b nh no nl) (hf : 1600 < fu) {d n : Nat} (hd : d ≤ 1) (hn : n ≤ 9999) (en : I s 1 = nI n) : ∃ W I' J' M', W = smN (fun l => lkN (vw I t) (sc I s) nl l d) nl ∧ f_X9_passNight fu I R s (nI d) = some (nI W, I') ∧ f_X12_passes fu J M (nI v) (nI d) = some (nI W, J', M') ∧ (∀ x, x < s ∨ s + 9 ≤ x → I' x = I x) ∧ PO v J J' ∧ OtL M M' ∧ I' s 1 = nI (min 9999 (n + 1)) ∧ J' 127 v = nI (n + 1) ∧ (∀ a k, 1 ≤ a → a ≤ 4 → I' (s + a) k = ntS (sc I s) (fun l => lkN (vw I t) (sc I s) nl l d) nl a k) ∧ (∀ a k, 1 ≤ a → a ≤ 3 → k < 8 → (a = 1 ∨ k < nl) → I' (s + a) k = lv J' v a k) := by
  obtain ⟨hC, hL, hM, hE, hB, hv, hk⟩ := h
  have h9 := hC.2.2.2.2.2.2.2.2.2
  obtain ⟨I', a1, a2, a3, a4⟩ := passNight_C (fu := fu) hC hL hB hf hd
  obtain ⟨J', M', b1, b2, b3, b4, b5⟩ := passes_M (fu := fu) (M := M) (v := v) hM hL (hE.bw hB) hf hv hd
  have e1 : smN (fun l => lkN (vw I t) (lv J v) nl l d) nl = smN (fun l => lkN (vw I t) (sc I s) nl l d) nl := smN_congr (fun l hl => (hE.lkE h9 hl).symm)
  rw [e1] at b1
  have e7 : J 127 v = nI n := by
    have q : I s 1 = J 127 v := hE.1
    rw [← q]; exact en
  refine ⟨_, I', J', M', rfl, a1, b1, a2, b2, b5, a4 n hn en, by rw [b4, e7, nI_1], a3, fun a k h1 h2 h3 h4 => ?_⟩
  rw [a3 a k h1 (by omega), b3 a k h1 h2 h3]
  have q0 := hE.2.2.2 k h3
  unfold ntS
  have hl : k < nl → lkN (vw I t) (sc I s) nl k d = lkN (vw I t) (lv J v) nl k d := fun hk => hE.lkE h9 hk
  have hz : a = 1 ∨ a = 2 ∨ a = 3 := by omega
  by_cases c : k < nl
  · obtain ⟨q1, q2, q3⟩ := hE.2.1 k (by omega)
    rcases hz with q | q | q <;> subst q <;> simp [q1, q2, q3, hl c]
  · have e1 : a = 1 := h4.resolve_right c
    subst e1
    simp [c, q0]
/-- as long as the night is told, a scene and a layer stay side by side -/
theorem pass_LC (h : LC I R J s v t b nh no nl) (hf : 1600 < fu) {d n : Nat} (hd : d ≤ 1) (hn : n < 9999) (en : I s 1 = nI n) : ∃ W I' J' M', f_X9_passNight fu I R s (nI d) = some (nI W, I') ∧ f_X12_passes fu J M (nI v) (nI d) = some (nI W, J', M') ∧ (∀ x, x < s ∨ s + 9 ≤ x → I' x = I x) ∧ PO v J J' ∧ OtL M M' ∧ I' s 1 = nI (n + 1) ∧ LC I' R J' s v t b nh no nl ∧ (∀ k, I' (s + 4) k = I (s + 4) k) := by
  have h' := h
  obtain ⟨hC, hL, hM, hE, hB, hv, hk⟩ := h'
  obtain ⟨W, I', J', M', ew, a1, a2, a3, a4, a5, a6, a7, a8, a9⟩ := pass_L (M := M) h hf hd (by omega) en
  rw [show min 9999 (n + 1) = n + 1 by omega] at a6
  have ht := hC.2.2.1
  have hs := hC.2.2.2.1
  have h9 := hC.2.2.2.2.2.2.2.2.2
  have e4 : ∀ k, I' (s + 4) k = I (s + 4) k := fun k => by
    rw [a8 4 k (by omega) (by omega)]
    unfold ntS sc
    simp
  have ev : vw I' t = vw I t := vw_congr (fun a ha => a3 _ (by omega))
  have et : I' t = I t := a3 t (by omega)
  refine ⟨W, I', J', M', a1, a2, a3, a4, a5, a6, ⟨?_, by rw [ev]; exact hL, ?_, ?_, ?_, hv, ?_⟩, e4⟩
  · obtain ⟨h0, h1, h2, h3, h4, h5, h6, h7, h8, h9⟩ := hC
    exact ⟨h0, h1, h2, h3, by rw [et]; exact h4, by rw [et]; exact h5, by rw [et]; exact h6, h7, h8, h9⟩
  · rw [ev]
    exact ML_congr (by rw [a4.1 100 (by decide)]) (fun x q1 q2 => a4.1 x (by omega)) hM
  · refine ⟨?_, fun k hk => ?_, fun k hk => ?_, fun k hk => a9 1 k (by omega) (by omega) hk (Or.inl rfl)⟩
    · show I' s 1 = J' 127 v
      rw [a6, a7]
    · exact ⟨a9 1 k (by omega) (by omega) (by omega) (Or.inl rfl), a9 2 k (by omega) (by omega) (by omega) (Or.inr (by omega)), a9 3 k (by omega) (by omega) (by omega) (Or.inr (by omega))⟩
    · show I' (s + 4) k = J' 131 (36 * v + k)
      rw [e4, a4.1 131 (by decide)]
      exact hE.2.2.1 k hk
  · refine ⟨fun l hl => ?_, n + 1, by omega, a6⟩
    obtain ⟨x, hx, ex⟩ := hB.1 l hl
    show ∃ x, x ≤ 999 ∧ I' (s + 1) l = nI x
    rw [a8 1 l (by omega) (by omega)]
    unfold ntS
    rw [if_pos rfl, ex, nI_clamp (by omega)]
    split
    · exact ⟨_, by omega, rfl⟩
    · exact ⟨x, hx, rfl⟩
  · intro k hk'
    rw [e4, a4.1 131 (by decide)]
    exact hk k hk'
end
