/-! the rules' reader: a part -/
section
variable {tp : Nat → Nat} {sz fu t b r0 : Nat} {R : HR}
theorem figs {I : HI} {r0 : Nat} (h : I 8 2 = nI r0) (hr : r0 ≤ 2) : f_X8_figureOp I (nI 5) = some (-1) ∧ f_X8_figureOp I (nI 13) = some (-2) ∧ f_X8_figureOp I (nI 14) = some (-3) ∧ f_X8_figureOp I (nI 15) = some (if r0 = 2 then -5 else 0) ∧ f_X8_figureOp I (nI 16) = some (if r0 = 2 then -6 else 0) ∧ f_X8_figureOp I (nI 24) = some (if r0 = 0 then -4 else 0) := by
  have e2 : (nI r0 = 2) ↔ r0 = 2 := nI_eq (b := 2) (by omega) (by decide)
  have e0 : (nI r0 = 0) ↔ r0 = 0 := nI_eq (b := 0) (by omega) (by decide)
  unfold f_X8_figureOp
  refine ⟨?_, ?_, ?_, ?_, ?_, ?_⟩
  · rw [if_pos (by decide)]
  · rw [if_neg (by decide), if_pos (by decide)]
  · rw [if_neg (by decide), if_neg (by decide), if_pos (by decide)]
  · rw [if_neg (by decide), if_neg (by decide), if_neg (by decide), if_pos (by decide), h]
    by_cases c : r0 = 2
    · rw [if_pos (e2.mpr c), if_pos c]
    · rw [if_neg (fun w => c (e2.mp w)), if_neg c]
  · rw [if_neg (by decide), if_neg (by decide), if_neg (by decide), if_neg (by decide), if_pos (by decide), h]
    by_cases c : r0 = 2
    · rw [if_pos (e2.mpr c), if_pos c]
    · rw [if_neg (fun w => c (e2.mp w)), if_neg c]
  · rw [if_neg (by decide), if_neg (by decide), if_neg (by decide), if_neg (by decide), if_neg (by decide), if_pos (by decide), h]
    by_cases c : r0 = 0
    · rw [if_pos (e0.mpr c), if_pos c]
    · rw [if_neg (fun w => c (e0.mp w)), if_neg c]
theorem figN {I : HI} {w : Nat} (hw : w < 25) (h : w ≠ 5 ∧ w ≠ 13 ∧ w ≠ 14 ∧ w ≠ 15 ∧ w ≠ 16 ∧ w ≠ 24) : f_X8_figureOp I (nI w) = some 0 := by
  have z : ∀ d, d < 25 → w ≠ d → ¬ nI w = nI d := fun d hd hn q => hn ((nI_eq (by omega) (by omega)).mp q)
  unfold f_X8_figureOp
  have z5 : ¬ nI w = 5 := z 5 (by decide) h.1
  have z13 : ¬ nI w = 13 := z 13 (by decide) h.2.1
  have z14 : ¬ nI w = 14 := z 14 (by decide) h.2.2.1
  have z15 : ¬ nI w = 15 := z 15 (by decide) h.2.2.2.1
  have z16 : ¬ nI w = 16 := z 16 (by decide) h.2.2.2.2.1
  have z24 : ¬ nI w = 24 := z 24 (by decide) h.2.2.2.2.2
  rw [if_neg z5, if_neg z13, if_neg z14, if_neg z15, if_neg z16, if_neg z24]
theorem part_P {r o nd nds ndt : Nat} (hf : 2000 < fu) (ht : t = 67 ∨ t = 80) (hok : okLd t = true) (hR : R 8 1 = t) (ho : o ≤ 7) (hr0 : r0 ≤ 2) (hnd1 : 1 ≤ nd) (hnd : o < 7 → nds + 2 ≤ nd ∧ ndt ≤ nd ∧ 4 ≤ nd) (hs1 : o < 7 → SumP tp sz fu t b r0 R (r + 1) 6 (o + 1) 5 nds 3 tkSm) (hs0 : o < 7 → SumP tp sz fu t b r0 R r 6 (o + 1) 5 nds 3 tkSm) (hT0 : o < 7 → TestQ tp sz fu t b r0 R r 7 (o + 1) 1 1 ndt 0 pkT) : SumP tp sz fu t b r0 R (r + 2) 4 o 7 nd 5 (fun _ _ => True) := by
  intro I J M k at' e cj om dp fk ph bg bs n h hph hno hctx hom hdp hn
  show ∃ y K, f_X8_readPart (g_X8 fu (r + 1)) fu I R (nI o) = some (y, K) ∧ _
  have h3 := h.1.2.1.1.2.2.2
  have hfk := h.2.2.2.2.2.2.2.2.2.2.2.2.2.1
  have hbg := h.2.2.2.2.2.2.2.2.2.2.2.2.2.2
  have hakJ := h.2.2.2.2.2.2.2.2.2.2.2.1
  have hr8 := h.2.2.2.2.2.2.2.2.2.2.2.2.1
  have hJ4 := h.1.2.1.1.2.2.1.2
  have fg := figs hr8 hr0
  have hak : akN r0 < 200 := by
    have : ∀ r, r < 3 → akN r < 200 := by decide
    exact this r0 (by omega)
  rcases lexS h.1 with ⟨l1, l2, l3, l4⟩ | ⟨l1, pl, J7, l2, l3, l4, l5⟩
  · obtain ⟨c, w, t1, t2, t3, t4, t5, t6⟩ := tok h.1 l1
    have hk6 : k < 6 := by
      rcases h.1.2.1.2.2.1 with q | q | q | q | q | q <;> omega
    have hJ3 : k ≠ 3 → ¬ J 100 3 = 2 := fun hk => by
      rcases h.1.2.1.2.2.1 with q | q | q | q | q | q
      · rw [q.2.1]; decide
      · rw [q.2.1]; decide
      · omega
      · rw [q.2.1]; decide
      · rw [q.2.1]; decide
      · omega
    have hno' : tsF fk ∧ bg = 1 → w ≠ 20 ∧ c ≠ 91 ∧ w ≠ 21 := fun z => by
      obtain ⟨z1, z2⟩ := hno z
      refine ⟨fun q => z1 ?_, fun q => z2 ?_, fun q => z1 ?_⟩
      · rcases t6 with ⟨y0, _, y2⟩ | ⟨_, y⟩
        · exact ⟨y0, Or.inl (by rw [y2, q])⟩
        · omega
      · rcases t5 with ⟨y0, _, y2⟩ | ⟨_, y⟩
        · exact ⟨y0, by rw [y2, q]⟩
        · omega
      · rcases t6 with ⟨y0, _, y2⟩ | ⟨_, y⟩
        · exact ⟨y0, Or.inr (by rw [y2, q])⟩
        · omega
    have s40 : f_X10_isSign I 40 = some (if c = 40 then 1 else 0) := t3 40 (by decide)
    by_cases k3 : k = 3
    · have c40 : c ≠ 40 := by
        rcases t5 with ⟨q, _⟩ | ⟨_, q⟩ <;> omega
      have w99 : w = 99 := by
        rcases t6 with ⟨q, _⟩ | ⟨_, q⟩ <;> omega
      obtain ⟨v, v1, v2, v3, v4⟩ : ∃ v, v ≤ 9999 ∧ I 7 6 = nI v ∧ J 100 6 = nI v ∧ J 100 3 = 2 := by
        rcases h.1.2.1.2.2.1 with q | q | q | q | q | q
        · omega
        · omega
        · obtain ⟨_, q1, _, _, v, q2, q3, q4⟩ := q
          exact ⟨v, q2, q3, q4, q1⟩
        · omega
        · omega
        · omega
      have hz : (nI v).toInt = (v : Int) := nI_toInt (by omega)
      obtain ⟨K1, K, b1, b2, b3⟩ := leaf_R (fu := fu) (nd := nd) (v := nI v) (s := 0) (x := nI v) h hf ht (by omega) (Or.inl ⟨by rw [hz]; omega, rfl, rfl⟩) (fun J1 J3 M3 a1 a2 => oV_M h.1.2.2.1 l2 h.2.1.2.2.2.1.1 h.2.1.2.2.2.1.2 h.2.1.2.2.2.2.2.2.1 hfk h.2.1.2.2.2.2.2.2.2.2.1 hbg t2 t1 hno' c40 (by omega) v4 (by rw [v3]; exact a1) a2) (fun K hK => VL_num (z := (v : Int)) (by rw [hK]; exact hz) (by omega) hnd1 (fun q => absurd q (by decide))) hn
      exact ⟨1, K, pt_num (by rw [h3, k3]) hok hR (by rw [v2]; exact b1) b2, Or.inl ⟨rfl, b3⟩⟩
    · by_cases c40 : c = 40
      · have k4 : k = 4 := by
          rcases t5 with ⟨q, _⟩ | ⟨_, q⟩
          · exact q
          · omega
        by_cases o7 : o < 7
        · obtain ⟨y, K, g1, g2⟩ := par_R (r := r + 1) (nd := nds) hf ht ho hs1 h hno' hom hdp hn k4 c40 t1 t2 t3
          refine ⟨y, K, g1, ?_⟩
          rcases g2 with ⟨z, g3⟩ | g3
          · exact Or.inl ⟨z, OutG_le g3 (by have := hnd o7; omega)⟩
          · exact Or.inr g3
        · exact par_R (r := r + 1) (nd := nd) hf ht ho (fun q => absurd q o7) h hno' hom hdp hn k4 c40 t1 t2 t3
      · rw [if_neg c40] at s40
        by_cases k2 : k = 2
        · obtain ⟨hw, h6⟩ : w < 25 ∧ I 7 6 = nI w := by
            rcases t6 with ⟨_, q1, q2⟩ | ⟨q, _⟩
            · exact ⟨q1, q2⟩
            · omega
          have h32 : I 7 3 = nI 2 := by rw [h3, k2]
          have hy : ∀ {y : Int32} {P Q : Prop}, (y = 1 ∧ P) ∨ (y = 0 ∧ Q) → y = 0 ∨ y = 1 := fun q => by
            rcases q with ⟨q, _⟩ | ⟨q, _⟩
            · exact Or.inr q
            · exact Or.inl q
          have ob : ∀ {J' : HI} {Kb : HI}, f_X12_operand fu J M = some (1, J', M) → BadM (sI J 122 dp 0) J' 1 at' → BadC I Kb 1 at' → OutB fu t b I J M Kb n := fun q1 q2 q3 => leaf_B h ht l4 q1 (Or.inl q2) q3 hn
          by_cases w17 : w = 17
          · obtain ⟨y, K, g1, g2⟩ := choice_R (r := r) (nd := nds) (ndt := ndt) (ndp := nd) hf ht hok hR ho hnd hs0 hT0 h hno' hom hdp hn k2 c40 w17 t1 t2
            exact ⟨y, K, pt_17 h32 s40 (by rw [h6, w17]) (hy g2) g1, g2⟩
          by_cases w22 : w = 22
          · obtain ⟨y, K, g1, g2⟩ := pairMin_R (r := r) (nd := nds) (ndp := nd) hf ht hok hR ho (fun q => by have := hnd q; omega) hs0 h hno' hom hdp hn k2 c40 w22 t1 t2
            exact ⟨y, K, pt_22 h32 s40 (by rw [h6, w22]) (hy g2) g1, g2⟩
          by_cases w23 : w = 23
          · obtain ⟨y, K, g1, g2⟩ := pairMax_R (r := r) (nd := nds) (ndp := nd) hf ht hok hR ho (fun q => by have := hnd q; omega) hs0 h hno' hom hdp hn k2 c40 w23 t1 t2
            exact ⟨y, K, pt_23 h32 s40 (by rw [h6, w23]) (hy g2) g1, g2⟩
          have hwn : w < 25 ∧ w ≠ 17 ∧ w ≠ 22 ∧ w ≠ 23 := ⟨hw, w17, w22, w23⟩
          by_cases w5 : w = 5
          · have fgv : f_X8_figureOp I (nI w) = some (-1) := by
              rw [w5]
              exact fg.1
            have hbit : akN r0 / 2 ^ 1 % 2 = 1 := by
              have q : ∀ r, r < 3 → akN r / 2 ^ 1 % 2 = 1 := by decide
              exact q r0 (by omega)
            obtain ⟨K1, K, b1, b2, b3⟩ := leaf_R (fu := fu) (nd := nd) (v := -1) (s := 1) (x := J 100 6) h hf ht (by omega) (Or.inr (Or.inr (Or.inl ⟨0, by decide, by decide, rfl⟩))) (fun J1 J3 M3 a1 a2 => oF5_M (at' := at') (ak := akN r0) h.1.2.2.1 l2 h.2.1.2.2.2.1.1 h.2.1.2.2.2.1.2 h.2.1.2.2.2.2.2.2.1 hfk h.2.1.2.2.2.2.2.2.2.2.1 hbg t2 t1 hno' c40 w5 (hJ3 k3) hJ4 hakJ hak hbit a1 a2) (fun K hK => VL_fig (kf := 0) (by rw [hK]; decide) (by decide) (Or.inl (by decide)) hnd1) hn
            exact ⟨1, K, pt_fig h32 s40 h6 hwn fgv (by decide) hok hR b1 b2, Or.inl ⟨rfl, b3⟩⟩
          by_cases w13 : w = 13
          · have fgv : f_X8_figureOp I (nI w) = some (-2) := by
              rw [w13]
              exact fg.2.1
            have hbit : akN r0 / 2 ^ 2 % 2 = 1 := by
              have q : ∀ r, r < 3 → akN r / 2 ^ 2 % 2 = 1 := by decide
              exact q r0 (by omega)
            obtain ⟨K1, K, b1, b2, b3⟩ := leaf_R (fu := fu) (nd := nd) (v := -2) (s := 2) (x := J 100 6) h hf ht (by omega) (Or.inr (Or.inr (Or.inl ⟨1, by decide, by decide, rfl⟩))) (fun J1 J3 M3 a1 a2 => oF13_M (at' := at') (ak := akN r0) h.1.2.2.1 l2 h.2.1.2.2.2.1.1 h.2.1.2.2.2.1.2 h.2.1.2.2.2.2.2.2.1 hfk h.2.1.2.2.2.2.2.2.2.2.1 hbg t2 t1 hno' c40 w13 (hJ3 k3) hJ4 hakJ hak hbit a1 a2) (fun K hK => VL_fig (kf := 1) (by rw [hK]; decide) (by decide) (Or.inl (by decide)) hnd1) hn
            exact ⟨1, K, pt_fig h32 s40 h6 hwn fgv (by decide) hok hR b1 b2, Or.inl ⟨rfl, b3⟩⟩
          by_cases w14 : w = 14
          · have fgv : f_X8_figureOp I (nI w) = some (-3) := by
              rw [w14]
              exact fg.2.2.1
            have hbit : akN r0 / 2 ^ 3 % 2 = 1 := by
              have q : ∀ r, r < 3 → akN r / 2 ^ 3 % 2 = 1 := by decide
              exact q r0 (by omega)
            obtain ⟨K1, K, b1, b2, b3⟩ := leaf_R (fu := fu) (nd := nd) (v := -3) (s := 3) (x := J 100 6) h hf ht (by omega) (Or.inr (Or.inr (Or.inl ⟨2, by decide, by decide, rfl⟩))) (fun J1 J3 M3 a1 a2 => oF14_M (at' := at') (ak := akN r0) h.1.2.2.1 l2 h.2.1.2.2.2.1.1 h.2.1.2.2.2.1.2 h.2.1.2.2.2.2.2.2.1 hfk h.2.1.2.2.2.2.2.2.2.2.1 hbg t2 t1 hno' c40 w14 (hJ3 k3) hJ4 hakJ hak hbit a1 a2) (fun K hK => VL_fig (kf := 2) (by rw [hK]; decide) (by decide) (Or.inl (by decide)) hnd1) hn
            exact ⟨1, K, pt_fig h32 s40 h6 hwn fgv (by decide) hok hR b1 b2, Or.inl ⟨rfl, b3⟩⟩
          by_cases w15 : w = 15
          · by_cases cr : r0 = 2
            · have fgv : f_X8_figureOp I (nI w) = some (-5) := by
                rw [w15]
                have q := fg.2.2.2.1
                rw [if_pos cr] at q
                exact q
              have hbit : akN r0 / 2 ^ 5 % 2 = 1 := by
                rw [cr]; decide
              obtain ⟨K1, K, b1, b2, b3⟩ := leaf_R (fu := fu) (nd := nd) (v := -5) (s := 5) (x := J 100 6) h hf ht (by omega) (Or.inr (Or.inr (Or.inl ⟨4, by decide, by decide, rfl⟩))) (fun J1 J3 M3 a1 a2 => oF15_M (at' := at') (ak := akN r0) h.1.2.2.1 l2 h.2.1.2.2.2.1.1 h.2.1.2.2.2.1.2 h.2.1.2.2.2.2.2.2.1 hfk h.2.1.2.2.2.2.2.2.2.2.1 hbg t2 t1 hno' c40 w15 (hJ3 k3) hJ4 hakJ hak hbit a1 a2) (fun K hK => VL_fig (kf := 4) (by rw [hK]; decide) (by decide) (Or.inr (Or.inr ⟨cr, Or.inl rfl⟩)) hnd1) hn
              exact ⟨1, K, pt_fig h32 s40 h6 hwn fgv (by decide) hok hR b1 b2, Or.inl ⟨rfl, b3⟩⟩
            · have fgv : f_X8_figureOp I (nI w) = some 0 := by
                rw [w15]
                have q := fg.2.2.2.1
                rw [if_neg cr] at q
                exact q
              have hbit : akN r0 / 2 ^ 5 % 2 = 0 := by
                have q : ∀ r, r < 3 → r ≠ 2 → akN r / 2 ^ 5 % 2 = 0 := by decide
                exact q r0 (by omega) cr
              obtain ⟨Kb, f1, f2⟩ := failFormC l3
              obtain ⟨J', m1, m2⟩ := oF15_Mx (fu := fu) (at' := at') (ak := akN r0) h.1.2.2.1 l2 h.2.1.2.2.2.1.1 h.2.1.2.2.2.1.2 h.2.1.2.2.2.2.2.2.1 hfk h.2.1.2.2.2.2.2.2.2.2.1 hbg t2 t1 hno' c40 w15 (hJ3 k3) hJ4 hakJ hak hbit
              exact ⟨0, Kb, pt_bad h32 s40 h6 hwn fgv f1, Or.inr ⟨rfl, ob m1 m2 f2⟩⟩
          by_cases w16 : w = 16
          · by_cases cr : r0 = 2
            · have fgv : f_X8_figureOp I (nI w) = some (-6) := by
                rw [w16]
                have q := fg.2.2.2.2.1
                rw [if_pos cr] at q
                exact q
              have hbit : akN r0 / 2 ^ 6 % 2 = 1 := by
                rw [cr]; decide
              obtain ⟨K1, K, b1, b2, b3⟩ := leaf_R (fu := fu) (nd := nd) (v := -6) (s := 6) (x := J 100 6) h hf ht (by omega) (Or.inr (Or.inr (Or.inl ⟨5, by decide, by decide, rfl⟩))) (fun J1 J3 M3 a1 a2 => oF16_M (at' := at') (ak := akN r0) h.1.2.2.1 l2 h.2.1.2.2.2.1.1 h.2.1.2.2.2.1.2 h.2.1.2.2.2.2.2.2.1 hfk h.2.1.2.2.2.2.2.2.2.2.1 hbg t2 t1 hno' c40 w16 (hJ3 k3) hJ4 hakJ hak hbit a1 a2) (fun K hK => VL_fig (kf := 5) (by rw [hK]; decide) (by decide) (Or.inr (Or.inr ⟨cr, Or.inr rfl⟩)) hnd1) hn
              exact ⟨1, K, pt_fig h32 s40 h6 hwn fgv (by decide) hok hR b1 b2, Or.inl ⟨rfl, b3⟩⟩
            · have fgv : f_X8_figureOp I (nI w) = some 0 := by
                rw [w16]
                have q := fg.2.2.2.2.1
                rw [if_neg cr] at q
                exact q
              have hbit : akN r0 / 2 ^ 6 % 2 = 0 := by
                have q : ∀ r, r < 3 → r ≠ 2 → akN r / 2 ^ 6 % 2 = 0 := by decide
                exact q r0 (by omega) cr
              obtain ⟨Kb, f1, f2⟩ := failFormC l3
              obtain ⟨J', m1, m2⟩ := oF16_Mx (fu := fu) (at' := at') (ak := akN r0) h.1.2.2.1 l2 h.2.1.2.2.2.1.1 h.2.1.2.2.2.1.2 h.2.1.2.2.2.2.2.2.1 hfk h.2.1.2.2.2.2.2.2.2.2.1 hbg t2 t1 hno' c40 w16 (hJ3 k3) hJ4 hakJ hak hbit
              exact ⟨0, Kb, pt_bad h32 s40 h6 hwn fgv f1, Or.inr ⟨rfl, ob m1 m2 f2⟩⟩
          by_cases w24 : w = 24
          · by_cases cr : r0 = 0
            · have fgv : f_X8_figureOp I (nI w) = some (-4) := by
                rw [w24]
                have q := fg.2.2.2.2.2
                rw [if_pos cr] at q
                exact q
              have hbit : akN r0 / 2 ^ 4 % 2 = 1 := by
                rw [cr]; decide
              obtain ⟨K1, K, b1, b2, b3⟩ := leaf_R (fu := fu) (nd := nd) (v := -4) (s := 4) (x := J 100 6) h hf ht (by omega) (Or.inr (Or.inr (Or.inl ⟨3, by decide, by decide, rfl⟩))) (fun J1 J3 M3 a1 a2 => oF24_M (at' := at') (ak := akN r0) h.1.2.2.1 l2 h.2.1.2.2.2.1.1 h.2.1.2.2.2.1.2 h.2.1.2.2.2.2.2.2.1 hfk h.2.1.2.2.2.2.2.2.2.2.1 hbg t2 t1 hno' c40 w24 (hJ3 k3) hJ4 hakJ hak hbit a1 a2) (fun K hK => VL_fig (kf := 3) (by rw [hK]; decide) (by decide) (Or.inr (Or.inl ⟨cr, rfl⟩)) hnd1) hn
              exact ⟨1, K, pt_fig h32 s40 h6 hwn fgv (by decide) hok hR b1 b2, Or.inl ⟨rfl, b3⟩⟩
            · have fgv : f_X8_figureOp I (nI w) = some 0 := by
                rw [w24]
                have q := fg.2.2.2.2.2
                rw [if_neg cr] at q
                exact q
              have hbit : akN r0 / 2 ^ 4 % 2 = 0 := by
                have q : ∀ r, r < 3 → r ≠ 0 → akN r / 2 ^ 4 % 2 = 0 := by decide
                exact q r0 (by omega) cr
              obtain ⟨Kb, f1, f2⟩ := failFormC l3
              obtain ⟨J', m1, m2⟩ := oF24_Mx (fu := fu) (at' := at') (ak := akN r0) h.1.2.2.1 l2 h.2.1.2.2.2.1.1 h.2.1.2.2.2.1.2 h.2.1.2.2.2.2.2.2.1 hfk h.2.1.2.2.2.2.2.2.2.2.1 hbg t2 t1 hno' c40 w24 (hJ3 k3) hJ4 hakJ hak hbit
              exact ⟨0, Kb, pt_bad h32 s40 h6 hwn fgv f1, Or.inr ⟨rfl, ob m1 m2 f2⟩⟩
          obtain ⟨Kb, f1, f2⟩ := failFormC l3
          obtain ⟨J', m1, m2⟩ := oX_M (fu := fu) (at' := at') h.1.2.2.1 l2 h.2.1.2.2.2.1.1 h.2.1.2.2.2.1.2 h.2.1.2.2.2.2.2.2.1 hfk h.2.1.2.2.2.2.2.2.2.2.1 hbg t2 t1 hno' c40 (by omega) (hJ3 k3) hJ4
          exact ⟨0, Kb, pt_bad h32 s40 h6 hwn (figN hw (by omega)) f1, Or.inr ⟨rfl, ob m1 m2 f2⟩⟩
        · have w99 : w = 99 := by
            rcases t6 with ⟨q, _⟩ | ⟨_, q⟩ <;> omega
          obtain ⟨Kb, f1, f2⟩ := kind_0 h3 ⟨k2, hk6⟩ l3
          obtain ⟨J', m1, m2⟩ := oX_M (fu := fu) (at' := at') h.1.2.2.1 l2 h.2.1.2.2.2.1.1 h.2.1.2.2.2.1.2 h.2.1.2.2.2.2.2.2.1 hfk h.2.1.2.2.2.2.2.2.2.2.1 hbg t2 t1 hno' c40 (by omega) (hJ3 k3) hJ4
          exact ⟨0, Kb, pt_no h3 ⟨k3, hk6⟩ s40 f1, Or.inr ⟨rfl, leaf_B h ht l4 m1 (Or.inl m2) f2 hn⟩⟩
  · have s40 : f_X10_isSign I 40 = some 0 := by
      rcases signB h.1 40 (by decide) with ⟨_, _, q, _⟩ | ⟨q, _⟩
      · omega
      · exact q
    obtain ⟨Kb, f1, f2⟩ := kind_0 h3 (by omega) l3
    exact ⟨0, Kb, pt_no h3 (by omega) s40 f1, Or.inr ⟨rfl, leaf_B h ht l2 (oL_M l4 l5) (Or.inr l5) f2 hn⟩⟩
end
