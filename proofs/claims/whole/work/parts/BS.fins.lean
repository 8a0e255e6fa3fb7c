/-! behind a statement, on both sides -/
section
variable {tp : Nat → Nat} {sz fu t b nh no nl cj k at' e n : Nat} {I J : HI} {M : HL} {R : HR}
theorem fin_0 {K J' Jb : HI} {M' : HL} {p : Int32} (l2 : f_X12_lex J' = some J') (h8 : J' 100 8 = 0) {x10 : Int32} (hl : f_X12_finishes_L17 fu J' (J' 100 5) = some x10) (hs : f_X12_isSign J' 59 = some 0) (hm : f_X12_must fu J' M' 59 = some (Jb, M)) : f_X12_finishes fu J' M' p = some (Jb, M) := by
  have z8 : (0 : Int32) ≤ 0 := by decide
  unfold f_X12_finishes
  simp only [l2, Option.bind_some, h8, if_pos z8, bnd, hl, hs, jnt, if_true, hm]
theorem fin_1 {J' Jb : HI} {M' : HL} {p : Int32} (l2 : f_X12_lex J' = some J') (h8 : J' 100 8 = 0) {x10 : Int32} (hl : f_X12_finishes_L17 fu J' (J' 100 5) = some x10) (hs : f_X12_isSign J' 59 = some 1) (hp : ¬ p = 80 ∨ (J' 100 2) ≤ x10) (hm : f_X12_must fu J' M' 59 = some (Jb, M)) : f_X12_finishes fu J' M' p = some (Jb, M) := by
  have z8 : (0 : Int32) ≤ 0 := by decide
  have n3 : ¬ (1 : Int32) = 0 := by decide
  unfold f_X12_finishes
  by_cases q : p = 80
  · have q2 := hp.resolve_left (fun w => w q)
    simp only [l2, Option.bind_some, h8, if_pos z8, bnd, hl, hs, jnt, if_neg n3, if_pos q, if_pos q2, hm]
  · simp only [l2, Option.bind_some, h8, if_pos z8, bnd, hl, hs, jnt, if_neg n3, if_neg q, hm]
theorem fin_6 {J' Jb Jc : HI} {M' : HL} {p : Int32} (l2 : f_X12_lex J' = some J') (h8 : J' 100 8 = 0) {x10 : Int32} (hl : f_X12_finishes_L17 fu J' (J' 100 5) = some x10) (hs : f_X12_isSign J' 59 = some 1) (hp : p = 80) (hp2 : ¬ (J' 100 2) ≤ x10) (hb : f_X12_blame J' 6 x10 = some Jb) (hm : f_X12_must fu Jb M' 59 = some (Jc, M)) : f_X12_finishes fu J' M' p = some (Jc, M) := by
  have z8 : (0 : Int32) ≤ 0 := by decide
  have n3 : ¬ (1 : Int32) = 0 := by decide
  unfold f_X12_finishes
  simp only [l2, Option.bind_some, h8, if_pos z8, bnd, hl, hs, jnt, if_neg n3, if_pos hp, if_neg hp2, hb, hm]
theorem fin_S {K J' : HI} {M' : HL} {y : Int32} (h0 : I t 0 = nI n) (hn : n < 80) (o : OutS tp sz t b e I J M y K J' M') (hR : R 6 2 = t) (ho : okLd t = true) (ht : t = 67 ∨ t = 80) (hf : 2000 < fu) : ∃ y2 K2 J2 M2, tailC fu y K R = some (y2, K2, R) ∧ f_X12_finishes fu J' M' (nI (n + 1)) = some (J2, M2) ∧ OutW tp sz t b n I J M y2 K2 J2 M2 := by
  have n3 : ¬ (1 : Int32) = 0 := by decide
  obtain ⟨⟨f1, f2, f3⟩, o⟩ := o
  rcases o with ⟨rfl, ⟨k0, k9⟩, k', at2, e', nh, no, nl, cj, s1, s2, s3, s4⟩ | ⟨rfl, pl, p1, p2, p3, p4, p5⟩ | ⟨rfl, f, pl, p1, p2, p3, p4, p5⟩
  · have k0' : K t 0 = nI n := k0.trans h0
    have hsz := s1.2.2.2
    have hae := s1.2.1.2.1
    have h8 := s1.2.2.1
    have j5 : J' 100 5 = nI e' := s1.2.1.1.2.1.2
    have j2 : J' 100 2 = nI sz := s1.2.1.1.1.2
    have j4 : J' 100 4 = nI at2 := s1.2.1.1.2.2.1.2
    rcases lexS s1 with ⟨l1, l2, l3, l4⟩ | ⟨l1, pl, J1, l2, l3, l4, l5⟩
    · have hl : f_X12_finishes_L17 fu J' (J' 100 5) = some (nI (rn (fun k => byB (tp k)) sz e')) := by
        rw [j5]
        exact skip_F hsz (fun k hk => ⟨(s1.1 k hk).1, (s1.1 k hk).2.2⟩) j2 (sz - e') e' fu (by omega) (by omega)
      have rp := rn_prop (P := fun k => byB (tp k)) (sz := sz) (sz - e') e' (by omega)
      rcases signB s1 59 (by decide) with ⟨g1, g2, g3, g4⟩ | ⟨g1, g2, g3⟩
      · have g1' : f_X10_isSign K 59 = some 1 := g1
        have g2' : f_X12_isSign J' 59 = some 1 := g2
        have S' : StR tp sz (sI K t 0 (nI (n + 1))) J' M' k' at2 e' := StR_tk s1 (fun x hx => zs_ne (by omega))
        obtain ⟨Kn, Jn, Mn, kn, an, en, q1, q2, q3, q4, q5, q6, q7⟩ := advS S' hf (by omega)
        obtain ⟨Kx, x1, x2, x3⟩ := adv_k S' hf
        have ek : Kx = Kn := by
          have := Option.some.inj (x1.symm.trans q1)
          exact (Prod.mk.inj this).2
        subst ek
        have tl := tail_1 (fu := fu) (R := R) n3 g1' hR ho k0' q1
        have fc : FrC t I Kx := (FrC_put f1 ⟨Nat.le_refl _, by omega⟩).trans q5.tk.fr
        have kt0 : Kx t 0 = nI (n + 1) := by rw [q5.1 t (by omega), zs_eq, zs_same]
        by_cases w : n + 1 = 80 ∧ rn (fun k => byB (tp k)) sz e' < sz
        · obtain ⟨w1, w2⟩ := w
          obtain ⟨Jb, m1, m2⟩ := blameS (f := 6) (pl := rn (fun k => byB (tp k)) sz e') h8
          have m1' : f_X12_blame J' 6 (nI (rn (fun k => byB (tp k)) sz e')) = some Jb := m1
          have z6 : ¬ Jb 100 8 = 0 := by rw [m2.2.1]; decide
          have sb : f_X12_isSign Jb 59 = some 1 := by
            unfold f_X12_isSign
            rw [m2.2.2.2 3 (by decide) (by decide), m2.2.2.2 6 (by decide) (by decide)]
            exact g2'
          have hp2 : ¬ (J' 100 2) ≤ nI (rn (fun k => byB (tp k)) sz e') := by rw [j2]; exact nI_ge (by omega) (by omega)
          have fi := fin_6 (fu := fu) (p := nI (n + 1)) l2 h8 hl g2' (by rw [w1]; rfl) hp2 m1' (mustS_x (M := M') (lexF (by decide) m2.2.1) sb z6)
          refine ⟨1, Kx, Jb, M', tl, fi, ⟨fc, f2.trans m2.fr, f3⟩, Or.inr (Or.inl ⟨rfl, w1, by rw [kt0, w1], ?_⟩)⟩
          rcases x3 with ⟨v, _⟩ | ⟨_, kk, v1, v2⟩
          · omega
          · exact ⟨kk, _, v1, v2, x2, by omega, m2.2.1, m2.2.2.1⟩
        · have hp : ¬ nI (n + 1) = (80 : Int32) ∨ (J' 100 2) ≤ nI (rn (fun k => byB (tp k)) sz e') := by
            by_cases w1 : n + 1 = 80
            · right
              rw [j2]
              exact nI_le (by omega) (by omega)
            · left
              intro v
              exact w1 ((nI_eq (a := n + 1) (b := 80) (by omega) (by decide)).mp v)
          have fi := fin_1 (fu := fu) (p := nI (n + 1)) l2 h8 hl g2' hp (mustS_1 l2 g2' h8 q2)
          refine ⟨1, Kx, Jn, Mn, tl, fi, ⟨fc, f2.trans q6.fr, f3.trans q7.fr⟩, Or.inl ⟨rfl, ⟨kt0, (q6.2 9 (by decide)).trans k9⟩, kn, an, en, nh, no, nl, cj, q3, by omega, ?_, fun w1 => ?_⟩⟩
          · refine TOLD_g s4 (fun s hs => ?_) (fun x x1 x2 _ => ?_) (fun x x1 x2 _ _ _ => q6.1 x (by omega)) (q6.2 32 (by decide)) (q6.2 33 (by decide)) (fun x hx => q7.1 x (by omega)) (DBr_c s4.2.2.2.2.2.1 (fun i _ => ?_) (fun a c _ _ => by rw [q6.1 110 (by decide)])) (NCr_c s4.2.2.2.2.2.2.1 ?_ ?_ (by rw [q6.1 111 (by decide)]) (by rw [q6.1 112 (by decide)]))
            · rw [q5.1 t (by clear x3 w hs; omega), zs_eq, zs_other (by clear x3 w; omega)]
            · rw [q5.1 x (by omega), zs_ne (by omega)]
            · rw [q5.1 (t + 9) (by omega), zs_ne (by omega)]
            · rw [q5.1 t (by omega), zs_eq, zs_other (by decide)]
            · rw [q5.1 t (by omega), zs_eq, zs_other (by decide)]
          · rcases x3 with ⟨_, v⟩ | ⟨v, _⟩
            · have := q3.k5
              exact (nI_eq (a := kn) (b := 0) (by omega) (by decide)).mp (q3.2.1.1.2.2.2.symm.trans v)
            · exact absurd ⟨w1, v⟩ w
      · have g1' : f_X10_isSign K 59 = some 0 := g1
        have g2' : f_X12_isSign J' 59 = some 0 := g2
        obtain ⟨K2, c1, c2⟩ := failFormC l3
        obtain ⟨Jb, m1, m2⟩ := blameS (f := 1) (pl := at2) h8
        have m1' : f_X12_blame J' 1 (J' 100 4) = some Jb := by rw [j4]; exact m1
        have z : ¬ Jb 100 8 = 0 := by rw [m2.2.1]; decide
        have fi := fin_0 (fu := fu) (K := K) (p := nI (n + 1)) l2 h8 hl g2' (mustS_0 (M := M') l2 g2' m1' z)
        exact ⟨0, K2, Jb, M', tail_0 n3 g1' c1, fi, ⟨f1.trans c2.fr, f2.trans m2.fr, f3⟩, Or.inr (Or.inr ⟨rfl, 1, at2, c2.2.1, c2.2.2, m2.2.1, m2.2.2.1, by decide, l4⟩)⟩
    · have g1' : f_X10_isSign K 59 = some 0 := by
        unfold f_X10_isSign
        rw [s1.2.1.1.2.2.2, l1, if_neg (by decide), gz_0]
      obtain ⟨K2, c1, c2⟩ := failFormC l3
      have z : ¬ J1 100 8 ≤ 0 := by rw [l5.2.1]; decide
      have fi : f_X12_finishes fu J' M' (nI (n + 1)) = some (J1, M') := by
        unfold f_X12_finishes
        simp only [l4, Option.bind_some, if_neg z]
      exact ⟨0, K2, J1, M', tail_0 n3 g1' c1, fi, ⟨f1.trans c2.fr, f2.trans l5.fr, f3⟩, Or.inr (Or.inr ⟨rfl, 1, pl, c2.2.1, c2.2.2, l5.2.1, l5.2.2.1, by decide, l2⟩)⟩
  · have g1' : f_X10_isSign K 59 = some 0 := by
      unfold f_X10_isSign
      rw [p2, if_neg (by decide), gz_0]
    obtain ⟨K2, c1, c2⟩ := failFormC p1
    exact ⟨0, K2, J', M', tail_0 n3 g1' c1, fin_F (by decide) p4, ⟨f1.trans c2.fr, f2, f3⟩, Or.inr (Or.inr ⟨rfl, 1, pl, c2.2.1, c2.2.2, p4, p5, by decide, p3⟩)⟩
  · refine ⟨0, K, J', M', ?_, fin_F p5.1 p3, ⟨f1, f2, f3⟩, Or.inr (Or.inr ⟨rfl, f, pl, p1, p2, p3, p4, p5⟩)⟩
    unfold tailC
    rw [if_pos rfl, gz_0]
end
