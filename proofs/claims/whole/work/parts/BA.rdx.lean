/-! the rules' reader, from a rule's first token to behind its last -/
theorem BdR_x {J J' J'' : HI} {b dp om cj f pl : Nat} (h : PFx J J' b dp om cj) (h' : BdR J' J'' b f pl) : BdR J J'' b f pl := by
  refine ⟨fun x a c => (h'.1 x a c).trans (h.1 x a c), fun s hs => (h'.2.1 s hs).trans (h.2.1 s (by omega)), fun k hk => ?_, h'.2.2.2.1, h'.2.2.2.2⟩
  obtain ⟨a1, a2⟩ := h.2.2.2.2 k (by omega)
  obtain ⟨b1, b2⟩ := h'.2.2.1 k hk
  exact ⟨b1.trans a1, b2.trans a2⟩
section
variable {tp : Nat → Nat} {sz fu t b r0 : Nat} {R : HR}
/-- a rule read: well; well but for the token behind it; or not -/
def OutR (tp : Nat → Nat) (sz t b r0 : Nat) (I J : HI) (y : Int32) (K J' : HI) (M' : HL) (at' cj ts : Nat) : Prop := (y = 1 ∧ ∃ k' at2 e' cj', StR tp sz K J' M' k' at2 e' ∧ k' ≠ 5 ∧ J' 100 33 = nI b ∧ J' 100 32 = nI cj' ∧ K t 16 = nI cj' ∧ CRs K J' t b cj' ∧ at' < at2 ∧ cj' ≤ at2 ∧ cj ≤ cj' ∧ PFx J J' b 0 0 cj ∧ PFc I K t cj ∧ VL K t r0 cj cj' 42 ts) ∨ (y = 1 ∧ ∃ pl, K 7 5 = nI pl ∧ K 7 3 = nI 5 ∧ pl ≤ 1700 ∧ PFc I K t cj ∧ BdR J J' b 1 pl) ∨ (y = 0 ∧ ∃ f pl, BdC I K t f pl ∧ BdR J J' b f pl ∧ okF f pl)
theorem rd0 {I J : HI} {M : HL} {k at' e cj fk : Nat} (s : StR tp sz I J M k at' e) (h33 : J 100 33 = nI b) (hb : b < 2) (h32 : J 100 32 = nI cj) (hc : I t 16 = nI cj) (hcr : CRs I J t b cj) (hca : cj ≤ at') (h34 : J 100 34 = nI (akN r0)) (h8 : I 8 2 = nI r0) (hfk : fk < 10) : ∃ J0, f_X12_pushes (sI (sI (sI (sI J 100 40 0) 100 41 0) 100 43 0) 100 44 0) (nI fk) = some J0 ∧ PRx tp sz t b r0 I J0 M k at' e cj 0 0 0 0 fk 0 1 0 [] ∧ PFx J J0 b 0 0 cj := by
  obtain ⟨J4, hJ4⟩ : ∃ J4, J4 = sI (sI (sI (sI J 100 40 0) 100 41 0) 100 43 0) 100 44 0 := ⟨_, rfl⟩
  have y100 : ∀ s, s ≠ 40 → s ≠ 41 → s ≠ 43 → s ≠ 44 → J4 100 s = J 100 s := fun s a1 a2 a3 a4 => by rw [hJ4, zs_eq, zs_other a4, zs_eq, zs_other a3, zs_eq, zs_other a2, zs_eq, zs_other a1]
  have y40 : J4 100 40 = nI 0 := by rw [hJ4, zs_eq, zs_other (by decide), zs_eq, zs_other (by decide), zs_eq, zs_other (by decide), zs_eq, zs_same]; rfl
  have y41 : J4 100 41 = nI 0 := by rw [hJ4, zs_eq, zs_other (by decide), zs_eq, zs_other (by decide), zs_eq, zs_same]; rfl
  have y43 : J4 100 43 = nI 0 := by rw [hJ4, zs_eq, zs_other (by decide), zs_eq, zs_same]; rfl
  have y44 : J4 100 44 = nI 0 := by rw [hJ4, zs_eq, zs_same]; rfl
  have yx : ∀ x, x ≠ 100 → J4 x = J x := fun x hx => by rw [hJ4, zs_ne hx, zs_ne hx, zs_ne hx, zs_ne hx]
  have hp := pushes_M (J := J4) (v := nI fk) y40 (by decide) y43
  rw [← hJ4]
  obtain ⟨J0, hJ0⟩ : ∃ J0, J0 = sI (sI (sI (sI (sI J4 120 0 (nI fk)) 121 0 0) 122 0 1) 124 0 (nI 0)) 100 40 (nI (0 + 1)) := ⟨_, rfl⟩
  have z100 : ∀ s, s ≠ 40 → J0 100 s = J4 100 s := fun s a => by rw [hJ0, zs_eq, zs_other a, zs_ne (by decide), zs_ne (by decide), zs_ne (by decide), zs_ne (by decide)]
  have zx : ∀ x, x ≠ 100 → x ≠ 120 → x ≠ 121 → x ≠ 122 → x ≠ 124 → J0 x = J4 x := fun x a1 a2 a3 a4 a5 => by rw [hJ0, zs_ne a1, zs_ne a5, zs_ne a4, zs_ne a3, zs_ne a2]
  have x100 : ∀ s, s ≠ 40 → s ≠ 41 → s ≠ 43 → s ≠ 44 → J0 100 s = J 100 s := fun s a1 a2 a3 a4 => by rw [z100 s a1, y100 s a1 a2 a3 a4]
  have xx : ∀ x, x ≠ 100 → x ≠ 120 → x ≠ 121 → x ≠ 122 → x ≠ 124 → J0 x = J x := fun x a1 a2 a3 a4 a5 => by rw [zx x a1 a2 a3 a4 a5, yx x a1]
  refine ⟨J0, by rw [hJ0]; exact hp, ⟨StR_m s (xx 101 (by decide) (by decide) (by decide) (by decide) (by decide)) (fun x hx => x100 x (by omega) (by omega) (by omega) (by omega)), ⟨⟨by rw [x100 33 (by decide) (by decide) (by decide) (by decide)]; exact h33, hb⟩, by rw [x100 32 (by decide) (by decide) (by decide) (by decide)]; exact h32, by rw [z100 43 (by decide)]; exact y43, ⟨by rw [hJ0, zs_eq, zs_same], by decide⟩, by rw [z100 41 (by decide)]; exact y41, by rw [z100 44 (by decide)]; exact y44, by rw [hJ0, zs_ne (by decide), zs_ne (by decide), zs_ne (by decide), zs_ne (by decide), zs_eq, zs_same], by rw [hJ0, zs_ne (by decide), zs_ne (by decide), zs_ne (by decide), zs_eq, zs_same]; rfl, by rw [hJ0, zs_ne (by decide), zs_ne (by decide), zs_eq, zs_same]; rfl, by rw [hJ0, zs_ne (by decide), zs_eq, zs_same]⟩, hc, trivial, trivial, fun c hc => absurd hc List.not_mem_nil, fun j hj => by rw [xx 115 (by decide) (by decide) (by decide) (by decide) (by decide), xx 116 (by decide) (by decide) (by decide) (by decide) (by decide)]; exact hcr j hj, Nat.le_refl _, by decide, hca, by decide, by rw [x100 34 (by decide) (by decide) (by decide) (by decide)]; exact h34, h8, hfk, by decide⟩, ⟨fun x a c => xx x c (by omega) (by omega) (by omega) (by omega), fun s hs => x100 s (by omega) (by omega) (by omega) (by omega), fun i hi => absurd hi (Nat.not_lt_zero _), fun i hi => absurd hi (Nat.not_lt_zero _), fun k _ => by rw [xx 115 (by decide) (by decide) (by decide) (by decide) (by decide), xx 116 (by decide) (by decide) (by decide) (by decide) (by decide)]; exact ⟨rfl, rfl⟩⟩⟩
/-- a rule of numbers -/
theorem rdS {I J : HI} {M : HL} {k at' e cj : Nat} (hf : 2000 < fu) (ht : t = 67 ∨ t = 80) (hok : okLd t = true) (hR : R 8 1 = t) (hr0 : r0 ≤ 2) (s : StR tp sz I J M k at' e) (h33 : J 100 33 = nI b) (hb : b < 2) (h32 : J 100 32 = nI cj) (hc : I t 16 = nI cj) (hcr : CRs I J t b cj) (hca : cj ≤ at') (h34 : J 100 34 = nI (akN r0)) (h8 : I 8 2 = nI r0) : ∃ y K J' M', g_X8 fu 80 6 I R 0 0 = some (y, K) ∧ f_X12_reads fu J M 0 = some (J', M') ∧ OnL M M' ∧ OutR tp sz t b r0 I J y K J' M' at' cj 0 := by
  obtain ⟨J0, p1, p2, p3⟩ := rd0 (fk := 0) s h33 hb h32 hc hcr hca h34 h8 (by decide)
  have hsz := s.2.2.2
  obtain ⟨y, K, g1, g2⟩ := rule_S (tp := tp) (sz := sz) (b := b) hf ht hok hR hr0 I J0 M k at' e cj 0 0 0 0 1 0 fu p2 (by decide) (fun w => absurd w.1 (by unfold tsF; decide)) (Or.inl rfl) (by decide) (by decide) (by omega)
  have z8 : (0 : Int32) ≤ 0 := by decide
  have red : f_X12_reads fu J M 0 = (f_X12_reads_L43 fu fu J0 M 1).bind fun x22 => some (x22.1, x22.2) := by
    unfold f_X12_reads
    have p1' : f_X12_pushes (sI (sI (sI (sI J 100 40 0) 100 41 0) 100 43 0) 100 44 0) 0 = some J0 := p1
    simp only [s.2.2.1, if_pos z8, bnd, gz_0, jnt, if_true, p1', Option.bind_some]
  rcases g2 with ⟨y1, J5, M5, k5, at5, e5, cj5, ph5, lg, n5, a1, a2, a3, a4, a5, a6, a7, a8, a9, a10, a11, a12, a13⟩ | ⟨y0, J5, M5, f, pl, d1, d2, d3, d4, d5⟩
  · subst y1
    subst a12
    obtain ⟨n6, hn6⟩ : ∃ n6, n5 = n6 + 1 + 1 := ⟨n5 - 2, by have := a4.1.2.1.2.1; omega⟩
    rcases lexS a4.1 with ⟨l1, l2, l3, l4⟩ | ⟨l1, pl, J7, l2, l3, l4, l5⟩
    · obtain ⟨c, w, t1, t2, t3, t4, t5, t6⟩ := tok a4.1 l1
      obtain ⟨J6, j1, j2, j3⟩ := jn_R (fu := fu) (least := 1) a4 hf (fun x _ => rk6.1) (Or.inl (by rw [Nat.add_sub_cancel])) (by decide)
      rw [Nat.add_sub_cancel] at j2 j3
      have go := goE0_M (fu := fu) (M := M5) a4.1.2.2.1 l2 a4.2.1.2.2.2.1.1 a4.2.1.2.2.2.1.2 a4.2.1.2.2.2.2.2.2.1 a4.2.1.2.2.2.2.2.2.2.1 (by decide) t1 (fun _ => noA_of a13 t5) j1
      refine ⟨1, K, J6, M5, g1, ?_, a10, Or.inl ⟨rfl, k5, at5, e5, cj5 + lg.length, j2.1, l1, j2.2.1.1.1, j2.2.1.2.1, j2.2.2.1, j2.2.2.2.2.2.2.1, a3, by omega, by omega, (p3.trans a8.x (Nat.le_refl _) (Nat.le_refl _)).trans j3.x (Nat.le_refl _) a7, a9, VL_le a11 (by decide)⟩⟩
      rw [red, a1, hn6, goF a4.2.1.2.2.2.2.2.1 go]
      rfl
    · refine ⟨1, K, J7, M5, g1, ?_, a10, Or.inr (Or.inl ⟨rfl, pl, l3, by rw [a4.1.2.1.1.2.2.2, l1], l2, a9, BdR_x p3 (BdR.of a8 l5)⟩)⟩
      rw [red, a1, hn6, goF a4.2.1.2.2.2.2.2.1 (goL_M l4 l5)]
      rfl
  · subst y0
    refine ⟨0, K, J5, M5, g1, by rw [red, d1]; rfl, d5, Or.inr (Or.inr ⟨rfl, f, pl, d2, BdR_x p3 d3, d4⟩)⟩
/-- a rule that is a test -/
theorem rdT {I J : HI} {M : HL} {k at' e cj : Nat} (hf : 2000 < fu) (ht : t = 67 ∨ t = 80) (hok : okLd t = true) (hR : R 8 1 = t) (hr0 : r0 ≤ 2) (s : StR tp sz I J M k at' e) (h33 : J 100 33 = nI b) (hb : b < 2) (h32 : J 100 32 = nI cj) (hc : I t 16 = nI cj) (hcr : CRs I J t b cj) (hca : cj ≤ at') (h34 : J 100 34 = nI (akN r0)) (h8 : I 8 2 = nI r0) : ∃ y K J' M', g_X8 fu 80 7 I R 0 0 = some (y, K) ∧ f_X12_reads fu J M 1 = some (J', M') ∧ OnL M M' ∧ OutR tp sz t b r0 I J y K J' M' at' cj 1 := by
  obtain ⟨J0, p1, p2, p3⟩ := rd0 (fk := 1) s h33 hb h32 hc hcr hca h34 h8 (by decide)
  have hsz := s.2.2.2
  obtain ⟨y, K, g1, g2⟩ := rule_T (tp := tp) (sz := sz) (b := b) hf ht hok hR hr0 I J0 M k at' e cj 0 0 1 0 fu p2 (Or.inl rfl) (Or.inl rfl) (by decide) (by decide) (by omega)
  have z8 : (0 : Int32) ≤ 0 := by decide
  have n3 : ¬ (1 : Int32) = 0 := by decide
  have red : f_X12_reads fu J M 1 = (f_X12_reads_L43 fu fu J0 M 1).bind fun x22 => some (x22.1, x22.2) := by
    unfold f_X12_reads
    have p1' : f_X12_pushes (sI (sI (sI (sI J 100 40 0) 100 41 0) 100 43 0) 100 44 0) 1 = some J0 := p1
    simp only [s.2.2.1, if_pos z8, bnd, gz_0, jnt, if_neg n3, p1', Option.bind_some]
  rcases g2 with ⟨y1, J5, M5, k5, at5, e5, cj5, ph5, lg, n5, a1, a2, a3, a4, a5, a6, a7, a8, a9, a10, a11, a12⟩ | ⟨y0, J5, M5, f, pl, d1, d2, d3, d4, d5⟩
  · subst y1
    obtain ⟨n6, hn6⟩ : ∃ n6, n5 = n6 + 1 + 1 := ⟨n5 - 2, by have := a4.1.2.1.2.1; omega⟩
    have hph5 : 1 ≤ ph5 ∧ ph5 ≤ 2 := by
      rcases a12.1.1 with ⟨z, _⟩ | z
      · omega
      · omega
    rcases lexS a4.1 with ⟨l1, l2, l3, l4⟩ | ⟨l1, pl, J7, l2, l3, l4, l5⟩
    · obtain ⟨c, w, t1, t2, t3, t4, t5, t6⟩ := tok a4.1 l1
      have hA : ph5 < 2 → noA c := fun z => by
        rcases a12.1.1 with ⟨_, z2⟩ | z2
        · exact noA_of z2 t5
        · omega
      have hww : w ≠ 19 ∧ w ≠ 18 := by
        rcases t6 with ⟨z0, z1, z2⟩ | ⟨_, z⟩
        · exact ⟨fun v => a12.1.2 z0 (by rw [z2, v]), fun v => a12.2 z0 (by rw [z2, v])⟩
        · omega
      obtain ⟨J6, j1, j2, j3⟩ := jn_R (fu := fu) (least := 1) a4 hf (fun x _ => rk6.1) (Or.inl (by rw [Nat.add_sub_cancel])) (by decide)
      rw [Nat.add_sub_cancel] at j2 j3
      have go := goE1_M (fu := fu) (M := M5) a4.1.2.2.1 l2 a4.2.1.2.2.2.1.1 a4.2.1.2.2.2.1.2 a4.2.1.2.2.2.2.2.2.1 a4.2.1.2.2.2.2.2.2.2.1 hph5 t1 hA t2 hww j1
      refine ⟨1, K, J6, M5, g1, ?_, a10, Or.inl ⟨rfl, k5, at5, e5, cj5 + lg.length, j2.1, l1, j2.2.1.1.1, j2.2.1.2.1, j2.2.2.1, j2.2.2.2.2.2.2.1, a3, by omega, by omega, (p3.trans a8.x (Nat.le_refl _) (Nat.le_refl _)).trans j3.x (Nat.le_refl _) a7, a9, a11⟩⟩
      rw [red, a1, hn6, goF a4.2.1.2.2.2.2.2.1 go]
      rfl
    · refine ⟨1, K, J7, M5, g1, ?_, a10, Or.inr (Or.inl ⟨rfl, pl, l3, by rw [a4.1.2.1.1.2.2.2, l1], l2, a9, BdR_x p3 (BdR.of a8 l5)⟩)⟩
      rw [red, a1, hn6, goF a4.2.1.2.2.2.2.2.1 (goL_M l4 l5)]
      rfl
  · subst y0
    refine ⟨0, K, J5, M5, g1, by rw [red, d1]; rfl, d5, Or.inr (Or.inr ⟨rfl, f, pl, d2, BdR_x p3 d3, d4⟩)⟩
end
