/-! each part of the relation, and the cells that it speaks of -/
section
variable {n n' : Nat} {I I' : HI} {R R' : HR} {J J' : HI} {M M' : HL} {t b nh no nl : Nat}
theorem RTp_c (h : RTp I J) (h1 : I' 1 1 = I 1 1) (h2 : I' 2 = I 2) (h3 : J' 100 1 = J 100 1) (h4 : J' 101 = J 101) : RTp I' J' := by
  unfold RTp at *
  rw [h1, h2, h3, h4]
  exact h
theorem RFl_c (h : RFl I J) (h1 : I' 1 5 = I 1 5) (h2 : I' 1 6 = I 1 6) (h3 : J' 100 10 = J 100 10) (h4 : J' 100 11 = J 100 11) : RFl I' J' := by
  unfold RFl at *
  rw [h1, h2, h3, h4]
  exact h
theorem RRf_c (h : RRf I J) (h1 : I' 5 = I 5) (h2 : J' 126 = J 126) : RRf I' J' := by
  unfold RRf at *
  rw [h1, h2]
  exact h
theorem RLt_c (h : RLt I M) (h1 : I' 1 17 = I 1 17) (h2 : M' 100 55 = M 100 55) : RLt I' M' := by
  unfold RLt at *
  rw [h1, h2]
  exact h
theorem RSt_c (h : RSt I J nl) (h1 : I' 1 16 = I 1 16) (h2 : J' 100 66 = J 100 66) (h3 : I' 3 = I 3) (h4 : I' 4 = I 4) (h5 : J' 144 = J 144) (h6 : J' 145 = J 145) : RSt I' J' nl := by
  unfold RSt at *
  rw [h1, h2, h3, h4, h5, h6]
  exact h
theorem RIm_c (h : RIm I J) (h1 : I' 47 1 = I 47 1) (h2 : J' 100 70 = J 100 70) (h3 : I' 48 = I 48) (h4 : J' 146 = J 146) : RIm I' J' := by
  unfold RIm at *
  rw [h1, h2, h3, h4]
  exact h
theorem RLd_c (h : RLd I R J M t b nh no nl) (h1 : ∀ x, t ≤ x → x ≤ t + 12 → I' x = I x) (h2 : R' 1 2 = R 1 2 ∧ R' 1 3 = R 1 3 ∧ R' 49 0 = R 49 0) (h3 : J' 100 13 = J 100 13) (h4 : ∀ x, 102 ≤ x → x ≤ 116 → J' x = J x) (h5 : M' 117 = M 117 ∧ M' 118 = M 118 ∧ M' 119 = M 119) : RLd I' R' J' M' t b nh no nl := by
  obtain ⟨d1, d2, d3, d4, d5, d6, d7⟩ := h
  have ev : vw I' t = vw I t := vw_congr (fun a ha => h1 _ (by omega) (by omega))
  have et : I' t = I t := h1 t (by omega) (by omega)
  unfold RLd
  rw [ev]
  refine ⟨h2.1.trans d1, h2.2.1.trans d2, ?_, d4, ML_congr h3 h4 d5, d6, ?_⟩
  · obtain ⟨h0, h1, h2', h3, h4, h5, h6, h7, h8, h9⟩ := d3
    exact ⟨h0, h2.2.2.trans h1, h2', h3, by rw [et]; exact h4, by rw [et]; exact h5, by rw [et]; exact h6, h7, h8, h9⟩
  · unfold NM
    rw [h5.1, h5.2.1, h5.2.2]
    exact d7
theorem RSc_c {D : HI} (h : RSc I J D nh no nl) (h1 : ∀ x, 49 ≤ x → x ≤ 53 → I' x = I x) (h2 : J' 127 0 = J 127 0) (h3 : ∀ k, k < 8 → J' 128 k = J 128 k ∧ J' 129 k = J 129 k ∧ J' 130 k = J 130 k) (h4 : ∀ k, k < 36 → J' 131 k = J 131 k) : RSc I' J' D nh no nl := by
  have es : sc I' 49 = sc I 49 := sc_congr (fun a ha => h1 _ (by omega) (by omega))
  unfold RSc at *
  rw [es]
  exact ⟨SE_lv h.1 h2 (fun k _ hk => h3 k (by omega)) (fun k _ hk => h4 k (by omega)), h.2⟩
theorem RHs_c {D : HI} (h : RHs n I J D nh no nl) (hn : n ≤ n') (hx : ∀ x, 9 ≤ x → x ≤ 33 → I' x = I x) (hj1 : J' 100 53 = J 100 53 ∧ J' 100 54 = J 100 54) (hj2 : ∀ v, v = 0 ∨ 6 ≤ v → J' 127 v = J 127 v ∧ J' 132 v = J 132 v) (hj3 : ∀ k, 48 ≤ k → J' 128 k = J 128 k ∧ J' 129 k = J 129 k ∧ J' 130 k = J 130 k) (hj4 : ∀ k, 216 ≤ k → J' 131 k = J 131 k) (hj5 : ∀ k, k < 160 ∨ 960 ≤ k → J' 133 k = J 133 k) : RHs n' I' J' D nh no nl := by
  obtain ⟨nx, dp, f, tt, hh⟩ := h
  exact ⟨nx, dp, f, tt, RHx_congr hh hn hx hj1 hj2 hj3 hj4 hj5⟩
/-- the lowland stays where its cells stay -/
theorem RelB.vwE (h : RelB n I R J M t b nh no nl) (h1 : ∀ x, t ≤ x → x ≤ t + 12 → I' x = I x) : vw I' t = vw I t := vw_congr (fun a ha => h1 _ (by omega) (by omega))
end
theorem eq_seed : Eq_seed Rel := by
  intro n I R J M a0 hn hR
  obtain ⟨t, b, nh, no, nl, h⟩ := hR
  have r1 : f_X11_refuse I 5 = _ := refuse_C (I := I) (k := 5) (by decide)
  have r2 : f_X12_refuses J 5 = _ := refuses_M (J := J) (k := 5) (by decide)
  unfold f_X11_seed f_X12_seed
  by_cases c : ¬ 0 ≤ a0
  · refine ⟨0, _, _, _, ?_, ?_, (Rel_ref h.up (k := 5) (by decide)).rel⟩
    · simp only [if_neg c, r1, Option.bind_some, gz_0]
    · rw [if_neg c, r2]
      simp only [Option.bind_some]
      rw [if_pos (by decide), gz_0]
  · obtain ⟨L, hL, rfl⟩ := nI_of (Int32.not_lt.mpr (Decidable.not_not.mp c))
    have c : 0 ≤ nI L := nI_pos' hL
    have hl : (nI L).toInt64 = lN L := nI_l hL
    obtain ⟨g1, g2, g3, g4, g5, g6, g7, g8, g9⟩ := h
    have ht := g7.2.2.1.2.2.1
    have ev : vw (sI I 1 17 (nI L)) t = vw I t := vw_congr (fun a ha => zs_ne (by omega))
    refine ⟨1, sI I 1 17 (nI L), J, sL M 100 55 (lN L), ?_, ?_, ⟨t, b, nh, no, nl, RTp_c g1 (by simp (disch := omega) only [bnd, jnt, zg_ok, gz_0, gz_1, gz_n0, gz_n1, zs_eq, zs_ne, zs_same, zs_other, zA_eq, zA_ne, Option.bind_some, Option.bind_none]) (by simp (disch := omega) only [bnd, jnt, zg_ok, gz_0, gz_1, gz_n0, gz_n1, zs_eq, zs_ne, zs_same, zs_other, zA_eq, zA_ne, Option.bind_some, Option.bind_none]) rfl rfl, RFl_c g2 (by simp (disch := omega) only [bnd, jnt, zg_ok, gz_0, gz_1, gz_n0, gz_n1, zs_eq, zs_ne, zs_same, zs_other, zA_eq, zA_ne, Option.bind_some, Option.bind_none]) (by simp (disch := omega) only [bnd, jnt, zg_ok, gz_0, gz_1, gz_n0, gz_n1, zs_eq, zs_ne, zs_same, zs_other, zA_eq, zA_ne, Option.bind_some, Option.bind_none]) rfl rfl, RRf_c g3 (by simp (disch := omega) only [bnd, jnt, zg_ok, gz_0, gz_1, gz_n0, gz_n1, zs_eq, zs_ne, zs_same, zs_other, zA_eq, zA_ne, Option.bind_some, Option.bind_none]) rfl, ⟨L, hL, (by simp (disch := omega) only [bnd, jnt, zg_ok, gz_0, gz_1, gz_n0, gz_n1, zs_eq, zs_ne, zs_same, zs_other, zA_eq, zA_ne, Option.bind_some, Option.bind_none]), by rw [zL_eq, pk_uLs]⟩, RSt_c g5 (by simp (disch := omega) only [bnd, jnt, zg_ok, gz_0, gz_1, gz_n0, gz_n1, zs_eq, zs_ne, zs_same, zs_other, zA_eq, zA_ne, Option.bind_some, Option.bind_none]) rfl (by simp (disch := omega) only [bnd, jnt, zg_ok, gz_0, gz_1, gz_n0, gz_n1, zs_eq, zs_ne, zs_same, zs_other, zA_eq, zA_ne, Option.bind_some, Option.bind_none]) (by simp (disch := omega) only [bnd, jnt, zg_ok, gz_0, gz_1, gz_n0, gz_n1, zs_eq, zs_ne, zs_same, zs_other, zA_eq, zA_ne, Option.bind_some, Option.bind_none]) rfl rfl, RIm_c g6 (by simp (disch := omega) only [bnd, jnt, zg_ok, gz_0, gz_1, gz_n0, gz_n1, zs_eq, zs_ne, zs_same, zs_other, zA_eq, zA_ne, Option.bind_some, Option.bind_none]) rfl (by simp (disch := omega) only [bnd, jnt, zg_ok, gz_0, gz_1, gz_n0, gz_n1, zs_eq, zs_ne, zs_same, zs_other, zA_eq, zA_ne, Option.bind_some, Option.bind_none]) rfl, RLd_c g7 (fun x q1 q2 => zs_ne (by omega)) ⟨rfl, rfl, rfl⟩ rfl (fun _ _ _ => rfl) ⟨zL_ne (by decide), zL_ne (by decide), zL_ne (by decide)⟩, ?_, ?_⟩⟩
    · simp only [if_pos c, bnd, gz_1]
    · simp only [if_pos c, bnd, gz_1, hl]
    · rw [ev]
      exact RSc_c g8 (fun x q1 q2 => zs_ne (by omega)) rfl (fun _ _ => ⟨rfl, rfl, rfl⟩) (fun _ _ => rfl)
    · rw [ev]
      exact RHs_c g9 (by omega) (fun x q1 q2 => zs_ne (by omega)) ⟨rfl, rfl⟩ (fun _ _ => ⟨rfl, rfl⟩) (fun _ _ => ⟨rfl, rfl, rfl⟩) (fun _ _ => rfl) (fun _ _ => rfl)
