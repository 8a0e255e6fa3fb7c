/-! feed -/
theorem byte_eq (x : Int32) {k : Nat} (hk : k = 0 ∨ k = 8 ∨ k = 16 ∨ k = 24) : ∃ y, y < 256 ∧ ((x : Int32).toUInt32 >>> ((nI k : Int32).toUInt32 &&& Int32.toUInt32 31)).toInt32 &&& nI 255 = nI y ∧ (x >>> (nI k &&& nI 31)) &&& nI 255 = nI y := by
  have h1 : ∀ i, i < 32 → ((nI i &&& nI 31).toBitVec.smod 32).toNat = i := by decide
  have h2 : ∀ i, i < 32 → (((nI i).toUInt32 &&& Int32.toUInt32 31).toBitVec % 32).toNat = i := by decide
  have e1 := pk_and (((x : Int32).toUInt32 >>> ((nI k : Int32).toUInt32 &&& Int32.toUInt32 31)).toInt32) (m := nI 255) 8 (by decide)
  have e2 := pk_and (x >>> (nI k &&& nI 31)) (m := nI 255) 8 (by decide)
  have e3 := pk_ushr x (nI k) k (h2 k (by omega))
  have e4 := pk_shr x (nI k &&& nI 31) k (h1 k (by omega))
  refine ⟨_, ?_, e1, ?_⟩
  · exact Nat.mod_lt _ (by decide)
  · rw [e2, e3]
    congr 1
    rw [Int.shiftRight_eq_div_pow] at e4
    have b1 := BitVec.toInt_eq_toNat_cond x.toBitVec
    have b2 := BitVec.toInt_eq_toNat_cond (x >>> (nI k &&& nI 31)).toBitVec
    have c1 : x.toInt = x.toBitVec.toInt := rfl
    have c2 : (x >>> (nI k &&& nI 31)).toInt = (x >>> (nI k &&& nI 31)).toBitVec.toInt := rfl
    have d1 := x.toBitVec.isLt
    have d2 := (x >>> (nI k &&& nI 31)).toBitVec.isLt
    rw [c1, c2] at e4
    generalize (x >>> (nI k &&& nI 31)).toBitVec.toInt = P at *
    generalize (x >>> (nI k &&& nI 31)).toBitVec.toNat = Q at *
    generalize x.toBitVec.toInt = U at *
    generalize x.toBitVec.toNat = V at *
    rcases hk with q | q | q | q <;> subst q
    all_goals
      simp only [Nat.reducePow] at *
      split at b1 <;> split at b2 <;> omega
theorem Rel_put {n T y : Nat} {I : HI} {R : HR} {J : HI} {M : HL} {t b nh no nl : Nat} (h : RelB n I R J M t b nh no nl) (hT : T < 1600) (hy : y < 256) : RelB n (sI (sI I 2 T (nI y)) 1 1 (nI (T + 1))) R (sI (sI J 101 T (nI y)) 100 1 (nI (T + 1))) M t b nh no nl := by
  refine Rel_tape ?_ (by omega)
  obtain ⟨⟨T0, t1, t2, t3, t4⟩, g2, g3, g4, g5, g6, g7, g8, g9⟩ := h
  have ht := g7.2.2.1.2.2.1
  have ev : vw (sI I 2 T (nI y)) t = vw I t := vw_congr (fun a ha => zs_ne (by omega))
  refine ⟨⟨T0, t1, by rw [zs_ne (by decide)]; exact t2, by rw [zs_ne (by decide)]; exact t3, fun k hk => ?_⟩, RFl_c g2 (by simp (disch := omega) only [bnd, jnt, zg_ok, gz_0, gz_1, gz_n0, gz_n1, zs_eq, zs_ne, zs_same, zs_other, zA_eq, zA_ne, Option.bind_some, Option.bind_none]) (by simp (disch := omega) only [bnd, jnt, zg_ok, gz_0, gz_1, gz_n0, gz_n1, zs_eq, zs_ne, zs_same, zs_other, zA_eq, zA_ne, Option.bind_some, Option.bind_none]) (by simp (disch := omega) only [bnd, jnt, zg_ok, gz_0, gz_1, gz_n0, gz_n1, zs_eq, zs_ne, zs_same, zs_other, zA_eq, zA_ne, Option.bind_some, Option.bind_none]) (by simp (disch := omega) only [bnd, jnt, zg_ok, gz_0, gz_1, gz_n0, gz_n1, zs_eq, zs_ne, zs_same, zs_other, zA_eq, zA_ne, Option.bind_some, Option.bind_none]), RRf_c g3 (by simp (disch := omega) only [bnd, jnt, zg_ok, gz_0, gz_1, gz_n0, gz_n1, zs_eq, zs_ne, zs_same, zs_other, zA_eq, zA_ne, Option.bind_some, Option.bind_none]) (by simp (disch := omega) only [bnd, jnt, zg_ok, gz_0, gz_1, gz_n0, gz_n1, zs_eq, zs_ne, zs_same, zs_other, zA_eq, zA_ne, Option.bind_some, Option.bind_none]), RLt_c g4 (by simp (disch := omega) only [bnd, jnt, zg_ok, gz_0, gz_1, gz_n0, gz_n1, zs_eq, zs_ne, zs_same, zs_other, zA_eq, zA_ne, Option.bind_some, Option.bind_none]) rfl, RSt_c g5 (by simp (disch := omega) only [bnd, jnt, zg_ok, gz_0, gz_1, gz_n0, gz_n1, zs_eq, zs_ne, zs_same, zs_other, zA_eq, zA_ne, Option.bind_some, Option.bind_none]) (by simp (disch := omega) only [bnd, jnt, zg_ok, gz_0, gz_1, gz_n0, gz_n1, zs_eq, zs_ne, zs_same, zs_other, zA_eq, zA_ne, Option.bind_some, Option.bind_none]) (by simp (disch := omega) only [bnd, jnt, zg_ok, gz_0, gz_1, gz_n0, gz_n1, zs_eq, zs_ne, zs_same, zs_other, zA_eq, zA_ne, Option.bind_some, Option.bind_none]) (by simp (disch := omega) only [bnd, jnt, zg_ok, gz_0, gz_1, gz_n0, gz_n1, zs_eq, zs_ne, zs_same, zs_other, zA_eq, zA_ne, Option.bind_some, Option.bind_none]) (by simp (disch := omega) only [bnd, jnt, zg_ok, gz_0, gz_1, gz_n0, gz_n1, zs_eq, zs_ne, zs_same, zs_other, zA_eq, zA_ne, Option.bind_some, Option.bind_none]) (by simp (disch := omega) only [bnd, jnt, zg_ok, gz_0, gz_1, gz_n0, gz_n1, zs_eq, zs_ne, zs_same, zs_other, zA_eq, zA_ne, Option.bind_some, Option.bind_none]), RIm_c g6 (by simp (disch := omega) only [bnd, jnt, zg_ok, gz_0, gz_1, gz_n0, gz_n1, zs_eq, zs_ne, zs_same, zs_other, zA_eq, zA_ne, Option.bind_some, Option.bind_none]) (by simp (disch := omega) only [bnd, jnt, zg_ok, gz_0, gz_1, gz_n0, gz_n1, zs_eq, zs_ne, zs_same, zs_other, zA_eq, zA_ne, Option.bind_some, Option.bind_none]) (by simp (disch := omega) only [bnd, jnt, zg_ok, gz_0, gz_1, gz_n0, gz_n1, zs_eq, zs_ne, zs_same, zs_other, zA_eq, zA_ne, Option.bind_some, Option.bind_none]) (by simp (disch := omega) only [bnd, jnt, zg_ok, gz_0, gz_1, gz_n0, gz_n1, zs_eq, zs_ne, zs_same, zs_other, zA_eq, zA_ne, Option.bind_some, Option.bind_none]), RLd_c g7 (fun x q1 q2 => zs_ne (by omega)) ⟨rfl, rfl, rfl⟩ (by simp (disch := omega) only [bnd, jnt, zg_ok, gz_0, gz_1, gz_n0, gz_n1, zs_eq, zs_ne, zs_same, zs_other, zA_eq, zA_ne, Option.bind_some, Option.bind_none]) (fun x q1 q2 => zs_ne (by omega)) ⟨rfl, rfl, rfl⟩, ?_, ?_⟩
  · rw [zs_eq, zs_eq]
    by_cases c : k = T
    · subst c
      rw [zs_same, zs_same]
      exact ⟨rfl, y, hy, rfl⟩
    · rw [zs_other c, zs_other c]
      exact t4 k hk
  · rw [ev]
    exact RSc_c g8 (fun x q1 q2 => zs_ne (by omega)) (by simp (disch := omega) only [bnd, jnt, zg_ok, gz_0, gz_1, gz_n0, gz_n1, zs_eq, zs_ne, zs_same, zs_other, zA_eq, zA_ne, Option.bind_some, Option.bind_none]) (fun k _ => ⟨(by simp (disch := omega) only [bnd, jnt, zg_ok, gz_0, gz_1, gz_n0, gz_n1, zs_eq, zs_ne, zs_same, zs_other, zA_eq, zA_ne, Option.bind_some, Option.bind_none]), (by simp (disch := omega) only [bnd, jnt, zg_ok, gz_0, gz_1, gz_n0, gz_n1, zs_eq, zs_ne, zs_same, zs_other, zA_eq, zA_ne, Option.bind_some, Option.bind_none]), (by simp (disch := omega) only [bnd, jnt, zg_ok, gz_0, gz_1, gz_n0, gz_n1, zs_eq, zs_ne, zs_same, zs_other, zA_eq, zA_ne, Option.bind_some, Option.bind_none])⟩) (fun k _ => (by simp (disch := omega) only [bnd, jnt, zg_ok, gz_0, gz_1, gz_n0, gz_n1, zs_eq, zs_ne, zs_same, zs_other, zA_eq, zA_ne, Option.bind_some, Option.bind_none]))
  · rw [ev]
    exact RHs_c g9 (by omega) (fun x q1 q2 => zs_ne (by omega)) ⟨(by simp (disch := omega) only [bnd, jnt, zg_ok, gz_0, gz_1, gz_n0, gz_n1, zs_eq, zs_ne, zs_same, zs_other, zA_eq, zA_ne, Option.bind_some, Option.bind_none]), (by simp (disch := omega) only [bnd, jnt, zg_ok, gz_0, gz_1, gz_n0, gz_n1, zs_eq, zs_ne, zs_same, zs_other, zA_eq, zA_ne, Option.bind_some, Option.bind_none])⟩ (fun k _ => ⟨(by simp (disch := omega) only [bnd, jnt, zg_ok, gz_0, gz_1, gz_n0, gz_n1, zs_eq, zs_ne, zs_same, zs_other, zA_eq, zA_ne, Option.bind_some, Option.bind_none]), (by simp (disch := omega) only [bnd, jnt, zg_ok, gz_0, gz_1, gz_n0, gz_n1, zs_eq, zs_ne, zs_same, zs_other, zA_eq, zA_ne, Option.bind_some, Option.bind_none])⟩) (fun k _ => ⟨(by simp (disch := omega) only [bnd, jnt, zg_ok, gz_0, gz_1, gz_n0, gz_n1, zs_eq, zs_ne, zs_same, zs_other, zA_eq, zA_ne, Option.bind_some, Option.bind_none]), (by simp (disch := omega) only [bnd, jnt, zg_ok, gz_0, gz_1, gz_n0, gz_n1, zs_eq, zs_ne, zs_same, zs_other, zA_eq, zA_ne, Option.bind_some, Option.bind_none]), (by simp (disch := omega) only [bnd, jnt, zg_ok, gz_0, gz_1, gz_n0, gz_n1, zs_eq, zs_ne, zs_same, zs_other, zA_eq, zA_ne, Option.bind_some, Option.bind_none])⟩) (fun k _ => (by simp (disch := omega) only [bnd, jnt, zg_ok, gz_0, gz_1, gz_n0, gz_n1, zs_eq, zs_ne, zs_same, zs_other, zA_eq, zA_ne, Option.bind_some, Option.bind_none])) (fun k _ => (by simp (disch := omega) only [bnd, jnt, zg_ok, gz_0, gz_1, gz_n0, gz_n1, zs_eq, zs_ne, zs_same, zs_other, zA_eq, zA_ne, Option.bind_some, Option.bind_none]))
theorem put_1 {n T fu fv k : Nat} {I : HI} {R : HR} {J : HI} {M : HL} {t b nh no nl : Nat} (w : Int32) (h : RelB n I R J M t b nh no nl) (hI : I 1 1 = nI T) (hJ : J 100 1 = nI T) (hT : T < 1600) (hk : k = 0 ∨ k = 8 ∨ k = 16 ∨ k = 24) : ∃ I' J', f_X11_putFour_L3 (fu + 1) I w (nI k) = f_X11_putFour_L3 fu I' w (nI k + mI 8) ∧ f_X12_put_L3 (fv + 1) J w (nI k) = f_X12_put_L3 fv J' w (nI k + mI 8) ∧ RelB n I' R J' M t b nh no nl ∧ I' 1 1 = nI (T + 1) ∧ J' 100 1 = nI (T + 1) := by
  obtain ⟨y, hy, e1, e2⟩ := byte_eq w hk
  refine ⟨_, _, ?_, ?_, Rel_put h hT hy, by rw [zs_eq, zs_same], by rw [zs_eq, zs_same]⟩
  · have e1' : ((w : Int32).toUInt32 >>> ((nI k : Int32).toUInt32 &&& Int32.toUInt32 (nI 31))).toInt32 &&& nI 255 = nI y := e1
    simp (disch := omega) only [f_X11_putFour_L3, ↓zm8, zq0, zq1, zq31, zq255, zq1600, hI, e1', nI_ltI, nI_leI, if_neg, inb_ok, bnd, nI_clamp, bnd, jnt, zg_ok, gz_0, gz_1, gz_n0, gz_n1, zs_eq, zs_ne, zs_same, zs_other, zA_eq, zA_ne, Option.bind_some, Option.bind_none, nI_add]
  · simp (disch := omega) only [f_X12_put_L3, ↓zm8, zq0, zq1, zq31, zq255, zq1600, hJ, e2, nI_ltI, nI_leI, if_neg, inb_ok, bnd, nI_clamp, bnd, jnt, zg_ok, gz_0, gz_1, gz_n0, gz_n1, zs_eq, zs_ne, zs_same, zs_other, zA_eq, zA_ne, Option.bind_some, Option.bind_none, nI_add]
theorem put_4 {n T fu fv : Nat} {I : HI} {R : HR} {J : HI} {M : HL} {t b nh no nl : Nat} (w : Int32) (h : RelB n I R J M t b nh no nl) (hI : I 1 1 = nI T) (hJ : J 100 1 = nI T) (hT : T + 4 ≤ 1600) (hf : 5 < fu) : ∃ I' J', f_X11_putFour fu I w = some I' ∧ f_X12_put fu J w = some J' ∧ RelB n I' R J' M t b nh no nl ∧ I' 1 1 = nI (T + 4) ∧ J' 100 1 = nI (T + 4) := by
  obtain ⟨fu, rfl⟩ : ∃ q, fu = q + 1 + 1 + 1 + 1 + 1 := ⟨fu - 5, by omega⟩
  obtain ⟨I1, J1, a1, a2, a3, a4, a5⟩ := put_1 (fu := fu + 1 + 1 + 1 + 1) (fv := fu + 1 + 1 + 1 + 1) (k := 24) w h hI hJ (by omega) (by omega)
  obtain ⟨I2, J2, b1, b2, b3, b4, b5⟩ := put_1 (fu := fu + 1 + 1 + 1) (fv := fu + 1 + 1 + 1) (k := 16) w a3 a4 a5 (by omega) (by omega)
  obtain ⟨I3, J3, c1, c2, c3, c4, c5⟩ := put_1 (fu := fu + 1 + 1) (fv := fu + 1 + 1) (k := 8) w b3 b4 b5 (by omega) (by omega)
  obtain ⟨I4, J4, d1, d2, d3, d4, d5⟩ := put_1 (fu := fu + 1) (fv := fu + 1) (k := 0) w c3 c4 c5 (by omega) (by omega)
  have k24 : nI 24 + mI 8 = nI 16 := nI_mI (by decide)
  have k16 : nI 16 + mI 8 = nI 8 := nI_mI (by decide)
  have k8 : nI 8 + mI 8 = nI 0 := nI_mI (by decide)
  rw [k24] at a1 a2
  rw [k16] at b1 b2
  rw [k8] at c1 c2
  have x1 : f_X11_putFour_L3 (fu + 1) I4 w (nI 0 + mI 8) = some I4 := by
    simp only [f_X11_putFour_L3]
    rw [if_pos (by decide)]
  have x2 : f_X12_put_L3 (fu + 1) J4 w (nI 0 + mI 8) = some J4 := by
    simp only [f_X12_put_L3]
    rw [if_pos (by decide)]
  refine ⟨I4, J4, ?_, ?_, d3, d4, d5⟩
  · unfold f_X11_putFour
    rw [zq24, a1, b1, c1, d1, x1]
    rfl
  · unfold f_X12_put
    rw [zq24, a2, b2, c2, d2, x2]
    rfl
theorem eq_feed : Eq_feed Rel := by
  intro n I R J M a0 a1 a2 a3 a4 hn hR
  obtain ⟨t, b, nh, no, nl, h⟩ := hR
  obtain ⟨T, t1, t2, t3, t4⟩ := h.1
  have hfu : 5 < FU := by unfold FU; omega
  unfold f_X11_feed f_X12_feed
  by_cases c : T + 20 ≤ 1600
  · obtain ⟨I1, J1, p1, p2, p3, p4, p5⟩ := put_4 (fv := 0) a0 h.up t2 t3 (by omega) hfu
    obtain ⟨I2, J2, q1, q2, q3, q4, q5⟩ := put_4 (fv := 0) a1 p3 p4 p5 (by omega) hfu
    obtain ⟨I3, J3, r1, r2, r3, r4, r5⟩ := put_4 (fv := 0) a2 q3 q4 q5 (by omega) hfu
    obtain ⟨I4, J4, s1, s2, s3, s4, s5⟩ := put_4 (fv := 0) a3 r3 r4 r5 (by omega) hfu
    obtain ⟨I5, J5, u1, u2, u3, u4, u5⟩ := put_4 (fv := 0) a4 s3 s4 s5 (by omega) hfu
    have cc : nI T + 20 ≤ 1600 := by
      rw [zq20, zq1600, nI_add]
      exact nI_le c (by decide)
    refine ⟨I5 1 1, I5, J5, ?_, ?_, u3.rel⟩
    · simp only [t2, if_pos cc, p1, q1, r1, s1, u1, Option.bind_some]
    · simp only [t3, if_pos cc, p2, q2, r2, s2, u2, Option.bind_some, u4, u5]
  · have cc : ¬ nI T + 20 ≤ 1600 := by
      rw [zq20, zq1600, nI_add]
      exact nI_ge (by omega) (by omega)
    have r1 : f_X11_refuse I 0 = _ := refuse_C (I := I) (k := 0) (by decide)
    have r2 : f_X12_refuses J 0 = _ := refuses_M (J := J) (k := 0) (by decide)
    refine ⟨-1, _, _, ?_, ?_, (Rel_ref h.up (k := 0) (by decide)).rel⟩
    · simp only [t2, if_neg cc, r1, Option.bind_some]
    · simp only [t3, if_neg cc, r2, Option.bind_some]
