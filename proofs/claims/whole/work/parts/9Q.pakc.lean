/-! pack: the class -/
theorem fill_J {fu a0 n : Nat} {v : Int32} (hf : n < fu) (hn : n < 2 ^ 31) (I : HI) : ∃ K, f_J7_fill_53178 fu I a0 n v = some K ∧ (∀ x, x ≠ a0 → K x = I x) ∧ ∀ k, k < n → K a0 k = v := by
  have key : ∃ K : HI, f_J7_fill_53178_L5 fu I a0 n v 0 (nI n) = some K ∧ (∀ x, x ≠ a0 → K x = I x) ∧ ∀ k, k < n → K a0 k = v := by
    refine loopP (fun m (a : HI) i => f_J7_fill_53178_L5 m a a0 n v i (nI n)) (fun i K => (∀ x, x ≠ a0 → K x = I x) ∧ ∀ k, k < i → K a0 k = v) (fun K => (∀ x, x ≠ a0 → K x = I x) ∧ ∀ k, k < n → K a0 k = v) n fu I ⟨fun _ _ => rfl, fun k hk => absurd hk (by omega)⟩ ?_ ?_ hf
    · intro m i K hi ha
      obtain ⟨a1, a2⟩ := ha
      refine ⟨sI K a0 i v, ?_, fun x hx => by rw [zs_ne hx]; exact a1 x hx, fun k hk => ?_⟩
      · simp (disch := omega) only [f_J7_fill_53178_L5, sdm, ↓zm1, ↓zm2, ↓zm3, ↓zm4, ↓zm5, ↓zm6, ↓zm7, ↓zm8, ↓zm9, ↓zm10, ↓zm11, ↓zm12, ↓zm13, ↓zm14, ↓zm15, ↓zm16, ↓zm17, ↓zm18, ↓zm19, ↓zm20, ↓zm1000000000, zq0, zq1, zq2, zq3, zq4, zq5, zq6, zq7, zq8, zq9, zq10, zq11, zq12, zq13, zq14, zq15, zq16, zq17, zq18, zq19, zq20, zq21, zq22, zq23, zq24, zq25, zq26, zq30, zq31, zq32, zq33, zq34, zq35, zq36, zq37, zq38, zq39, zq40, zq41, zq42, zq43, zq44, zq45, zq47, zq48, zq57, zq59, zq60, zq61, zq62, zq80, zq91, zq93, zq97, zq99, zq100, zq107, zq110, zq120, zq122, zq128, zq149, zq160, zq208, zq240, zq251, zq255, zq256, zq500, zq936, zq999, zq1600, zq1800, zq2048, zq3200, zq4160, zq9999, zq12345, zq1000000, zq1048576, zq100000000, bnd, jnt, zg_ok, gz_0, gz_1, gz_n0, gz_n1, zs_eq, zs_ne, zs_same, zs_other, zA_eq, zA_ne, Option.bind_some, Option.bind_none, nI_add, pk_mul, nI_clamp, nI_leI, nI_ltI, nI_eq, pk_sub, nI_mI, nI_eq_mI, mI_eq_nI, nI_lt_m, ldI_ok, inb_ok, if_pos, if_neg, dv_ok, rem_ok, div_ok, if_true, if_false]
      · rw [zs_eq]
        by_cases c : k = i
        · subst c; rw [zs_same]
        · rw [zs_other c]; exact a2 k (by omega)
    · intro m K ha
      refine ⟨K, ?_, ha⟩
      simp (disch := omega) only [f_J7_fill_53178_L5, sdm, ↓zm1, ↓zm2, ↓zm3, ↓zm4, ↓zm5, ↓zm6, ↓zm7, ↓zm8, ↓zm9, ↓zm10, ↓zm11, ↓zm12, ↓zm13, ↓zm14, ↓zm15, ↓zm16, ↓zm17, ↓zm18, ↓zm19, ↓zm20, ↓zm1000000000, zq0, zq1, zq2, zq3, zq4, zq5, zq6, zq7, zq8, zq9, zq10, zq11, zq12, zq13, zq14, zq15, zq16, zq17, zq18, zq19, zq20, zq21, zq22, zq23, zq24, zq25, zq26, zq30, zq31, zq32, zq33, zq34, zq35, zq36, zq37, zq38, zq39, zq40, zq41, zq42, zq43, zq44, zq45, zq47, zq48, zq57, zq59, zq60, zq61, zq62, zq80, zq91, zq93, zq97, zq99, zq100, zq107, zq110, zq120, zq122, zq128, zq149, zq160, zq208, zq240, zq251, zq255, zq256, zq500, zq936, zq999, zq1600, zq1800, zq2048, zq3200, zq4160, zq9999, zq12345, zq1000000, zq1048576, zq100000000, bnd, jnt, zg_ok, gz_0, gz_1, gz_n0, gz_n1, zs_eq, zs_ne, zs_same, zs_other, zA_eq, zA_ne, Option.bind_some, Option.bind_none, nI_add, pk_mul, nI_clamp, nI_leI, nI_ltI, nI_eq, pk_sub, nI_mI, nI_eq_mI, mI_eq_nI, nI_lt_m, ldI_ok, inb_ok, if_pos, if_neg, dv_ok, rem_ok, div_ok, if_true, if_false]
  obtain ⟨K, k1, k2⟩ := key
  refine ⟨K, ?_, k2⟩
  unfold f_J7_fill_53178
  have k1' : f_J7_fill_53178_L5 fu I a0 n v 0 (Int32.ofNat n) = some K := k1
  simp only [bnd, k1', Option.bind_some]
/-- the least of what sets cost, of those that will do; FAR where none will -/
def LeC (P : Nat → Prop) (x : Nat) : Prop := (∀ H, P H → x ≤ cst H) ∧ (x = 1048576 ∨ ∃ H, P H ∧ x = cst H)
/-- one set, one hollow: from its largest part down -/
theorem inside_C {I : HI} {fu cost rm u : Nat} {b : Nat → Nat} {S : Nat → Nat} (hu : 0 < u ∧ u < 256) (hcost : cost ≤ 1000) (hrm : rm ≤ 9999) (hS : ∀ s, s < 256 → sb s u → I 37 s = nI (S s) ∧ S s ≤ 9999) (hb : ∀ s, s < 256 → b s ≤ 1048576) :
    ∀ (p n : Nat) (K : HI) (x : Nat), sb p u → p < n → (∀ y, y ≠ 38 → K y = I y) → (∀ s, s < 256 → s ≠ u → K 38 s = nI (b s)) → K 38 u = nI x → x ≤ 1048576 → (∀ q, p < q → sb q u → S q ≤ rm → x ≤ b (u ^^^ q) + cost) → (x = b u ∨ ∃ q, 0 < q ∧ sb q u ∧ S q ≤ rm ∧ x = b (u ^^^ q) + cost) → x ≤ b u →
    ∃ K' x', f_X0_packInto_L12 n K (nI cost) (nI rm) (nI u) (nI p) = some K' ∧ (∀ y, y ≠ 38 → K' y = I y) ∧ (∀ s, s < 256 → s ≠ u → K' 38 s = nI (b s)) ∧ K' 38 u = nI x' ∧ x' ≤ 1048576 ∧ (∀ q, 0 < q → sb q u → S q ≤ rm → x' ≤ b (u ^^^ q) + cost) ∧ (x' = b u ∨ ∃ q, 0 < q ∧ sb q u ∧ S q ≤ rm ∧ x' = b (u ^^^ q) + cost) ∧ x' ≤ b u := by
  intro p
  induction p using Nat.strongRecOn with
  | ind p ih =>
    intro n K x hp hn k1 k2 k3 k4 k5 k6 k7
    obtain ⟨n, rfl⟩ : ∃ z, n = z + 1 := ⟨n - 1, by omega⟩
    by_cases c0 : p = 0
    · subst c0
      have c1 : nI 0 ≤ 0 := by decide
      refine ⟨K, x, ?_, k1, k2, k3, k4, fun q q0 => k5 q q0, k6, k7⟩
      simp only [f_X0_packInto_L12, if_pos c1]
    · have hple := sb_le hp
      have c1 : ¬ nI p ≤ 0 := nI_nle (by omega) (by omega)
      obtain ⟨p', hp'⟩ : ∃ p', p' = (p - 1) &&& u := ⟨_, rfl⟩
      have hp's : sb p' u := fun l hl => by
        rw [hp', Nat.testBit_and, Bool.and_eq_true] at hl
        exact hl.2
      have hp'lt : p' < p := by
        have : p' ≤ p - 1 := by rw [hp']; exact Nat.and_le_left
        omega
      have enx : (nI p - 1) &&& nI u = nI p' := by rw [zq1, pk_sub (by omega), and_ok, hp']
      have hgap : ∀ q, p' < q → q < p → ¬ sb q u := fun q q1 q2 hq => by
        have := sub_pred 8 u p q (by omega) (by omega) (by omega) hp hq q2
        rw [← hp'] at this
        omega
      have hxlt := xor_lt hp (by omega)
      obtain ⟨s1, s2⟩ := hS p (by omega) hp
      have e37 : K 37 p = nI (S p) := by rw [k1 37 (by decide)]; exact s1
      have e38 : K 38 (u ^^^ p) = nI (b (u ^^^ p)) := k2 _ (by omega) (by omega)
      have hbx := hb (u ^^^ p) (by omega)
      by_cases cs : rm < S p
      · have cs' : nI rm < nI (S p) := nI_lt cs (by omega)
        have st : f_X0_packInto_L12 (n + 1) K (nI cost) (nI rm) (nI u) (nI p) = f_X0_packInto_L12 n K (nI cost) (nI rm) (nI u) (nI p') := by
          simp (disch := omega) only [f_X0_packInto_L12, if_neg c1, ldI_ok, e37, jnt, bnd, if_pos cs', enx]
        rw [st]
        refine ih p' hp'lt n K x hp's (by omega) k1 k2 k3 k4 (fun q q1 q2 q3 => ?_) k6 k7
        rcases Nat.lt_trichotomy q p with w | w | w
        · exact absurd q2 (hgap q q1 w)
        · subst w; omega
        · exact k5 q w q2 q3
      · have cs' : ¬ nI rm < nI (S p) := nI_nlt (by omega) (by omega)
        obtain ⟨x', hx'⟩ : ∃ x', x' = min x (b (u ^^^ p) + cost) := ⟨_, rfl⟩
        have em : f_J9_min_7cf53 (nI x) (nI (b (u ^^^ p) + cost)) = some (nI x') := by
          unfold f_J9_min_7cf53
          by_cases cg : b (u ^^^ p) + cost < x
          · rw [if_pos (nI_lt cg (by omega)), show x' = b (u ^^^ p) + cost by omega]
          · rw [if_neg (nI_nlt (by omega) (by omega)), show x' = x by omega]
        have st : f_X0_packInto_L12 (n + 1) K (nI cost) (nI rm) (nI u) (nI p) = f_X0_packInto_L12 n (sI K 38 u (nI x')) (nI cost) (nI rm) (nI u) (nI p') := by
          simp (disch := omega) only [f_X0_packInto_L12, if_neg c1, ldI_ok, e37, jnt, bnd, if_neg cs', k3, xor_ok, e38, nI_add, em, Option.bind_some, inb_ok, nI_clamp, enx]
        rw [st]
        refine ih p' hp'lt n (sI K 38 u (nI x')) x' hp's (by omega) (fun y hy => by rw [zs_ne hy]; exact k1 y hy) (fun s hs hsu => by rw [zs_eq, zs_other hsu]; exact k2 s hs hsu) (by rw [zs_eq, zs_same]) (by omega) (fun q q1 q2 q3 => ?_) ?_ (by omega)
        · rcases Nat.lt_trichotomy q p with w | w | w
          · exact absurd q2 (hgap q q1 w)
          · subst w; omega
          · have := k5 q w q2 q3
            omega
        · by_cases cg : b (u ^^^ p) + cost < x
          · exact Or.inr ⟨p, by omega, hp, by omega, by omega⟩
          · rw [show x' = x by omega]
            exact k6
