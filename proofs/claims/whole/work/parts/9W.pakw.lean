theorem nz01 : nz 0 = 0 ∧ nz 1 = 1 := by decide
/-- what a row of the reference's table says of a set of lakes -/
def rowV (T : Nat → Int32) (F : Nat → Nat) (his H sp L : Nat) : Prop := L = 0 ∨ (0 < H ∧ sb L his ∧ ∃ q, sb q L ∧ F q ≤ sp ∧ ¬ T (256 * (H &&& (H - 1)) + (L ^^^ q)) = 0)
theorem rows_M {J : HI} {fu his H sp : Nat} {F : Nat → Nat} (hf : 1600 < fu) (hh : his < 256) (hH : H < 256) (hsp : sp ≤ 99999) (hF : ∀ s, s < 256 → J 140 s = nI (F s) ∧ F s ≤ 99999) :
    ∀ (q L n : Nat) (K : HI), L + q = 256 → q < n → (∀ x, x ≠ 139 → K x = J x) → (∀ k, k < 256 * H ∨ 256 * H + 256 ≤ k → K 139 k = J 139 k) → (∀ l, l < L → (K 139 (256 * H + l) = 1 ∧ rowV (J 139) F his H sp l) ∨ (K 139 (256 * H + l) = 0 ∧ ¬ rowV (J 139) F his H sp l)) →
    ∃ K', f_X12_pack_L229 fu n K (nI his) (nI H) (nI sp) (nI L) = some K' ∧ (∀ x, x ≠ 139 → K' x = J x) ∧ (∀ k, k < 256 * H ∨ 256 * H + 256 ≤ k → K' 139 k = J 139 k) ∧ (∀ l, l < 256 → (K' 139 (256 * H + l) = 1 ∧ rowV (J 139) F his H sp l) ∨ (K' 139 (256 * H + l) = 0 ∧ ¬ rowV (J 139) F his H sp l)) := by
  have n3 : ¬ (1 : Int32) = 0 := by decide
  intro q
  induction q with
  | zero =>
    intro L n K e1 e2 k1 k2 k3
    obtain ⟨n, rfl⟩ : ∃ z, n = z + 1 := ⟨n - 1, by omega⟩
    have : L = 256 := by omega
    subst this
    have c1 : (256 : Int32) ≤ nI 256 := by decide
    refine ⟨K, ?_, k1, k2, k3⟩
    simp only [f_X12_pack_L229, if_pos c1]
  | succ q ih =>
    intro L n K e1 e2 k1 k2 k3
    obtain ⟨n, rfl⟩ : ∃ z, n = z + 1 := ⟨n - 1, by omega⟩
    have c1 : ¬ (256 : Int32) ≤ nI L := nI_ge (b := 256) (by omega) (by decide)
    have A1 : nI L + 1 = nI (L + 1) := nI_1 L
    have eix : 256 * nI H + nI L = nI (256 * H + L) := by rw [zq256, pk_mul, nI_add]
    obtain ⟨F1, hF1⟩ : ∃ F1, fu = F1 + 1 := ⟨fu - 1, by omega⟩
    have key : ∃ y, (y = 1 ∧ rowV (J 139) F his H sp L ∨ y = 0 ∧ ¬ rowV (J 139) F his H sp L) ∧ f_X12_pack_L253 fu K (nI his) (nI H) (nI sp) (nI L) (if nI L = 0 then 1 else 0) (nI L) = some y := by
      by_cases c0 : L = 0
      · refine ⟨1, Or.inl ⟨rfl, Or.inl c0⟩, ?_⟩
        rw [if_pos (show nI L = 0 by rw [c0]; rfl), hF1]
        simp only [f_X12_pack_L253, if_neg n3]
      · rw [if_neg (show ¬ nI L = 0 from nI_ne0 (by omega) (by omega))]
        by_cases cH : H = 0
        · refine ⟨0, Or.inr ⟨rfl, ?_⟩, ?_⟩
          · rintro (w | ⟨w, _⟩) <;> omega
          · have cH' : nI H ≤ 0 := by rw [cH]; decide
            rw [hF1]
            simp only [f_X12_pack_L253, if_true, if_pos cH']
        · by_cases cs : sb L his
          · have hH2 : H &&& (H - 1) < H := by
              have : H &&& (H - 1) ≤ H - 1 := Nat.and_le_right
              omega
            have hT : ∀ x, x < 256 → K 139 (256 * (H &&& (H - 1)) + x) = J 139 (256 * (H &&& (H - 1)) + x) := fun x hx => k2 _ (by omega)
            rcases hold_M (K := K) (his := his) (H := H) (H2 := H &&& (H - 1)) (sp := sp) (L := L) (F := F) hh ⟨by omega, hH⟩ rfl (by omega) cs hsp (fun s hs => by rw [k1 140 (by decide)]; exact hF s hs) L fu sb_refl (by omega) (fun q q1 q2 => absurd (sb_le q2) (by omega)) with ⟨a, q', q1, q2, q3⟩ | ⟨a, hn⟩
            · rw [hT _ (by have := sb_le (sb_xor q1); omega)] at q3
              exact ⟨1, Or.inl ⟨rfl, Or.inr ⟨by omega, cs, q', q1, q2, q3⟩⟩, a⟩
            · refine ⟨0, Or.inr ⟨rfl, ?_⟩, a⟩
              rintro (w | ⟨_, _, q', q1, q2, q3⟩)
              · exact c0 w
              · rw [← hT _ (by have := sb_le (sb_xor q1); omega)] at q3
                exact hn q' q1 ⟨q2, q3⟩
          · refine ⟨0, Or.inr ⟨rfl, ?_⟩, ?_⟩
            · rintro (w | ⟨_, w, _⟩)
              · exact c0 w
              · exact cs w
            · have cH' : ¬ nI H ≤ 0 := nI_nle (by omega) (by omega)
              have cs' : ¬ nI L &&& (nI his ^^^ (-1)) = 0 := fun w => cs (fun l hl => (subI (by omega)).mp w l (by have := sb_lt (c := 8) (s := L) (by omega) hl; omega) hl)
              rw [hF1]
              simp only [f_X12_pack_L253, if_true, if_neg cH', if_neg cs']
    obtain ⟨y, hy, ey⟩ := key
    have hnz : nz y = y := by
      rcases hy with ⟨w, _⟩ | ⟨w, _⟩
      · rw [w]; exact nz01.2
      · rw [w]; exact nz01.1
    obtain ⟨K', b1, b2⟩ := ih (L + 1) n (sI K 139 (256 * H + L) y) (by omega) (by omega) (fun x hx => by rw [zs_ne hx]; exact k1 x hx) (fun k hk => by rw [zs_eq, zs_other (by omega)]; exact k2 k hk) (fun l hl => by
      rw [zs_eq]
      by_cases c : l = L
      · subst c
        rw [zs_same]
        exact hy
      · rw [zs_other (by omega)]
        exact k3 l (by omega))
    refine ⟨K', ?_, b2⟩
    rw [← b1]
    by_cases c0 : nI L = 0
    · rw [if_pos c0] at ey
      simp (disch := omega) only [f_X12_pack_L229, if_neg c1, jnt, if_pos c0, ey, Option.bind_some, eix, inb_ok, bnd, nI_clamp, hnz, A1]
    · rw [if_neg c0] at ey
      simp (disch := omega) only [f_X12_pack_L229, if_neg c1, jnt, if_neg c0, ey, Option.bind_some, eix, inb_ok, bnd, nI_clamp, hnz, A1]
