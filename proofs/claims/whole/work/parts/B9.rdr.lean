/-! the rules' reader: all of it -/
section
variable {tp : Nat → Nat} {sz fu t b r0 : Nat} {R : HR}
theorem TestQ_le {r w o ρc ρl nd nd' β : Nat} {pk : Nat → HI → Nat → Prop} (h : TestQ tp sz fu t b r0 R r w o ρc ρl nd β pk) (hn : nd ≤ nd') : TestQ tp sz fu t b r0 R r w o ρc ρl nd' β pk := by
  intro I J M k at' e cj om dp fk bs n h1 h2 h3 h4 h5 h6
  obtain ⟨y, K, g1, g2⟩ := h I J M k at' e cj om dp fk bs n h1 h2 h3 h4 h5 h6
  refine ⟨y, K, g1, ?_⟩
  rcases g2 with ⟨z, J', M', k', at2, e', cj', ph', lg, n', a1, a2, a3, a4, a5, a6, a7, a8, a9, a10, a11, a12⟩ | g
  · exact Or.inl ⟨z, J', M', k', at2, e', cj', ph', lg, n', a1, a2, a3, a4, a5, a6, a7, a8, a9, a10, VL_le a11 hn, a12⟩
  · exact Or.inr g
theorem all_P (hf : 2000 < fu) (ht : t = 67 ∨ t = 80) (hok : okLd t = true) (hR : R 8 1 = t) (hr0 : r0 ≤ 2) : ∀ d o, o + d = 7 → ∀ r, SumP tp sz fu t b r0 R (8 * d + r + 2) 4 o 7 (5 * d + 2) 5 (fun _ _ => True) ∧ SumP tp sz fu t b r0 R (8 * d + r + 3) 5 o 6 (5 * d + 3) 4 tkPr ∧ SumP tp sz fu t b r0 R (8 * d + r + 4) 6 o 5 (5 * d + 4) 3 tkSm ∧ TestQ tp sz fu t b r0 R (8 * d + r + 5) 2 o 4 3 (5 * d + 5) 2 pkF ∧ TestQ tp sz fu t b r0 R (8 * d + r + 6) 0 o 2 2 (5 * d + 6) 1 pkB ∧ TestQ tp sz fu t b r0 R (8 * d + r + 7) 7 o 1 1 (5 * d + 7) 0 pkT := by
  intro d
  induction d with
  | zero =>
    intro o ho r
    have x : ¬ o < 7 := by omega
    have p1 : SumP tp sz fu t b r0 R (8 * 0 + r + 2) 4 o 7 (5 * 0 + 2) 5 (fun _ _ => True) := part_P (nds := 0) (ndt := 0) hf ht hok hR (by omega) hr0 (by omega) (fun q => absurd q x) (fun q => absurd q x) (fun q => absurd q x) (fun q => absurd q x)
    have p2 := prod_P hf ht hok hR (by omega) (by omega) p1
    have p3 := sum_P hf ht hok hR (by omega) (by omega) p2
    have p4 := fact_P hf ht hok hR (by omega) (by omega) p3 (fun q => absurd q x) (fun q => absurd q x)
    have p5 := both_P hf ht hok hR (by omega) (by omega) p4
    have p6 := test_P hf ht hok hR (by omega) (by omega) p5
    exact ⟨p1, p2, p3, p4, p5, p6⟩
  | succ d ih =>
    intro o ho r
    have e1 : ∀ r, 8 * d + r + 8 = 8 * (d + 1) + r := fun r => by omega
    have i1 := (ih (o + 1) (by omega) (r + 5)).2.2.1
    have i0 := (ih (o + 1) (by omega) (r + 4)).2.2.1
    have iT := (ih (o + 1) (by omega) (r + 1)).2.2.2.2.2
    have iN := (ih (o + 1) (by omega) (r + 7)).2.2.2.1
    have iU := (ih (o + 1) (by omega) (r + 5)).2.2.2.2.2
    rw [show 8 * d + (r + 5) + 4 = 8 * (d + 1) + r + 1 by omega] at i1
    rw [show 8 * d + (r + 4) + 4 = 8 * (d + 1) + r by omega] at i0
    rw [show 8 * d + (r + 1) + 7 = 8 * (d + 1) + r by omega] at iT
    rw [show 8 * d + (r + 7) + 5 = 8 * (d + 1) + r + 4 by omega] at iN
    rw [show 8 * d + (r + 5) + 7 = 8 * (d + 1) + r + 4 by omega] at iU
    have p1 : SumP tp sz fu t b r0 R (8 * (d + 1) + r + 2) 4 o 7 (5 * (d + 1) + 2) 5 (fun _ _ => True) := part_P (nds := 5 * d + 4) (ndt := 5 * d + 7) hf ht hok hR (by omega) hr0 (by omega) (fun _ => by omega) (fun _ => i1) (fun _ => i0) (fun _ => iT)
    have p2 := prod_P hf ht hok hR (by omega) (by omega) p1
    have p3 := sum_P hf ht hok hR (by omega) (by omega) p2
    have p4 := fact_P hf ht hok hR (by omega) (by omega) p3 (fun _ => TestQ_le iN (by omega)) (fun _ => TestQ_le iU (by omega))
    have p5 := both_P hf ht hok hR (by omega) (by omega) p4
    have p6 := test_P hf ht hok hR (by omega) (by omega) p5
    exact ⟨p1, p2, p3, p4, p5, p6⟩
/-- the rules' reader at its start -/
theorem rule_S (hf : 2000 < fu) (ht : t = 67 ∨ t = 80) (hok : okLd t = true) (hR : R 8 1 = t) (hr0 : r0 ≤ 2) : SumP tp sz fu t b r0 R 80 6 0 5 39 3 tkSm := (all_P hf ht hok hR hr0 7 0 rfl 20).2.2.1
theorem rule_T (hf : 2000 < fu) (ht : t = 67 ∨ t = 80) (hok : okLd t = true) (hR : R 8 1 = t) (hr0 : r0 ≤ 2) : TestQ tp sz fu t b r0 R 80 7 0 1 1 42 0 pkT := (all_P hf ht hok hR hr0 7 0 rfl 17).2.2.2.2.2
end
