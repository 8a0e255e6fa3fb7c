/-! java/lang/Math.floorDiv(JJ)J -/
def f_J9_floorDiv_f86c9 (p0 : Int64) (p1 : Int64) : Option (Int64) :=
  dvL p1 <|
  bnd ((p0 / p1)) fun v1 =>
  if 0 ≤ (lg_cmp (p0 ^^^ p1) 0) then
    some v1
  else
    if (lg_cmp (v1 * p1) p0) = 0 then
      some v1
    else
      some (v1 - 1)
set_option maxRecDepth 20000 in
theorem pc_J9_floorDiv_f86c9 (I : HI) (L : HL) (R : HR) (p0 : Int64) (p1 : Int64) : PCo 1 93 0 yJ9_floorDiv_f86c9 cJ9_floorDiv_f86c9 6 (some .long) [.long p0, .long p1] I L R (f_J9_floorDiv_f86c9 p0 p1) (fun x : Int64 => ((some (.long x), I, L, R) : HF)) := by
  refine PCo.ofF (own := RJ9) (by decide +kernel) (Nat.le_of_ble_eq_true rfl) rfl rfl (fun F => ?_)
  unfold f_J9_floorDiv_f86c9
  refine PWk.lload_n 0 dJ9_floorDiv_f86c9_0 rfl ?_
  refine PWk.lload_n 1 dJ9_floorDiv_f86c9_1 rfl ?_
  refine PWk.ldiv dJ9_floorDiv_f86c9_2 ?_
  refine PWk.bl (fun v1 => ?_)
  refine PWk.lstore [(4, .long v1), (0, .long p0), (2, .long p1)] dJ9_floorDiv_f86c9_3 (by decide) rfl ?_
  refine PWk.lload_n 1 dJ9_floorDiv_f86c9_5 rfl ?_
  refine PWk.lload_n 2 dJ9_floorDiv_f86c9_6 rfl ?_
  refine PWk.lxor dJ9_floorDiv_f86c9_7 ?_
  refine PWk.lconst (v := 0) dJ9_floorDiv_f86c9_8 rfl ?_
  refine PWk.lcmp dJ9_floorDiv_f86c9_9 ?_
  refine PWk.if_ge 27 dJ9_floorDiv_f86c9_10 (by decide) (fun h3 => ?_) (fun h3 => ?_)
  · refine PWk.lload 0 dJ9_floorDiv_f86c9_27 rfl ?_
    exact PWk.lret dJ9_floorDiv_f86c9_29 rfl (fun h => h)
  · refine PWk.lload 0 dJ9_floorDiv_f86c9_13 rfl ?_
    refine PWk.lload_n 2 dJ9_floorDiv_f86c9_15 rfl ?_
    refine PWk.lmul dJ9_floorDiv_f86c9_16 ?_
    refine PWk.lload_n 1 dJ9_floorDiv_f86c9_17 rfl ?_
    refine PWk.lcmp dJ9_floorDiv_f86c9_18 ?_
    refine PWk.if_eq 27 dJ9_floorDiv_f86c9_19 (by decide) (fun h2 => ?_) (fun h2 => ?_)
    · refine PWk.lload 0 dJ9_floorDiv_f86c9_27 rfl ?_
      exact PWk.lret dJ9_floorDiv_f86c9_29 rfl (fun h => h)
    · refine PWk.lload 0 dJ9_floorDiv_f86c9_22 rfl ?_
      refine PWk.lconst (v := 1) dJ9_floorDiv_f86c9_24 rfl ?_
      refine PWk.lsub dJ9_floorDiv_f86c9_25 ?_
      exact PWk.lret dJ9_floorDiv_f86c9_26 rfl (fun h => h)
/-! java/lang/Math.floorMod(JJ)J -/
def f_J9_floorMod_f86c9 (p0 : Int64) (p1 : Int64) : Option (Int64) :=
  dvL p1 <|
  bnd ((p0 - p0 / p1 * p1)) fun v1 =>
  if 0 ≤ (lg_cmp (p0 ^^^ p1) 0) then
    some v1
  else
    if (lg_cmp v1 0) = 0 then
      some v1
    else
      some (v1 + p1)
set_option maxRecDepth 20000 in
theorem pc_J9_floorMod_f86c9 (I : HI) (L : HL) (R : HR) (p0 : Int64) (p1 : Int64) : PCo 1 93 0 yJ9_floorMod_f86c9 cJ9_floorMod_f86c9 6 (some .long) [.long p0, .long p1] I L R (f_J9_floorMod_f86c9 p0 p1) (fun x : Int64 => ((some (.long x), I, L, R) : HF)) := by
  refine PCo.ofF (own := RJ9) (by decide +kernel) (Nat.le_of_ble_eq_true rfl) rfl rfl (fun F => ?_)
  unfold f_J9_floorMod_f86c9
  refine PWk.lload_n 0 dJ9_floorMod_f86c9_0 rfl ?_
  refine PWk.lload_n 1 dJ9_floorMod_f86c9_1 rfl ?_
  refine PWk.lrem dJ9_floorMod_f86c9_2 ?_
  refine PWk.bl (fun v1 => ?_)
  refine PWk.lstore [(4, .long v1), (0, .long p0), (2, .long p1)] dJ9_floorMod_f86c9_3 (by decide) rfl ?_
  refine PWk.lload_n 1 dJ9_floorMod_f86c9_5 rfl ?_
  refine PWk.lload_n 2 dJ9_floorMod_f86c9_6 rfl ?_
  refine PWk.lxor dJ9_floorMod_f86c9_7 ?_
  refine PWk.lconst (v := 0) dJ9_floorMod_f86c9_8 rfl ?_
  refine PWk.lcmp dJ9_floorMod_f86c9_9 ?_
  refine PWk.if_ge 25 dJ9_floorMod_f86c9_10 (by decide) (fun h3 => ?_) (fun h3 => ?_)
  · refine PWk.lload 0 dJ9_floorMod_f86c9_25 rfl ?_
    exact PWk.lret dJ9_floorMod_f86c9_27 rfl (fun h => h)
  · refine PWk.lload 0 dJ9_floorMod_f86c9_13 rfl ?_
    refine PWk.lconst (v := 0) dJ9_floorMod_f86c9_15 rfl ?_
    refine PWk.lcmp dJ9_floorMod_f86c9_16 ?_
    refine PWk.if_eq 25 dJ9_floorMod_f86c9_17 (by decide) (fun h2 => ?_) (fun h2 => ?_)
    · refine PWk.lload 0 dJ9_floorMod_f86c9_25 rfl ?_
      exact PWk.lret dJ9_floorMod_f86c9_27 rfl (fun h => h)
    · refine PWk.lload 0 dJ9_floorMod_f86c9_20 rfl ?_
      refine PWk.lload_n 2 dJ9_floorMod_f86c9_22 rfl ?_
      refine PWk.ladd dJ9_floorMod_f86c9_23 ?_
      exact PWk.lret dJ9_floorMod_f86c9_24 rfl (fun h => h)
/-! java/lang/Math.abs(I)I -/
def f_J9_abs_0f7a4 (p0 : Int32) : Option (Int32) :=
  if 0 ≤ p0 then
    some p0
  else
    some (-p0)
set_option maxRecDepth 20000 in
theorem pc_J9_abs_0f7a4 (I : HI) (L : HL) (R : HR) (p0 : Int32) : PCo 1 93 0 yJ9_abs_0f7a4 cJ9_abs_0f7a4 1 (some .int) [.int p0] I L R (f_J9_abs_0f7a4 p0) (fun x : Int32 => ((some (.int x), I, L, R) : HF)) := by
  refine PCo.ofF (own := RJ9) (by decide +kernel) (Nat.le_of_ble_eq_true rfl) rfl rfl (fun F => ?_)
  unfold f_J9_abs_0f7a4
  refine PWk.iload_n 0 dJ9_abs_0f7a4_0 rfl ?_
  refine PWk.if_ge 9 dJ9_abs_0f7a4_1 (by decide) (fun h1 => ?_) (fun h1 => ?_)
  · refine PWk.iload_n 0 dJ9_abs_0f7a4_9 rfl ?_
    exact PWk.iret dJ9_abs_0f7a4_10 rfl (fun h => h)
  · refine PWk.iload_n 0 dJ9_abs_0f7a4_4 rfl ?_
    refine PWk.ineg dJ9_abs_0f7a4_5 ?_
    refine PWk.goto 10 dJ9_abs_0f7a4_6 (by decide) ?_
    exact PWk.iret dJ9_abs_0f7a4_10 rfl (fun h => h)
/-! java/lang/Math.max(II)I -/
def f_J9_max_7cf53 (p0 : Int32) (p1 : Int32) : Option (Int32) :=
  if p0 < p1 then
    some p1
  else
    some p0
set_option maxRecDepth 20000 in
theorem pc_J9_max_7cf53 (I : HI) (L : HL) (R : HR) (p0 : Int32) (p1 : Int32) : PCo 1 93 0 yJ9_max_7cf53 cJ9_max_7cf53 2 (some .int) [.int p0, .int p1] I L R (f_J9_max_7cf53 p0 p1) (fun x : Int32 => ((some (.int x), I, L, R) : HF)) := by
  refine PCo.ofF (own := RJ9) (by decide +kernel) (Nat.le_of_ble_eq_true rfl) rfl rfl (fun F => ?_)
  unfold f_J9_max_7cf53
  refine PWk.iload_n 0 dJ9_max_7cf53_0 rfl ?_
  refine PWk.iload_n 1 dJ9_max_7cf53_1 rfl ?_
  refine PWk.icmp_lt 9 dJ9_max_7cf53_2 (by decide) (fun h1 => ?_) (fun h1 => ?_)
  · refine PWk.iload_n 1 dJ9_max_7cf53_9 rfl ?_
    exact PWk.iret dJ9_max_7cf53_10 rfl (fun h => h)
  · refine PWk.iload_n 0 dJ9_max_7cf53_5 rfl ?_
    refine PWk.goto 10 dJ9_max_7cf53_6 (by decide) ?_
    exact PWk.iret dJ9_max_7cf53_10 rfl (fun h => h)
/-! java/lang/Math.max(JJ)J -/
def f_J9_max_f86c9 (p0 : Int64) (p1 : Int64) : Option (Int64) :=
  if (lg_cmp p0 p1) < 0 then
    some p1
  else
    some p0
set_option maxRecDepth 20000 in
theorem pc_J9_max_f86c9 (I : HI) (L : HL) (R : HR) (p0 : Int64) (p1 : Int64) : PCo 1 93 0 yJ9_max_f86c9 cJ9_max_f86c9 4 (some .long) [.long p0, .long p1] I L R (f_J9_max_f86c9 p0 p1) (fun x : Int64 => ((some (.long x), I, L, R) : HF)) := by
  refine PCo.ofF (own := RJ9) (by decide +kernel) (Nat.le_of_ble_eq_true rfl) rfl rfl (fun F => ?_)
  unfold f_J9_max_f86c9
  refine PWk.lload_n 0 dJ9_max_f86c9_0 rfl ?_
  refine PWk.lload_n 1 dJ9_max_f86c9_1 rfl ?_
  refine PWk.lcmp dJ9_max_f86c9_2 ?_
  refine PWk.if_lt 10 dJ9_max_f86c9_3 (by decide) (fun h1 => ?_) (fun h1 => ?_)
  · refine PWk.lload_n 1 dJ9_max_f86c9_10 rfl ?_
    exact PWk.lret dJ9_max_f86c9_11 rfl (fun h => h)
  · refine PWk.lload_n 0 dJ9_max_f86c9_6 rfl ?_
    refine PWk.goto 11 dJ9_max_f86c9_7 (by decide) ?_
    exact PWk.lret dJ9_max_f86c9_11 rfl (fun h => h)
/-! java/lang/Math.min(II)I -/
def f_J9_min_7cf53 (p0 : Int32) (p1 : Int32) : Option (Int32) :=
  if p1 < p0 then
    some p1
  else
    some p0
set_option maxRecDepth 20000 in
theorem pc_J9_min_7cf53 (I : HI) (L : HL) (R : HR) (p0 : Int32) (p1 : Int32) : PCo 1 93 0 yJ9_min_7cf53 cJ9_min_7cf53 2 (some .int) [.int p0, .int p1] I L R (f_J9_min_7cf53 p0 p1) (fun x : Int32 => ((some (.int x), I, L, R) : HF)) := by
  refine PCo.ofF (own := RJ9) (by decide +kernel) (Nat.le_of_ble_eq_true rfl) rfl rfl (fun F => ?_)
  unfold f_J9_min_7cf53
  refine PWk.iload_n 0 dJ9_min_7cf53_0 rfl ?_
  refine PWk.iload_n 1 dJ9_min_7cf53_1 rfl ?_
  refine PWk.icmp_gt 9 dJ9_min_7cf53_2 (by decide) (fun h1 => ?_) (fun h1 => ?_)
  · refine PWk.iload_n 1 dJ9_min_7cf53_9 rfl ?_
    exact PWk.iret dJ9_min_7cf53_10 rfl (fun h => h)
  · refine PWk.iload_n 0 dJ9_min_7cf53_5 rfl ?_
    refine PWk.goto 10 dJ9_min_7cf53_6 (by decide) ?_
    exact PWk.iret dJ9_min_7cf53_10 rfl (fun h => h)
/-! java/lang/Math.min(JJ)J -/
def f_J9_min_f86c9 (p0 : Int64) (p1 : Int64) : Option (Int64) :=
  if 0 < (lg_cmp p0 p1) then
    some p1
  else
    some p0
set_option maxRecDepth 20000 in
theorem pc_J9_min_f86c9 (I : HI) (L : HL) (R : HR) (p0 : Int64) (p1 : Int64) : PCo 1 93 0 yJ9_min_f86c9 cJ9_min_f86c9 4 (some .long) [.long p0, .long p1] I L R (f_J9_min_f86c9 p0 p1) (fun x : Int64 => ((some (.long x), I, L, R) : HF)) := by
  refine PCo.ofF (own := RJ9) (by decide +kernel) (Nat.le_of_ble_eq_true rfl) rfl rfl (fun F => ?_)
  unfold f_J9_min_f86c9
  refine PWk.lload_n 0 dJ9_min_f86c9_0 rfl ?_
  refine PWk.lload_n 1 dJ9_min_f86c9_1 rfl ?_
  refine PWk.lcmp dJ9_min_f86c9_2 ?_
  refine PWk.if_gt 10 dJ9_min_f86c9_3 (by decide) (fun h1 => ?_) (fun h1 => ?_)
  · refine PWk.lload_n 1 dJ9_min_f86c9_10 rfl ?_
    exact PWk.lret dJ9_min_f86c9_11 rfl (fun h => h)
  · refine PWk.lload_n 0 dJ9_min_f86c9_6 rfl ?_
    refine PWk.goto 11 dJ9_min_f86c9_7 (by decide) ?_
    exact PWk.lret dJ9_min_f86c9_11 rfl (fun h => h)
