/-! java/util/Arrays.fill([II)V -/
def f_J7_fill_53178_L5 : Nat → HI → Nat → Nat → Int32 → Int32 → Int32 → Option (HI)
  | 0, _, _, _, _, _, _ => none
  | n + 1, I, b0, b0n, u1, u2, u3 =>
    if u3 ≤ u2 then
      some I
    else
      inb b0n u2 <|
      bnd (sI I b0 (u2 : Int32).toNatClampNeg u1) fun I2 =>
      f_J7_fill_53178_L5 n I2 b0 b0n u1 (u2 + 1) u3
def f_J7_fill_53178 (fu : Nat) (I : HI) (a0 : Nat) (a0n : Nat) (p1 : Int32) : Option (HI) :=
  bnd ((Int32.ofNat a0n)) fun v1 =>
  (f_J7_fill_53178_L5 fu I a0 a0n p1 0 v1).bind fun x4 =>
  some x4
set_option maxRecDepth 20000 in
theorem lp_J7_fill_53178_5 (fu : Nat) (b0 b0n : Nat) (hl0 : lay b0 = (13, b0n)) (hr0 : 1 ≤ b0 ∧ b0 < 93) (u1 : Int32) (u3 : Int32) (L : HL) (R : HR) : ∀ (n : Nat) (u2 : Int32) (I : HI) (N : (HI) → Prop) (F : HF), (∀ v : HI, N v → PW 1 93 0 RJ7 cJ7_fill_53178 4 none 20 [] [] v L R F) → PWk 1 93 0 RJ7 cJ7_fill_53178 4 none 5 [(0, .ref b0), (1, .int u1), (2, .int u2), (3, .int u3)] [] I L R (f_J7_fill_53178_L5 n I b0 b0n u1 u2 u3) N F := by
  intro n
  induction n with
  | zero => intro u2 I N F hx; exact PWk.none'
  | succ n ih =>
    intro u2 I N F hx
    unfold f_J7_fill_53178_L5
    refine PWk.iload_n 2 dJ7_fill_53178_5 rfl ?_
    refine PWk.iload_n 3 dJ7_fill_53178_6 rfl ?_
    refine PWk.icmp_ge 20 dJ7_fill_53178_7 (by decide) (fun h3 => ?_) (fun h3 => ?_)
    · refine PWk.sub [] rfl ?_
      exact PWk.done (fun h => hx _ h)
    · refine PWk.aload_n 0 dJ7_fill_53178_10 rfl ?_
      refine PWk.iload_n 2 dJ7_fill_53178_11 rfl ?_
      refine PWk.iload_n 1 dJ7_fill_53178_12 rfl ?_
      refine PWk.iast dJ7_fill_53178_13 hr0 hl0 ?_
      refine PWk.bI (fun I2 => ?_)
      refine PWk.iinc (v := (u2 + 1)) 2 [(2, .int (u2 + 1)), (0, .ref b0), (1, .int u1), (3, .int u3)] dJ7_fill_53178_14 rfl (by rw [ic_1]) (by decide) rfl ?_
      refine PWk.goto 5 dJ7_fill_53178_17 (by decide) ?_
      refine PWk.sub [1, 2, 0, 3] rfl ?_
      exact ih (u2 + 1) I2 N F hx
set_option maxRecDepth 20000 in
theorem pc_J7_fill_53178 (fu : Nat) (I : HI) (L : HL) (R : HR) (a0 : Nat) (a0n : Nat) (hl_a0 : lay a0 = (13, a0n)) (hr_a0 : 1 ≤ a0 ∧ a0 < 93) (p1 : Int32) : PCo 1 93 0 yJ7_fill_53178 cJ7_fill_53178 4 none [.ref a0, .int p1] I L R (f_J7_fill_53178 fu I a0 a0n p1) (fun x : HI => ((none, x, L, R) : HF)) := by
  refine PCo.of (own := RJ7) (by decide +kernel) (Nat.le_of_ble_eq_true rfl) rfl rfl (fun F => ?_)
  unfold f_J7_fill_53178
  refine PWk.iconst (v := 0) dJ7_fill_53178_0 ic_0 ?_
  refine PWk.istore_n [(2, .int 0), (0, .ref a0), (1, .int p1)] dJ7_fill_53178_1 (by decide) rfl ?_
  refine PWk.aload_n 1 dJ7_fill_53178_2 rfl ?_
  refine PWk.alen dJ7_fill_53178_3 hr_a0 hl_a0 rfl ?_
  refine PWk.bi (fun v1 => ?_)
  refine PWk.istore_n [(3, .int v1), (2, .int 0), (0, .ref a0), (1, .int p1)] dJ7_fill_53178_4 (by decide) rfl ?_
  refine PWk.sub [2, 3, 1, 0] rfl ?_
  refine PWk.loopV (fun N' hx' => lp_J7_fill_53178_5 fu a0 a0n hl_a0 hr_a0 p1 v1 L R fu 0 I N' F hx') (fun x4 => ?_)
  exact PWk.vret dJ7_fill_53178_20 rfl (fun h => h)
