theorem TBL_s (i : Nat) {q : MethodName × Nat} (h : lw_privs[i]? = some q) (g : goodWord (Cond.selects q.1.cls q.1 q.1) = true) : Cond.selects q.1.cls q.1 q.1 ∈ TBL := TBL_in (List.mem_append_left _ (List.mem_map.mpr ⟨q, List.mem_of_getElem? h, rfl⟩)) g
theorem cw0 : ∀ w ∈ u_ws RX0 TX0 10, w ∈ TBL := by
  intro w hw
  obtain ⟨k, hk, rfl⟩ := List.mem_map.mp hw
  have hk := List.mem_range.mp hk
  have h : ∀ k, k < 10 → (u_lay RX0 TX0 k ∈ tables_1 ∧ goodWord (u_lay RX0 TX0 k) = true) := by decide +kernel
  exact TBL_in (List.mem_append_right _ (h k hk).1) (h k hk).2
theorem cw1 : ∀ w ∈ u_ws RX1 TX1 4, w ∈ TBL := by
  intro w hw
  obtain ⟨k, hk, rfl⟩ := List.mem_map.mp hw
  have hk := List.mem_range.mp hk
  have h : ∀ k, k < 4 → (u_lay RX1 TX1 k ∈ tables_1 ∧ goodWord (u_lay RX1 TX1 k) = true) := by decide +kernel
  exact TBL_in (List.mem_append_right _ (h k hk).1) (h k hk).2
theorem cw2 : ∀ w ∈ u_ws RX2 TX2 19, w ∈ TBL := by
  intro w hw
  obtain ⟨k, hk, rfl⟩ := List.mem_map.mp hw
  have hk := List.mem_range.mp hk
  have h : ∀ k, k < 19 → (u_lay RX2 TX2 k ∈ tables_1 ∧ goodWord (u_lay RX2 TX2 k) = true) := by decide +kernel
  exact TBL_in (List.mem_append_right _ (h k hk).1) (h k hk).2
theorem cw3 : ∀ w ∈ u_ws RX3 TX3 3, w ∈ TBL := by
  intro w hw
  obtain ⟨k, hk, rfl⟩ := List.mem_map.mp hw
  have hk := List.mem_range.mp hk
  have h : ∀ k, k < 3 → (u_lay RX3 TX3 k ∈ tables_1 ∧ goodWord (u_lay RX3 TX3 k) = true) := by decide +kernel
  exact TBL_in (List.mem_append_right _ (h k hk).1) (h k hk).2
theorem cw4 : ∀ w ∈ u_ws RX4 TX4 5, w ∈ TBL := by
  intro w hw
  obtain ⟨k, hk, rfl⟩ := List.mem_map.mp hw
  have hk := List.mem_range.mp hk
  have h : ∀ k, k < 5 → (u_lay RX4 TX4 k ∈ tables_1 ∧ goodWord (u_lay RX4 TX4 k) = true) := by decide +kernel
  exact TBL_in (List.mem_append_right _ (h k hk).1) (h k hk).2
theorem cw5 : ∀ w ∈ u_ws RX5 TX5 2, w ∈ TBL := by
  intro w hw
  obtain ⟨k, hk, rfl⟩ := List.mem_map.mp hw
  have hk := List.mem_range.mp hk
  have h : ∀ k, k < 2 → (u_lay RX5 TX5 k ∈ tables_1 ∧ goodWord (u_lay RX5 TX5 k) = true) := by decide +kernel
  exact TBL_in (List.mem_append_right _ (h k hk).1) (h k hk).2
theorem cw6 : ∀ w ∈ u_ws RX6 TX6 2, w ∈ TBL := by
  intro w hw
  obtain ⟨k, hk, rfl⟩ := List.mem_map.mp hw
  have hk := List.mem_range.mp hk
  have h : ∀ k, k < 2 → (u_lay RX6 TX6 k ∈ tables_1 ∧ goodWord (u_lay RX6 TX6 k) = true) := by decide +kernel
  exact TBL_in (List.mem_append_right _ (h k hk).1) (h k hk).2
theorem cw7 : ∀ w ∈ u_ws RX7 TX7 4, w ∈ TBL := by
  intro w hw
  obtain ⟨k, hk, rfl⟩ := List.mem_map.mp hw
  have hk := List.mem_range.mp hk
  have h : ∀ k, k < 4 → (u_lay RX7 TX7 k ∈ tables_1 ∧ goodWord (u_lay RX7 TX7 k) = true) := by decide +kernel
  exact TBL_in (List.mem_append_right _ (h k hk).1) (h k hk).2
theorem cw8 : ∀ w ∈ u_ws RX8 TX8 3, w ∈ TBL := by
  intro w hw
  obtain ⟨k, hk, rfl⟩ := List.mem_map.mp hw
  have hk := List.mem_range.mp hk
  have h : ∀ k, k < 3 → (u_lay RX8 TX8 k ∈ tables_1 ∧ goodWord (u_lay RX8 TX8 k) = true) := by decide +kernel
  exact TBL_in (List.mem_append_right _ (h k hk).1) (h k hk).2
theorem cw9 : ∀ w ∈ u_ws RX9 TX9 8, w ∈ TBL := by
  intro w hw
  obtain ⟨k, hk, rfl⟩ := List.mem_map.mp hw
  have hk := List.mem_range.mp hk
  have h : ∀ k, k < 8 → (u_lay RX9 TX9 k ∈ tables_1 ∧ goodWord (u_lay RX9 TX9 k) = true) := by decide +kernel
  exact TBL_in (List.mem_append_right _ (h k hk).1) (h k hk).2
theorem cw10 : ∀ w ∈ u_ws RX10 TX10 9, w ∈ TBL := by
  intro w hw
  obtain ⟨k, hk, rfl⟩ := List.mem_map.mp hw
  have hk := List.mem_range.mp hk
  have h : ∀ k, k < 9 → (u_lay RX10 TX10 k ∈ tables_1 ∧ goodWord (u_lay RX10 TX10 k) = true) := by decide +kernel
  exact TBL_in (List.mem_append_right _ (h k hk).1) (h k hk).2
theorem cw11 : ∀ w ∈ u_ws RX11 TX11 19, w ∈ TBL := by
  intro w hw
  obtain ⟨k, hk, rfl⟩ := List.mem_map.mp hw
  have hk := List.mem_range.mp hk
  have h : ∀ k, k < 19 → (u_lay RX11 TX11 k ∈ tables_1 ∧ goodWord (u_lay RX11 TX11 k) = true) := by decide +kernel
  exact TBL_in (List.mem_append_right _ (h k hk).1) (h k hk).2
theorem cw12 : ∀ w ∈ u_ws RX12 TX12 71, w ∈ TBL := by
  intro w hw
  obtain ⟨k, hk, rfl⟩ := List.mem_map.mp hw
  have hk := List.mem_range.mp hk
  have h : ∀ k, k < 71 → (u_lay RX12 TX12 k ∈ tables_1 ∧ goodWord (u_lay RX12 TX12 k) = true) := by decide +kernel
  exact TBL_in (List.mem_append_right _ (h k hk).1) (h k hk).2
theorem ini_RX11 : Cond.initialized RX11 ∈ TBL := TBL_t 1 (by decide +kernel) (by decide +kernel)
theorem ini_RX0 : Cond.initialized RX0 ∈ TBL := TBL_t 10 (by decide +kernel) (by decide +kernel)
theorem ini_RX1 : Cond.initialized RX1 ∈ TBL := TBL_t 8 (by decide +kernel) (by decide +kernel)
theorem ini_RX2 : Cond.initialized RX2 ∈ TBL := TBL_t 2 (by decide +kernel) (by decide +kernel)
theorem ini_RX3 : Cond.initialized RX3 ∈ TBL := TBL_t 7 (by decide +kernel) (by decide +kernel)
theorem ini_RX4 : Cond.initialized RX4 ∈ TBL := TBL_t 11 (by decide +kernel) (by decide +kernel)
theorem ini_RX5 : Cond.initialized RX5 ∈ TBL := TBL_t 9 (by decide +kernel) (by decide +kernel)
theorem ini_RX6 : Cond.initialized RX6 ∈ TBL := TBL_t 12 (by decide +kernel) (by decide +kernel)
theorem ini_RX7 : Cond.initialized RX7 ∈ TBL := TBL_t 3 (by decide +kernel) (by decide +kernel)
theorem ini_RX8 : Cond.initialized RX8 ∈ TBL := TBL_t 5 (by decide +kernel) (by decide +kernel)
theorem ini_RX9 : Cond.initialized RX9 ∈ TBL := TBL_t 6 (by decide +kernel) (by decide +kernel)
theorem ini_RX10 : Cond.initialized RX10 ∈ TBL := TBL_t 4 (by decide +kernel) (by decide +kernel)
theorem ini_RL : Cond.initialized RL ∈ TBL := TBL_t 0 (by decide +kernel) (by decide +kernel)
theorem ini_RX12 : Cond.initialized RX12 ∈ TBL := TBL_t 14 (by decide +kernel) (by decide +kernel)
theorem ini_RJ6 : Cond.initialized RJ6 ∈ TBL := TBL_t 21 (by decide +kernel) (by decide +kernel)
theorem ini_RJ9 : Cond.initialized RJ9 ∈ TBL := TBL_t 20 (by decide +kernel) (by decide +kernel)
theorem ini_RJ0 : Cond.initialized RJ0 ∈ TBL := TBL_t 16 (by decide +kernel) (by decide +kernel)
theorem ini_RJ1 : Cond.initialized RJ1 ∈ TBL := TBL_t 17 (by decide +kernel) (by decide +kernel)
theorem ini_RJ2 : Cond.initialized RJ2 ∈ TBL := TBL_t 19 (by decide +kernel) (by decide +kernel)
theorem ini_RJ7 : Cond.initialized RJ7 ∈ TBL := TBL_t 15 (by decide +kernel) (by decide +kernel)
theorem ini_RJ3 : Cond.initialized RJ3 ∈ TBL := TBL_t 18 (by decide +kernel) (by decide +kernel)
theorem cd_X0_init : Cond.code yX0_init cX0_init 1 none ∈ TBL := TBL_t 326 (by decide +kernel) (by decide +kernel)
theorem cd_X0_collect : Cond.code yX0_collect cX0_collect 5 none ∈ TBL := TBL_t 970 (by decide +kernel) (by decide +kernel)
theorem im_X0_collect : Cond.instanceMethod yX0_collect ∈ TBL := TBL_t 969 (by decide +kernel) (by decide +kernel)
theorem sl_X0_collect : Cond.selects yX0_collect.cls yX0_collect yX0_collect ∈ TBL := TBL_in (List.mem_append_left _ (List.mem_of_getElem? (i := 39) (by decide +kernel))) (by decide +kernel)
theorem cd_X0_sumUp : Cond.code yX0_sumUp cX0_sumUp 4 none ∈ TBL := TBL_t 975 (by decide +kernel) (by decide +kernel)
theorem im_X0_sumUp : Cond.instanceMethod yX0_sumUp ∈ TBL := TBL_t 974 (by decide +kernel) (by decide +kernel)
theorem sl_X0_sumUp : Cond.selects yX0_sumUp.cls yX0_sumUp yX0_sumUp ∈ TBL := TBL_in (List.mem_append_left _ (List.mem_of_getElem? (i := 40) (by decide +kernel))) (by decide +kernel)
theorem cd_X0_lakeBits : Cond.code yX0_lakeBits cX0_lakeBits 4 (some .int) ∈ TBL := TBL_t 989 (by decide +kernel) (by decide +kernel)
theorem im_X0_lakeBits : Cond.instanceMethod yX0_lakeBits ∈ TBL := TBL_t 988 (by decide +kernel) (by decide +kernel)
theorem sl_X0_lakeBits : Cond.selects yX0_lakeBits.cls yX0_lakeBits yX0_lakeBits ∈ TBL := TBL_in (List.mem_append_left _ (List.mem_of_getElem? (i := 42) (by decide +kernel))) (by decide +kernel)
theorem cd_X0_payers : Cond.code yX0_payers cX0_payers 6 (some .int) ∈ TBL := TBL_t 966 (by decide +kernel) (by decide +kernel)
theorem im_X0_payers : Cond.instanceMethod yX0_payers ∈ TBL := TBL_t 964 (by decide +kernel) (by decide +kernel)
theorem sl_X0_payers : Cond.selects yX0_payers.cls yX0_payers yX0_payers ∈ TBL := TBL_t 965 (by decide +kernel) (by decide +kernel)
theorem cd_X0_paysBetter : Cond.code yX0_paysBetter cX0_paysBetter 3 (some .boolean) ∈ TBL := TBL_t 979 (by decide +kernel) (by decide +kernel)
theorem im_X0_paysBetter : Cond.instanceMethod yX0_paysBetter ∈ TBL := TBL_t 978 (by decide +kernel) (by decide +kernel)
theorem sl_X0_paysBetter : Cond.selects yX0_paysBetter.cls yX0_paysBetter yX0_paysBetter ∈ TBL := TBL_in (List.mem_append_left _ (List.mem_of_getElem? (i := 41) (by decide +kernel))) (by decide +kernel)
theorem cd_X0_packing : Cond.code yX0_packing cX0_packing 5 (some .int) ∈ TBL := TBL_t 1075 (by decide +kernel) (by decide +kernel)
theorem im_X0_packing : Cond.instanceMethod yX0_packing ∈ TBL := TBL_t 1073 (by decide +kernel) (by decide +kernel)
theorem sl_X0_packing : Cond.selects yX0_packing.cls yX0_packing yX0_packing ∈ TBL := TBL_t 1074 (by decide +kernel) (by decide +kernel)
theorem cd_X0_roomWithout : Cond.code yX0_roomWithout cX0_roomWithout 5 (some .int) ∈ TBL := TBL_t 1081 (by decide +kernel) (by decide +kernel)
theorem im_X0_roomWithout : Cond.instanceMethod yX0_roomWithout ∈ TBL := TBL_t 1080 (by decide +kernel) (by decide +kernel)
theorem sl_X0_roomWithout : Cond.selects yX0_roomWithout.cls yX0_roomWithout yX0_roomWithout ∈ TBL := TBL_in (List.mem_append_left _ (List.mem_of_getElem? (i := 55) (by decide +kernel))) (by decide +kernel)
theorem cd_X0_packInto : Cond.code yX0_packInto cX0_packInto 6 none ∈ TBL := TBL_t 1086 (by decide +kernel) (by decide +kernel)
theorem im_X0_packInto : Cond.instanceMethod yX0_packInto ∈ TBL := TBL_t 1085 (by decide +kernel) (by decide +kernel)
theorem sl_X0_packInto : Cond.selects yX0_packInto.cls yX0_packInto yX0_packInto ∈ TBL := TBL_in (List.mem_append_left _ (List.mem_of_getElem? (i := 56) (by decide +kernel))) (by decide +kernel)
theorem cd_X0_fairest : Cond.code yX0_fairest cX0_fairest 4 (some .int) ∈ TBL := TBL_t 1119 (by decide +kernel) (by decide +kernel)
theorem im_X0_fairest : Cond.instanceMethod yX0_fairest ∈ TBL := TBL_t 1117 (by decide +kernel) (by decide +kernel)
theorem sl_X0_fairest : Cond.selects yX0_fairest.cls yX0_fairest yX0_fairest ∈ TBL := TBL_t 1118 (by decide +kernel) (by decide +kernel)
theorem cd_X0_divide : Cond.code yX0_divide cX0_divide 5 none ∈ TBL := TBL_t 1123 (by decide +kernel) (by decide +kernel)
theorem im_X0_divide : Cond.instanceMethod yX0_divide ∈ TBL := TBL_t 1122 (by decide +kernel) (by decide +kernel)
theorem sl_X0_divide : Cond.selects yX0_divide.cls yX0_divide yX0_divide ∈ TBL := TBL_in (List.mem_append_left _ (List.mem_of_getElem? (i := 58) (by decide +kernel))) (by decide +kernel)
theorem cd_X0_keepIfFairer : Cond.code yX0_keepIfFairer cX0_keepIfFairer 4 none ∈ TBL := TBL_t 1127 (by decide +kernel) (by decide +kernel)
theorem im_X0_keepIfFairer : Cond.instanceMethod yX0_keepIfFairer ∈ TBL := TBL_t 1126 (by decide +kernel) (by decide +kernel)
theorem sl_X0_keepIfFairer : Cond.selects yX0_keepIfFairer.cls yX0_keepIfFairer yX0_keepIfFairer ∈ TBL := TBL_in (List.mem_append_left _ (List.mem_of_getElem? (i := 59) (by decide +kernel))) (by decide +kernel)
theorem cd_X0_heirOf : Cond.code yX0_heirOf cX0_heirOf 3 (some .int) ∈ TBL := TBL_t 1132 (by decide +kernel) (by decide +kernel)
theorem im_X0_heirOf : Cond.instanceMethod yX0_heirOf ∈ TBL := TBL_t 1130 (by decide +kernel) (by decide +kernel)
theorem sl_X0_heirOf : Cond.selects yX0_heirOf.cls yX0_heirOf yX0_heirOf ∈ TBL := TBL_t 1131 (by decide +kernel) (by decide +kernel)
theorem cd_X0_payments : Cond.code yX0_payments cX0_payments 3 (some .int) ∈ TBL := TBL_t 1105 (by decide +kernel) (by decide +kernel)
theorem im_X0_payments : Cond.instanceMethod yX0_payments ∈ TBL := TBL_t 1103 (by decide +kernel) (by decide +kernel)
theorem sl_X0_payments : Cond.selects yX0_payments.cls yX0_payments yX0_payments ∈ TBL := TBL_t 1104 (by decide +kernel) (by decide +kernel)
theorem cd_X0_mostGroups : Cond.code yX0_mostGroups cX0_mostGroups 4 (some .int) ∈ TBL := TBL_t 1110 (by decide +kernel) (by decide +kernel)
theorem im_X0_mostGroups : Cond.instanceMethod yX0_mostGroups ∈ TBL := TBL_t 1109 (by decide +kernel) (by decide +kernel)
theorem sl_X0_mostGroups : Cond.selects yX0_mostGroups.cls yX0_mostGroups yX0_mostGroups ∈ TBL := TBL_in (List.mem_append_left _ (List.mem_of_getElem? (i := 57) (by decide +kernel))) (by decide +kernel)
theorem cd_X1_init : Cond.code yX1_init cX1_init 1 none ∈ TBL := TBL_t 290 (by decide +kernel) (by decide +kernel)
theorem cd_X1_forget : Cond.code yX1_forget cX1_forget 1 none ∈ TBL := TBL_t 756 (by decide +kernel) (by decide +kernel)
theorem im_X1_forget : Cond.instanceMethod yX1_forget ∈ TBL := TBL_t 754 (by decide +kernel) (by decide +kernel)
theorem sl_X1_forget : Cond.selects yX1_forget.cls yX1_forget yX1_forget ∈ TBL := TBL_t 755 (by decide +kernel) (by decide +kernel)
theorem cd_X1_push : Cond.code yX1_push cX1_push 3 none ∈ TBL := TBL_t 1161 (by decide +kernel) (by decide +kernel)
theorem im_X1_push : Cond.instanceMethod yX1_push ∈ TBL := TBL_t 1159 (by decide +kernel) (by decide +kernel)
theorem sl_X1_push : Cond.selects yX1_push.cls yX1_push yX1_push ∈ TBL := TBL_t 1160 (by decide +kernel) (by decide +kernel)
theorem cd_X1_pop : Cond.code yX1_pop cX1_pop 2 (some .int) ∈ TBL := TBL_t 1238 (by decide +kernel) (by decide +kernel)
theorem im_X1_pop : Cond.instanceMethod yX1_pop ∈ TBL := TBL_t 1236 (by decide +kernel) (by decide +kernel)
theorem sl_X1_pop : Cond.selects yX1_pop.cls yX1_pop yX1_pop ∈ TBL := TBL_t 1237 (by decide +kernel) (by decide +kernel)
theorem cd_X2_init : Cond.code yX2_init cX2_init 1 none ∈ TBL := TBL_t 34 (by decide +kernel) (by decide +kernel)
theorem cd_X2_clear : Cond.code yX2_clear cX2_clear 1 none ∈ TBL := TBL_t 497 (by decide +kernel) (by decide +kernel)
theorem im_X2_clear : Cond.instanceMethod yX2_clear ∈ TBL := TBL_t 495 (by decide +kernel) (by decide +kernel)
theorem sl_X2_clear : Cond.selects yX2_clear.cls yX2_clear yX2_clear ∈ TBL := TBL_t 496 (by decide +kernel) (by decide +kernel)
theorem cd_X2_hasRule : Cond.code yX2_hasRule cX2_hasRule 2 (some .boolean) ∈ TBL := TBL_t 599 (by decide +kernel) (by decide +kernel)
theorem im_X2_hasRule : Cond.instanceMethod yX2_hasRule ∈ TBL := TBL_t 597 (by decide +kernel) (by decide +kernel)
theorem sl_X2_hasRule : Cond.selects yX2_hasRule.cls yX2_hasRule yX2_hasRule ∈ TBL := TBL_t 598 (by decide +kernel) (by decide +kernel)
theorem cd_X2_emit : Cond.code yX2_emit cX2_emit 2 (some .boolean) ∈ TBL := TBL_t 691 (by decide +kernel) (by decide +kernel)
theorem im_X2_emit : Cond.instanceMethod yX2_emit ∈ TBL := TBL_t 689 (by decide +kernel) (by decide +kernel)
theorem sl_X2_emit : Cond.selects yX2_emit.cls yX2_emit yX2_emit ∈ TBL := TBL_t 690 (by decide +kernel) (by decide +kernel)
theorem cd_X2_find : Cond.code yX2_find cX2_find 5 (some .int) ∈ TBL := TBL_t 616 (by decide +kernel) (by decide +kernel)
theorem im_X2_find : Cond.instanceMethod yX2_find ∈ TBL := TBL_t 614 (by decide +kernel) (by decide +kernel)
theorem sl_X2_find : Cond.selects yX2_find.cls yX2_find yX2_find ∈ TBL := TBL_t 615 (by decide +kernel) (by decide +kernel)
theorem cd_X2_findHollow : Cond.code yX2_findHollow cX2_findHollow 2 (some .int) ∈ TBL := TBL_t 648 (by decide +kernel) (by decide +kernel)
theorem im_X2_findHollow : Cond.instanceMethod yX2_findHollow ∈ TBL := TBL_t 646 (by decide +kernel) (by decide +kernel)
theorem sl_X2_findHollow : Cond.selects yX2_findHollow.cls yX2_findHollow yX2_findHollow ∈ TBL := TBL_t 647 (by decide +kernel) (by decide +kernel)
theorem cd_X2_findOwner : Cond.code yX2_findOwner cX2_findOwner 2 (some .int) ∈ TBL := TBL_t 660 (by decide +kernel) (by decide +kernel)
theorem im_X2_findOwner : Cond.instanceMethod yX2_findOwner ∈ TBL := TBL_t 658 (by decide +kernel) (by decide +kernel)
theorem sl_X2_findOwner : Cond.selects yX2_findOwner.cls yX2_findOwner yX2_findOwner ∈ TBL := TBL_t 659 (by decide +kernel) (by decide +kernel)
theorem cd_X2_isTaken : Cond.code yX2_isTaken cX2_isTaken 2 (some .boolean) ∈ TBL := TBL_t 612 (by decide +kernel) (by decide +kernel)
theorem im_X2_isTaken : Cond.instanceMethod yX2_isTaken ∈ TBL := TBL_t 610 (by decide +kernel) (by decide +kernel)
theorem sl_X2_isTaken : Cond.selects yX2_isTaken.cls yX2_isTaken yX2_isTaken ∈ TBL := TBL_t 611 (by decide +kernel) (by decide +kernel)
theorem cd_X2_letterOf : Cond.code yX2_letterOf cX2_letterOf 3 (some .int) ∈ TBL := TBL_t 871 (by decide +kernel) (by decide +kernel)
theorem im_X2_letterOf : Cond.instanceMethod yX2_letterOf ∈ TBL := TBL_t 869 (by decide +kernel) (by decide +kernel)
theorem sl_X2_letterOf : Cond.selects yX2_letterOf.cls yX2_letterOf yX2_letterOf ∈ TBL := TBL_t 870 (by decide +kernel) (by decide +kernel)
theorem cd_X2_roomAtFirst : Cond.code yX2_roomAtFirst cX2_roomAtFirst 4 (some .int) ∈ TBL := TBL_t 652 (by decide +kernel) (by decide +kernel)
theorem im_X2_roomAtFirst : Cond.instanceMethod yX2_roomAtFirst ∈ TBL := TBL_t 650 (by decide +kernel) (by decide +kernel)
theorem sl_X2_roomAtFirst : Cond.selects yX2_roomAtFirst.cls yX2_roomAtFirst yX2_roomAtFirst ∈ TBL := TBL_t 651 (by decide +kernel) (by decide +kernel)
theorem cd_X3_init : Cond.code yX3_init cX3_init 1 none ∈ TBL := TBL_t 231 (by decide +kernel) (by decide +kernel)
theorem cd_X3_setLake : Cond.code yX3_setLake cX3_setLake 4 none ∈ TBL := TBL_t 802 (by decide +kernel) (by decide +kernel)
theorem im_X3_setLake : Cond.instanceMethod yX3_setLake ∈ TBL := TBL_t 800 (by decide +kernel) (by decide +kernel)
theorem sl_X3_setLake : Cond.selects yX3_setLake.cls yX3_setLake yX3_setLake ∈ TBL := TBL_t 801 (by decide +kernel) (by decide +kernel)
theorem cd_X3_setDrought : Cond.code yX3_setDrought cX3_setDrought 2 none ∈ TBL := TBL_t 901 (by decide +kernel) (by decide +kernel)
theorem im_X3_setDrought : Cond.instanceMethod yX3_setDrought ∈ TBL := TBL_t 899 (by decide +kernel) (by decide +kernel)
theorem sl_X3_setDrought : Cond.selects yX3_setDrought.cls yX3_setDrought yX3_setDrought ∈ TBL := TBL_t 900 (by decide +kernel) (by decide +kernel)
theorem cd_X3_setWay : Cond.code yX3_setWay cX3_setWay 3 none ∈ TBL := TBL_t 1045 (by decide +kernel) (by decide +kernel)
theorem im_X3_setWay : Cond.instanceMethod yX3_setWay ∈ TBL := TBL_t 1043 (by decide +kernel) (by decide +kernel)
theorem sl_X3_setWay : Cond.selects yX3_setWay.cls yX3_setWay yX3_setWay ∈ TBL := TBL_t 1044 (by decide +kernel) (by decide +kernel)
theorem cd_X3_run : Cond.code yX3_run cX3_run 5 (some .int) ∈ TBL := TBL_t 806 (by decide +kernel) (by decide +kernel)
theorem im_X3_run : Cond.instanceMethod yX3_run ∈ TBL := TBL_t 804 (by decide +kernel) (by decide +kernel)
theorem sl_X3_run : Cond.selects yX3_run.cls yX3_run yX3_run ∈ TBL := TBL_t 805 (by decide +kernel) (by decide +kernel)
theorem cd_X3_step : Cond.code yX3_step cX3_step 4 none ∈ TBL := TBL_t 816 (by decide +kernel) (by decide +kernel)
theorem im_X3_step : Cond.instanceMethod yX3_step ∈ TBL := TBL_t 815 (by decide +kernel) (by decide +kernel)
theorem sl_X3_step : Cond.selects yX3_step.cls yX3_step yX3_step ∈ TBL := TBL_in (List.mem_append_left _ (List.mem_of_getElem? (i := 35) (by decide +kernel))) (by decide +kernel)
theorem cd_X3_push : Cond.code yX3_push cX3_push 2 none ∈ TBL := TBL_t 820 (by decide +kernel) (by decide +kernel)
theorem im_X3_push : Cond.instanceMethod yX3_push ∈ TBL := TBL_t 819 (by decide +kernel) (by decide +kernel)
theorem sl_X3_push : Cond.selects yX3_push.cls yX3_push yX3_push ∈ TBL := TBL_in (List.mem_append_left _ (List.mem_of_getElem? (i := 36) (by decide +kernel))) (by decide +kernel)
theorem cd_X3_pop : Cond.code yX3_pop cX3_pop 1 (some .int) ∈ TBL := TBL_t 824 (by decide +kernel) (by decide +kernel)
theorem im_X3_pop : Cond.instanceMethod yX3_pop ∈ TBL := TBL_t 823 (by decide +kernel) (by decide +kernel)
theorem sl_X3_pop : Cond.selects yX3_pop.cls yX3_pop yX3_pop ∈ TBL := TBL_in (List.mem_append_left _ (List.mem_of_getElem? (i := 37) (by decide +kernel))) (by decide +kernel)
theorem cd_X3_combine : Cond.code yX3_combine cX3_combine 5 (some .long) ∈ TBL := TBL_t 827 (by decide +kernel) (by decide +kernel)
theorem sm_X3_combine : Cond.static yX3_combine ∈ TBL := TBL_t 826 (by decide +kernel) (by decide +kernel)
theorem cd_X3_limited : Cond.code yX3_limited cX3_limited 2 (some .int) ∈ TBL := TBL_t 842 (by decide +kernel) (by decide +kernel)
theorem sm_X3_limited : Cond.static yX3_limited ∈ TBL := TBL_t 841 (by decide +kernel) (by decide +kernel)
theorem cd_X4_init : Cond.code yX4_init cX4_init 1 none ∈ TBL := TBL_t 364 (by decide +kernel) (by decide +kernel)
theorem cd_X4_takeRows : Cond.code yX4_takeRows cX4_takeRows 6 (some .boolean) ∈ TBL := TBL_t 997 (by decide +kernel) (by decide +kernel)
theorem im_X4_takeRows : Cond.instanceMethod yX4_takeRows ∈ TBL := TBL_t 995 (by decide +kernel) (by decide +kernel)
theorem sl_X4_takeRows : Cond.selects yX4_takeRows.cls yX4_takeRows yX4_takeRows ∈ TBL := TBL_t 996 (by decide +kernel) (by decide +kernel)
theorem cd_X4_fewest : Cond.code yX4_fewest cX4_fewest 3 (some .int) ∈ TBL := TBL_t 1004 (by decide +kernel) (by decide +kernel)
theorem im_X4_fewest : Cond.instanceMethod yX4_fewest ∈ TBL := TBL_t 1002 (by decide +kernel) (by decide +kernel)
theorem sl_X4_fewest : Cond.selects yX4_fewest.cls yX4_fewest yX4_fewest ∈ TBL := TBL_t 1003 (by decide +kernel) (by decide +kernel)
theorem cd_X4_hasHeavyStray : Cond.code yX4_hasHeavyStray cX4_hasHeavyStray 2 (some .boolean) ∈ TBL := TBL_t 1008 (by decide +kernel) (by decide +kernel)
theorem im_X4_hasHeavyStray : Cond.instanceMethod yX4_hasHeavyStray ∈ TBL := TBL_t 1007 (by decide +kernel) (by decide +kernel)
theorem sl_X4_hasHeavyStray : Cond.selects yX4_hasHeavyStray.cls yX4_hasHeavyStray yX4_hasHeavyStray ∈ TBL := TBL_in (List.mem_append_left _ (List.mem_of_getElem? (i := 43) (by decide +kernel))) (by decide +kernel)
theorem cd_X4_isAstray : Cond.code yX4_isAstray cX4_isAstray 3 (some .boolean) ∈ TBL := TBL_t 1012 (by decide +kernel) (by decide +kernel)
theorem im_X4_isAstray : Cond.instanceMethod yX4_isAstray ∈ TBL := TBL_t 1011 (by decide +kernel) (by decide +kernel)
theorem sl_X4_isAstray : Cond.selects yX4_isAstray.cls yX4_isAstray yX4_isAstray ∈ TBL := TBL_in (List.mem_append_left _ (List.mem_of_getElem? (i := 44) (by decide +kernel))) (by decide +kernel)
theorem cd_X4_strayCount : Cond.code yX4_strayCount cX4_strayCount 3 (some .int) ∈ TBL := TBL_t 1026 (by decide +kernel) (by decide +kernel)
theorem im_X4_strayCount : Cond.instanceMethod yX4_strayCount ∈ TBL := TBL_t 1025 (by decide +kernel) (by decide +kernel)
theorem sl_X4_strayCount : Cond.selects yX4_strayCount.cls yX4_strayCount yX4_strayCount ∈ TBL := TBL_in (List.mem_append_left _ (List.mem_of_getElem? (i := 47) (by decide +kernel))) (by decide +kernel)
theorem cd_X4_reaches : Cond.code yX4_reaches cX4_reaches 4 (some .boolean) ∈ TBL := TBL_t 1022 (by decide +kernel) (by decide +kernel)
theorem im_X4_reaches : Cond.instanceMethod yX4_reaches ∈ TBL := TBL_t 1021 (by decide +kernel) (by decide +kernel)
theorem sl_X4_reaches : Cond.selects yX4_reaches.cls yX4_reaches yX4_reaches ∈ TBL := TBL_in (List.mem_append_left _ (List.mem_of_getElem? (i := 46) (by decide +kernel))) (by decide +kernel)
theorem cd_X4_reachesStraight : Cond.code yX4_reachesStraight cX4_reachesStraight 3 (some .boolean) ∈ TBL := TBL_t 1030 (by decide +kernel) (by decide +kernel)
theorem im_X4_reachesStraight : Cond.instanceMethod yX4_reachesStraight ∈ TBL := TBL_t 1029 (by decide +kernel) (by decide +kernel)
theorem sl_X4_reachesStraight : Cond.selects yX4_reachesStraight.cls yX4_reachesStraight yX4_reachesStraight ∈ TBL := TBL_in (List.mem_append_left _ (List.mem_of_getElem? (i := 48) (by decide +kernel))) (by decide +kernel)
theorem cd_X4_reachesBy : Cond.code yX4_reachesBy cX4_reachesBy 7 (some .boolean) ∈ TBL := TBL_t 1059 (by decide +kernel) (by decide +kernel)
theorem im_X4_reachesBy : Cond.instanceMethod yX4_reachesBy ∈ TBL := TBL_t 1058 (by decide +kernel) (by decide +kernel)
theorem sl_X4_reachesBy : Cond.selects yX4_reachesBy.cls yX4_reachesBy yX4_reachesBy ∈ TBL := TBL_in (List.mem_append_left _ (List.mem_of_getElem? (i := 52) (by decide +kernel))) (by decide +kernel)
theorem cd_X4_helpsLast : Cond.code yX4_helpsLast cX4_helpsLast 3 (some .boolean) ∈ TBL := TBL_t 1063 (by decide +kernel) (by decide +kernel)
theorem im_X4_helpsLast : Cond.instanceMethod yX4_helpsLast ∈ TBL := TBL_t 1062 (by decide +kernel) (by decide +kernel)
theorem sl_X4_helpsLast : Cond.selects yX4_helpsLast.cls yX4_helpsLast yX4_helpsLast ∈ TBL := TBL_in (List.mem_append_left _ (List.mem_of_getElem? (i := 53) (by decide +kernel))) (by decide +kernel)
theorem cd_X4_isAwaited : Cond.code yX4_isAwaited cX4_isAwaited 3 (some .boolean) ∈ TBL := TBL_t 1067 (by decide +kernel) (by decide +kernel)
theorem im_X4_isAwaited : Cond.instanceMethod yX4_isAwaited ∈ TBL := TBL_t 1066 (by decide +kernel) (by decide +kernel)
theorem sl_X4_isAwaited : Cond.selects yX4_isAwaited.cls yX4_isAwaited yX4_isAwaited ∈ TBL := TBL_in (List.mem_append_left _ (List.mem_of_getElem? (i := 54) (by decide +kernel))) (by decide +kernel)
theorem cd_X4_reachesInto : Cond.code yX4_reachesInto cX4_reachesInto 6 (some .boolean) ∈ TBL := TBL_t 1034 (by decide +kernel) (by decide +kernel)
theorem im_X4_reachesInto : Cond.instanceMethod yX4_reachesInto ∈ TBL := TBL_t 1033 (by decide +kernel) (by decide +kernel)
theorem sl_X4_reachesInto : Cond.selects yX4_reachesInto.cls yX4_reachesInto yX4_reachesInto ∈ TBL := TBL_in (List.mem_append_left _ (List.mem_of_getElem? (i := 49) (by decide +kernel))) (by decide +kernel)
theorem cd_X4_shift : Cond.code yX4_shift cX4_shift 4 none ∈ TBL := TBL_t 1049 (by decide +kernel) (by decide +kernel)
theorem im_X4_shift : Cond.instanceMethod yX4_shift ∈ TBL := TBL_t 1048 (by decide +kernel) (by decide +kernel)
theorem sl_X4_shift : Cond.selects yX4_shift.cls yX4_shift yX4_shift ∈ TBL := TBL_in (List.mem_append_left _ (List.mem_of_getElem? (i := 50) (by decide +kernel))) (by decide +kernel)
theorem cd_X4_forgetSeen : Cond.code yX4_forgetSeen cX4_forgetSeen 2 none ∈ TBL := TBL_t 1018 (by decide +kernel) (by decide +kernel)
theorem im_X4_forgetSeen : Cond.instanceMethod yX4_forgetSeen ∈ TBL := TBL_t 1017 (by decide +kernel) (by decide +kernel)
theorem sl_X4_forgetSeen : Cond.selects yX4_forgetSeen.cls yX4_forgetSeen yX4_forgetSeen ∈ TBL := TBL_in (List.mem_append_left _ (List.mem_of_getElem? (i := 45) (by decide +kernel))) (by decide +kernel)
theorem cd_X4_wasSeen : Cond.code yX4_wasSeen cX4_wasSeen 4 (some .boolean) ∈ TBL := TBL_t 1053 (by decide +kernel) (by decide +kernel)
theorem im_X4_wasSeen : Cond.instanceMethod yX4_wasSeen ∈ TBL := TBL_t 1052 (by decide +kernel) (by decide +kernel)
theorem sl_X4_wasSeen : Cond.selects yX4_wasSeen.cls yX4_wasSeen yX4_wasSeen ∈ TBL := TBL_in (List.mem_append_left _ (List.mem_of_getElem? (i := 51) (by decide +kernel))) (by decide +kernel)
theorem cd_X5_init : Cond.code yX5_init cX5_init 1 none ∈ TBL := TBL_t 312 (by decide +kernel) (by decide +kernel)
theorem cd_X5_count : Cond.code yX5_count cX5_count 1 (some .int) ∈ TBL := TBL_t 858 (by decide +kernel) (by decide +kernel)
theorem im_X5_count : Cond.instanceMethod yX5_count ∈ TBL := TBL_t 856 (by decide +kernel) (by decide +kernel)
theorem sl_X5_count : Cond.selects yX5_count.cls yX5_count yX5_count ∈ TBL := TBL_t 857 (by decide +kernel) (by decide +kernel)
theorem cd_X5_add : Cond.code yX5_add cX5_add 6 none ∈ TBL := TBL_t 1217 (by decide +kernel) (by decide +kernel)
theorem im_X5_add : Cond.instanceMethod yX5_add ∈ TBL := TBL_t 1215 (by decide +kernel) (by decide +kernel)
theorem sl_X5_add : Cond.selects yX5_add.cls yX5_add yX5_add ∈ TBL := TBL_t 1216 (by decide +kernel) (by decide +kernel)
theorem cd_X5_tell : Cond.code yX5_tell cX5_tell 3 (some .int) ∈ TBL := TBL_t 1254 (by decide +kernel) (by decide +kernel)
theorem im_X5_tell : Cond.instanceMethod yX5_tell ∈ TBL := TBL_t 1252 (by decide +kernel) (by decide +kernel)
theorem sl_X5_tell : Cond.selects yX5_tell.cls yX5_tell yX5_tell ∈ TBL := TBL_t 1253 (by decide +kernel) (by decide +kernel)
theorem cd_X6_init : Cond.code yX6_init cX6_init 1 none ∈ TBL := TBL_t 386 (by decide +kernel) (by decide +kernel)
theorem cd_X6_draw : Cond.code yX6_draw cX6_draw 4 none ∈ TBL := TBL_t 1263 (by decide +kernel) (by decide +kernel)
theorem im_X6_draw : Cond.instanceMethod yX6_draw ∈ TBL := TBL_t 1261 (by decide +kernel) (by decide +kernel)
theorem sl_X6_draw : Cond.selects yX6_draw.cls yX6_draw yX6_draw ∈ TBL := TBL_t 1262 (by decide +kernel) (by decide +kernel)
theorem cd_X6_put : Cond.code yX6_put cX6_put 2 none ∈ TBL := TBL_t 1271 (by decide +kernel) (by decide +kernel)
theorem im_X6_put : Cond.instanceMethod yX6_put ∈ TBL := TBL_t 1270 (by decide +kernel) (by decide +kernel)
theorem sl_X6_put : Cond.selects yX6_put.cls yX6_put yX6_put ∈ TBL := TBL_in (List.mem_append_left _ (List.mem_of_getElem? (i := 67) (by decide +kernel))) (by decide +kernel)
theorem cd_X6_putPair : Cond.code yX6_putPair cX6_putPair 2 none ∈ TBL := TBL_t 1267 (by decide +kernel) (by decide +kernel)
theorem im_X6_putPair : Cond.instanceMethod yX6_putPair ∈ TBL := TBL_t 1266 (by decide +kernel) (by decide +kernel)
theorem sl_X6_putPair : Cond.selects yX6_putPair.cls yX6_putPair yX6_putPair ∈ TBL := TBL_in (List.mem_append_left _ (List.mem_of_getElem? (i := 66) (by decide +kernel))) (by decide +kernel)
theorem cd_X6_check : Cond.code yX6_check cX6_check 4 (some .int) ∈ TBL := TBL_t 1275 (by decide +kernel) (by decide +kernel)
theorem sm_X6_check : Cond.static yX6_check ∈ TBL := TBL_t 1274 (by decide +kernel) (by decide +kernel)
theorem cd_X6_sizeFor : Cond.code yX6_sizeFor cX6_sizeFor 1 (some .int) ∈ TBL := TBL_t 1290 (by decide +kernel) (by decide +kernel)
theorem sm_X6_sizeFor : Cond.static yX6_sizeFor ∈ TBL := TBL_t 1289 (by decide +kernel) (by decide +kernel)
theorem cd_X6_restores : Cond.code yX6_restores cX6_restores 5 (some .boolean) ∈ TBL := TBL_t 1287 (by decide +kernel) (by decide +kernel)
theorem im_X6_restores : Cond.instanceMethod yX6_restores ∈ TBL := TBL_t 1285 (by decide +kernel) (by decide +kernel)
theorem sl_X6_restores : Cond.selects yX6_restores.cls yX6_restores yX6_restores ∈ TBL := TBL_t 1286 (by decide +kernel) (by decide +kernel)
theorem cd_X6_pair : Cond.code yX6_pair cX6_pair 2 (some .int) ∈ TBL := TBL_t 1293 (by decide +kernel) (by decide +kernel)
theorem sm_X6_pair : Cond.static yX6_pair ∈ TBL := TBL_t 1292 (by decide +kernel) (by decide +kernel)
theorem cd_X6_restoresLakes : Cond.code yX6_restoresLakes cX6_restoresLakes 5 (some .boolean) ∈ TBL := TBL_t 1297 (by decide +kernel) (by decide +kernel)
theorem im_X6_restoresLakes : Cond.instanceMethod yX6_restoresLakes ∈ TBL := TBL_t 1296 (by decide +kernel) (by decide +kernel)
theorem sl_X6_restoresLakes : Cond.selects yX6_restoresLakes.cls yX6_restoresLakes yX6_restoresLakes ∈ TBL := TBL_in (List.mem_append_left _ (List.mem_of_getElem? (i := 68) (by decide +kernel))) (by decide +kernel)
theorem cd_X6_isLakeRow : Cond.code yX6_isLakeRow cX6_isLakeRow 4 (some .boolean) ∈ TBL := TBL_t 1300 (by decide +kernel) (by decide +kernel)
theorem sm_X6_isLakeRow : Cond.static yX6_isLakeRow ∈ TBL := TBL_t 1299 (by decide +kernel) (by decide +kernel)
theorem cd_X6_restoresDebts : Cond.code yX6_restoresDebts cX6_restoresDebts 8 (some .boolean) ∈ TBL := TBL_t 1308 (by decide +kernel) (by decide +kernel)
theorem im_X6_restoresDebts : Cond.instanceMethod yX6_restoresDebts ∈ TBL := TBL_t 1307 (by decide +kernel) (by decide +kernel)
theorem sl_X6_restoresDebts : Cond.selects yX6_restoresDebts.cls yX6_restoresDebts yX6_restoresDebts ∈ TBL := TBL_in (List.mem_append_left _ (List.mem_of_getElem? (i := 69) (by decide +kernel))) (by decide +kernel)
theorem cd_X7_init : Cond.code yX7_init cX7_init 2 none ∈ TBL := TBL_t 149 (by decide +kernel) (by decide +kernel)
theorem cd_X7_readAll : Cond.code yX7_readAll cX7_readAll 4 (some .boolean) ∈ TBL := TBL_t 493 (by decide +kernel) (by decide +kernel)
theorem im_X7_readAll : Cond.instanceMethod yX7_readAll ∈ TBL := TBL_t 491 (by decide +kernel) (by decide +kernel)
theorem sl_X7_readAll : Cond.selects yX7_readAll.cls yX7_readAll yX7_readAll ∈ TBL := TBL_t 492 (by decide +kernel) (by decide +kernel)
theorem cd_X7_readStatement : Cond.code yX7_readStatement cX7_readStatement 2 (some .boolean) ∈ TBL := TBL_t 579 (by decide +kernel) (by decide +kernel)
theorem im_X7_readStatement : Cond.instanceMethod yX7_readStatement ∈ TBL := TBL_t 578 (by decide +kernel) (by decide +kernel)
theorem sl_X7_readStatement : Cond.selects yX7_readStatement.cls yX7_readStatement yX7_readStatement ∈ TBL := TBL_in (List.mem_append_left _ (List.mem_of_getElem? (i := 8) (by decide +kernel))) (by decide +kernel)
theorem cd_X7_isOneTooMany : Cond.code yX7_isOneTooMany cX7_isOneTooMany 2 (some .boolean) ∈ TBL := TBL_t 595 (by decide +kernel) (by decide +kernel)
theorem im_X7_isOneTooMany : Cond.instanceMethod yX7_isOneTooMany ∈ TBL := TBL_t 594 (by decide +kernel) (by decide +kernel)
theorem sl_X7_isOneTooMany : Cond.selects yX7_isOneTooMany.cls yX7_isOneTooMany yX7_isOneTooMany ∈ TBL := TBL_in (List.mem_append_left _ (List.mem_of_getElem? (i := 9) (by decide +kernel))) (by decide +kernel)
theorem cd_X7_readHollow : Cond.code yX7_readHollow cX7_readHollow 3 (some .boolean) ∈ TBL := TBL_t 603 (by decide +kernel) (by decide +kernel)
theorem im_X7_readHollow : Cond.instanceMethod yX7_readHollow ∈ TBL := TBL_t 602 (by decide +kernel) (by decide +kernel)
theorem sl_X7_readHollow : Cond.selects yX7_readHollow.cls yX7_readHollow yX7_readHollow ∈ TBL := TBL_in (List.mem_append_left _ (List.mem_of_getElem? (i := 10) (by decide +kernel))) (by decide +kernel)
theorem cd_X7_readOwner : Cond.code yX7_readOwner cX7_readOwner 1 (some .boolean) ∈ TBL := TBL_t 636 (by decide +kernel) (by decide +kernel)
theorem im_X7_readOwner : Cond.instanceMethod yX7_readOwner ∈ TBL := TBL_t 635 (by decide +kernel) (by decide +kernel)
theorem sl_X7_readOwner : Cond.selects yX7_readOwner.cls yX7_readOwner yX7_readOwner ∈ TBL := TBL_in (List.mem_append_left _ (List.mem_of_getElem? (i := 14) (by decide +kernel))) (by decide +kernel)
theorem cd_X7_readLake : Cond.code yX7_readLake cX7_readLake 4 (some .boolean) ∈ TBL := TBL_t 640 (by decide +kernel) (by decide +kernel)
theorem im_X7_readLake : Cond.instanceMethod yX7_readLake ∈ TBL := TBL_t 639 (by decide +kernel) (by decide +kernel)
theorem sl_X7_readLake : Cond.selects yX7_readLake.cls yX7_readLake yX7_readLake ∈ TBL := TBL_in (List.mem_append_left _ (List.mem_of_getElem? (i := 15) (by decide +kernel))) (by decide +kernel)
theorem cd_X7_readDebt : Cond.code yX7_readDebt cX7_readDebt 3 (some .boolean) ∈ TBL := TBL_t 664 (by decide +kernel) (by decide +kernel)
theorem im_X7_readDebt : Cond.instanceMethod yX7_readDebt ∈ TBL := TBL_t 663 (by decide +kernel) (by decide +kernel)
theorem sl_X7_readDebt : Cond.selects yX7_readDebt.cls yX7_readDebt yX7_readDebt ∈ TBL := TBL_in (List.mem_append_left _ (List.mem_of_getElem? (i := 18) (by decide +kernel))) (by decide +kernel)
theorem cd_X7_readDrought : Cond.code yX7_readDrought cX7_readDrought 1 (some .boolean) ∈ TBL := TBL_t 742 (by decide +kernel) (by decide +kernel)
theorem im_X7_readDrought : Cond.instanceMethod yX7_readDrought ∈ TBL := TBL_t 741 (by decide +kernel) (by decide +kernel)
theorem sl_X7_readDrought : Cond.selects yX7_readDrought.cls yX7_readDrought yX7_readDrought ∈ TBL := TBL_in (List.mem_append_left _ (List.mem_of_getElem? (i := 32) (by decide +kernel))) (by decide +kernel)
theorem cd_X7_readCarts : Cond.code yX7_readCarts cX7_readCarts 1 (some .boolean) ∈ TBL := TBL_t 746 (by decide +kernel) (by decide +kernel)
theorem im_X7_readCarts : Cond.instanceMethod yX7_readCarts ∈ TBL := TBL_t 745 (by decide +kernel) (by decide +kernel)
theorem sl_X7_readCarts : Cond.selects yX7_readCarts.cls yX7_readCarts yX7_readCarts ∈ TBL := TBL_in (List.mem_append_left _ (List.mem_of_getElem? (i := 33) (by decide +kernel))) (by decide +kernel)
theorem cd_X7_takeWord : Cond.code yX7_takeWord cX7_takeWord 2 (some .boolean) ∈ TBL := TBL_t 620 (by decide +kernel) (by decide +kernel)
theorem im_X7_takeWord : Cond.instanceMethod yX7_takeWord ∈ TBL := TBL_t 619 (by decide +kernel) (by decide +kernel)
theorem sl_X7_takeWord : Cond.selects yX7_takeWord.cls yX7_takeWord yX7_takeWord ∈ TBL := TBL_in (List.mem_append_left _ (List.mem_of_getElem? (i := 12) (by decide +kernel))) (by decide +kernel)
theorem cd_X7_takeNumber : Cond.code yX7_takeNumber cX7_takeNumber 3 (some .boolean) ∈ TBL := TBL_t 632 (by decide +kernel) (by decide +kernel)
theorem im_X7_takeNumber : Cond.instanceMethod yX7_takeNumber ∈ TBL := TBL_t 631 (by decide +kernel) (by decide +kernel)
theorem sl_X7_takeNumber : Cond.selects yX7_takeNumber.cls yX7_takeNumber yX7_takeNumber ∈ TBL := TBL_in (List.mem_append_left _ (List.mem_of_getElem? (i := 13) (by decide +kernel))) (by decide +kernel)
theorem cd_X7_takeNewName : Cond.code yX7_takeNewName cX7_takeNewName 1 (some .boolean) ∈ TBL := TBL_t 608 (by decide +kernel) (by decide +kernel)
theorem im_X7_takeNewName : Cond.instanceMethod yX7_takeNewName ∈ TBL := TBL_t 607 (by decide +kernel) (by decide +kernel)
theorem sl_X7_takeNewName : Cond.selects yX7_takeNewName.cls yX7_takeNewName yX7_takeNewName ∈ TBL := TBL_in (List.mem_append_left _ (List.mem_of_getElem? (i := 11) (by decide +kernel))) (by decide +kernel)
theorem cd_X7_takeHollowWithRoom : Cond.code yX7_takeHollowWithRoom cX7_takeHollowWithRoom 2 (some .boolean) ∈ TBL := TBL_t 644 (by decide +kernel) (by decide +kernel)
theorem im_X7_takeHollowWithRoom : Cond.instanceMethod yX7_takeHollowWithRoom ∈ TBL := TBL_t 643 (by decide +kernel) (by decide +kernel)
theorem sl_X7_takeHollowWithRoom : Cond.selects yX7_takeHollowWithRoom.cls yX7_takeHollowWithRoom yX7_takeHollowWithRoom ∈ TBL := TBL_in (List.mem_append_left _ (List.mem_of_getElem? (i := 16) (by decide +kernel))) (by decide +kernel)
theorem cd_X7_takeOwnerBut : Cond.code yX7_takeOwnerBut cX7_takeOwnerBut 2 (some .boolean) ∈ TBL := TBL_t 656 (by decide +kernel) (by decide +kernel)
theorem im_X7_takeOwnerBut : Cond.instanceMethod yX7_takeOwnerBut ∈ TBL := TBL_t 655 (by decide +kernel) (by decide +kernel)
theorem sl_X7_takeOwnerBut : Cond.selects yX7_takeOwnerBut.cls yX7_takeOwnerBut yX7_takeOwnerBut ∈ TBL := TBL_in (List.mem_append_left _ (List.mem_of_getElem? (i := 17) (by decide +kernel))) (by decide +kernel)
theorem cd_X8_init : Cond.code yX8_init cX8_init 2 none ∈ TBL := TBL_t 195 (by decide +kernel) (by decide +kernel)
theorem cd_X8_readRule : Cond.code yX8_readRule cX8_readRule 4 (some .boolean) ∈ TBL := TBL_t 668 (by decide +kernel) (by decide +kernel)
theorem im_X8_readRule : Cond.instanceMethod yX8_readRule ∈ TBL := TBL_t 666 (by decide +kernel) (by decide +kernel)
theorem sl_X8_readRule : Cond.selects yX8_readRule.cls yX8_readRule yX8_readRule ∈ TBL := TBL_t 667 (by decide +kernel) (by decide +kernel)
theorem cd_X8_mayOpen : Cond.code yX8_mayOpen cX8_mayOpen 2 (some .boolean) ∈ TBL := TBL_t 686 (by decide +kernel) (by decide +kernel)
theorem im_X8_mayOpen : Cond.instanceMethod yX8_mayOpen ∈ TBL := TBL_t 685 (by decide +kernel) (by decide +kernel)
theorem sl_X8_mayOpen : Cond.selects yX8_mayOpen.cls yX8_mayOpen yX8_mayOpen ∈ TBL := TBL_in (List.mem_append_left _ (List.mem_of_getElem? (i := 22) (by decide +kernel))) (by decide +kernel)
theorem cd_X8_readTest : Cond.code yX8_readTest cX8_readTest 4 (some .boolean) ∈ TBL := TBL_t 673 (by decide +kernel) (by decide +kernel)
theorem im_X8_readTest : Cond.instanceMethod yX8_readTest ∈ TBL := TBL_t 672 (by decide +kernel) (by decide +kernel)
theorem sl_X8_readTest : Cond.selects yX8_readTest.cls yX8_readTest yX8_readTest ∈ TBL := TBL_in (List.mem_append_left _ (List.mem_of_getElem? (i := 19) (by decide +kernel))) (by decide +kernel)
theorem cd_X8_readBoth : Cond.code yX8_readBoth cX8_readBoth 4 (some .boolean) ∈ TBL := TBL_t 677 (by decide +kernel) (by decide +kernel)
theorem im_X8_readBoth : Cond.instanceMethod yX8_readBoth ∈ TBL := TBL_t 676 (by decide +kernel) (by decide +kernel)
theorem sl_X8_readBoth : Cond.selects yX8_readBoth.cls yX8_readBoth yX8_readBoth ∈ TBL := TBL_in (List.mem_append_left _ (List.mem_of_getElem? (i := 20) (by decide +kernel))) (by decide +kernel)
theorem cd_X8_readFact : Cond.code yX8_readFact cX8_readFact 3 (some .boolean) ∈ TBL := TBL_t 681 (by decide +kernel) (by decide +kernel)
theorem im_X8_readFact : Cond.instanceMethod yX8_readFact ∈ TBL := TBL_t 680 (by decide +kernel) (by decide +kernel)
theorem sl_X8_readFact : Cond.selects yX8_readFact.cls yX8_readFact yX8_readFact ∈ TBL := TBL_in (List.mem_append_left _ (List.mem_of_getElem? (i := 21) (by decide +kernel))) (by decide +kernel)
theorem cd_X8_compareOp : Cond.code yX8_compareOp cX8_compareOp 1 (some .int) ∈ TBL := TBL_t 738 (by decide +kernel) (by decide +kernel)
theorem im_X8_compareOp : Cond.instanceMethod yX8_compareOp ∈ TBL := TBL_t 737 (by decide +kernel) (by decide +kernel)
theorem sl_X8_compareOp : Cond.selects yX8_compareOp.cls yX8_compareOp yX8_compareOp ∈ TBL := TBL_in (List.mem_append_left _ (List.mem_of_getElem? (i := 31) (by decide +kernel))) (by decide +kernel)
theorem cd_X8_readSum : Cond.code yX8_readSum cX8_readSum 5 (some .boolean) ∈ TBL := TBL_t 704 (by decide +kernel) (by decide +kernel)
theorem im_X8_readSum : Cond.instanceMethod yX8_readSum ∈ TBL := TBL_t 703 (by decide +kernel) (by decide +kernel)
theorem sl_X8_readSum : Cond.selects yX8_readSum.cls yX8_readSum yX8_readSum ∈ TBL := TBL_in (List.mem_append_left _ (List.mem_of_getElem? (i := 23) (by decide +kernel))) (by decide +kernel)
theorem cd_X8_addOp : Cond.code yX8_addOp cX8_addOp 1 (some .int) ∈ TBL := TBL_t 734 (by decide +kernel) (by decide +kernel)
theorem im_X8_addOp : Cond.instanceMethod yX8_addOp ∈ TBL := TBL_t 733 (by decide +kernel) (by decide +kernel)
theorem sl_X8_addOp : Cond.selects yX8_addOp.cls yX8_addOp yX8_addOp ∈ TBL := TBL_in (List.mem_append_left _ (List.mem_of_getElem? (i := 30) (by decide +kernel))) (by decide +kernel)
theorem cd_X8_readProduct : Cond.code yX8_readProduct cX8_readProduct 5 (some .boolean) ∈ TBL := TBL_t 708 (by decide +kernel) (by decide +kernel)
theorem im_X8_readProduct : Cond.instanceMethod yX8_readProduct ∈ TBL := TBL_t 707 (by decide +kernel) (by decide +kernel)
theorem sl_X8_readProduct : Cond.selects yX8_readProduct.cls yX8_readProduct yX8_readProduct ∈ TBL := TBL_in (List.mem_append_left _ (List.mem_of_getElem? (i := 24) (by decide +kernel))) (by decide +kernel)
theorem cd_X8_timesOp : Cond.code yX8_timesOp cX8_timesOp 1 (some .int) ∈ TBL := TBL_t 730 (by decide +kernel) (by decide +kernel)
theorem im_X8_timesOp : Cond.instanceMethod yX8_timesOp ∈ TBL := TBL_t 729 (by decide +kernel) (by decide +kernel)
theorem sl_X8_timesOp : Cond.selects yX8_timesOp.cls yX8_timesOp yX8_timesOp ∈ TBL := TBL_in (List.mem_append_left _ (List.mem_of_getElem? (i := 29) (by decide +kernel))) (by decide +kernel)
theorem cd_X8_readPart : Cond.code yX8_readPart cX8_readPart 3 (some .boolean) ∈ TBL := TBL_t 712 (by decide +kernel) (by decide +kernel)
theorem im_X8_readPart : Cond.instanceMethod yX8_readPart ∈ TBL := TBL_t 711 (by decide +kernel) (by decide +kernel)
theorem sl_X8_readPart : Cond.selects yX8_readPart.cls yX8_readPart yX8_readPart ∈ TBL := TBL_in (List.mem_append_left _ (List.mem_of_getElem? (i := 25) (by decide +kernel))) (by decide +kernel)
theorem cd_X8_readPair : Cond.code yX8_readPair cX8_readPair 3 (some .boolean) ∈ TBL := TBL_t 717 (by decide +kernel) (by decide +kernel)
theorem im_X8_readPair : Cond.instanceMethod yX8_readPair ∈ TBL := TBL_t 716 (by decide +kernel) (by decide +kernel)
theorem sl_X8_readPair : Cond.selects yX8_readPair.cls yX8_readPair yX8_readPair ∈ TBL := TBL_in (List.mem_append_left _ (List.mem_of_getElem? (i := 26) (by decide +kernel))) (by decide +kernel)
theorem cd_X8_readChoice : Cond.code yX8_readChoice cX8_readChoice 2 (some .boolean) ∈ TBL := TBL_t 721 (by decide +kernel) (by decide +kernel)
theorem im_X8_readChoice : Cond.instanceMethod yX8_readChoice ∈ TBL := TBL_t 720 (by decide +kernel) (by decide +kernel)
theorem sl_X8_readChoice : Cond.selects yX8_readChoice.cls yX8_readChoice yX8_readChoice ∈ TBL := TBL_in (List.mem_append_left _ (List.mem_of_getElem? (i := 27) (by decide +kernel))) (by decide +kernel)
theorem cd_X8_figureOp : Cond.code yX8_figureOp cX8_figureOp 2 (some .int) ∈ TBL := TBL_t 725 (by decide +kernel) (by decide +kernel)
theorem im_X8_figureOp : Cond.instanceMethod yX8_figureOp ∈ TBL := TBL_t 724 (by decide +kernel) (by decide +kernel)
theorem sl_X8_figureOp : Cond.selects yX8_figureOp.cls yX8_figureOp yX8_figureOp ∈ TBL := TBL_in (List.mem_append_left _ (List.mem_of_getElem? (i := 28) (by decide +kernel))) (by decide +kernel)
theorem cd_X9_init : Cond.code yX9_init cX9_init 1 none ∈ TBL := TBL_t 225 (by decide +kernel) (by decide +kernel)
theorem cd_X9_begin : Cond.code yX9_begin cX9_begin 3 none ∈ TBL := TBL_t 400 (by decide +kernel) (by decide +kernel)
theorem im_X9_begin : Cond.instanceMethod yX9_begin ∈ TBL := TBL_t 398 (by decide +kernel) (by decide +kernel)
theorem sl_X9_begin : Cond.selects yX9_begin.cls yX9_begin yX9_begin ∈ TBL := TBL_t 399 (by decide +kernel) (by decide +kernel)
theorem cd_X9_copyFrom : Cond.code yX9_copyFrom cX9_copyFrom 2 none ∈ TBL := TBL_t 944 (by decide +kernel) (by decide +kernel)
theorem im_X9_copyFrom : Cond.instanceMethod yX9_copyFrom ∈ TBL := TBL_t 942 (by decide +kernel) (by decide +kernel)
theorem sl_X9_copyFrom : Cond.selects yX9_copyFrom.cls yX9_copyFrom yX9_copyFrom ∈ TBL := TBL_t 943 (by decide +kernel) (by decide +kernel)
theorem cd_X9_writeTo : Cond.code yX9_writeTo cX9_writeTo 2 none ∈ TBL := TBL_t 1165 (by decide +kernel) (by decide +kernel)
theorem im_X9_writeTo : Cond.instanceMethod yX9_writeTo ∈ TBL := TBL_t 1163 (by decide +kernel) (by decide +kernel)
theorem sl_X9_writeTo : Cond.selects yX9_writeTo.cls yX9_writeTo yX9_writeTo ∈ TBL := TBL_t 1164 (by decide +kernel) (by decide +kernel)
theorem cd_X9_readFrom : Cond.code yX9_readFrom cX9_readFrom 2 none ∈ TBL := TBL_t 1242 (by decide +kernel) (by decide +kernel)
theorem im_X9_readFrom : Cond.instanceMethod yX9_readFrom ∈ TBL := TBL_t 1240 (by decide +kernel) (by decide +kernel)
theorem sl_X9_readFrom : Cond.selects yX9_readFrom.cls yX9_readFrom yX9_readFrom ∈ TBL := TBL_t 1241 (by decide +kernel) (by decide +kernel)
theorem cd_X9_isHollow : Cond.code yX9_isHollow cX9_isHollow 2 (some .boolean) ∈ TBL := TBL_t 867 (by decide +kernel) (by decide +kernel)
theorem im_X9_isHollow : Cond.instanceMethod yX9_isHollow ∈ TBL := TBL_t 865 (by decide +kernel) (by decide +kernel)
theorem sl_X9_isHollow : Cond.selects yX9_isHollow.cls yX9_isHollow yX9_isHollow ∈ TBL := TBL_t 866 (by decide +kernel) (by decide +kernel)
theorem cd_X9_isOwner : Cond.code yX9_isOwner cX9_isOwner 2 (some .boolean) ∈ TBL := TBL_t 875 (by decide +kernel) (by decide +kernel)
theorem im_X9_isOwner : Cond.instanceMethod yX9_isOwner ∈ TBL := TBL_t 873 (by decide +kernel) (by decide +kernel)
theorem sl_X9_isOwner : Cond.selects yX9_isOwner.cls yX9_isOwner yX9_isOwner ∈ TBL := TBL_t 874 (by decide +kernel) (by decide +kernel)
theorem cd_X9_isLake : Cond.code yX9_isLake cX9_isLake 2 (some .boolean) ∈ TBL := TBL_t 793 (by decide +kernel) (by decide +kernel)
theorem im_X9_isLake : Cond.instanceMethod yX9_isLake ∈ TBL := TBL_t 791 (by decide +kernel) (by decide +kernel)
theorem sl_X9_isLake : Cond.selects yX9_isLake.cls yX9_isLake yX9_isLake ∈ TBL := TBL_t 792 (by decide +kernel) (by decide +kernel)
theorem cd_X9_areTwoOwners : Cond.code yX9_areTwoOwners cX9_areTwoOwners 3 (some .boolean) ∈ TBL := TBL_t 931 (by decide +kernel) (by decide +kernel)
theorem im_X9_areTwoOwners : Cond.instanceMethod yX9_areTwoOwners ∈ TBL := TBL_t 929 (by decide +kernel) (by decide +kernel)
theorem sl_X9_areTwoOwners : Cond.selects yX9_areTwoOwners.cls yX9_areTwoOwners yX9_areTwoOwners ∈ TBL := TBL_t 930 (by decide +kernel) (by decide +kernel)
theorem cd_X9_stands : Cond.code yX9_stands cX9_stands 2 (some .boolean) ∈ TBL := TBL_t 789 (by decide +kernel) (by decide +kernel)
theorem im_X9_stands : Cond.instanceMethod yX9_stands ∈ TBL := TBL_t 787 (by decide +kernel) (by decide +kernel)
theorem sl_X9_stands : Cond.selects yX9_stands.cls yX9_stands yX9_stands ∈ TBL := TBL_t 788 (by decide +kernel) (by decide +kernel)
theorem cd_X9_setBarrels : Cond.code yX9_setBarrels cX9_setBarrels 3 none ∈ TBL := TBL_t 407 (by decide +kernel) (by decide +kernel)
theorem im_X9_setBarrels : Cond.instanceMethod yX9_setBarrels ∈ TBL := TBL_t 405 (by decide +kernel) (by decide +kernel)
theorem sl_X9_setBarrels : Cond.selects yX9_setBarrels.cls yX9_setBarrels yX9_setBarrels ∈ TBL := TBL_t 406 (by decide +kernel) (by decide +kernel)
theorem cd_X9_standing : Cond.code yX9_standing cX9_standing 3 (some .int) ∈ TBL := TBL_t 769 (by decide +kernel) (by decide +kernel)
theorem im_X9_standing : Cond.instanceMethod yX9_standing ∈ TBL := TBL_t 767 (by decide +kernel) (by decide +kernel)
theorem sl_X9_standing : Cond.selects yX9_standing.cls yX9_standing yX9_standing ∈ TBL := TBL_t 768 (by decide +kernel) (by decide +kernel)
theorem cd_X9_firstGone : Cond.code yX9_firstGone cX9_firstGone 2 (some .int) ∈ TBL := TBL_t 1204 (by decide +kernel) (by decide +kernel)
theorem im_X9_firstGone : Cond.instanceMethod yX9_firstGone ∈ TBL := TBL_t 1202 (by decide +kernel) (by decide +kernel)
theorem sl_X9_firstGone : Cond.selects yX9_firstGone.cls yX9_firstGone yX9_firstGone ∈ TBL := TBL_t 1203 (by decide +kernel) (by decide +kernel)
theorem cd_X9_allBarrels : Cond.code yX9_allBarrels cX9_allBarrels 3 (some .int) ∈ TBL := TBL_t 773 (by decide +kernel) (by decide +kernel)
theorem im_X9_allBarrels : Cond.instanceMethod yX9_allBarrels ∈ TBL := TBL_t 771 (by decide +kernel) (by decide +kernel)
theorem sl_X9_allBarrels : Cond.selects yX9_allBarrels.cls yX9_allBarrels yX9_allBarrels ∈ TBL := TBL_t 772 (by decide +kernel) (by decide +kernel)
theorem cd_X9_lakesIn : Cond.code yX9_lakesIn cX9_lakesIn 4 (some .int) ∈ TBL := TBL_t 888 (by decide +kernel) (by decide +kernel)
theorem im_X9_lakesIn : Cond.instanceMethod yX9_lakesIn ∈ TBL := TBL_t 886 (by decide +kernel) (by decide +kernel)
theorem sl_X9_lakesIn : Cond.selects yX9_lakesIn.cls yX9_lakesIn yX9_lakesIn ∈ TBL := TBL_t 887 (by decide +kernel) (by decide +kernel)
theorem cd_X9_roomIn : Cond.code yX9_roomIn cX9_roomIn 4 (some .int) ∈ TBL := TBL_t 884 (by decide +kernel) (by decide +kernel)
theorem im_X9_roomIn : Cond.instanceMethod yX9_roomIn ∈ TBL := TBL_t 882 (by decide +kernel) (by decide +kernel)
theorem sl_X9_roomIn : Cond.selects yX9_roomIn.cls yX9_roomIn yX9_roomIn ∈ TBL := TBL_t 883 (by decide +kernel) (by decide +kernel)
theorem cd_X9_countIn : Cond.code yX9_countIn cX9_countIn 4 (some .int) ∈ TBL := TBL_t 798 (by decide +kernel) (by decide +kernel)
theorem im_X9_countIn : Cond.instanceMethod yX9_countIn ∈ TBL := TBL_t 796 (by decide +kernel) (by decide +kernel)
theorem sl_X9_countIn : Cond.selects yX9_countIn.cls yX9_countIn yX9_countIn ∈ TBL := TBL_t 797 (by decide +kernel) (by decide +kernel)
theorem cd_X9_lakesOf : Cond.code yX9_lakesOf cX9_lakesOf 4 (some .int) ∈ TBL := TBL_t 909 (by decide +kernel) (by decide +kernel)
theorem im_X9_lakesOf : Cond.instanceMethod yX9_lakesOf ∈ TBL := TBL_t 907 (by decide +kernel) (by decide +kernel)
theorem sl_X9_lakesOf : Cond.selects yX9_lakesOf.cls yX9_lakesOf yX9_lakesOf ∈ TBL := TBL_t 908 (by decide +kernel) (by decide +kernel)
theorem cd_X9_give : Cond.code yX9_give cX9_give 4 none ∈ TBL := TBL_t 1213 (by decide +kernel) (by decide +kernel)
theorem im_X9_give : Cond.instanceMethod yX9_give ∈ TBL := TBL_t 1211 (by decide +kernel) (by decide +kernel)
theorem sl_X9_give : Cond.selects yX9_give.cls yX9_give yX9_give ∈ TBL := TBL_t 1212 (by decide +kernel) (by decide +kernel)
theorem cd_X9_worthOf : Cond.code yX9_worthOf cX9_worthOf 2 (some .int) ∈ TBL := TBL_t 785 (by decide +kernel) (by decide +kernel)
theorem im_X9_worthOf : Cond.instanceMethod yX9_worthOf ∈ TBL := TBL_t 783 (by decide +kernel) (by decide +kernel)
theorem sl_X9_worthOf : Cond.selects yX9_worthOf.cls yX9_worthOf yX9_worthOf ∈ TBL := TBL_t 784 (by decide +kernel) (by decide +kernel)
theorem cd_X9_worthOfBits : Cond.code yX9_worthOfBits cX9_worthOfBits 4 (some .int) ∈ TBL := TBL_t 781 (by decide +kernel) (by decide +kernel)
theorem im_X9_worthOfBits : Cond.instanceMethod yX9_worthOfBits ∈ TBL := TBL_t 779 (by decide +kernel) (by decide +kernel)
theorem sl_X9_worthOfBits : Cond.selects yX9_worthOfBits.cls yX9_worthOfBits yX9_worthOfBits ∈ TBL := TBL_t 780 (by decide +kernel) (by decide +kernel)
theorem cd_X9_worthOfAll : Cond.code yX9_worthOfAll cX9_worthOfAll 1 (some .int) ∈ TBL := TBL_t 777 (by decide +kernel) (by decide +kernel)
theorem im_X9_worthOfAll : Cond.instanceMethod yX9_worthOfAll ∈ TBL := TBL_t 775 (by decide +kernel) (by decide +kernel)
theorem sl_X9_worthOfAll : Cond.selects yX9_worthOfAll.cls yX9_worthOfAll yX9_worthOfAll ∈ TBL := TBL_t 776 (by decide +kernel) (by decide +kernel)
theorem cd_X9_worthOfOwner : Cond.code yX9_worthOfOwner cX9_worthOfOwner 2 (some .int) ∈ TBL := TBL_t 913 (by decide +kernel) (by decide +kernel)
theorem im_X9_worthOfOwner : Cond.instanceMethod yX9_worthOfOwner ∈ TBL := TBL_t 911 (by decide +kernel) (by decide +kernel)
theorem sl_X9_worthOfOwner : Cond.selects yX9_worthOfOwner.cls yX9_worthOfOwner yX9_worthOfOwner ∈ TBL := TBL_t 912 (by decide +kernel) (by decide +kernel)
theorem cd_X9_leakOf : Cond.code yX9_leakOf cX9_leakOf 3 (some .int) ∈ TBL := TBL_t 897 (by decide +kernel) (by decide +kernel)
theorem im_X9_leakOf : Cond.instanceMethod yX9_leakOf ∈ TBL := TBL_t 895 (by decide +kernel) (by decide +kernel)
theorem sl_X9_leakOf : Cond.selects yX9_leakOf.cls yX9_leakOf yX9_leakOf ∈ TBL := TBL_t 896 (by decide +kernel) (by decide +kernel)
theorem cd_X9_passNight : Cond.code yX9_passNight cX9_passNight 4 (some .int) ∈ TBL := TBL_t 948 (by decide +kernel) (by decide +kernel)
theorem im_X9_passNight : Cond.instanceMethod yX9_passNight ∈ TBL := TBL_t 946 (by decide +kernel) (by decide +kernel)
theorem sl_X9_passNight : Cond.selects yX9_passNight.cls yX9_passNight yX9_passNight ∈ TBL := TBL_t 947 (by decide +kernel) (by decide +kernel)
theorem cd_X9_canMove : Cond.code yX9_canMove cX9_canMove 3 (some .boolean) ∈ TBL := TBL_t 1184 (by decide +kernel) (by decide +kernel)
theorem im_X9_canMove : Cond.instanceMethod yX9_canMove ∈ TBL := TBL_t 1182 (by decide +kernel) (by decide +kernel)
theorem sl_X9_canMove : Cond.selects yX9_canMove.cls yX9_canMove yX9_canMove ∈ TBL := TBL_t 1183 (by decide +kernel) (by decide +kernel)
theorem cd_X9_mayGo : Cond.code yX9_mayGo cX9_mayGo 5 (some .boolean) ∈ TBL := TBL_t 1038 (by decide +kernel) (by decide +kernel)
theorem im_X9_mayGo : Cond.instanceMethod yX9_mayGo ∈ TBL := TBL_t 1036 (by decide +kernel) (by decide +kernel)
theorem sl_X9_mayGo : Cond.selects yX9_mayGo.cls yX9_mayGo yX9_mayGo ∈ TBL := TBL_t 1037 (by decide +kernel) (by decide +kernel)
theorem cd_X9_canPour : Cond.code yX9_canPour cX9_canPour 3 (some .boolean) ∈ TBL := TBL_t 1195 (by decide +kernel) (by decide +kernel)
theorem im_X9_canPour : Cond.instanceMethod yX9_canPour ∈ TBL := TBL_t 1193 (by decide +kernel) (by decide +kernel)
theorem sl_X9_canPour : Cond.selects yX9_canPour.cls yX9_canPour yX9_canPour ∈ TBL := TBL_t 1194 (by decide +kernel) (by decide +kernel)
theorem cd_X9_owedBy : Cond.code yX9_owedBy cX9_owedBy 4 (some .int) ∈ TBL := TBL_t 854 (by decide +kernel) (by decide +kernel)
theorem im_X9_owedBy : Cond.instanceMethod yX9_owedBy ∈ TBL := TBL_t 852 (by decide +kernel) (by decide +kernel)
theorem sl_X9_owedBy : Cond.selects yX9_owedBy.cls yX9_owedBy yX9_owedBy ∈ TBL := TBL_t 853 (by decide +kernel) (by decide +kernel)
theorem cd_X9_owedTo : Cond.code yX9_owedTo cX9_owedTo 4 (some .int) ∈ TBL := TBL_t 919 (by decide +kernel) (by decide +kernel)
theorem im_X9_owedTo : Cond.instanceMethod yX9_owedTo ∈ TBL := TBL_t 917 (by decide +kernel) (by decide +kernel)
theorem sl_X9_owedTo : Cond.selects yX9_owedTo.cls yX9_owedTo yX9_owedTo ∈ TBL := TBL_t 918 (by decide +kernel) (by decide +kernel)
theorem cd_X9_netOf : Cond.code yX9_netOf cX9_netOf 2 (some .int) ∈ TBL := TBL_t 1095 (by decide +kernel) (by decide +kernel)
theorem im_X9_netOf : Cond.instanceMethod yX9_netOf ∈ TBL := TBL_t 1093 (by decide +kernel) (by decide +kernel)
theorem sl_X9_netOf : Cond.selects yX9_netOf.cls yX9_netOf yX9_netOf ∈ TBL := TBL_t 1094 (by decide +kernel) (by decide +kernel)
theorem cd_X9_allDebts : Cond.code yX9_allDebts cX9_allDebts 3 (some .int) ∈ TBL := TBL_t 850 (by decide +kernel) (by decide +kernel)
theorem im_X9_allDebts : Cond.instanceMethod yX9_allDebts ∈ TBL := TBL_t 848 (by decide +kernel) (by decide +kernel)
theorem sl_X9_allDebts : Cond.selects yX9_allDebts.cls yX9_allDebts yX9_allDebts ∈ TBL := TBL_t 849 (by decide +kernel) (by decide +kernel)
theorem cd_X9_isBroke : Cond.code yX9_isBroke cX9_isBroke 2 (some .boolean) ∈ TBL := TBL_t 923 (by decide +kernel) (by decide +kernel)
theorem im_X9_isBroke : Cond.instanceMethod yX9_isBroke ∈ TBL := TBL_t 921 (by decide +kernel) (by decide +kernel)
theorem sl_X9_isBroke : Cond.selects yX9_isBroke.cls yX9_isBroke yX9_isBroke ∈ TBL := TBL_t 922 (by decide +kernel) (by decide +kernel)
theorem cd_X10_init : Cond.code yX10_init cX10_init 2 none ∈ TBL := TBL_t 155 (by decide +kernel) (by decide +kernel)
theorem cd_X10_begin : Cond.code yX10_begin cX10_begin 2 none ∈ TBL := TBL_t 504 (by decide +kernel) (by decide +kernel)
theorem im_X10_begin : Cond.instanceMethod yX10_begin ∈ TBL := TBL_t 502 (by decide +kernel) (by decide +kernel)
theorem sl_X10_begin : Cond.selects yX10_begin.cls yX10_begin yX10_begin ∈ TBL := TBL_t 503 (by decide +kernel) (by decide +kernel)
theorem cd_X10_isSign : Cond.code yX10_isSign cX10_isSign 2 (some .boolean) ∈ TBL := TBL_t 695 (by decide +kernel) (by decide +kernel)
theorem im_X10_isSign : Cond.instanceMethod yX10_isSign ∈ TBL := TBL_t 693 (by decide +kernel) (by decide +kernel)
theorem sl_X10_isSign : Cond.selects yX10_isSign.cls yX10_isSign yX10_isSign ∈ TBL := TBL_t 694 (by decide +kernel) (by decide +kernel)
theorem cd_X10_isOwn : Cond.code yX10_isOwn cX10_isOwn 2 (some .boolean) ∈ TBL := TBL_t 628 (by decide +kernel) (by decide +kernel)
theorem im_X10_isOwn : Cond.instanceMethod yX10_isOwn ∈ TBL := TBL_t 626 (by decide +kernel) (by decide +kernel)
theorem sl_X10_isOwn : Cond.selects yX10_isOwn.cls yX10_isOwn yX10_isOwn ∈ TBL := TBL_t 627 (by decide +kernel) (by decide +kernel)
theorem cd_X10_needSign : Cond.code yX10_needSign cX10_needSign 2 (some .boolean) ∈ TBL := TBL_t 699 (by decide +kernel) (by decide +kernel)
theorem im_X10_needSign : Cond.instanceMethod yX10_needSign ∈ TBL := TBL_t 697 (by decide +kernel) (by decide +kernel)
theorem sl_X10_needSign : Cond.selects yX10_needSign.cls yX10_needSign yX10_needSign ∈ TBL := TBL_t 698 (by decide +kernel) (by decide +kernel)
theorem cd_X10_needOwn : Cond.code yX10_needOwn cX10_needOwn 2 (some .boolean) ∈ TBL := TBL_t 624 (by decide +kernel) (by decide +kernel)
theorem im_X10_needOwn : Cond.instanceMethod yX10_needOwn ∈ TBL := TBL_t 622 (by decide +kernel) (by decide +kernel)
theorem sl_X10_needOwn : Cond.selects yX10_needOwn.cls yX10_needOwn yX10_needOwn ∈ TBL := TBL_t 623 (by decide +kernel) (by decide +kernel)
theorem cd_X10_needKind : Cond.code yX10_needKind cX10_needKind 2 (some .boolean) ∈ TBL := TBL_t 587 (by decide +kernel) (by decide +kernel)
theorem im_X10_needKind : Cond.instanceMethod yX10_needKind ∈ TBL := TBL_t 585 (by decide +kernel) (by decide +kernel)
theorem sl_X10_needKind : Cond.selects yX10_needKind.cls yX10_needKind yX10_needKind ∈ TBL := TBL_t 586 (by decide +kernel) (by decide +kernel)
theorem cd_X10_fail : Cond.code yX10_fail cX10_fail 2 (some .boolean) ∈ TBL := TBL_t 583 (by decide +kernel) (by decide +kernel)
theorem im_X10_fail : Cond.instanceMethod yX10_fail ∈ TBL := TBL_t 581 (by decide +kernel) (by decide +kernel)
theorem sl_X10_fail : Cond.selects yX10_fail.cls yX10_fail yX10_fail ∈ TBL := TBL_t 582 (by decide +kernel) (by decide +kernel)
theorem cd_X10_failForm : Cond.code yX10_failForm cX10_failForm 1 (some .boolean) ∈ TBL := TBL_t 591 (by decide +kernel) (by decide +kernel)
theorem im_X10_failForm : Cond.instanceMethod yX10_failForm ∈ TBL := TBL_t 589 (by decide +kernel) (by decide +kernel)
theorem sl_X10_failForm : Cond.selects yX10_failForm.cls yX10_failForm yX10_failForm ∈ TBL := TBL_t 590 (by decide +kernel) (by decide +kernel)
theorem cd_X10_advance : Cond.code yX10_advance cX10_advance 3 (some .boolean) ∈ TBL := TBL_t 508 (by decide +kernel) (by decide +kernel)
theorem im_X10_advance : Cond.instanceMethod yX10_advance ∈ TBL := TBL_t 506 (by decide +kernel) (by decide +kernel)
theorem sl_X10_advance : Cond.selects yX10_advance.cls yX10_advance yX10_advance ∈ TBL := TBL_t 507 (by decide +kernel) (by decide +kernel)
theorem cd_X10_isText : Cond.code yX10_isText cX10_isText 1 (some .boolean) ∈ TBL := TBL_t 512 (by decide +kernel) (by decide +kernel)
theorem im_X10_isText : Cond.instanceMethod yX10_isText ∈ TBL := TBL_t 511 (by decide +kernel) (by decide +kernel)
theorem sl_X10_isText : Cond.selects yX10_isText.cls yX10_isText yX10_isText ∈ TBL := TBL_in (List.mem_append_left _ (List.mem_of_getElem? (i := 3) (by decide +kernel))) (by decide +kernel)
theorem cd_X10_isLetter : Cond.code yX10_isLetter cX10_isLetter 1 (some .boolean) ∈ TBL := TBL_t 515 (by decide +kernel) (by decide +kernel)
theorem sm_X10_isLetter : Cond.static yX10_isLetter ∈ TBL := TBL_t 514 (by decide +kernel) (by decide +kernel)
theorem cd_X10_isDigit : Cond.code yX10_isDigit cX10_isDigit 1 (some .boolean) ∈ TBL := TBL_t 571 (by decide +kernel) (by decide +kernel)
theorem sm_X10_isDigit : Cond.static yX10_isDigit ∈ TBL := TBL_t 570 (by decide +kernel) (by decide +kernel)
theorem cd_X10_readWord : Cond.code yX10_readWord cX10_readWord 3 none ∈ TBL := TBL_t 519 (by decide +kernel) (by decide +kernel)
theorem im_X10_readWord : Cond.instanceMethod yX10_readWord ∈ TBL := TBL_t 518 (by decide +kernel) (by decide +kernel)
theorem sl_X10_readWord : Cond.selects yX10_readWord.cls yX10_readWord yX10_readWord ∈ TBL := TBL_in (List.mem_append_left _ (List.mem_of_getElem? (i := 4) (by decide +kernel))) (by decide +kernel)
theorem cd_X10_packName : Cond.code yX10_packName cX10_packName 4 (some .int) ∈ TBL := TBL_t 568 (by decide +kernel) (by decide +kernel)
theorem im_X10_packName : Cond.instanceMethod yX10_packName ∈ TBL := TBL_t 567 (by decide +kernel) (by decide +kernel)
theorem sl_X10_packName : Cond.selects yX10_packName.cls yX10_packName yX10_packName ∈ TBL := TBL_in (List.mem_append_left _ (List.mem_of_getElem? (i := 6) (by decide +kernel))) (by decide +kernel)
theorem cd_X10_findOwn : Cond.code yX10_findOwn cX10_findOwn 5 (some .int) ∈ TBL := TBL_t 523 (by decide +kernel) (by decide +kernel)
theorem im_X10_findOwn : Cond.instanceMethod yX10_findOwn ∈ TBL := TBL_t 522 (by decide +kernel) (by decide +kernel)
theorem sl_X10_findOwn : Cond.selects yX10_findOwn.cls yX10_findOwn yX10_findOwn ∈ TBL := TBL_in (List.mem_append_left _ (List.mem_of_getElem? (i := 5) (by decide +kernel))) (by decide +kernel)
theorem cd_X10_readNumber : Cond.code yX10_readNumber cX10_readNumber 2 none ∈ TBL := TBL_t 575 (by decide +kernel) (by decide +kernel)
theorem im_X10_readNumber : Cond.instanceMethod yX10_readNumber ∈ TBL := TBL_t 574 (by decide +kernel) (by decide +kernel)
theorem sl_X10_readNumber : Cond.selects yX10_readNumber.cls yX10_readNumber yX10_readNumber ∈ TBL := TBL_in (List.mem_append_left _ (List.mem_of_getElem? (i := 7) (by decide +kernel))) (by decide +kernel)
theorem cd_X11_init : Cond.code yX11_init cX11_init 1 none ∈ TBL := TBL_t 26 (by decide +kernel) (by decide +kernel)
theorem cd_X11_feed : Cond.code yX11_feed cX11_feed 6 (some .int) ∈ TBL := TBL_t 469 (by decide +kernel) (by decide +kernel)
theorem im_X11_feed : Cond.instanceMethod yX11_feed ∈ TBL := TBL_t 467 (by decide +kernel) (by decide +kernel)
theorem sl_X11_feed : Cond.selects yX11_feed.cls yX11_feed yX11_feed ∈ TBL := TBL_t 468 (by decide +kernel) (by decide +kernel)
theorem cd_X11_putFour : Cond.code yX11_putFour cX11_putFour 3 none ∈ TBL := TBL_t 477 (by decide +kernel) (by decide +kernel)
theorem im_X11_putFour : Cond.instanceMethod yX11_putFour ∈ TBL := TBL_t 476 (by decide +kernel) (by decide +kernel)
theorem sl_X11_putFour : Cond.selects yX11_putFour.cls yX11_putFour yX11_putFour ∈ TBL := TBL_in (List.mem_append_left _ (List.mem_of_getElem? (i := 1) (by decide +kernel))) (by decide +kernel)
theorem cd_X11_end : Cond.code yX11_end cX11_end 2 (some .boolean) ∈ TBL := TBL_t 481 (by decide +kernel) (by decide +kernel)
theorem im_X11_end : Cond.instanceMethod yX11_end ∈ TBL := TBL_t 479 (by decide +kernel) (by decide +kernel)
theorem sl_X11_end : Cond.selects yX11_end.cls yX11_end yX11_end ∈ TBL := TBL_t 480 (by decide +kernel) (by decide +kernel)
theorem cd_X11_takeTape : Cond.code yX11_takeTape cX11_takeTape 2 (some .int) ∈ TBL := TBL_t 489 (by decide +kernel) (by decide +kernel)
theorem im_X11_takeTape : Cond.instanceMethod yX11_takeTape ∈ TBL := TBL_t 488 (by decide +kernel) (by decide +kernel)
theorem sl_X11_takeTape : Cond.selects yX11_takeTape.cls yX11_takeTape yX11_takeTape ∈ TBL := TBL_in (List.mem_append_left _ (List.mem_of_getElem? (i := 2) (by decide +kernel))) (by decide +kernel)
theorem cd_X11_refuse : Cond.code yX11_refuse cX11_refuse 2 (some .int) ∈ TBL := TBL_t 473 (by decide +kernel) (by decide +kernel)
theorem im_X11_refuse : Cond.instanceMethod yX11_refuse ∈ TBL := TBL_t 472 (by decide +kernel) (by decide +kernel)
theorem sl_X11_refuse : Cond.selects yX11_refuse.cls yX11_refuse yX11_refuse ∈ TBL := TBL_in (List.mem_append_left _ (List.mem_of_getElem? (i := 0) (by decide +kernel))) (by decide +kernel)
theorem cd_X11_lowland : Cond.code yX11_lowland cX11_lowland 3 (some .int) ∈ TBL := TBL_t 485 (by decide +kernel) (by decide +kernel)
theorem im_X11_lowland : Cond.instanceMethod yX11_lowland ∈ TBL := TBL_t 483 (by decide +kernel) (by decide +kernel)
theorem sl_X11_lowland : Cond.selects yX11_lowland.cls yX11_lowland yX11_lowland ∈ TBL := TBL_t 484 (by decide +kernel) (by decide +kernel)
theorem cd_X11_forgetActs : Cond.code yX11_forgetActs cX11_forgetActs 1 none ∈ TBL := TBL_t 752 (by decide +kernel) (by decide +kernel)
theorem im_X11_forgetActs : Cond.instanceMethod yX11_forgetActs ∈ TBL := TBL_t 751 (by decide +kernel) (by decide +kernel)
theorem sl_X11_forgetActs : Cond.selects yX11_forgetActs.cls yX11_forgetActs yX11_forgetActs ∈ TBL := TBL_in (List.mem_append_left _ (List.mem_of_getElem? (i := 34) (by decide +kernel))) (by decide +kernel)
theorem cd_X11_fault : Cond.code yX11_fault cX11_fault 2 (some .int) ∈ TBL := TBL_t 761 (by decide +kernel) (by decide +kernel)
theorem im_X11_fault : Cond.instanceMethod yX11_fault ∈ TBL := TBL_t 759 (by decide +kernel) (by decide +kernel)
theorem sl_X11_fault : Cond.selects yX11_fault.cls yX11_fault yX11_fault ∈ TBL := TBL_t 760 (by decide +kernel) (by decide +kernel)
theorem cd_X11_has : Cond.code yX11_has cX11_has 2 (some .int) ∈ TBL := TBL_t 765 (by decide +kernel) (by decide +kernel)
theorem im_X11_has : Cond.instanceMethod yX11_has ∈ TBL := TBL_t 763 (by decide +kernel) (by decide +kernel)
theorem sl_X11_has : Cond.selects yX11_has.cls yX11_has yX11_has ∈ TBL := TBL_t 764 (by decide +kernel) (by decide +kernel)
theorem cd_X11_letter : Cond.code yX11_letter cX11_letter 4 (some .int) ∈ TBL := TBL_t 863 (by decide +kernel) (by decide +kernel)
theorem im_X11_letter : Cond.instanceMethod yX11_letter ∈ TBL := TBL_t 861 (by decide +kernel) (by decide +kernel)
theorem sl_X11_letter : Cond.selects yX11_letter.cls yX11_letter yX11_letter ∈ TBL := TBL_t 862 (by decide +kernel) (by decide +kernel)
theorem cd_X11_hollow : Cond.code yX11_hollow cX11_hollow 3 (some .int) ∈ TBL := TBL_t 880 (by decide +kernel) (by decide +kernel)
theorem im_X11_hollow : Cond.instanceMethod yX11_hollow ∈ TBL := TBL_t 878 (by decide +kernel) (by decide +kernel)
theorem sl_X11_hollow : Cond.selects yX11_hollow.cls yX11_hollow yX11_hollow ∈ TBL := TBL_t 879 (by decide +kernel) (by decide +kernel)
theorem cd_X11_lake : Cond.code yX11_lake cX11_lake 3 (some .int) ∈ TBL := TBL_t 892 (by decide +kernel) (by decide +kernel)
theorem im_X11_lake : Cond.instanceMethod yX11_lake ∈ TBL := TBL_t 890 (by decide +kernel) (by decide +kernel)
theorem sl_X11_lake : Cond.selects yX11_lake.cls yX11_lake yX11_lake ∈ TBL := TBL_t 891 (by decide +kernel) (by decide +kernel)
theorem cd_X11_owner : Cond.code yX11_owner cX11_owner 3 (some .int) ∈ TBL := TBL_t 905 (by decide +kernel) (by decide +kernel)
theorem im_X11_owner : Cond.instanceMethod yX11_owner ∈ TBL := TBL_t 903 (by decide +kernel) (by decide +kernel)
theorem sl_X11_owner : Cond.selects yX11_owner.cls yX11_owner yX11_owner ∈ TBL := TBL_t 904 (by decide +kernel) (by decide +kernel)
theorem cd_X11_owes : Cond.code yX11_owes cX11_owes 3 (some .int) ∈ TBL := TBL_t 927 (by decide +kernel) (by decide +kernel)
theorem im_X11_owes : Cond.instanceMethod yX11_owes ∈ TBL := TBL_t 925 (by decide +kernel) (by decide +kernel)
theorem sl_X11_owes : Cond.selects yX11_owes.cls yX11_owes yX11_owes ∈ TBL := TBL_t 926 (by decide +kernel) (by decide +kernel)
theorem cd_X11_nightsCanBe : Cond.code yX11_nightsCanBe cX11_nightsCanBe 2 (some .boolean) ∈ TBL := TBL_t 940 (by decide +kernel) (by decide +kernel)
theorem im_X11_nightsCanBe : Cond.instanceMethod yX11_nightsCanBe ∈ TBL := TBL_t 939 (by decide +kernel) (by decide +kernel)
theorem sl_X11_nightsCanBe : Cond.selects yX11_nightsCanBe.cls yX11_nightsCanBe yX11_nightsCanBe ∈ TBL := TBL_in (List.mem_append_left _ (List.mem_of_getElem? (i := 38) (by decide +kernel))) (by decide +kernel)
theorem cd_X11_later : Cond.code yX11_later cX11_later 4 (some .int) ∈ TBL := TBL_t 936 (by decide +kernel) (by decide +kernel)
theorem im_X11_later : Cond.instanceMethod yX11_later ∈ TBL := TBL_t 934 (by decide +kernel) (by decide +kernel)
theorem sl_X11_later : Cond.selects yX11_later.cls yX11_later yX11_later ∈ TBL := TBL_t 935 (by decide +kernel) (by decide +kernel)
theorem cd_X11_broke : Cond.code yX11_broke cX11_broke 3 (some .int) ∈ TBL := TBL_t 953 (by decide +kernel) (by decide +kernel)
theorem im_X11_broke : Cond.instanceMethod yX11_broke ∈ TBL := TBL_t 951 (by decide +kernel) (by decide +kernel)
theorem sl_X11_broke : Cond.selects yX11_broke.cls yX11_broke yX11_broke ∈ TBL := TBL_t 952 (by decide +kernel) (by decide +kernel)
theorem cd_X11_spend : Cond.code yX11_spend cX11_spend 7 (some .int) ∈ TBL := TBL_t 957 (by decide +kernel) (by decide +kernel)
theorem im_X11_spend : Cond.instanceMethod yX11_spend ∈ TBL := TBL_t 955 (by decide +kernel) (by decide +kernel)
theorem sl_X11_spend : Cond.selects yX11_spend.cls yX11_spend yX11_spend ∈ TBL := TBL_t 956 (by decide +kernel) (by decide +kernel)
theorem cd_X11_price : Cond.code yX11_price cX11_price 5 (some .int) ∈ TBL := TBL_t 962 (by decide +kernel) (by decide +kernel)
theorem im_X11_price : Cond.instanceMethod yX11_price ∈ TBL := TBL_t 960 (by decide +kernel) (by decide +kernel)
theorem sl_X11_price : Cond.selects yX11_price.cls yX11_price yX11_price ∈ TBL := TBL_t 961 (by decide +kernel) (by decide +kernel)
theorem cd_X11_moves : Cond.code yX11_moves cX11_moves 2 (some .int) ∈ TBL := TBL_t 993 (by decide +kernel) (by decide +kernel)
theorem im_X11_moves : Cond.instanceMethod yX11_moves ∈ TBL := TBL_t 991 (by decide +kernel) (by decide +kernel)
theorem sl_X11_moves : Cond.selects yX11_moves.cls yX11_moves yX11_moves ∈ TBL := TBL_t 992 (by decide +kernel) (by decide +kernel)
theorem cd_X11_pack : Cond.code yX11_pack cX11_pack 4 (some .int) ∈ TBL := TBL_t 1071 (by decide +kernel) (by decide +kernel)
theorem im_X11_pack : Cond.instanceMethod yX11_pack ∈ TBL := TBL_t 1069 (by decide +kernel) (by decide +kernel)
theorem sl_X11_pack : Cond.selects yX11_pack.cls yX11_pack yX11_pack ∈ TBL := TBL_t 1070 (by decide +kernel) (by decide +kernel)
theorem cd_X11_net : Cond.code yX11_net cX11_net 2 (some .int) ∈ TBL := TBL_t 1091 (by decide +kernel) (by decide +kernel)
theorem im_X11_net : Cond.instanceMethod yX11_net ∈ TBL := TBL_t 1089 (by decide +kernel) (by decide +kernel)
theorem sl_X11_net : Cond.selects yX11_net.cls yX11_net yX11_net ∈ TBL := TBL_t 1090 (by decide +kernel) (by decide +kernel)
theorem cd_X11_settling : Cond.code yX11_settling cX11_settling 1 (some .int) ∈ TBL := TBL_t 1101 (by decide +kernel) (by decide +kernel)
theorem im_X11_settling : Cond.instanceMethod yX11_settling ∈ TBL := TBL_t 1099 (by decide +kernel) (by decide +kernel)
theorem sl_X11_settling : Cond.selects yX11_settling.cls yX11_settling yX11_settling ∈ TBL := TBL_t 1100 (by decide +kernel) (by decide +kernel)
theorem cd_X11_share : Cond.code yX11_share cX11_share 4 (some .int) ∈ TBL := TBL_t 1115 (by decide +kernel) (by decide +kernel)
theorem im_X11_share : Cond.instanceMethod yX11_share ∈ TBL := TBL_t 1113 (by decide +kernel) (by decide +kernel)
theorem sl_X11_share : Cond.selects yX11_share.cls yX11_share yX11_share ∈ TBL := TBL_t 1114 (by decide +kernel) (by decide +kernel)
theorem cd_X11_stood : Cond.code yX11_stood cX11_stood 3 (some .int) ∈ TBL := TBL_t 1136 (by decide +kernel) (by decide +kernel)
theorem im_X11_stood : Cond.instanceMethod yX11_stood ∈ TBL := TBL_t 1134 (by decide +kernel) (by decide +kernel)
theorem sl_X11_stood : Cond.selects yX11_stood.cls yX11_stood yX11_stood ∈ TBL := TBL_t 1135 (by decide +kernel) (by decide +kernel)
theorem cd_X11_tellsStood : Cond.code yX11_tellsStood cX11_tellsStood 3 (some .boolean) ∈ TBL := TBL_t 1140 (by decide +kernel) (by decide +kernel)
theorem im_X11_tellsStood : Cond.instanceMethod yX11_tellsStood ∈ TBL := TBL_t 1139 (by decide +kernel) (by decide +kernel)
theorem sl_X11_tellsStood : Cond.selects yX11_tellsStood.cls yX11_tellsStood yX11_tellsStood ∈ TBL := TBL_in (List.mem_append_left _ (List.mem_of_getElem? (i := 60) (by decide +kernel))) (by decide +kernel)
theorem cd_X11_robbed : Cond.code yX11_robbed cX11_robbed 4 (some .int) ∈ TBL := TBL_t 1144 (by decide +kernel) (by decide +kernel)
theorem im_X11_robbed : Cond.instanceMethod yX11_robbed ∈ TBL := TBL_t 1142 (by decide +kernel) (by decide +kernel)
theorem sl_X11_robbed : Cond.selects yX11_robbed.cls yX11_robbed yX11_robbed ∈ TBL := TBL_t 1143 (by decide +kernel) (by decide +kernel)
theorem cd_X11_stoodIfTaken : Cond.code yX11_stoodIfTaken cX11_stoodIfTaken 5 (some .boolean) ∈ TBL := TBL_t 1148 (by decide +kernel) (by decide +kernel)
theorem im_X11_stoodIfTaken : Cond.instanceMethod yX11_stoodIfTaken ∈ TBL := TBL_t 1147 (by decide +kernel) (by decide +kernel)
theorem sl_X11_stoodIfTaken : Cond.selects yX11_stoodIfTaken.cls yX11_stoodIfTaken yX11_stoodIfTaken ∈ TBL := TBL_in (List.mem_append_left _ (List.mem_of_getElem? (i := 61) (by decide +kernel))) (by decide +kernel)
theorem cd_X11_remember : Cond.code yX11_remember cX11_remember 1 none ∈ TBL := TBL_t 1157 (by decide +kernel) (by decide +kernel)
theorem im_X11_remember : Cond.instanceMethod yX11_remember ∈ TBL := TBL_t 1156 (by decide +kernel) (by decide +kernel)
theorem sl_X11_remember : Cond.selects yX11_remember.cls yX11_remember yX11_remember ∈ TBL := TBL_in (List.mem_append_left _ (List.mem_of_getElem? (i := 62) (by decide +kernel))) (by decide +kernel)
theorem cd_X11_nights : Cond.code yX11_nights cX11_nights 4 (some .int) ∈ TBL := TBL_t 1153 (by decide +kernel) (by decide +kernel)
theorem im_X11_nights : Cond.instanceMethod yX11_nights ∈ TBL := TBL_t 1151 (by decide +kernel) (by decide +kernel)
theorem sl_X11_nights : Cond.selects yX11_nights.cls yX11_nights yX11_nights ∈ TBL := TBL_t 1152 (by decide +kernel) (by decide +kernel)
theorem cd_X11_chance : Cond.code yX11_chance cX11_chance 5 (some .int) ∈ TBL := TBL_t 1170 (by decide +kernel) (by decide +kernel)
theorem im_X11_chance : Cond.instanceMethod yX11_chance ∈ TBL := TBL_t 1168 (by decide +kernel) (by decide +kernel)
theorem sl_X11_chance : Cond.selects yX11_chance.cls yX11_chance yX11_chance ∈ TBL := TBL_t 1169 (by decide +kernel) (by decide +kernel)
theorem cd_X11_draw : Cond.code yX11_draw cX11_draw 2 (some .int) ∈ TBL := TBL_t 1174 (by decide +kernel) (by decide +kernel)
theorem im_X11_draw : Cond.instanceMethod yX11_draw ∈ TBL := TBL_t 1173 (by decide +kernel) (by decide +kernel)
theorem sl_X11_draw : Cond.selects yX11_draw.cls yX11_draw yX11_draw ∈ TBL := TBL_in (List.mem_append_left _ (List.mem_of_getElem? (i := 63) (by decide +kernel))) (by decide +kernel)
theorem cd_X11_move : Cond.code yX11_move cX11_move 3 (some .boolean) ∈ TBL := TBL_t 1180 (by decide +kernel) (by decide +kernel)
theorem im_X11_move : Cond.instanceMethod yX11_move ∈ TBL := TBL_t 1178 (by decide +kernel) (by decide +kernel)
theorem sl_X11_move : Cond.selects yX11_move.cls yX11_move yX11_move ∈ TBL := TBL_t 1179 (by decide +kernel) (by decide +kernel)
theorem cd_X11_pour : Cond.code yX11_pour cX11_pour 3 (some .int) ∈ TBL := TBL_t 1191 (by decide +kernel) (by decide +kernel)
theorem im_X11_pour : Cond.instanceMethod yX11_pour ∈ TBL := TBL_t 1189 (by decide +kernel) (by decide +kernel)
theorem sl_X11_pour : Cond.selects yX11_pour.cls yX11_pour yX11_pour ∈ TBL := TBL_t 1190 (by decide +kernel) (by decide +kernel)
theorem cd_X11_part : Cond.code yX11_part cX11_part 4 (some .int) ∈ TBL := TBL_t 1200 (by decide +kernel) (by decide +kernel)
theorem im_X11_part : Cond.instanceMethod yX11_part ∈ TBL := TBL_t 1198 (by decide +kernel) (by decide +kernel)
theorem sl_X11_part : Cond.selects yX11_part.cls yX11_part yX11_part ∈ TBL := TBL_t 1199 (by decide +kernel) (by decide +kernel)
theorem cd_X11_pay : Cond.code yX11_pay cX11_pay 7 (some .int) ∈ TBL := TBL_t 1208 (by decide +kernel) (by decide +kernel)
theorem im_X11_pay : Cond.instanceMethod yX11_pay ∈ TBL := TBL_t 1206 (by decide +kernel) (by decide +kernel)
theorem sl_X11_pay : Cond.selects yX11_pay.cls yX11_pay yX11_pay ∈ TBL := TBL_t 1207 (by decide +kernel) (by decide +kernel)
theorem cd_X11_strike : Cond.code yX11_strike cX11_strike 4 (some .int) ∈ TBL := TBL_t 1221 (by decide +kernel) (by decide +kernel)
theorem im_X11_strike : Cond.instanceMethod yX11_strike ∈ TBL := TBL_t 1219 (by decide +kernel) (by decide +kernel)
theorem sl_X11_strike : Cond.selects yX11_strike.cls yX11_strike yX11_strike ∈ TBL := TBL_t 1220 (by decide +kernel) (by decide +kernel)
theorem cd_X11_isRing : Cond.code yX11_isRing cX11_isRing 4 (some .boolean) ∈ TBL := TBL_t 1225 (by decide +kernel) (by decide +kernel)
theorem im_X11_isRing : Cond.instanceMethod yX11_isRing ∈ TBL := TBL_t 1224 (by decide +kernel) (by decide +kernel)
theorem sl_X11_isRing : Cond.selects yX11_isRing.cls yX11_isRing yX11_isRing ∈ TBL := TBL_in (List.mem_append_left _ (List.mem_of_getElem? (i := 64) (by decide +kernel))) (by decide +kernel)
theorem cd_X11_debtInRing : Cond.code yX11_debtInRing cX11_debtInRing 4 (some .int) ∈ TBL := TBL_t 1229 (by decide +kernel) (by decide +kernel)
theorem im_X11_debtInRing : Cond.instanceMethod yX11_debtInRing ∈ TBL := TBL_t 1228 (by decide +kernel) (by decide +kernel)
theorem sl_X11_debtInRing : Cond.selects yX11_debtInRing.cls yX11_debtInRing yX11_debtInRing ∈ TBL := TBL_in (List.mem_append_left _ (List.mem_of_getElem? (i := 65) (by decide +kernel))) (by decide +kernel)
theorem cd_X11_undo : Cond.code yX11_undo cX11_undo 1 (some .boolean) ∈ TBL := TBL_t 1234 (by decide +kernel) (by decide +kernel)
theorem im_X11_undo : Cond.instanceMethod yX11_undo ∈ TBL := TBL_t 1232 (by decide +kernel) (by decide +kernel)
theorem sl_X11_undo : Cond.selects yX11_undo.cls yX11_undo yX11_undo ∈ TBL := TBL_t 1233 (by decide +kernel) (by decide +kernel)
theorem cd_X11_seed : Cond.code yX11_seed cX11_seed 2 (some .boolean) ∈ TBL := TBL_t 1246 (by decide +kernel) (by decide +kernel)
theorem im_X11_seed : Cond.instanceMethod yX11_seed ∈ TBL := TBL_t 1244 (by decide +kernel) (by decide +kernel)
theorem sl_X11_seed : Cond.selects yX11_seed.cls yX11_seed yX11_seed ∈ TBL := TBL_t 1245 (by decide +kernel) (by decide +kernel)
theorem cd_X11_kept : Cond.code yX11_kept cX11_kept 3 (some .int) ∈ TBL := TBL_t 1250 (by decide +kernel) (by decide +kernel)
theorem im_X11_kept : Cond.instanceMethod yX11_kept ∈ TBL := TBL_t 1248 (by decide +kernel) (by decide +kernel)
theorem sl_X11_kept : Cond.selects yX11_kept.cls yX11_kept yX11_kept ∈ TBL := TBL_t 1249 (by decide +kernel) (by decide +kernel)
theorem cd_X11_image : Cond.code yX11_image cX11_image 1 (some .int) ∈ TBL := TBL_t 1259 (by decide +kernel) (by decide +kernel)
theorem im_X11_image : Cond.instanceMethod yX11_image ∈ TBL := TBL_t 1257 (by decide +kernel) (by decide +kernel)
theorem sl_X11_image : Cond.selects yX11_image.cls yX11_image yX11_image ∈ TBL := TBL_t 1258 (by decide +kernel) (by decide +kernel)
theorem cd_X11_octet : Cond.code yX11_octet cX11_octet 2 (some .int) ∈ TBL := TBL_t 1279 (by decide +kernel) (by decide +kernel)
theorem im_X11_octet : Cond.instanceMethod yX11_octet ∈ TBL := TBL_t 1277 (by decide +kernel) (by decide +kernel)
theorem sl_X11_octet : Cond.selects yX11_octet.cls yX11_octet yX11_octet ∈ TBL := TBL_t 1278 (by decide +kernel) (by decide +kernel)
theorem cd_X11_on : Cond.code yX11_on cX11_on 2 (some .boolean) ∈ TBL := TBL_t 1283 (by decide +kernel) (by decide +kernel)
theorem im_X11_on : Cond.instanceMethod yX11_on ∈ TBL := TBL_t 1281 (by decide +kernel) (by decide +kernel)
theorem sl_X11_on : Cond.selects yX11_on.cls yX11_on yX11_on ∈ TBL := TBL_t 1282 (by decide +kernel) (by decide +kernel)
theorem cd_X11_status : Cond.code yX11_status cX11_status 2 (some .int) ∈ TBL := TBL_t 1312 (by decide +kernel) (by decide +kernel)
theorem im_X11_status : Cond.instanceMethod yX11_status ∈ TBL := TBL_t 1310 (by decide +kernel) (by decide +kernel)
theorem sl_X11_status : Cond.selects yX11_status.cls yX11_status yX11_status ∈ TBL := TBL_t 1311 (by decide +kernel) (by decide +kernel)
theorem cd_X12_init : Cond.code yX12_init cX12_init 2 none ∈ TBL := TBL_t 1317 (by decide +kernel) (by decide +kernel)
theorem cd_X12_is : Cond.code yX12_is cX12_is 3 (some .boolean) ∈ TBL := TBL_t 1645 (by decide +kernel) (by decide +kernel)
theorem sm_X12_is : Cond.static yX12_is ∈ TBL := TBL_t 1644 (by decide +kernel) (by decide +kernel)
theorem cd_X12_put : Cond.code yX12_put cX12_put 3 none ∈ TBL := TBL_t 1547 (by decide +kernel) (by decide +kernel)
theorem im_X12_put : Cond.instanceMethod yX12_put ∈ TBL := TBL_t 1546 (by decide +kernel) (by decide +kernel)
theorem sl_X12_put : Cond.selects yX12_put.cls yX12_put yX12_put ∈ TBL := TBL_in (List.mem_append_left _ (List.mem_of_getElem? (i := 71) (by decide +kernel))) (by decide +kernel)
theorem cd_X12_feed : Cond.code yX12_feed cX12_feed 6 (some .int) ∈ TBL := TBL_t 1539 (by decide +kernel) (by decide +kernel)
theorem im_X12_feed : Cond.instanceMethod yX12_feed ∈ TBL := TBL_t 1537 (by decide +kernel) (by decide +kernel)
theorem sl_X12_feed : Cond.selects yX12_feed.cls yX12_feed yX12_feed ∈ TBL := TBL_t 1538 (by decide +kernel) (by decide +kernel)
theorem cd_X12_end : Cond.code yX12_end cX12_end 2 (some .boolean) ∈ TBL := TBL_t 1551 (by decide +kernel) (by decide +kernel)
theorem im_X12_end : Cond.instanceMethod yX12_end ∈ TBL := TBL_t 1549 (by decide +kernel) (by decide +kernel)
theorem sl_X12_end : Cond.selects yX12_end.cls yX12_end yX12_end ∈ TBL := TBL_t 1550 (by decide +kernel) (by decide +kernel)
theorem cd_X12_blame : Cond.code yX12_blame cX12_blame 3 none ∈ TBL := TBL_t 1606 (by decide +kernel) (by decide +kernel)
theorem im_X12_blame : Cond.instanceMethod yX12_blame ∈ TBL := TBL_t 1605 (by decide +kernel) (by decide +kernel)
theorem sl_X12_blame : Cond.selects yX12_blame.cls yX12_blame yX12_blame ∈ TBL := TBL_in (List.mem_append_left _ (List.mem_of_getElem? (i := 76) (by decide +kernel))) (by decide +kernel)
theorem cd_X12_isLetter : Cond.code yX12_isLetter cX12_isLetter 1 (some .boolean) ∈ TBL := TBL_t 1562 (by decide +kernel) (by decide +kernel)
theorem sm_X12_isLetter : Cond.static yX12_isLetter ∈ TBL := TBL_t 1561 (by decide +kernel) (by decide +kernel)
theorem cd_X12_isDigit : Cond.code yX12_isDigit cX12_isDigit 1 (some .boolean) ∈ TBL := TBL_t 1565 (by decide +kernel) (by decide +kernel)
theorem sm_X12_isDigit : Cond.static yX12_isDigit ∈ TBL := TBL_t 1564 (by decide +kernel) (by decide +kernel)
theorem cd_X12_lex : Cond.code yX12_lex cX12_lex 1 none ∈ TBL := TBL_t 1602 (by decide +kernel) (by decide +kernel)
theorem im_X12_lex : Cond.instanceMethod yX12_lex ∈ TBL := TBL_t 1601 (by decide +kernel) (by decide +kernel)
theorem sl_X12_lex : Cond.selects yX12_lex.cls yX12_lex yX12_lex ∈ TBL := TBL_in (List.mem_append_left _ (List.mem_of_getElem? (i := 75) (by decide +kernel))) (by decide +kernel)
theorem cd_X12_ahead : Cond.code yX12_ahead cX12_ahead 6 none ∈ TBL := TBL_t 1559 (by decide +kernel) (by decide +kernel)
theorem im_X12_ahead : Cond.instanceMethod yX12_ahead ∈ TBL := TBL_t 1558 (by decide +kernel) (by decide +kernel)
theorem sl_X12_ahead : Cond.selects yX12_ahead.cls yX12_ahead yX12_ahead ∈ TBL := TBL_in (List.mem_append_left _ (List.mem_of_getElem? (i := 72) (by decide +kernel))) (by decide +kernel)
theorem cd_X12_isSign : Cond.code yX12_isSign cX12_isSign 2 (some .boolean) ∈ TBL := TBL_t 1695 (by decide +kernel) (by decide +kernel)
theorem im_X12_isSign : Cond.instanceMethod yX12_isSign ∈ TBL := TBL_t 1694 (by decide +kernel) (by decide +kernel)
theorem sl_X12_isSign : Cond.selects yX12_isSign.cls yX12_isSign yX12_isSign ∈ TBL := TBL_in (List.mem_append_left _ (List.mem_of_getElem? (i := 96) (by decide +kernel))) (by decide +kernel)
theorem cd_X12_isWord : Cond.code yX12_isWord cX12_isWord 3 (some .boolean) ∈ TBL := TBL_t 1610 (by decide +kernel) (by decide +kernel)
theorem im_X12_isWord : Cond.instanceMethod yX12_isWord ∈ TBL := TBL_t 1609 (by decide +kernel) (by decide +kernel)
theorem sl_X12_isWord : Cond.selects yX12_isWord.cls yX12_isWord yX12_isWord ∈ TBL := TBL_in (List.mem_append_left _ (List.mem_of_getElem? (i := 77) (by decide +kernel))) (by decide +kernel)
theorem cd_X12_must : Cond.code yX12_must cX12_must 2 none ∈ TBL := TBL_t 1726 (by decide +kernel) (by decide +kernel)
theorem im_X12_must : Cond.instanceMethod yX12_must ∈ TBL := TBL_t 1725 (by decide +kernel) (by decide +kernel)
theorem sl_X12_must : Cond.selects yX12_must.cls yX12_must yX12_must ∈ TBL := TBL_in (List.mem_append_left _ (List.mem_of_getElem? (i := 103) (by decide +kernel))) (by decide +kernel)
theorem cd_X12_isOwn : Cond.code yX12_isOwn cX12_isOwn 3 (some .boolean) ∈ TBL := TBL_t 1569 (by decide +kernel) (by decide +kernel)
theorem im_X12_isOwn : Cond.instanceMethod yX12_isOwn ∈ TBL := TBL_t 1568 (by decide +kernel) (by decide +kernel)
theorem sl_X12_isOwn : Cond.selects yX12_isOwn.cls yX12_isOwn yX12_isOwn ∈ TBL := TBL_in (List.mem_append_left _ (List.mem_of_getElem? (i := 73) (by decide +kernel))) (by decide +kernel)
theorem cd_X12_manyOf : Cond.code yX12_manyOf cX12_manyOf 3 (some .int) ∈ TBL := TBL_t 1630 (by decide +kernel) (by decide +kernel)
theorem im_X12_manyOf : Cond.instanceMethod yX12_manyOf ∈ TBL := TBL_t 1629 (by decide +kernel) (by decide +kernel)
theorem sl_X12_manyOf : Cond.selects yX12_manyOf.cls yX12_manyOf yX12_manyOf ∈ TBL := TBL_in (List.mem_append_left _ (List.mem_of_getElem? (i := 82) (by decide +kernel))) (by decide +kernel)
theorem cd_X12_nameOf : Cond.code yX12_nameOf cX12_nameOf 4 (some .long) ∈ TBL := TBL_t 1634 (by decide +kernel) (by decide +kernel)
theorem im_X12_nameOf : Cond.instanceMethod yX12_nameOf ∈ TBL := TBL_t 1633 (by decide +kernel) (by decide +kernel)
theorem sl_X12_nameOf : Cond.selects yX12_nameOf.cls yX12_nameOf yX12_nameOf ∈ TBL := TBL_in (List.mem_append_left _ (List.mem_of_getElem? (i := 83) (by decide +kernel))) (by decide +kernel)
theorem cd_X12_named : Cond.code yX12_named cX12_named 5 (some .int) ∈ TBL := TBL_t 1626 (by decide +kernel) (by decide +kernel)
theorem im_X12_named : Cond.instanceMethod yX12_named ∈ TBL := TBL_t 1625 (by decide +kernel) (by decide +kernel)
theorem sl_X12_named : Cond.selects yX12_named.cls yX12_named yX12_named ∈ TBL := TBL_in (List.mem_append_left _ (List.mem_of_getElem? (i := 81) (by decide +kernel))) (by decide +kernel)
theorem cd_X12_number : Cond.code yX12_number cX12_number 4 (some .int) ∈ TBL := TBL_t 1642 (by decide +kernel) (by decide +kernel)
theorem im_X12_number : Cond.instanceMethod yX12_number ∈ TBL := TBL_t 1641 (by decide +kernel) (by decide +kernel)
theorem sl_X12_number : Cond.selects yX12_number.cls yX12_number yX12_number ∈ TBL := TBL_in (List.mem_append_left _ (List.mem_of_getElem? (i := 85) (by decide +kernel))) (by decide +kernel)
theorem cd_X12_add : Cond.code yX12_add cX12_add 3 none ∈ TBL := TBL_t 1703 (by decide +kernel) (by decide +kernel)
theorem im_X12_add : Cond.instanceMethod yX12_add ∈ TBL := TBL_t 1702 (by decide +kernel) (by decide +kernel)
theorem sl_X12_add : Cond.selects yX12_add.cls yX12_add yX12_add ∈ TBL := TBL_in (List.mem_append_left _ (List.mem_of_getElem? (i := 98) (by decide +kernel))) (by decide +kernel)
theorem cd_X12_rank : Cond.code yX12_rank cX12_rank 1 (some .int) ∈ TBL := TBL_t 1714 (by decide +kernel) (by decide +kernel)
theorem sm_X12_rank : Cond.static yX12_rank ∈ TBL := TBL_t 1713 (by decide +kernel) (by decide +kernel)
theorem cd_X12_joins : Cond.code yX12_joins cX12_joins 2 none ∈ TBL := TBL_t 1711 (by decide +kernel) (by decide +kernel)
theorem im_X12_joins : Cond.instanceMethod yX12_joins ∈ TBL := TBL_t 1710 (by decide +kernel) (by decide +kernel)
theorem sl_X12_joins : Cond.selects yX12_joins.cls yX12_joins yX12_joins ∈ TBL := TBL_in (List.mem_append_left _ (List.mem_of_getElem? (i := 100) (by decide +kernel))) (by decide +kernel)
theorem cd_X12_holdsBack : Cond.code yX12_holdsBack cX12_holdsBack 2 none ∈ TBL := TBL_t 1691 (by decide +kernel) (by decide +kernel)
theorem im_X12_holdsBack : Cond.instanceMethod yX12_holdsBack ∈ TBL := TBL_t 1690 (by decide +kernel) (by decide +kernel)
theorem sl_X12_holdsBack : Cond.selects yX12_holdsBack.cls yX12_holdsBack yX12_holdsBack ∈ TBL := TBL_in (List.mem_append_left _ (List.mem_of_getElem? (i := 95) (by decide +kernel))) (by decide +kernel)
theorem cd_X12_pushes : Cond.code yX12_pushes cX12_pushes 2 none ∈ TBL := TBL_t 1680 (by decide +kernel) (by decide +kernel)
theorem im_X12_pushes : Cond.instanceMethod yX12_pushes ∈ TBL := TBL_t 1679 (by decide +kernel) (by decide +kernel)
theorem sl_X12_pushes : Cond.selects yX12_pushes.cls yX12_pushes yX12_pushes ∈ TBL := TBL_in (List.mem_append_left _ (List.mem_of_getElem? (i := 93) (by decide +kernel))) (by decide +kernel)
theorem cd_X12_opens : Cond.code yX12_opens cX12_opens 2 none ∈ TBL := TBL_t 1699 (by decide +kernel) (by decide +kernel)
theorem im_X12_opens : Cond.instanceMethod yX12_opens ∈ TBL := TBL_t 1698 (by decide +kernel) (by decide +kernel)
theorem sl_X12_opens : Cond.selects yX12_opens.cls yX12_opens yX12_opens ∈ TBL := TBL_in (List.mem_append_left _ (List.mem_of_getElem? (i := 97) (by decide +kernel))) (by decide +kernel)
theorem cd_X12_isTest : Cond.code yX12_isTest cX12_isTest 1 (some .boolean) ∈ TBL := TBL_t 1687 (by decide +kernel) (by decide +kernel)
theorem sm_X12_isTest : Cond.static yX12_isTest ∈ TBL := TBL_t 1686 (by decide +kernel) (by decide +kernel)
theorem cd_X12_operand : Cond.code yX12_operand cX12_operand 4 (some .boolean) ∈ TBL := TBL_t 1684 (by decide +kernel) (by decide +kernel)
theorem im_X12_operand : Cond.instanceMethod yX12_operand ∈ TBL := TBL_t 1683 (by decide +kernel) (by decide +kernel)
theorem sl_X12_operand : Cond.selects yX12_operand.cls yX12_operand yX12_operand ∈ TBL := TBL_in (List.mem_append_left _ (List.mem_of_getElem? (i := 94) (by decide +kernel))) (by decide +kernel)
theorem cd_X12_goesOn : Cond.code yX12_goesOn cX12_goesOn 5 (some .boolean) ∈ TBL := TBL_t 1707 (by decide +kernel) (by decide +kernel)
theorem im_X12_goesOn : Cond.instanceMethod yX12_goesOn ∈ TBL := TBL_t 1706 (by decide +kernel) (by decide +kernel)
theorem sl_X12_goesOn : Cond.selects yX12_goesOn.cls yX12_goesOn yX12_goesOn ∈ TBL := TBL_in (List.mem_append_left _ (List.mem_of_getElem? (i := 99) (by decide +kernel))) (by decide +kernel)
theorem cd_X12_reads : Cond.code yX12_reads cX12_reads 3 none ∈ TBL := TBL_t 1676 (by decide +kernel) (by decide +kernel)
theorem im_X12_reads : Cond.instanceMethod yX12_reads ∈ TBL := TBL_t 1675 (by decide +kernel) (by decide +kernel)
theorem sl_X12_reads : Cond.selects yX12_reads.cls yX12_reads yX12_reads ∈ TBL := TBL_in (List.mem_append_left _ (List.mem_of_getElem? (i := 92) (by decide +kernel))) (by decide +kernel)
theorem cd_X12_counts : Cond.code yX12_counts cX12_counts 2 (some .boolean) ∈ TBL := TBL_t 1618 (by decide +kernel) (by decide +kernel)
theorem im_X12_counts : Cond.instanceMethod yX12_counts ∈ TBL := TBL_t 1617 (by decide +kernel) (by decide +kernel)
theorem sl_X12_counts : Cond.selects yX12_counts.cls yX12_counts yX12_counts ∈ TBL := TBL_in (List.mem_append_left _ (List.mem_of_getElem? (i := 79) (by decide +kernel))) (by decide +kernel)
theorem cd_X12_must_ : Cond.code yX12_must_ cX12_must_ 3 none ∈ TBL := TBL_t 1638 (by decide +kernel) (by decide +kernel)
theorem im_X12_must_ : Cond.instanceMethod yX12_must_ ∈ TBL := TBL_t 1637 (by decide +kernel) (by decide +kernel)
theorem sl_X12_must_ : Cond.selects yX12_must_.cls yX12_must_ yX12_must_ ∈ TBL := TBL_in (List.mem_append_left _ (List.mem_of_getElem? (i := 84) (by decide +kernel))) (by decide +kernel)
theorem cd_X12_fresh : Cond.code yX12_fresh cX12_fresh 3 (some .long) ∈ TBL := TBL_t 1622 (by decide +kernel) (by decide +kernel)
theorem im_X12_fresh : Cond.instanceMethod yX12_fresh ∈ TBL := TBL_t 1621 (by decide +kernel) (by decide +kernel)
theorem sl_X12_fresh : Cond.selects yX12_fresh.cls yX12_fresh yX12_fresh ∈ TBL := TBL_in (List.mem_append_left _ (List.mem_of_getElem? (i := 80) (by decide +kernel))) (by decide +kernel)
theorem cd_X12_askedBut : Cond.code yX12_askedBut cX12_askedBut 4 (some .int) ∈ TBL := TBL_t 1661 (by decide +kernel) (by decide +kernel)
theorem im_X12_askedBut : Cond.instanceMethod yX12_askedBut ∈ TBL := TBL_t 1660 (by decide +kernel) (by decide +kernel)
theorem sl_X12_askedBut : Cond.selects yX12_askedBut.cls yX12_askedBut yX12_askedBut ∈ TBL := TBL_in (List.mem_append_left _ (List.mem_of_getElem? (i := 89) (by decide +kernel))) (by decide +kernel)
theorem cd_X12_has2 : Cond.code yX12_has2 cX12_has2 2 (some .boolean) ∈ TBL := TBL_t 1664 (by decide +kernel) (by decide +kernel)
theorem sm_X12_has2 : Cond.static yX12_has2 ∈ TBL := TBL_t 1663 (by decide +kernel) (by decide +kernel)
theorem cd_X12_hollowing : Cond.code yX12_hollowing cX12_hollowing 2 none ∈ TBL := TBL_t 1614 (by decide +kernel) (by decide +kernel)
theorem im_X12_hollowing : Cond.instanceMethod yX12_hollowing ∈ TBL := TBL_t 1613 (by decide +kernel) (by decide +kernel)
theorem sl_X12_hollowing : Cond.selects yX12_hollowing.cls yX12_hollowing yX12_hollowing ∈ TBL := TBL_in (List.mem_append_left _ (List.mem_of_getElem? (i := 78) (by decide +kernel))) (by decide +kernel)
theorem cd_X12_owning : Cond.code yX12_owning cX12_owning 3 none ∈ TBL := TBL_t 1649 (by decide +kernel) (by decide +kernel)
theorem im_X12_owning : Cond.instanceMethod yX12_owning ∈ TBL := TBL_t 1648 (by decide +kernel) (by decide +kernel)
theorem sl_X12_owning : Cond.selects yX12_owning.cls yX12_owning yX12_owning ∈ TBL := TBL_in (List.mem_append_left _ (List.mem_of_getElem? (i := 86) (by decide +kernel))) (by decide +kernel)
theorem cd_X12_without : Cond.code yX12_without cX12_without 6 (some .int) ∈ TBL := TBL_t 1657 (by decide +kernel) (by decide +kernel)
theorem im_X12_without : Cond.instanceMethod yX12_without ∈ TBL := TBL_t 1656 (by decide +kernel) (by decide +kernel)
theorem sl_X12_without : Cond.selects yX12_without.cls yX12_without yX12_without ∈ TBL := TBL_in (List.mem_append_left _ (List.mem_of_getElem? (i := 88) (by decide +kernel))) (by decide +kernel)
theorem cd_X12_laking : Cond.code yX12_laking cX12_laking 2 none ∈ TBL := TBL_t 1653 (by decide +kernel) (by decide +kernel)
theorem im_X12_laking : Cond.instanceMethod yX12_laking ∈ TBL := TBL_t 1652 (by decide +kernel) (by decide +kernel)
theorem sl_X12_laking : Cond.selects yX12_laking.cls yX12_laking yX12_laking ∈ TBL := TBL_in (List.mem_append_left _ (List.mem_of_getElem? (i := 87) (by decide +kernel))) (by decide +kernel)
theorem cd_X12_owing : Cond.code yX12_owing cX12_owing 4 none ∈ TBL := TBL_t 1668 (by decide +kernel) (by decide +kernel)
theorem im_X12_owing : Cond.instanceMethod yX12_owing ∈ TBL := TBL_t 1667 (by decide +kernel) (by decide +kernel)
theorem sl_X12_owing : Cond.selects yX12_owing.cls yX12_owing yX12_owing ∈ TBL := TBL_in (List.mem_append_left _ (List.mem_of_getElem? (i := 90) (by decide +kernel))) (by decide +kernel)
theorem cd_X12_reading : Cond.code yX12_reading cX12_reading 3 none ∈ TBL := TBL_t 1672 (by decide +kernel) (by decide +kernel)
theorem im_X12_reading : Cond.instanceMethod yX12_reading ∈ TBL := TBL_t 1671 (by decide +kernel) (by decide +kernel)
theorem sl_X12_reading : Cond.selects yX12_reading.cls yX12_reading yX12_reading ∈ TBL := TBL_in (List.mem_append_left _ (List.mem_of_getElem? (i := 91) (by decide +kernel))) (by decide +kernel)
theorem cd_X12_telling : Cond.code yX12_telling cX12_telling 3 none ∈ TBL := TBL_t 1718 (by decide +kernel) (by decide +kernel)
theorem im_X12_telling : Cond.instanceMethod yX12_telling ∈ TBL := TBL_t 1717 (by decide +kernel) (by decide +kernel)
theorem sl_X12_telling : Cond.selects yX12_telling.cls yX12_telling yX12_telling ∈ TBL := TBL_in (List.mem_append_left _ (List.mem_of_getElem? (i := 101) (by decide +kernel))) (by decide +kernel)
theorem cd_X12_statement : Cond.code yX12_statement cX12_statement 1 none ∈ TBL := TBL_t 1598 (by decide +kernel) (by decide +kernel)
theorem im_X12_statement : Cond.instanceMethod yX12_statement ∈ TBL := TBL_t 1597 (by decide +kernel) (by decide +kernel)
theorem sl_X12_statement : Cond.selects yX12_statement.cls yX12_statement yX12_statement ∈ TBL := TBL_in (List.mem_append_left _ (List.mem_of_getElem? (i := 74) (by decide +kernel))) (by decide +kernel)
theorem cd_X12_finishes : Cond.code yX12_finishes cX12_finishes 3 none ∈ TBL := TBL_t 1722 (by decide +kernel) (by decide +kernel)
theorem im_X12_finishes : Cond.instanceMethod yX12_finishes ∈ TBL := TBL_t 1721 (by decide +kernel) (by decide +kernel)
theorem sl_X12_finishes : Cond.selects yX12_finishes.cls yX12_finishes yX12_finishes ∈ TBL := TBL_in (List.mem_append_left _ (List.mem_of_getElem? (i := 102) (by decide +kernel))) (by decide +kernel)
theorem cd_X12_lowland : Cond.code yX12_lowland cX12_lowland 2 (some .int) ∈ TBL := TBL_t 1555 (by decide +kernel) (by decide +kernel)
theorem im_X12_lowland : Cond.instanceMethod yX12_lowland ∈ TBL := TBL_t 1553 (by decide +kernel) (by decide +kernel)
theorem sl_X12_lowland : Cond.selects yX12_lowland.cls yX12_lowland yX12_lowland ∈ TBL := TBL_t 1554 (by decide +kernel) (by decide +kernel)
theorem cd_X12_fault : Cond.code yX12_fault cX12_fault 2 (some .int) ∈ TBL := TBL_t 1734 (by decide +kernel) (by decide +kernel)
theorem im_X12_fault : Cond.instanceMethod yX12_fault ∈ TBL := TBL_t 1732 (by decide +kernel) (by decide +kernel)
theorem sl_X12_fault : Cond.selects yX12_fault.cls yX12_fault yX12_fault ∈ TBL := TBL_t 1733 (by decide +kernel) (by decide +kernel)
theorem cd_X12_refuses : Cond.code yX12_refuses cX12_refuses 2 (some .int) ∈ TBL := TBL_t 1543 (by decide +kernel) (by decide +kernel)
theorem im_X12_refuses : Cond.instanceMethod yX12_refuses ∈ TBL := TBL_t 1542 (by decide +kernel) (by decide +kernel)
theorem sl_X12_refuses : Cond.selects yX12_refuses.cls yX12_refuses yX12_refuses ∈ TBL := TBL_in (List.mem_append_left _ (List.mem_of_getElem? (i := 70) (by decide +kernel))) (by decide +kernel)
theorem cd_X12_status : Cond.code yX12_status cX12_status 2 (some .int) ∈ TBL := TBL_t 1738 (by decide +kernel) (by decide +kernel)
theorem im_X12_status : Cond.instanceMethod yX12_status ∈ TBL := TBL_t 1736 (by decide +kernel) (by decide +kernel)
theorem sl_X12_status : Cond.selects yX12_status.cls yX12_status yX12_status ∈ TBL := TBL_t 1737 (by decide +kernel) (by decide +kernel)
theorem cd_X12_copies : Cond.code yX12_copies cX12_copies 4 none ∈ TBL := TBL_t 1750 (by decide +kernel) (by decide +kernel)
theorem im_X12_copies : Cond.instanceMethod yX12_copies ∈ TBL := TBL_t 1749 (by decide +kernel) (by decide +kernel)
theorem sl_X12_copies : Cond.selects yX12_copies.cls yX12_copies yX12_copies ∈ TBL := TBL_in (List.mem_append_left _ (List.mem_of_getElem? (i := 106) (by decide +kernel))) (by decide +kernel)
theorem cd_X12_begin : Cond.code yX12_begin cX12_begin 3 none ∈ TBL := TBL_t 1730 (by decide +kernel) (by decide +kernel)
theorem im_X12_begin : Cond.instanceMethod yX12_begin ∈ TBL := TBL_t 1729 (by decide +kernel) (by decide +kernel)
theorem sl_X12_begin : Cond.selects yX12_begin.cls yX12_begin yX12_begin ∈ TBL := TBL_in (List.mem_append_left _ (List.mem_of_getElem? (i := 104) (by decide +kernel))) (by decide +kernel)
theorem cd_X12_slot : Cond.code yX12_slot cX12_slot 2 (some .int) ∈ TBL := TBL_t 1746 (by decide +kernel) (by decide +kernel)
theorem im_X12_slot : Cond.instanceMethod yX12_slot ∈ TBL := TBL_t 1745 (by decide +kernel) (by decide +kernel)
theorem sl_X12_slot : Cond.selects yX12_slot.cls yX12_slot yX12_slot ∈ TBL := TBL_in (List.mem_append_left _ (List.mem_of_getElem? (i := 105) (by decide +kernel))) (by decide +kernel)
theorem cd_X12_keeps : Cond.code yX12_keeps cX12_keeps 1 none ∈ TBL := TBL_t 1971 (by decide +kernel) (by decide +kernel)
theorem im_X12_keeps : Cond.instanceMethod yX12_keeps ∈ TBL := TBL_t 1970 (by decide +kernel) (by decide +kernel)
theorem sl_X12_keeps : Cond.selects yX12_keeps.cls yX12_keeps yX12_keeps ∈ TBL := TBL_in (List.mem_append_left _ (List.mem_of_getElem? (i := 138) (by decide +kernel))) (by decide +kernel)
theorem cd_X12_undo : Cond.code yX12_undo cX12_undo 1 (some .boolean) ∈ TBL := TBL_t 1742 (by decide +kernel) (by decide +kernel)
theorem im_X12_undo : Cond.instanceMethod yX12_undo ∈ TBL := TBL_t 1740 (by decide +kernel) (by decide +kernel)
theorem sl_X12_undo : Cond.selects yX12_undo.cls yX12_undo yX12_undo ∈ TBL := TBL_t 1741 (by decide +kernel) (by decide +kernel)
theorem cd_X12_held : Cond.code yX12_held cX12_held 2 (some .long) ∈ TBL := TBL_t 1796 (by decide +kernel) (by decide +kernel)
theorem sm_X12_held : Cond.static yX12_held ∈ TBL := TBL_t 1795 (by decide +kernel) (by decide +kernel)
theorem cd_X12_floor : Cond.code yX12_floor cX12_floor 6 (some .long) ∈ TBL := TBL_t 1801 (by decide +kernel) (by decide +kernel)
theorem sm_X12_floor : Cond.static yX12_floor ∈ TBL := TBL_t 1800 (by decide +kernel) (by decide +kernel)
theorem cd_X12_two : Cond.code yX12_two cX12_two 5 (some .long) ∈ TBL := TBL_t 1793 (by decide +kernel) (by decide +kernel)
theorem sm_X12_two : Cond.static yX12_two ∈ TBL := TBL_t 1792 (by decide +kernel) (by decide +kernel)
theorem cd_X12_reckons : Cond.code yX12_reckons cX12_reckons 5 (some .long) ∈ TBL := TBL_t 1790 (by decide +kernel) (by decide +kernel)
theorem im_X12_reckons : Cond.instanceMethod yX12_reckons ∈ TBL := TBL_t 1789 (by decide +kernel) (by decide +kernel)
theorem sl_X12_reckons : Cond.selects yX12_reckons.cls yX12_reckons yX12_reckons ∈ TBL := TBL_in (List.mem_append_left _ (List.mem_of_getElem? (i := 115) (by decide +kernel))) (by decide +kernel)
theorem cd_X12_isTold : Cond.code yX12_isTold cX12_isTold 2 (some .boolean) ∈ TBL := TBL_t 1774 (by decide +kernel) (by decide +kernel)
theorem im_X12_isTold : Cond.instanceMethod yX12_isTold ∈ TBL := TBL_t 1773 (by decide +kernel) (by decide +kernel)
theorem sl_X12_isTold : Cond.selects yX12_isTold.cls yX12_isTold yX12_isTold ∈ TBL := TBL_in (List.mem_append_left _ (List.mem_of_getElem? (i := 111) (by decide +kernel))) (by decide +kernel)
theorem cd_X12_fill : Cond.code yX12_fill cX12_fill 3 (some .int) ∈ TBL := TBL_t 1758 (by decide +kernel) (by decide +kernel)
theorem im_X12_fill : Cond.instanceMethod yX12_fill ∈ TBL := TBL_t 1757 (by decide +kernel) (by decide +kernel)
theorem sl_X12_fill : Cond.selects yX12_fill.cls yX12_fill yX12_fill ∈ TBL := TBL_in (List.mem_append_left _ (List.mem_of_getElem? (i := 107) (by decide +kernel))) (by decide +kernel)
theorem cd_X12_liesIn : Cond.code yX12_liesIn cX12_liesIn 3 (some .int) ∈ TBL := TBL_t 1778 (by decide +kernel) (by decide +kernel)
theorem im_X12_liesIn : Cond.instanceMethod yX12_liesIn ∈ TBL := TBL_t 1777 (by decide +kernel) (by decide +kernel)
theorem sl_X12_liesIn : Cond.selects yX12_liesIn.cls yX12_liesIn yX12_liesIn ∈ TBL := TBL_in (List.mem_append_left _ (List.mem_of_getElem? (i := 112) (by decide +kernel))) (by decide +kernel)
theorem cd_X12_ownerOf : Cond.code yX12_ownerOf cX12_ownerOf 3 (some .int) ∈ TBL := TBL_t 1839 (by decide +kernel) (by decide +kernel)
theorem im_X12_ownerOf : Cond.instanceMethod yX12_ownerOf ∈ TBL := TBL_t 1838 (by decide +kernel) (by decide +kernel)
theorem sl_X12_ownerOf : Cond.selects yX12_ownerOf.cls yX12_ownerOf yX12_ownerOf ∈ TBL := TBL_in (List.mem_append_left _ (List.mem_of_getElem? (i := 121) (by decide +kernel))) (by decide +kernel)
theorem cd_X12_beside : Cond.code yX12_beside cX12_beside 6 (some .int) ∈ TBL := TBL_t 1786 (by decide +kernel) (by decide +kernel)
theorem im_X12_beside : Cond.instanceMethod yX12_beside ∈ TBL := TBL_t 1785 (by decide +kernel) (by decide +kernel)
theorem sl_X12_beside : Cond.selects yX12_beside.cls yX12_beside yX12_beside ∈ TBL := TBL_in (List.mem_append_left _ (List.mem_of_getElem? (i := 114) (by decide +kernel))) (by decide +kernel)
theorem cd_X12_room : Cond.code yX12_room cX12_room 5 (some .int) ∈ TBL := TBL_t 1827 (by decide +kernel) (by decide +kernel)
theorem im_X12_room : Cond.instanceMethod yX12_room ∈ TBL := TBL_t 1826 (by decide +kernel) (by decide +kernel)
theorem sl_X12_room : Cond.selects yX12_room.cls yX12_room yX12_room ∈ TBL := TBL_in (List.mem_append_left _ (List.mem_of_getElem? (i := 119) (by decide +kernel))) (by decide +kernel)
theorem cd_X12_asks : Cond.code yX12_asks cX12_asks 4 none ∈ TBL := TBL_t 1782 (by decide +kernel) (by decide +kernel)
theorem im_X12_asks : Cond.instanceMethod yX12_asks ∈ TBL := TBL_t 1781 (by decide +kernel) (by decide +kernel)
theorem sl_X12_asks : Cond.selects yX12_asks.cls yX12_asks yX12_asks ∈ TBL := TBL_in (List.mem_append_left _ (List.mem_of_getElem? (i := 113) (by decide +kernel))) (by decide +kernel)
theorem cd_X12_leaking : Cond.code yX12_leaking cX12_leaking 6 (some .int) ∈ TBL := TBL_t 1843 (by decide +kernel) (by decide +kernel)
theorem im_X12_leaking : Cond.instanceMethod yX12_leaking ∈ TBL := TBL_t 1842 (by decide +kernel) (by decide +kernel)
theorem sl_X12_leaking : Cond.selects yX12_leaking.cls yX12_leaking yX12_leaking ∈ TBL := TBL_in (List.mem_append_left _ (List.mem_of_getElem? (i := 122) (by decide +kernel))) (by decide +kernel)
theorem cd_X12_worth : Cond.code yX12_worth cX12_worth 5 (some .int) ∈ TBL := TBL_t 1770 (by decide +kernel) (by decide +kernel)
theorem im_X12_worth : Cond.instanceMethod yX12_worth ∈ TBL := TBL_t 1769 (by decide +kernel) (by decide +kernel)
theorem sl_X12_worth : Cond.selects yX12_worth.cls yX12_worth yX12_worth ∈ TBL := TBL_in (List.mem_append_left _ (List.mem_of_getElem? (i := 110) (by decide +kernel))) (by decide +kernel)
theorem cd_X12_steps : Cond.code yX12_steps cX12_steps 3 (some .int) ∈ TBL := TBL_t 1919 (by decide +kernel) (by decide +kernel)
theorem im_X12_steps : Cond.instanceMethod yX12_steps ∈ TBL := TBL_t 1918 (by decide +kernel) (by decide +kernel)
theorem sl_X12_steps : Cond.selects yX12_steps.cls yX12_steps yX12_steps ∈ TBL := TBL_in (List.mem_append_left _ (List.mem_of_getElem? (i := 133) (by decide +kernel))) (by decide +kernel)
theorem cd_X12_canMove : Cond.code yX12_canMove cX12_canMove 4 (some .boolean) ∈ TBL := TBL_t 1915 (by decide +kernel) (by decide +kernel)
theorem im_X12_canMove : Cond.instanceMethod yX12_canMove ∈ TBL := TBL_t 1914 (by decide +kernel) (by decide +kernel)
theorem sl_X12_canMove : Cond.selects yX12_canMove.cls yX12_canMove yX12_canMove ∈ TBL := TBL_in (List.mem_append_left _ (List.mem_of_getElem? (i := 132) (by decide +kernel))) (by decide +kernel)
theorem cd_X12_sets : Cond.code yX12_sets cX12_sets 5 none ∈ TBL := TBL_t 1879 (by decide +kernel) (by decide +kernel)
theorem im_X12_sets : Cond.instanceMethod yX12_sets ∈ TBL := TBL_t 1878 (by decide +kernel) (by decide +kernel)
theorem sl_X12_sets : Cond.selects yX12_sets.cls yX12_sets yX12_sets ∈ TBL := TBL_in (List.mem_append_left _ (List.mem_of_getElem? (i := 128) (by decide +kernel))) (by decide +kernel)
theorem cd_X12_passes : Cond.code yX12_passes cX12_passes 5 (some .int) ∈ TBL := TBL_t 1875 (by decide +kernel) (by decide +kernel)
theorem im_X12_passes : Cond.instanceMethod yX12_passes ∈ TBL := TBL_t 1874 (by decide +kernel) (by decide +kernel)
theorem sl_X12_passes : Cond.selects yX12_passes.cls yX12_passes yX12_passes ∈ TBL := TBL_in (List.mem_append_left _ (List.mem_of_getElem? (i := 127) (by decide +kernel))) (by decide +kernel)
theorem cd_X12_isHollow : Cond.code yX12_isHollow cX12_isHollow 2 (some .boolean) ∈ TBL := TBL_t 1823 (by decide +kernel) (by decide +kernel)
theorem im_X12_isHollow : Cond.instanceMethod yX12_isHollow ∈ TBL := TBL_t 1822 (by decide +kernel) (by decide +kernel)
theorem sl_X12_isHollow : Cond.selects yX12_isHollow.cls yX12_isHollow yX12_isHollow ∈ TBL := TBL_in (List.mem_append_left _ (List.mem_of_getElem? (i := 118) (by decide +kernel))) (by decide +kernel)
theorem cd_X12_isOwner : Cond.code yX12_isOwner cX12_isOwner 2 (some .boolean) ∈ TBL := TBL_t 1851 (by decide +kernel) (by decide +kernel)
theorem im_X12_isOwner : Cond.instanceMethod yX12_isOwner ∈ TBL := TBL_t 1850 (by decide +kernel) (by decide +kernel)
theorem sl_X12_isOwner : Cond.selects yX12_isOwner.cls yX12_isOwner yX12_isOwner ∈ TBL := TBL_in (List.mem_append_left _ (List.mem_of_getElem? (i := 123) (by decide +kernel))) (by decide +kernel)
theorem cd_X12_isLake : Cond.code yX12_isLake cX12_isLake 2 (some .boolean) ∈ TBL := TBL_t 1835 (by decide +kernel) (by decide +kernel)
theorem im_X12_isLake : Cond.instanceMethod yX12_isLake ∈ TBL := TBL_t 1834 (by decide +kernel) (by decide +kernel)
theorem sl_X12_isLake : Cond.selects yX12_isLake.cls yX12_isLake yX12_isLake ∈ TBL := TBL_in (List.mem_append_left _ (List.mem_of_getElem? (i := 120) (by decide +kernel))) (by decide +kernel)
theorem cd_X12_lakesOf : Cond.code yX12_lakesOf cX12_lakesOf 5 (some .int) ∈ TBL := TBL_t 1855 (by decide +kernel) (by decide +kernel)
theorem im_X12_lakesOf : Cond.instanceMethod yX12_lakesOf ∈ TBL := TBL_t 1854 (by decide +kernel) (by decide +kernel)
theorem sl_X12_lakesOf : Cond.selects yX12_lakesOf.cls yX12_lakesOf yX12_lakesOf ∈ TBL := TBL_in (List.mem_append_left _ (List.mem_of_getElem? (i := 124) (by decide +kernel))) (by decide +kernel)
theorem cd_X12_worthOf : Cond.code yX12_worthOf cX12_worthOf 5 (some .int) ∈ TBL := TBL_t 1766 (by decide +kernel) (by decide +kernel)
theorem im_X12_worthOf : Cond.instanceMethod yX12_worthOf ∈ TBL := TBL_t 1765 (by decide +kernel) (by decide +kernel)
theorem sl_X12_worthOf : Cond.selects yX12_worthOf.cls yX12_worthOf yX12_worthOf ∈ TBL := TBL_in (List.mem_append_left _ (List.mem_of_getElem? (i := 109) (by decide +kernel))) (by decide +kernel)
theorem cd_X12_allLakes : Cond.code yX12_allLakes cX12_allLakes 1 (some .int) ∈ TBL := TBL_t 1762 (by decide +kernel) (by decide +kernel)
theorem im_X12_allLakes : Cond.instanceMethod yX12_allLakes ∈ TBL := TBL_t 1761 (by decide +kernel) (by decide +kernel)
theorem sl_X12_allLakes : Cond.selects yX12_allLakes.cls yX12_allLakes yX12_allLakes ∈ TBL := TBL_in (List.mem_append_left _ (List.mem_of_getElem? (i := 108) (by decide +kernel))) (by decide +kernel)
theorem cd_X12_debt : Cond.code yX12_debt cX12_debt 3 (some .int) ∈ TBL := TBL_t 1810 (by decide +kernel) (by decide +kernel)
theorem im_X12_debt : Cond.instanceMethod yX12_debt ∈ TBL := TBL_t 1809 (by decide +kernel) (by decide +kernel)
theorem sl_X12_debt : Cond.selects yX12_debt.cls yX12_debt yX12_debt ∈ TBL := TBL_in (List.mem_append_left _ (List.mem_of_getElem? (i := 117) (by decide +kernel))) (by decide +kernel)
theorem cd_X12_owed : Cond.code yX12_owed cX12_owed 5 (some .int) ∈ TBL := TBL_t 1806 (by decide +kernel) (by decide +kernel)
theorem im_X12_owed : Cond.instanceMethod yX12_owed ∈ TBL := TBL_t 1805 (by decide +kernel) (by decide +kernel)
theorem sl_X12_owed : Cond.selects yX12_owed.cls yX12_owed yX12_owed ∈ TBL := TBL_in (List.mem_append_left _ (List.mem_of_getElem? (i := 116) (by decide +kernel))) (by decide +kernel)
theorem cd_X12_isBroke : Cond.code yX12_isBroke cX12_isBroke 3 (some .boolean) ∈ TBL := TBL_t 1859 (by decide +kernel) (by decide +kernel)
theorem im_X12_isBroke : Cond.instanceMethod yX12_isBroke ∈ TBL := TBL_t 1858 (by decide +kernel) (by decide +kernel)
theorem sl_X12_isBroke : Cond.selects yX12_isBroke.cls yX12_isBroke yX12_isBroke ∈ TBL := TBL_in (List.mem_append_left _ (List.mem_of_getElem? (i := 125) (by decide +kernel))) (by decide +kernel)
theorem cd_X12_bits : Cond.code yX12_bits cX12_bits 3 (some .int) ∈ TBL := TBL_t 1895 (by decide +kernel) (by decide +kernel)
theorem sm_X12_bits : Cond.static yX12_bits ∈ TBL := TBL_t 1894 (by decide +kernel) (by decide +kernel)
theorem cd_X12_has : Cond.code yX12_has cX12_has 4 (some .int) ∈ TBL := TBL_t 1754 (by decide +kernel) (by decide +kernel)
theorem im_X12_has : Cond.instanceMethod yX12_has ∈ TBL := TBL_t 1752 (by decide +kernel) (by decide +kernel)
theorem sl_X12_has : Cond.selects yX12_has.cls yX12_has yX12_has ∈ TBL := TBL_t 1753 (by decide +kernel) (by decide +kernel)
theorem cd_X12_letter : Cond.code yX12_letter cX12_letter 9 (some .int) ∈ TBL := TBL_t 1814 (by decide +kernel) (by decide +kernel)
theorem im_X12_letter : Cond.instanceMethod yX12_letter ∈ TBL := TBL_t 1812 (by decide +kernel) (by decide +kernel)
theorem sl_X12_letter : Cond.selects yX12_letter.cls yX12_letter yX12_letter ∈ TBL := TBL_t 1813 (by decide +kernel) (by decide +kernel)
theorem cd_X12_hollow : Cond.code yX12_hollow cX12_hollow 5 (some .int) ∈ TBL := TBL_t 1819 (by decide +kernel) (by decide +kernel)
theorem im_X12_hollow : Cond.instanceMethod yX12_hollow ∈ TBL := TBL_t 1817 (by decide +kernel) (by decide +kernel)
theorem sl_X12_hollow : Cond.selects yX12_hollow.cls yX12_hollow yX12_hollow ∈ TBL := TBL_t 1818 (by decide +kernel) (by decide +kernel)
theorem cd_X12_lake : Cond.code yX12_lake cX12_lake 3 (some .int) ∈ TBL := TBL_t 1831 (by decide +kernel) (by decide +kernel)
theorem im_X12_lake : Cond.instanceMethod yX12_lake ∈ TBL := TBL_t 1829 (by decide +kernel) (by decide +kernel)
theorem sl_X12_lake : Cond.selects yX12_lake.cls yX12_lake yX12_lake ∈ TBL := TBL_t 1830 (by decide +kernel) (by decide +kernel)
theorem cd_X12_owner : Cond.code yX12_owner cX12_owner 3 (some .int) ∈ TBL := TBL_t 1847 (by decide +kernel) (by decide +kernel)
theorem im_X12_owner : Cond.instanceMethod yX12_owner ∈ TBL := TBL_t 1845 (by decide +kernel) (by decide +kernel)
theorem sl_X12_owner : Cond.selects yX12_owner.cls yX12_owner yX12_owner ∈ TBL := TBL_t 1846 (by decide +kernel) (by decide +kernel)
theorem cd_X12_owes : Cond.code yX12_owes cX12_owes 3 (some .int) ∈ TBL := TBL_t 1863 (by decide +kernel) (by decide +kernel)
theorem im_X12_owes : Cond.instanceMethod yX12_owes ∈ TBL := TBL_t 1861 (by decide +kernel) (by decide +kernel)
theorem sl_X12_owes : Cond.selects yX12_owes.cls yX12_owes yX12_owes ∈ TBL := TBL_t 1862 (by decide +kernel) (by decide +kernel)
theorem cd_X12_isAhead : Cond.code yX12_isAhead cX12_isAhead 3 (some .boolean) ∈ TBL := TBL_t 1871 (by decide +kernel) (by decide +kernel)
theorem im_X12_isAhead : Cond.instanceMethod yX12_isAhead ∈ TBL := TBL_t 1870 (by decide +kernel) (by decide +kernel)
theorem sl_X12_isAhead : Cond.selects yX12_isAhead.cls yX12_isAhead yX12_isAhead ∈ TBL := TBL_in (List.mem_append_left _ (List.mem_of_getElem? (i := 126) (by decide +kernel))) (by decide +kernel)
theorem cd_X12_later : Cond.code yX12_later cX12_later 4 (some .int) ∈ TBL := TBL_t 1867 (by decide +kernel) (by decide +kernel)
theorem im_X12_later : Cond.instanceMethod yX12_later ∈ TBL := TBL_t 1865 (by decide +kernel) (by decide +kernel)
theorem sl_X12_later : Cond.selects yX12_later.cls yX12_later yX12_later ∈ TBL := TBL_t 1866 (by decide +kernel) (by decide +kernel)
theorem cd_X12_broke : Cond.code yX12_broke cX12_broke 3 (some .int) ∈ TBL := TBL_t 1883 (by decide +kernel) (by decide +kernel)
theorem im_X12_broke : Cond.instanceMethod yX12_broke ∈ TBL := TBL_t 1881 (by decide +kernel) (by decide +kernel)
theorem sl_X12_broke : Cond.selects yX12_broke.cls yX12_broke yX12_broke ∈ TBL := TBL_t 1882 (by decide +kernel) (by decide +kernel)
theorem cd_X12_spend : Cond.code yX12_spend cX12_spend 6 (some .int) ∈ TBL := TBL_t 1887 (by decide +kernel) (by decide +kernel)
theorem im_X12_spend : Cond.instanceMethod yX12_spend ∈ TBL := TBL_t 1885 (by decide +kernel) (by decide +kernel)
theorem sl_X12_spend : Cond.selects yX12_spend.cls yX12_spend yX12_spend ∈ TBL := TBL_t 1886 (by decide +kernel) (by decide +kernel)
theorem cd_X12_price : Cond.code yX12_price cX12_price 9 (some .int) ∈ TBL := TBL_t 1891 (by decide +kernel) (by decide +kernel)
theorem im_X12_price : Cond.instanceMethod yX12_price ∈ TBL := TBL_t 1889 (by decide +kernel) (by decide +kernel)
theorem sl_X12_price : Cond.selects yX12_price.cls yX12_price yX12_price ∈ TBL := TBL_t 1890 (by decide +kernel) (by decide +kernel)
theorem cd_X12_astray : Cond.code yX12_astray cX12_astray 4 (some .int) ∈ TBL := TBL_t 1907 (by decide +kernel) (by decide +kernel)
theorem im_X12_astray : Cond.instanceMethod yX12_astray ∈ TBL := TBL_t 1906 (by decide +kernel) (by decide +kernel)
theorem sl_X12_astray : Cond.selects yX12_astray.cls yX12_astray yX12_astray ∈ TBL := TBL_in (List.mem_append_left _ (List.mem_of_getElem? (i := 130) (by decide +kernel))) (by decide +kernel)
theorem cd_X12_movesNext : Cond.code yX12_movesNext cX12_movesNext 7 (some .boolean) ∈ TBL := TBL_t 1911 (by decide +kernel) (by decide +kernel)
theorem im_X12_movesNext : Cond.instanceMethod yX12_movesNext ∈ TBL := TBL_t 1910 (by decide +kernel) (by decide +kernel)
theorem sl_X12_movesNext : Cond.selects yX12_movesNext.cls yX12_movesNext yX12_movesNext ∈ TBL := TBL_in (List.mem_append_left _ (List.mem_of_getElem? (i := 131) (by decide +kernel))) (by decide +kernel)
theorem cd_X12_isEnough : Cond.code yX12_isEnough cX12_isEnough 3 (some .boolean) ∈ TBL := TBL_t 1903 (by decide +kernel) (by decide +kernel)
theorem im_X12_isEnough : Cond.instanceMethod yX12_isEnough ∈ TBL := TBL_t 1902 (by decide +kernel) (by decide +kernel)
theorem sl_X12_isEnough : Cond.selects yX12_isEnough.cls yX12_isEnough yX12_isEnough ∈ TBL := TBL_in (List.mem_append_left _ (List.mem_of_getElem? (i := 129) (by decide +kernel))) (by decide +kernel)
theorem cd_X12_moves : Cond.code yX12_moves cX12_moves 4 (some .int) ∈ TBL := TBL_t 1899 (by decide +kernel) (by decide +kernel)
theorem im_X12_moves : Cond.instanceMethod yX12_moves ∈ TBL := TBL_t 1897 (by decide +kernel) (by decide +kernel)
theorem sl_X12_moves : Cond.selects yX12_moves.cls yX12_moves yX12_moves ∈ TBL := TBL_t 1898 (by decide +kernel) (by decide +kernel)
theorem cd_X12_lowest : Cond.code yX12_lowest cX12_lowest 2 (some .int) ∈ TBL := TBL_t 1926 (by decide +kernel) (by decide +kernel)
theorem sm_X12_lowest : Cond.static yX12_lowest ∈ TBL := TBL_t 1925 (by decide +kernel) (by decide +kernel)
theorem cd_X12_pack : Cond.code yX12_pack cX12_pack 11 (some .int) ∈ TBL := TBL_t 1923 (by decide +kernel) (by decide +kernel)
theorem im_X12_pack : Cond.instanceMethod yX12_pack ∈ TBL := TBL_t 1921 (by decide +kernel) (by decide +kernel)
theorem sl_X12_pack : Cond.selects yX12_pack.cls yX12_pack yX12_pack ∈ TBL := TBL_t 1922 (by decide +kernel) (by decide +kernel)
theorem cd_X12_netOf : Cond.code yX12_netOf cX12_netOf 2 (some .int) ∈ TBL := TBL_t 1934 (by decide +kernel) (by decide +kernel)
theorem im_X12_netOf : Cond.instanceMethod yX12_netOf ∈ TBL := TBL_t 1933 (by decide +kernel) (by decide +kernel)
theorem sl_X12_netOf : Cond.selects yX12_netOf.cls yX12_netOf yX12_netOf ∈ TBL := TBL_in (List.mem_append_left _ (List.mem_of_getElem? (i := 134) (by decide +kernel))) (by decide +kernel)
theorem cd_X12_net : Cond.code yX12_net cX12_net 2 (some .int) ∈ TBL := TBL_t 1930 (by decide +kernel) (by decide +kernel)
theorem im_X12_net : Cond.instanceMethod yX12_net ∈ TBL := TBL_t 1928 (by decide +kernel) (by decide +kernel)
theorem sl_X12_net : Cond.selects yX12_net.cls yX12_net yX12_net ∈ TBL := TBL_t 1929 (by decide +kernel) (by decide +kernel)
theorem cd_X12_settling : Cond.code yX12_settling cX12_settling 6 (some .int) ∈ TBL := TBL_t 1939 (by decide +kernel) (by decide +kernel)
theorem im_X12_settling : Cond.instanceMethod yX12_settling ∈ TBL := TBL_t 1937 (by decide +kernel) (by decide +kernel)
theorem sl_X12_settling : Cond.selects yX12_settling.cls yX12_settling yX12_settling ∈ TBL := TBL_t 1938 (by decide +kernel) (by decide +kernel)
theorem cd_X12_apart : Cond.code yX12_apart cX12_apart 8 (some .int) ∈ TBL := TBL_t 1947 (by decide +kernel) (by decide +kernel)
theorem im_X12_apart : Cond.instanceMethod yX12_apart ∈ TBL := TBL_t 1946 (by decide +kernel) (by decide +kernel)
theorem sl_X12_apart : Cond.selects yX12_apart.cls yX12_apart yX12_apart ∈ TBL := TBL_in (List.mem_append_left _ (List.mem_of_getElem? (i := 135) (by decide +kernel))) (by decide +kernel)
theorem cd_X12_share : Cond.code yX12_share cX12_share 9 (some .int) ∈ TBL := TBL_t 1943 (by decide +kernel) (by decide +kernel)
theorem im_X12_share : Cond.instanceMethod yX12_share ∈ TBL := TBL_t 1941 (by decide +kernel) (by decide +kernel)
theorem sl_X12_share : Cond.selects yX12_share.cls yX12_share yX12_share ∈ TBL := TBL_t 1942 (by decide +kernel) (by decide +kernel)
theorem cd_X12_stood : Cond.code yX12_stood cX12_stood 4 (some .int) ∈ TBL := TBL_t 1951 (by decide +kernel) (by decide +kernel)
theorem im_X12_stood : Cond.instanceMethod yX12_stood ∈ TBL := TBL_t 1949 (by decide +kernel) (by decide +kernel)
theorem sl_X12_stood : Cond.selects yX12_stood.cls yX12_stood yX12_stood ∈ TBL := TBL_t 1950 (by decide +kernel) (by decide +kernel)
theorem cd_X12_isAsStood : Cond.code yX12_isAsStood cX12_isAsStood 2 (some .boolean) ∈ TBL := TBL_t 1963 (by decide +kernel) (by decide +kernel)
theorem im_X12_isAsStood : Cond.instanceMethod yX12_isAsStood ∈ TBL := TBL_t 1962 (by decide +kernel) (by decide +kernel)
theorem sl_X12_isAsStood : Cond.selects yX12_isAsStood.cls yX12_isAsStood yX12_isAsStood ∈ TBL := TBL_in (List.mem_append_left _ (List.mem_of_getElem? (i := 137) (by decide +kernel))) (by decide +kernel)
theorem cd_X12_robbed : Cond.code yX12_robbed cX12_robbed 5 (some .int) ∈ TBL := TBL_t 1959 (by decide +kernel) (by decide +kernel)
theorem im_X12_robbed : Cond.instanceMethod yX12_robbed ∈ TBL := TBL_t 1957 (by decide +kernel) (by decide +kernel)
theorem sl_X12_robbed : Cond.selects yX12_robbed.cls yX12_robbed yX12_robbed ∈ TBL := TBL_t 1958 (by decide +kernel) (by decide +kernel)
theorem cd_X12_nights : Cond.code yX12_nights cX12_nights 4 (some .int) ∈ TBL := TBL_t 1967 (by decide +kernel) (by decide +kernel)
theorem im_X12_nights : Cond.instanceMethod yX12_nights ∈ TBL := TBL_t 1965 (by decide +kernel) (by decide +kernel)
theorem sl_X12_nights : Cond.selects yX12_nights.cls yX12_nights yX12_nights ∈ TBL := TBL_t 1966 (by decide +kernel) (by decide +kernel)
theorem cd_X12_draw : Cond.code yX12_draw cX12_draw 2 (some .int) ∈ TBL := TBL_t 1979 (by decide +kernel) (by decide +kernel)
theorem im_X12_draw : Cond.instanceMethod yX12_draw ∈ TBL := TBL_t 1978 (by decide +kernel) (by decide +kernel)
theorem sl_X12_draw : Cond.selects yX12_draw.cls yX12_draw yX12_draw ∈ TBL := TBL_in (List.mem_append_left _ (List.mem_of_getElem? (i := 139) (by decide +kernel))) (by decide +kernel)
theorem cd_X12_chance : Cond.code yX12_chance cX12_chance 5 (some .int) ∈ TBL := TBL_t 1975 (by decide +kernel) (by decide +kernel)
theorem im_X12_chance : Cond.instanceMethod yX12_chance ∈ TBL := TBL_t 1973 (by decide +kernel) (by decide +kernel)
theorem sl_X12_chance : Cond.selects yX12_chance.cls yX12_chance yX12_chance ∈ TBL := TBL_t 1974 (by decide +kernel) (by decide +kernel)
theorem cd_X12_move : Cond.code yX12_move cX12_move 3 (some .boolean) ∈ TBL := TBL_t 1987 (by decide +kernel) (by decide +kernel)
theorem im_X12_move : Cond.instanceMethod yX12_move ∈ TBL := TBL_t 1985 (by decide +kernel) (by decide +kernel)
theorem sl_X12_move : Cond.selects yX12_move.cls yX12_move yX12_move ∈ TBL := TBL_t 1986 (by decide +kernel) (by decide +kernel)
theorem cd_X12_pour : Cond.code yX12_pour cX12_pour 4 (some .int) ∈ TBL := TBL_t 1991 (by decide +kernel) (by decide +kernel)
theorem im_X12_pour : Cond.instanceMethod yX12_pour ∈ TBL := TBL_t 1989 (by decide +kernel) (by decide +kernel)
theorem sl_X12_pour : Cond.selects yX12_pour.cls yX12_pour yX12_pour ∈ TBL := TBL_t 1990 (by decide +kernel) (by decide +kernel)
theorem cd_X12_part : Cond.code yX12_part cX12_part 4 (some .int) ∈ TBL := TBL_t 1995 (by decide +kernel) (by decide +kernel)
theorem im_X12_part : Cond.instanceMethod yX12_part ∈ TBL := TBL_t 1993 (by decide +kernel) (by decide +kernel)
theorem sl_X12_part : Cond.selects yX12_part.cls yX12_part yX12_part ∈ TBL := TBL_t 1994 (by decide +kernel) (by decide +kernel)
theorem cd_X12_writesDown : Cond.code yX12_writesDown cX12_writesDown 5 none ∈ TBL := TBL_t 2003 (by decide +kernel) (by decide +kernel)
theorem im_X12_writesDown : Cond.instanceMethod yX12_writesDown ∈ TBL := TBL_t 2002 (by decide +kernel) (by decide +kernel)
theorem sl_X12_writesDown : Cond.selects yX12_writesDown.cls yX12_writesDown yX12_writesDown ∈ TBL := TBL_in (List.mem_append_left _ (List.mem_of_getElem? (i := 140) (by decide +kernel))) (by decide +kernel)
theorem cd_X12_pay : Cond.code yX12_pay cX12_pay 7 (some .int) ∈ TBL := TBL_t 1999 (by decide +kernel) (by decide +kernel)
theorem im_X12_pay : Cond.instanceMethod yX12_pay ∈ TBL := TBL_t 1997 (by decide +kernel) (by decide +kernel)
theorem sl_X12_pay : Cond.selects yX12_pay.cls yX12_pay yX12_pay ∈ TBL := TBL_t 1998 (by decide +kernel) (by decide +kernel)
theorem cd_X12_strike : Cond.code yX12_strike cX12_strike 7 (some .int) ∈ TBL := TBL_t 2007 (by decide +kernel) (by decide +kernel)
theorem im_X12_strike : Cond.instanceMethod yX12_strike ∈ TBL := TBL_t 2005 (by decide +kernel) (by decide +kernel)
theorem sl_X12_strike : Cond.selects yX12_strike.cls yX12_strike yX12_strike ∈ TBL := TBL_t 2006 (by decide +kernel) (by decide +kernel)
theorem cd_X12_seed : Cond.code yX12_seed cX12_seed 2 (some .boolean) ∈ TBL := TBL_t 2011 (by decide +kernel) (by decide +kernel)
theorem im_X12_seed : Cond.instanceMethod yX12_seed ∈ TBL := TBL_t 2009 (by decide +kernel) (by decide +kernel)
theorem sl_X12_seed : Cond.selects yX12_seed.cls yX12_seed yX12_seed ∈ TBL := TBL_t 2010 (by decide +kernel) (by decide +kernel)
theorem cd_X12_kept : Cond.code yX12_kept cX12_kept 3 (some .int) ∈ TBL := TBL_t 2015 (by decide +kernel) (by decide +kernel)
theorem im_X12_kept : Cond.instanceMethod yX12_kept ∈ TBL := TBL_t 2013 (by decide +kernel) (by decide +kernel)
theorem sl_X12_kept : Cond.selects yX12_kept.cls yX12_kept yX12_kept ∈ TBL := TBL_t 2014 (by decide +kernel) (by decide +kernel)
theorem cd_X12_writes : Cond.code yX12_writes cX12_writes 2 none ∈ TBL := TBL_t 2027 (by decide +kernel) (by decide +kernel)
theorem im_X12_writes : Cond.instanceMethod yX12_writes ∈ TBL := TBL_t 2026 (by decide +kernel) (by decide +kernel)
theorem sl_X12_writes : Cond.selects yX12_writes.cls yX12_writes yX12_writes ∈ TBL := TBL_in (List.mem_append_left _ (List.mem_of_getElem? (i := 142) (by decide +kernel))) (by decide +kernel)
theorem cd_X12_writesTwo : Cond.code yX12_writesTwo cX12_writesTwo 2 none ∈ TBL := TBL_t 2023 (by decide +kernel) (by decide +kernel)
theorem im_X12_writesTwo : Cond.instanceMethod yX12_writesTwo ∈ TBL := TBL_t 2022 (by decide +kernel) (by decide +kernel)
theorem sl_X12_writesTwo : Cond.selects yX12_writesTwo.cls yX12_writesTwo yX12_writesTwo ∈ TBL := TBL_in (List.mem_append_left _ (List.mem_of_getElem? (i := 141) (by decide +kernel))) (by decide +kernel)
theorem cd_X12_image : Cond.code yX12_image cX12_image 3 (some .int) ∈ TBL := TBL_t 2019 (by decide +kernel) (by decide +kernel)
theorem im_X12_image : Cond.instanceMethod yX12_image ∈ TBL := TBL_t 2017 (by decide +kernel) (by decide +kernel)
theorem sl_X12_image : Cond.selects yX12_image.cls yX12_image yX12_image ∈ TBL := TBL_t 2018 (by decide +kernel) (by decide +kernel)
theorem cd_X12_octet : Cond.code yX12_octet cX12_octet 2 (some .int) ∈ TBL := TBL_t 2031 (by decide +kernel) (by decide +kernel)
theorem im_X12_octet : Cond.instanceMethod yX12_octet ∈ TBL := TBL_t 2029 (by decide +kernel) (by decide +kernel)
theorem sl_X12_octet : Cond.selects yX12_octet.cls yX12_octet yX12_octet ∈ TBL := TBL_t 2030 (by decide +kernel) (by decide +kernel)
theorem cd_X12_twoBytes : Cond.code yX12_twoBytes cX12_twoBytes 2 (some .int) ∈ TBL := TBL_t 1955 (by decide +kernel) (by decide +kernel)
theorem im_X12_twoBytes : Cond.instanceMethod yX12_twoBytes ∈ TBL := TBL_t 1954 (by decide +kernel) (by decide +kernel)
theorem sl_X12_twoBytes : Cond.selects yX12_twoBytes.cls yX12_twoBytes yX12_twoBytes ∈ TBL := TBL_in (List.mem_append_left _ (List.mem_of_getElem? (i := 136) (by decide +kernel))) (by decide +kernel)
theorem cd_X12_lakeOn : Cond.code yX12_lakeOn cX12_lakeOn 6 (some .boolean) ∈ TBL := TBL_t 2043 (by decide +kernel) (by decide +kernel)
theorem im_X12_lakeOn : Cond.instanceMethod yX12_lakeOn ∈ TBL := TBL_t 2042 (by decide +kernel) (by decide +kernel)
theorem sl_X12_lakeOn : Cond.selects yX12_lakeOn.cls yX12_lakeOn yX12_lakeOn ∈ TBL := TBL_in (List.mem_append_left _ (List.mem_of_getElem? (i := 144) (by decide +kernel))) (by decide +kernel)
theorem cd_X12_comesOn : Cond.code yX12_comesOn cX12_comesOn 8 (some .boolean) ∈ TBL := TBL_t 2039 (by decide +kernel) (by decide +kernel)
theorem im_X12_comesOn : Cond.instanceMethod yX12_comesOn ∈ TBL := TBL_t 2038 (by decide +kernel) (by decide +kernel)
theorem sl_X12_comesOn : Cond.selects yX12_comesOn.cls yX12_comesOn yX12_comesOn ∈ TBL := TBL_in (List.mem_append_left _ (List.mem_of_getElem? (i := 143) (by decide +kernel))) (by decide +kernel)
theorem cd_X12_on : Cond.code yX12_on cX12_on 2 (some .boolean) ∈ TBL := TBL_t 2035 (by decide +kernel) (by decide +kernel)
theorem im_X12_on : Cond.instanceMethod yX12_on ∈ TBL := TBL_t 2033 (by decide +kernel) (by decide +kernel)
theorem sl_X12_on : Cond.selects yX12_on.cls yX12_on yX12_on ∈ TBL := TBL_t 2034 (by decide +kernel) (by decide +kernel)
theorem cd_J6_bitCount_0f7a4 : Cond.code yJ6_bitCount_0f7a4 cJ6_bitCount_0f7a4 1 (some .int) ∈ TBL := TBL_t 982 (by decide +kernel) (by decide +kernel)
theorem sm_J6_bitCount_0f7a4 : Cond.static yJ6_bitCount_0f7a4 ∈ TBL := TBL_t 981 (by decide +kernel) (by decide +kernel)
theorem cd_J9_floorDiv_f86c9 : Cond.code yJ9_floorDiv_f86c9 cJ9_floorDiv_f86c9 6 (some .long) ∈ TBL := TBL_t 830 (by decide +kernel) (by decide +kernel)
theorem sm_J9_floorDiv_f86c9 : Cond.static yJ9_floorDiv_f86c9 ∈ TBL := TBL_t 829 (by decide +kernel) (by decide +kernel)
theorem cd_J9_floorMod_f86c9 : Cond.code yJ9_floorMod_f86c9 cJ9_floorMod_f86c9 6 (some .long) ∈ TBL := TBL_t 833 (by decide +kernel) (by decide +kernel)
theorem sm_J9_floorMod_f86c9 : Cond.static yJ9_floorMod_f86c9 ∈ TBL := TBL_t 832 (by decide +kernel) (by decide +kernel)
theorem cd_J9_abs_0f7a4 : Cond.code yJ9_abs_0f7a4 cJ9_abs_0f7a4 1 (some .int) ∈ TBL := TBL_t 1041 (by decide +kernel) (by decide +kernel)
theorem sm_J9_abs_0f7a4 : Cond.static yJ9_abs_0f7a4 ∈ TBL := TBL_t 1040 (by decide +kernel) (by decide +kernel)
theorem cd_J9_max_7cf53 : Cond.code yJ9_max_7cf53 cJ9_max_7cf53 2 (some .int) ∈ TBL := TBL_t 812 (by decide +kernel) (by decide +kernel)
theorem sm_J9_max_7cf53 : Cond.static yJ9_max_7cf53 ∈ TBL := TBL_t 811 (by decide +kernel) (by decide +kernel)
theorem cd_J9_max_f86c9 : Cond.code yJ9_max_f86c9 cJ9_max_f86c9 4 (some .long) ∈ TBL := TBL_t 839 (by decide +kernel) (by decide +kernel)
theorem sm_J9_max_f86c9 : Cond.static yJ9_max_f86c9 ∈ TBL := TBL_t 838 (by decide +kernel) (by decide +kernel)
theorem cd_J9_min_7cf53 : Cond.code yJ9_min_7cf53 cJ9_min_7cf53 2 (some .int) ∈ TBL := TBL_t 809 (by decide +kernel) (by decide +kernel)
theorem sm_J9_min_7cf53 : Cond.static yJ9_min_7cf53 ∈ TBL := TBL_t 808 (by decide +kernel) (by decide +kernel)
theorem cd_J9_min_f86c9 : Cond.code yJ9_min_f86c9 cJ9_min_f86c9 4 (some .long) ∈ TBL := TBL_t 836 (by decide +kernel) (by decide +kernel)
theorem sm_J9_min_f86c9 : Cond.static yJ9_min_f86c9 ∈ TBL := TBL_t 835 (by decide +kernel) (by decide +kernel)
theorem cd_J0_charAt_5068e : Cond.code yJ0_charAt_5068e cJ0_charAt_5068e 2 (some .char) ∈ TBL := TBL_t 528 (by decide +kernel) (by decide +kernel)
theorem im_J0_charAt_5068e : Cond.instanceMethod yJ0_charAt_5068e ∈ TBL := TBL_t 526 (by decide +kernel) (by decide +kernel)
theorem sl_J0_charAt_5068e : Cond.selects yJ0_charAt_5068e.cls yJ0_charAt_5068e yJ0_charAt_5068e ∈ TBL := TBL_t 527 (by decide +kernel) (by decide +kernel)
theorem cd_J0_isLatin1_aae02 : Cond.code yJ0_isLatin1_aae02 cJ0_isLatin1_aae02 1 (some .boolean) ∈ TBL := TBL_t 532 (by decide +kernel) (by decide +kernel)
theorem im_J0_isLatin1_aae02 : Cond.instanceMethod yJ0_isLatin1_aae02 ∈ TBL := TBL_t 530 (by decide +kernel) (by decide +kernel)
theorem sl_J0_isLatin1_aae02 : Cond.selects yJ0_isLatin1_aae02.cls yJ0_isLatin1_aae02 yJ0_isLatin1_aae02 ∈ TBL := TBL_t 531 (by decide +kernel) (by decide +kernel)
theorem cd_J0_checkIndex_df160 : Cond.code yJ0_checkIndex_df160 cJ0_checkIndex_df160 2 none ∈ TBL := TBL_t 540 (by decide +kernel) (by decide +kernel)
theorem sm_J0_checkIndex_df160 : Cond.static yJ0_checkIndex_df160 ∈ TBL := TBL_t 539 (by decide +kernel) (by decide +kernel)
theorem cd_J1_charAt_3b067 : Cond.code yJ1_charAt_3b067 cJ1_charAt_3b067 2 (some .char) ∈ TBL := TBL_t 537 (by decide +kernel) (by decide +kernel)
theorem sm_J1_charAt_3b067 : Cond.static yJ1_charAt_3b067 ∈ TBL := TBL_t 536 (by decide +kernel) (by decide +kernel)
theorem cd_J2_getChar_3b067 : Cond.code yJ2_getChar_3b067 cJ2_getChar_3b067 2 (some .char) ∈ TBL := TBL_t 558 (by decide +kernel) (by decide +kernel)
theorem sm_J2_getChar_3b067 : Cond.static yJ2_getChar_3b067 ∈ TBL := TBL_t 557 (by decide +kernel) (by decide +kernel)
theorem cd_J2_length_9d52b : Cond.code yJ2_length_9d52b cJ2_length_9d52b 1 (some .int) ∈ TBL := TBL_t 554 (by decide +kernel) (by decide +kernel)
theorem sm_J2_length_9d52b : Cond.static yJ2_length_9d52b ∈ TBL := TBL_t 553 (by decide +kernel) (by decide +kernel)
theorem cd_J2_charAt_3b067 : Cond.code yJ2_charAt_3b067 cJ2_charAt_3b067 2 (some .char) ∈ TBL := TBL_t 548 (by decide +kernel) (by decide +kernel)
theorem sm_J2_charAt_3b067 : Cond.static yJ2_charAt_3b067 ∈ TBL := TBL_t 547 (by decide +kernel) (by decide +kernel)
theorem cd_J2_checkIndex_2214a : Cond.code yJ2_checkIndex_2214a cJ2_checkIndex_2214a 2 none ∈ TBL := TBL_t 551 (by decide +kernel) (by decide +kernel)
theorem sm_J2_checkIndex_2214a : Cond.static yJ2_checkIndex_2214a ∈ TBL := TBL_t 550 (by decide +kernel) (by decide +kernel)
theorem cd_J7_fill_53178 : Cond.code yJ7_fill_53178 cJ7_fill_53178 4 none ∈ TBL := TBL_t 500 (by decide +kernel) (by decide +kernel)
theorem sm_J7_fill_53178 : Cond.static yJ7_fill_53178 ∈ TBL := TBL_t 499 (by decide +kernel) (by decide +kernel)
theorem cd_J3_checkIndex_8e157 : Cond.code yJ3_checkIndex_8e157 cJ3_checkIndex_8e157 3 (some .int) ∈ TBL := TBL_t 545 (by decide +kernel) (by decide +kernel)
theorem sm_J3_checkIndex_8e157 : Cond.static yJ3_checkIndex_8e157 ∈ TBL := TBL_t 544 (by decide +kernel) (by decide +kernel)
theorem fl_X11_9 : FL RX11 9 11 0 := ⟨RX11, TX11, 19, rfl, by decide, rfl, by decide, cw11, TBL_t 408 (by decide +kernel) (by decide +kernel), rfl⟩
theorem fl_X11_16 : FL RX11 16 11 2 := ⟨RX11, TX11, 19, rfl, by decide, rfl, by decide, cw11, TBL_t 410 (by decide +kernel) (by decide +kernel), rfl⟩
theorem fl_X11_20 : FL RX11 20 11 3 := ⟨RX11, TX11, 19, rfl, by decide, rfl, by decide, cw11, TBL_t 411 (by decide +kernel) (by decide +kernel), rfl⟩
theorem fl_X11_28 : FL RX11 28 11 4 := ⟨RX11, TX11, 19, rfl, by decide, rfl, by decide, cw11, TBL_t 412 (by decide +kernel) (by decide +kernel), rfl⟩
theorem fl_X11_32 : FL RX11 32 11 6 := ⟨RX11, TX11, 19, rfl, by decide, rfl, by decide, cw11, TBL_t 414 (by decide +kernel) (by decide +kernel), rfl⟩
theorem fl_X11_39 : FL RX11 39 11 7 := ⟨RX11, TX11, 19, rfl, by decide, rfl, by decide, cw11, TBL_t 415 (by decide +kernel) (by decide +kernel), rfl⟩
theorem fl_X11_43 : FL RX11 43 11 8 := ⟨RX11, TX11, 19, rfl, by decide, rfl, by decide, cw11, TBL_t 416 (by decide +kernel) (by decide +kernel), rfl⟩
theorem fl_X11_49 : FL RX11 49 11 9 := ⟨RX11, TX11, 19, rfl, by decide, rfl, by decide, cw11, TBL_t 417 (by decide +kernel) (by decide +kernel), rfl⟩
theorem fl_X11_56 : FL RX11 56 11 10 := ⟨RX11, TX11, 19, rfl, by decide, rfl, by decide, cw11, TBL_t 418 (by decide +kernel) (by decide +kernel), rfl⟩
theorem fl_X11_63 : FL RX11 63 11 11 := ⟨RX11, TX11, 19, rfl, by decide, rfl, by decide, cw11, TBL_t 419 (by decide +kernel) (by decide +kernel), rfl⟩
theorem fl_X11_70 : FL RX11 70 11 12 := ⟨RX11, TX11, 19, rfl, by decide, rfl, by decide, cw11, TBL_t 420 (by decide +kernel) (by decide +kernel), rfl⟩
theorem fl_X11_77 : FL RX11 77 11 13 := ⟨RX11, TX11, 19, rfl, by decide, rfl, by decide, cw11, TBL_t 421 (by decide +kernel) (by decide +kernel), rfl⟩
theorem fl_X11_81 : FL RX11 81 11 14 := ⟨RX11, TX11, 19, rfl, by decide, rfl, by decide, cw11, TBL_t 422 (by decide +kernel) (by decide +kernel), rfl⟩
theorem fl_X11_84 : FL RX11 84 11 15 := ⟨RX11, TX11, 19, rfl, by decide, rfl, by decide, cw11, TBL_t 423 (by decide +kernel) (by decide +kernel), rfl⟩
theorem fl_X11_87 : FL RX11 87 11 17 := ⟨RX11, TX11, 19, rfl, by decide, rfl, by decide, cw11, TBL_t 425 (by decide +kernel) (by decide +kernel), rfl⟩
theorem fl_X11_90 : FL RX11 90 11 18 := ⟨RX11, TX11, 19, rfl, by decide, rfl, by decide, cw11, TBL_t 426 (by decide +kernel) (by decide +kernel), rfl⟩
theorem ml_X11_93 : MLv RX11 93 yX9_begin cX9_begin 3 none 1 := ⟨TBL_t 397 (by decide +kernel) (by decide +kernel), im_X9_begin, sl_X9_begin, ini_RX9, cd_X9_begin, ⟨by decide +kernel, by decide +kernel, by decide +kernel⟩, by decide⟩
theorem fl_X11_97 : FL RX11 97 11 1 := ⟨RX11, TX11, 19, rfl, by decide, rfl, by decide, cw11, TBL_t 409 (by decide +kernel) (by decide +kernel), rfl⟩
theorem ml_X11_100 : MLv RX11 100 yX11_refuse cX11_refuse 2 (some .int) 1 := ⟨TBL_t 470 (by decide +kernel) (by decide +kernel), im_X11_refuse, sl_X11_refuse, ini_RX11, cd_X11_refuse, ⟨by decide +kernel, by decide +kernel, by decide +kernel⟩, by decide⟩
theorem ml_X11_104 : MLv RX11 104 yX11_putFour cX11_putFour 3 none 1 := ⟨TBL_t 474 (by decide +kernel) (by decide +kernel), im_X11_putFour, sl_X11_putFour, ini_RX11, cd_X11_putFour, ⟨by decide +kernel, by decide +kernel, by decide +kernel⟩, by decide⟩
theorem ml_X11_108 : MLv RX11 108 yX11_takeTape cX11_takeTape 2 (some .int) 0 := ⟨TBL_t 486 (by decide +kernel) (by decide +kernel), im_X11_takeTape, sl_X11_takeTape, ini_RX11, cd_X11_takeTape, ⟨by decide +kernel, by decide +kernel, by decide +kernel⟩, by decide⟩
theorem ml_X11_112 : MLv RX11 112 yX7_readAll cX7_readAll 4 (some .boolean) 2 := ⟨TBL_t 490 (by decide +kernel) (by decide +kernel), im_X7_readAll, sl_X7_readAll, ini_RX7, cd_X7_readAll, ⟨by decide +kernel, by decide +kernel, by decide +kernel⟩, by decide⟩
theorem fl_X11_116 : FL RX11 116 7 0 := ⟨RX7, TX7, 4, rfl, by decide, rfl, by decide, cw7, TBL_t 208 (by decide +kernel) (by decide +kernel), rfl⟩
theorem fl_X11_120 : FL RX11 120 10 7 := ⟨RX10, TX10, 9, rfl, by decide, rfl, by decide, cw10, TBL_t 168 (by decide +kernel) (by decide +kernel), rfl⟩
theorem fl_X11_125 : FL RX11 125 11 5 := ⟨RX11, TX11, 19, rfl, by decide, rfl, by decide, cw11, TBL_t 413 (by decide +kernel) (by decide +kernel), rfl⟩
theorem fl_X11_126 : FL RX11 126 10 8 := ⟨RX10, TX10, 9, rfl, by decide, rfl, by decide, cw10, TBL_t 170 (by decide +kernel) (by decide +kernel), rfl⟩
theorem ml_X11_127 : MLv RX11 127 yX11_forgetActs cX11_forgetActs 1 none 0 := ⟨TBL_t 749 (by decide +kernel) (by decide +kernel), im_X11_forgetActs, sl_X11_forgetActs, ini_RX11, cd_X11_forgetActs, ⟨by decide +kernel, by decide +kernel, by decide +kernel⟩, by decide⟩
theorem fl_X11_130 : FL RX11 130 11 16 := ⟨RX11, TX11, 19, rfl, by decide, rfl, by decide, cw11, TBL_t 424 (by decide +kernel) (by decide +kernel), rfl⟩
theorem fl_X11_133 : FL RX11 133 2 0 := ⟨RX2, TX2, 19, rfl, by decide, rfl, by decide, cw2, TBL_t 38 (by decide +kernel) (by decide +kernel), rfl⟩
theorem ml_X11_136 : MLv RX11 136 yX1_forget cX1_forget 1 none 0 := ⟨TBL_t 753 (by decide +kernel) (by decide +kernel), im_X1_forget, sl_X1_forget, ini_RX1, cd_X1_forget, ⟨by decide +kernel, by decide +kernel, by decide +kernel⟩, by decide⟩
theorem fl_X11_139 : FL RX11 139 5 1 := ⟨RX5, TX5, 2, rfl, by decide, rfl, by decide, cw5, TBL_t 316 (by decide +kernel) (by decide +kernel), rfl⟩
theorem fl_X11_142 : FL RX11 142 2 1 := ⟨RX2, TX2, 19, rfl, by decide, rfl, by decide, cw2, TBL_t 45 (by decide +kernel) (by decide +kernel), rfl⟩
theorem fl_X11_145 : FL RX11 145 2 2 := ⟨RX2, TX2, 19, rfl, by decide, rfl, by decide, cw2, TBL_t 50 (by decide +kernel) (by decide +kernel), rfl⟩
theorem fl_X11_148 : FL RX11 148 2 3 := ⟨RX2, TX2, 19, rfl, by decide, rfl, by decide, cw2, TBL_t 58 (by decide +kernel) (by decide +kernel), rfl⟩
theorem fl_X11_151 : FL RX11 151 9 1 := ⟨RX9, TX9, 8, rfl, by decide, rfl, by decide, cw9, TBL_t 249 (by decide +kernel) (by decide +kernel), rfl⟩
theorem ml_X11_154 : MLv RX11 154 yX9_standing cX9_standing 3 (some .int) 0 := ⟨TBL_t 766 (by decide +kernel) (by decide +kernel), im_X9_standing, sl_X9_standing, ini_RX9, cd_X9_standing, ⟨by decide +kernel, by decide +kernel, by decide +kernel⟩, by decide⟩
theorem ml_X11_157 : MLv RX11 157 yX9_allBarrels cX9_allBarrels 3 (some .int) 0 := ⟨TBL_t 770 (by decide +kernel) (by decide +kernel), im_X9_allBarrels, sl_X9_allBarrels, ini_RX9, cd_X9_allBarrels, ⟨by decide +kernel, by decide +kernel, by decide +kernel⟩, by decide⟩
theorem ml_X11_160 : MLv RX11 160 yX9_worthOfAll cX9_worthOfAll 1 (some .int) 0 := ⟨TBL_t 774 (by decide +kernel) (by decide +kernel), im_X9_worthOfAll, sl_X9_worthOfAll, ini_RX9, cd_X9_worthOfAll, ⟨by decide +kernel, by decide +kernel, by decide +kernel⟩, by decide⟩
theorem ml_X11_163 : MLv RX11 163 yX9_allDebts cX9_allDebts 3 (some .int) 0 := ⟨TBL_t 847 (by decide +kernel) (by decide +kernel), im_X9_allDebts, sl_X9_allDebts, ini_RX9, cd_X9_allDebts, ⟨by decide +kernel, by decide +kernel, by decide +kernel⟩, by decide⟩
theorem ml_X11_166 : MLv RX11 166 yX5_count cX5_count 1 (some .int) 0 := ⟨TBL_t 855 (by decide +kernel) (by decide +kernel), im_X5_count, sl_X5_count, ini_RX5, cd_X5_count, ⟨by decide +kernel, by decide +kernel, by decide +kernel⟩, by decide⟩
theorem fl_X11_169 : FL RX11 169 1 3 := ⟨RX1, TX1, 4, rfl, by decide, rfl, by decide, cw1, TBL_t 298 (by decide +kernel) (by decide +kernel), rfl⟩
theorem ml_X11_172 : MLv RX11 172 yX9_isHollow cX9_isHollow 2 (some .boolean) 1 := ⟨TBL_t 864 (by decide +kernel) (by decide +kernel), im_X9_isHollow, sl_X9_isHollow, ini_RX9, cd_X9_isHollow, ⟨by decide +kernel, by decide +kernel, by decide +kernel⟩, by decide⟩
theorem fl_X11_176 : FL RX11 176 2 6 := ⟨RX2, TX2, 19, rfl, by decide, rfl, by decide, cw2, TBL_t 68 (by decide +kernel) (by decide +kernel), rfl⟩
theorem ml_X11_179 : MLv RX11 179 yX2_letterOf cX2_letterOf 3 (some .int) 2 := ⟨TBL_t 868 (by decide +kernel) (by decide +kernel), im_X2_letterOf, sl_X2_letterOf, ini_RX2, cd_X2_letterOf, ⟨by decide +kernel, by decide +kernel, by decide +kernel⟩, by decide⟩
theorem ml_X11_183 : MLv RX11 183 yX9_isOwner cX9_isOwner 2 (some .boolean) 1 := ⟨TBL_t 872 (by decide +kernel) (by decide +kernel), im_X9_isOwner, sl_X9_isOwner, ini_RX9, cd_X9_isOwner, ⟨by decide +kernel, by decide +kernel, by decide +kernel⟩, by decide⟩
theorem fl_X11_186 : FL RX11 186 2 7 := ⟨RX2, TX2, 19, rfl, by decide, rfl, by decide, cw2, TBL_t 71 (by decide +kernel) (by decide +kernel), rfl⟩
theorem ml_X11_189 : MLv RX11 189 yX9_isLake cX9_isLake 2 (some .boolean) 1 := ⟨TBL_t 876 (by decide +kernel) (by decide +kernel), im_X9_isLake, sl_X9_isLake, ini_RX9, cd_X9_isLake, ⟨by decide +kernel, by decide +kernel, by decide +kernel⟩, by decide⟩
theorem fl_X11_192 : FL RX11 192 2 8 := ⟨RX2, TX2, 19, rfl, by decide, rfl, by decide, cw2, TBL_t 74 (by decide +kernel) (by decide +kernel), rfl⟩
theorem fl_X11_195 : FL RX11 195 2 9 := ⟨RX2, TX2, 19, rfl, by decide, rfl, by decide, cw2, TBL_t 77 (by decide +kernel) (by decide +kernel), rfl⟩
theorem fl_X11_198 : FL RX11 198 2 10 := ⟨RX2, TX2, 19, rfl, by decide, rfl, by decide, cw2, TBL_t 81 (by decide +kernel) (by decide +kernel), rfl⟩
theorem ml_X11_201 : MLv RX11 201 yX9_roomIn cX9_roomIn 4 (some .int) 1 := ⟨TBL_t 881 (by decide +kernel) (by decide +kernel), im_X9_roomIn, sl_X9_roomIn, ini_RX9, cd_X9_roomIn, ⟨by decide +kernel, by decide +kernel, by decide +kernel⟩, by decide⟩
theorem ml_X11_204 : MLv RX11 204 yX9_lakesIn cX9_lakesIn 4 (some .int) 1 := ⟨TBL_t 885 (by decide +kernel) (by decide +kernel), im_X9_lakesIn, sl_X9_lakesIn, ini_RX9, cd_X9_lakesIn, ⟨by decide +kernel, by decide +kernel, by decide +kernel⟩, by decide⟩
theorem fl_X11_207 : FL RX11 207 9 2 := ⟨RX9, TX9, 8, rfl, by decide, rfl, by decide, cw9, TBL_t 254 (by decide +kernel) (by decide +kernel), rfl⟩
theorem fl_X11_210 : FL RX11 210 9 3 := ⟨RX9, TX9, 8, rfl, by decide, rfl, by decide, cw9, TBL_t 259 (by decide +kernel) (by decide +kernel), rfl⟩
theorem fl_X11_213 : FL RX11 213 9 4 := ⟨RX9, TX9, 8, rfl, by decide, rfl, by decide, cw9, TBL_t 263 (by decide +kernel) (by decide +kernel), rfl⟩
theorem ml_X11_216 : MLv RX11 216 yX9_worthOf cX9_worthOf 2 (some .int) 1 := ⟨TBL_t 893 (by decide +kernel) (by decide +kernel), im_X9_worthOf, sl_X9_worthOf, ini_RX9, cd_X9_worthOf, ⟨by decide +kernel, by decide +kernel, by decide +kernel⟩, by decide⟩
theorem ml_X11_219 : MLv RX11 219 yX9_leakOf cX9_leakOf 3 (some .int) 2 := ⟨TBL_t 894 (by decide +kernel) (by decide +kernel), im_X9_leakOf, sl_X9_leakOf, ini_RX9, cd_X9_leakOf, ⟨by decide +kernel, by decide +kernel, by decide +kernel⟩, by decide⟩
theorem ml_X11_222 : MLv RX11 222 yX9_lakesOf cX9_lakesOf 4 (some .int) 1 := ⟨TBL_t 906 (by decide +kernel) (by decide +kernel), im_X9_lakesOf, sl_X9_lakesOf, ini_RX9, cd_X9_lakesOf, ⟨by decide +kernel, by decide +kernel, by decide +kernel⟩, by decide⟩
theorem ml_X11_225 : MLv RX11 225 yX9_worthOfOwner cX9_worthOfOwner 2 (some .int) 1 := ⟨TBL_t 910 (by decide +kernel) (by decide +kernel), im_X9_worthOfOwner, sl_X9_worthOfOwner, ini_RX9, cd_X9_worthOfOwner, ⟨by decide +kernel, by decide +kernel, by decide +kernel⟩, by decide⟩
theorem ml_X11_228 : MLv RX11 228 yX9_owedBy cX9_owedBy 4 (some .int) 1 := ⟨TBL_t 915 (by decide +kernel) (by decide +kernel), im_X9_owedBy, sl_X9_owedBy, ini_RX9, cd_X9_owedBy, ⟨by decide +kernel, by decide +kernel, by decide +kernel⟩, by decide⟩
theorem ml_X11_231 : MLv RX11 231 yX9_owedTo cX9_owedTo 4 (some .int) 1 := ⟨TBL_t 916 (by decide +kernel) (by decide +kernel), im_X9_owedTo, sl_X9_owedTo, ini_RX9, cd_X9_owedTo, ⟨by decide +kernel, by decide +kernel, by decide +kernel⟩, by decide⟩
theorem ml_X11_234 : MLv RX11 234 yX9_isBroke cX9_isBroke 2 (some .boolean) 1 := ⟨TBL_t 920 (by decide +kernel) (by decide +kernel), im_X9_isBroke, sl_X9_isBroke, ini_RX9, cd_X9_isBroke, ⟨by decide +kernel, by decide +kernel, by decide +kernel⟩, by decide⟩
theorem ml_X11_237 : MLv RX11 237 yX9_areTwoOwners cX9_areTwoOwners 3 (some .boolean) 2 := ⟨TBL_t 928 (by decide +kernel) (by decide +kernel), im_X9_areTwoOwners, sl_X9_areTwoOwners, ini_RX9, cd_X9_areTwoOwners, ⟨by decide +kernel, by decide +kernel, by decide +kernel⟩, by decide⟩
theorem fl_X11_241 : FL RX11 241 9 5 := ⟨RX9, TX9, 8, rfl, by decide, rfl, by decide, cw9, TBL_t 266 (by decide +kernel) (by decide +kernel), rfl⟩
theorem ml_X11_244 : MLv RX11 244 yX11_nightsCanBe cX11_nightsCanBe 2 (some .boolean) 1 := ⟨TBL_t 937 (by decide +kernel) (by decide +kernel), im_X11_nightsCanBe, sl_X11_nightsCanBe, ini_RX11, cd_X11_nightsCanBe, ⟨by decide +kernel, by decide +kernel, by decide +kernel⟩, by decide⟩
theorem ml_X11_247 : MLv RX11 247 yX9_copyFrom cX9_copyFrom 2 none 1 := ⟨TBL_t 941 (by decide +kernel) (by decide +kernel), im_X9_copyFrom, sl_X9_copyFrom, ini_RX9, cd_X9_copyFrom, ⟨by decide +kernel, by decide +kernel, by decide +kernel⟩, by decide⟩
theorem ml_X11_251 : MLv RX11 251 yX9_passNight cX9_passNight 4 (some .int) 1 := ⟨TBL_t 945 (by decide +kernel) (by decide +kernel), im_X9_passNight, sl_X9_passNight, ini_RX9, cd_X9_passNight, ⟨by decide +kernel, by decide +kernel, by decide +kernel⟩, by decide⟩
theorem ml_X11_254 : MLv RX11 254 yX9_stands cX9_stands 2 (some .boolean) 1 := ⟨TBL_t 958 (by decide +kernel) (by decide +kernel), im_X9_stands, sl_X9_stands, ini_RX9, cd_X9_stands, ⟨by decide +kernel, by decide +kernel, by decide +kernel⟩, by decide⟩
theorem ml_X11_257 : MLv RX11 257 yX0_payers cX0_payers 6 (some .int) 3 := ⟨TBL_t 963 (by decide +kernel) (by decide +kernel), im_X0_payers, sl_X0_payers, ini_RX0, cd_X0_payers, ⟨by decide +kernel, by decide +kernel, by decide +kernel⟩, by decide⟩
theorem fl_X11_261 : FL RX11 261 0 9 := ⟨RX0, TX0, 10, rfl, by decide, rfl, by decide, cw0, TBL_t 338 (by decide +kernel) (by decide +kernel), rfl⟩
theorem ml_X11_264 : MLv RX11 264 yX4_takeRows cX4_takeRows 6 (some .boolean) 3 := ⟨TBL_t 994 (by decide +kernel) (by decide +kernel), im_X4_takeRows, sl_X4_takeRows, ini_RX4, cd_X4_takeRows, ⟨by decide +kernel, by decide +kernel, by decide +kernel⟩, by decide⟩
theorem ml_X11_268 : MLv RX11 268 yX4_fewest cX4_fewest 3 (some .int) 1 := ⟨TBL_t 1001 (by decide +kernel) (by decide +kernel), im_X4_fewest, sl_X4_fewest, ini_RX4, cd_X4_fewest, ⟨by decide +kernel, by decide +kernel, by decide +kernel⟩, by decide⟩
theorem ml_X11_272 : MLv RX11 272 yX0_packing cX0_packing 5 (some .int) 2 := ⟨TBL_t 1072 (by decide +kernel) (by decide +kernel), im_X0_packing, sl_X0_packing, ini_RX0, cd_X0_packing, ⟨by decide +kernel, by decide +kernel, by decide +kernel⟩, by decide⟩
theorem ml_X11_276 : MLv RX11 276 yX9_netOf cX9_netOf 2 (some .int) 1 := ⟨TBL_t 1092 (by decide +kernel) (by decide +kernel), im_X9_netOf, sl_X9_netOf, ini_RX9, cd_X9_netOf, ⟨by decide +kernel, by decide +kernel, by decide +kernel⟩, by decide⟩
theorem kc_X11_279 : Cond.constant RX11 279 (-1000000000) ∈ TBL := TBL_t 1097 (by decide +kernel) (by decide +kernel)
theorem ml_X11_280 : MLv RX11 280 yX0_payments cX0_payments 3 (some .int) 1 := ⟨TBL_t 1102 (by decide +kernel) (by decide +kernel), im_X0_payments, sl_X0_payments, ini_RX0, cd_X0_payments, ⟨by decide +kernel, by decide +kernel, by decide +kernel⟩, by decide⟩
theorem ml_X11_282 : MLv RX11 282 yX0_fairest cX0_fairest 4 (some .int) 3 := ⟨TBL_t 1116 (by decide +kernel) (by decide +kernel), im_X0_fairest, sl_X0_fairest, ini_RX0, cd_X0_fairest, ⟨by decide +kernel, by decide +kernel, by decide +kernel⟩, by decide⟩
theorem ml_X11_285 : MLv RX11 285 yX0_heirOf cX0_heirOf 3 (some .int) 1 := ⟨TBL_t 1129 (by decide +kernel) (by decide +kernel), im_X0_heirOf, sl_X0_heirOf, ini_RX0, cd_X0_heirOf, ⟨by decide +kernel, by decide +kernel, by decide +kernel⟩, by decide⟩
theorem ml_X11_288 : MLv RX11 288 yX11_tellsStood cX11_tellsStood 3 (some .boolean) 1 := ⟨TBL_t 1137 (by decide +kernel) (by decide +kernel), im_X11_tellsStood, sl_X11_tellsStood, ini_RX11, cd_X11_tellsStood, ⟨by decide +kernel, by decide +kernel, by decide +kernel⟩, by decide⟩
theorem ml_X11_291 : MLv RX11 291 yX11_stoodIfTaken cX11_stoodIfTaken 5 (some .boolean) 2 := ⟨TBL_t 1145 (by decide +kernel) (by decide +kernel), im_X11_stoodIfTaken, sl_X11_stoodIfTaken, ini_RX11, cd_X11_stoodIfTaken, ⟨by decide +kernel, by decide +kernel, by decide +kernel⟩, by decide⟩
theorem ml_X11_294 : MLs RX11 294 yJ9_max_7cf53 cJ9_max_7cf53 2 (some .int) 2 := ⟨TBL_t 1149 (by decide +kernel) (by decide +kernel), sm_J9_max_7cf53, ini_RJ9, cd_J9_max_7cf53, ⟨by decide +kernel, by decide +kernel, by decide +kernel⟩, by decide⟩
theorem ml_X11_299 : MLv RX11 299 yX1_push cX1_push 3 none 2 := ⟨TBL_t 1158 (by decide +kernel) (by decide +kernel), im_X1_push, sl_X1_push, ini_RX1, cd_X1_push, ⟨by decide +kernel, by decide +kernel, by decide +kernel⟩, by decide⟩
theorem ml_X11_303 : MLv RX11 303 yX11_remember cX11_remember 1 none 0 := ⟨TBL_t 1154 (by decide +kernel) (by decide +kernel), im_X11_remember, sl_X11_remember, ini_RX11, cd_X11_remember, ⟨by decide +kernel, by decide +kernel, by decide +kernel⟩, by decide⟩
theorem ml_X11_306 : MLv RX11 306 yX11_draw cX11_draw 2 (some .int) 1 := ⟨TBL_t 1171 (by decide +kernel) (by decide +kernel), im_X11_draw, sl_X11_draw, ini_RX11, cd_X11_draw, ⟨by decide +kernel, by decide +kernel, by decide +kernel⟩, by decide⟩
theorem fl_X11_309 : FL RX11 309 2 4 := ⟨RX2, TX2, 19, rfl, by decide, rfl, by decide, cw2, TBL_t 61 (by decide +kernel) (by decide +kernel), rfl⟩
theorem kc_X11_312 : Cond.constant RX11 312 (1103515245) ∈ TBL := TBL_t 1175 (by decide +kernel) (by decide +kernel)
theorem kc_X11_313 : Cond.constant RX11 313 (2147483647) ∈ TBL := TBL_t 1176 (by decide +kernel) (by decide +kernel)
theorem ml_X11_314 : MLv RX11 314 yX9_canMove cX9_canMove 3 (some .boolean) 2 := ⟨TBL_t 1181 (by decide +kernel) (by decide +kernel), im_X9_canMove, sl_X9_canMove, ini_RX9, cd_X9_canMove, ⟨by decide +kernel, by decide +kernel, by decide +kernel⟩, by decide⟩
theorem ml_X11_317 : MLv RX11 317 yX9_canPour cX9_canPour 3 (some .boolean) 2 := ⟨TBL_t 1192 (by decide +kernel) (by decide +kernel), im_X9_canPour, sl_X9_canPour, ini_RX9, cd_X9_canPour, ⟨by decide +kernel, by decide +kernel, by decide +kernel⟩, by decide⟩
theorem ml_X11_320 : MLv RX11 320 yX9_setBarrels cX9_setBarrels 3 none 2 := ⟨TBL_t 1196 (by decide +kernel) (by decide +kernel), im_X9_setBarrels, sl_X9_setBarrels, ini_RX9, cd_X9_setBarrels, ⟨by decide +kernel, by decide +kernel, by decide +kernel⟩, by decide⟩
theorem ml_X11_324 : MLv RX11 324 yX9_firstGone cX9_firstGone 2 (some .int) 0 := ⟨TBL_t 1201 (by decide +kernel) (by decide +kernel), im_X9_firstGone, sl_X9_firstGone, ini_RX9, cd_X9_firstGone, ⟨by decide +kernel, by decide +kernel, by decide +kernel⟩, by decide⟩
theorem ml_X11_327 : MLv RX11 327 yX9_worthOfBits cX9_worthOfBits 4 (some .int) 1 := ⟨TBL_t 1209 (by decide +kernel) (by decide +kernel), im_X9_worthOfBits, sl_X9_worthOfBits, ini_RX9, cd_X9_worthOfBits, ⟨by decide +kernel, by decide +kernel, by decide +kernel⟩, by decide⟩
theorem ml_X11_330 : MLv RX11 330 yX9_give cX9_give 4 none 2 := ⟨TBL_t 1210 (by decide +kernel) (by decide +kernel), im_X9_give, sl_X9_give, ini_RX9, cd_X9_give, ⟨by decide +kernel, by decide +kernel, by decide +kernel⟩, by decide⟩
theorem ml_X11_333 : MLv RX11 333 yX5_add cX5_add 6 none 4 := ⟨TBL_t 1214 (by decide +kernel) (by decide +kernel), im_X5_add, sl_X5_add, ini_RX5, cd_X5_add, ⟨by decide +kernel, by decide +kernel, by decide +kernel⟩, by decide⟩
theorem ml_X11_337 : MLv RX11 337 yX11_isRing cX11_isRing 4 (some .boolean) 1 := ⟨TBL_t 1222 (by decide +kernel) (by decide +kernel), im_X11_isRing, sl_X11_isRing, ini_RX11, cd_X11_isRing, ⟨by decide +kernel, by decide +kernel, by decide +kernel⟩, by decide⟩
theorem ml_X11_340 : MLv RX11 340 yX11_debtInRing cX11_debtInRing 4 (some .int) 2 := ⟨TBL_t 1226 (by decide +kernel) (by decide +kernel), im_X11_debtInRing, sl_X11_debtInRing, ini_RX11, cd_X11_debtInRing, ⟨by decide +kernel, by decide +kernel, by decide +kernel⟩, by decide⟩
theorem ml_X11_343 : MLs RX11 343 yJ9_min_7cf53 cJ9_min_7cf53 2 (some .int) 2 := ⟨TBL_t 1230 (by decide +kernel) (by decide +kernel), sm_J9_min_7cf53, ini_RJ9, cd_J9_min_7cf53, ⟨by decide +kernel, by decide +kernel, by decide +kernel⟩, by decide⟩
theorem ml_X11_346 : MLv RX11 346 yX1_pop cX1_pop 2 (some .int) 1 := ⟨TBL_t 1235 (by decide +kernel) (by decide +kernel), im_X1_pop, sl_X1_pop, ini_RX1, cd_X1_pop, ⟨by decide +kernel, by decide +kernel, by decide +kernel⟩, by decide⟩
theorem ml_X11_349 : MLv RX11 349 yX5_tell cX5_tell 3 (some .int) 2 := ⟨TBL_t 1251 (by decide +kernel) (by decide +kernel), im_X5_tell, sl_X5_tell, ini_RX5, cd_X5_tell, ⟨by decide +kernel, by decide +kernel, by decide +kernel⟩, by decide⟩
theorem ml_X11_352 : MLv RX11 352 yX6_draw cX6_draw 4 none 1 := ⟨TBL_t 1260 (by decide +kernel) (by decide +kernel), im_X6_draw, sl_X6_draw, ini_RX6, cd_X6_draw, ⟨by decide +kernel, by decide +kernel, by decide +kernel⟩, by decide⟩
theorem fl_X11_354 : FL RX11 354 6 1 := ⟨RX6, TX6, 2, rfl, by decide, rfl, by decide, cw6, TBL_t 391 (by decide +kernel) (by decide +kernel), rfl⟩
theorem fl_X11_357 : FL RX11 357 6 0 := ⟨RX6, TX6, 2, rfl, by decide, rfl, by decide, cw6, TBL_t 389 (by decide +kernel) (by decide +kernel), rfl⟩
theorem ml_X11_360 : MLv RX11 360 yX6_restores cX6_restores 5 (some .boolean) 3 := ⟨TBL_t 1284 (by decide +kernel) (by decide +kernel), im_X6_restores, sl_X6_restores, ini_RX6, cd_X6_restores, ⟨by decide +kernel, by decide +kernel, by decide +kernel⟩, by decide⟩
theorem fl_X0_9 : FL RX0 9 0 0 := ⟨RX0, TX0, 10, rfl, by decide, rfl, by decide, cw0, TBL_t 328 (by decide +kernel) (by decide +kernel), rfl⟩
theorem fl_X0_15 : FL RX0 15 0 1 := ⟨RX0, TX0, 10, rfl, by decide, rfl, by decide, cw0, TBL_t 329 (by decide +kernel) (by decide +kernel), rfl⟩
theorem fl_X0_18 : FL RX0 18 0 3 := ⟨RX0, TX0, 10, rfl, by decide, rfl, by decide, cw0, TBL_t 331 (by decide +kernel) (by decide +kernel), rfl⟩
theorem fl_X0_21 : FL RX0 21 0 4 := ⟨RX0, TX0, 10, rfl, by decide, rfl, by decide, cw0, TBL_t 332 (by decide +kernel) (by decide +kernel), rfl⟩
theorem fl_X0_24 : FL RX0 24 0 5 := ⟨RX0, TX0, 10, rfl, by decide, rfl, by decide, cw0, TBL_t 333 (by decide +kernel) (by decide +kernel), rfl⟩
theorem fl_X0_27 : FL RX0 27 0 6 := ⟨RX0, TX0, 10, rfl, by decide, rfl, by decide, cw0, TBL_t 334 (by decide +kernel) (by decide +kernel), rfl⟩
theorem fl_X0_30 : FL RX0 30 0 7 := ⟨RX0, TX0, 10, rfl, by decide, rfl, by decide, cw0, TBL_t 335 (by decide +kernel) (by decide +kernel), rfl⟩
theorem fl_X0_33 : FL RX0 33 0 2 := ⟨RX0, TX0, 10, rfl, by decide, rfl, by decide, cw0, TBL_t 330 (by decide +kernel) (by decide +kernel), rfl⟩
theorem fl_X0_37 : FL RX0 37 9 0 := ⟨RX9, TX9, 8, rfl, by decide, rfl, by decide, cw9, TBL_t 244 (by decide +kernel) (by decide +kernel), rfl⟩
theorem fl_X0_43 : FL RX0 43 2 3 := ⟨RX2, TX2, 19, rfl, by decide, rfl, by decide, cw2, TBL_t 52 (by decide +kernel) (by decide +kernel), rfl⟩
theorem fl_X0_48 : FL RX0 48 9 4 := ⟨RX9, TX9, 8, rfl, by decide, rfl, by decide, cw9, TBL_t 261 (by decide +kernel) (by decide +kernel), rfl⟩
theorem ml_X0_51 : MLv RX0 51 yX9_worthOf cX9_worthOf 2 (some .int) 1 := ⟨TBL_t 971 (by decide +kernel) (by decide +kernel), im_X9_worthOf, sl_X9_worthOf, ini_RX9, cd_X9_worthOf, ⟨by decide +kernel, by decide +kernel, by decide +kernel⟩, by decide⟩
theorem fl_X0_55 : FL RX0 55 9 2 := ⟨RX9, TX9, 8, rfl, by decide, rfl, by decide, cw9, TBL_t 252 (by decide +kernel) (by decide +kernel), rfl⟩
theorem ml_X0_58 : MLv RX0 58 yX0_collect cX0_collect 5 none 3 := ⟨TBL_t 967 (by decide +kernel) (by decide +kernel), im_X0_collect, sl_X0_collect, ini_RX0, cd_X0_collect, ⟨by decide +kernel, by decide +kernel, by decide +kernel⟩, by decide⟩
theorem ml_X0_62 : MLv RX0 62 yX0_sumUp cX0_sumUp 4 none 0 := ⟨TBL_t 972 (by decide +kernel) (by decide +kernel), im_X0_sumUp, sl_X0_sumUp, ini_RX0, cd_X0_sumUp, ⟨by decide +kernel, by decide +kernel, by decide +kernel⟩, by decide⟩
theorem ml_X0_65 : MLv RX0 65 yX0_paysBetter cX0_paysBetter 3 (some .boolean) 2 := ⟨TBL_t 976 (by decide +kernel) (by decide +kernel), im_X0_paysBetter, sl_X0_paysBetter, ini_RX0, cd_X0_paysBetter, ⟨by decide +kernel, by decide +kernel, by decide +kernel⟩, by decide⟩
theorem fl_X0_69 : FL RX0 69 0 9 := ⟨RX0, TX0, 10, rfl, by decide, rfl, by decide, cw0, TBL_t 337 (by decide +kernel) (by decide +kernel), rfl⟩
theorem ml_X0_72 : MLv RX0 72 yX0_lakeBits cX0_lakeBits 4 (some .int) 1 := ⟨TBL_t 986 (by decide +kernel) (by decide +kernel), im_X0_lakeBits, sl_X0_lakeBits, ini_RX0, cd_X0_lakeBits, ⟨by decide +kernel, by decide +kernel, by decide +kernel⟩, by decide⟩
theorem ml_X0_75 : MLs RX0 75 yJ6_bitCount_0f7a4 cJ6_bitCount_0f7a4 1 (some .int) 1 := ⟨TBL_t 980 (by decide +kernel) (by decide +kernel), sm_J6_bitCount_0f7a4, ini_RJ6, cd_J6_bitCount_0f7a4, ⟨by decide +kernel, by decide +kernel, by decide +kernel⟩, by decide⟩
theorem kc_X0_80 : Cond.constant RX0 80 (1048576) ∈ TBL := TBL_t 1076 (by decide +kernel) (by decide +kernel)
theorem ml_X0_81 : MLs RX0 81 yJ7_fill_53178 cJ7_fill_53178 4 none 2 := ⟨TBL_t 1077 (by decide +kernel) (by decide +kernel), sm_J7_fill_53178, ini_RJ7, cd_J7_fill_53178, ⟨by decide +kernel, by decide +kernel, by decide +kernel⟩, by decide⟩
theorem fl_X0_87 : FL RX0 87 2 1 := ⟨RX2, TX2, 19, rfl, by decide, rfl, by decide, cw2, TBL_t 43 (by decide +kernel) (by decide +kernel), rfl⟩
theorem ml_X0_90 : MLv RX0 90 yX0_roomWithout cX0_roomWithout 5 (some .int) 2 := ⟨TBL_t 1078 (by decide +kernel) (by decide +kernel), im_X0_roomWithout, sl_X0_roomWithout, ini_RX0, cd_X0_roomWithout, ⟨by decide +kernel, by decide +kernel, by decide +kernel⟩, by decide⟩
theorem ml_X0_94 : MLv RX0 94 yX0_packInto cX0_packInto 6 none 3 := ⟨TBL_t 1083 (by decide +kernel) (by decide +kernel), im_X0_packInto, sl_X0_packInto, ini_RX0, cd_X0_packInto, ⟨by decide +kernel, by decide +kernel, by decide +kernel⟩, by decide⟩
theorem ml_X0_98 : MLv RX0 98 yX9_roomIn cX9_roomIn 4 (some .int) 1 := ⟨TBL_t 1082 (by decide +kernel) (by decide +kernel), im_X9_roomIn, sl_X9_roomIn, ini_RX9, cd_X9_roomIn, ⟨by decide +kernel, by decide +kernel, by decide +kernel⟩, by decide⟩
theorem fl_X0_101 : FL RX0 101 9 3 := ⟨RX9, TX9, 8, rfl, by decide, rfl, by decide, cw9, TBL_t 258 (by decide +kernel) (by decide +kernel), rfl⟩
theorem ml_X0_104 : MLs RX0 104 yJ9_min_7cf53 cJ9_min_7cf53 2 (some .int) 2 := ⟨TBL_t 1087 (by decide +kernel) (by decide +kernel), sm_J9_min_7cf53, ini_RJ9, cd_J9_min_7cf53, ⟨by decide +kernel, by decide +kernel, by decide +kernel⟩, by decide⟩
theorem fl_X0_110 : FL RX0 110 0 8 := ⟨RX0, TX0, 10, rfl, by decide, rfl, by decide, cw0, TBL_t 336 (by decide +kernel) (by decide +kernel), rfl⟩
theorem ml_X0_113 : MLv RX0 113 yX0_divide cX0_divide 5 none 3 := ⟨TBL_t 1120 (by decide +kernel) (by decide +kernel), im_X0_divide, sl_X0_divide, ini_RX0, cd_X0_divide, ⟨by decide +kernel, by decide +kernel, by decide +kernel⟩, by decide⟩
theorem ml_X0_116 : MLv RX0 116 yX0_keepIfFairer cX0_keepIfFairer 4 none 1 := ⟨TBL_t 1124 (by decide +kernel) (by decide +kernel), im_X0_keepIfFairer, sl_X0_keepIfFairer, ini_RX0, cd_X0_keepIfFairer, ⟨by decide +kernel, by decide +kernel, by decide +kernel⟩, by decide⟩
theorem ml_X0_120 : MLs RX0 120 yJ9_max_7cf53 cJ9_max_7cf53 2 (some .int) 2 := ⟨TBL_t 1111 (by decide +kernel) (by decide +kernel), sm_J9_max_7cf53, ini_RJ9, cd_J9_max_7cf53, ⟨by decide +kernel, by decide +kernel, by decide +kernel⟩, by decide⟩
theorem wc_X0_123 : WCopy RX0 123 := ⟨TBL_t 1128 (by decide +kernel) (by decide +kernel), TBL_t 403 (by decide +kernel) (by decide +kernel), TBL_t 402 (by decide +kernel) (by decide +kernel), TBL_t 13 (by decide +kernel) (by decide +kernel)⟩
theorem fl_X0_129 : FL RX0 129 2 2 := ⟨RX2, TX2, 19, rfl, by decide, rfl, by decide, cw2, TBL_t 51 (by decide +kernel) (by decide +kernel), rfl⟩
theorem ml_X0_132 : MLv RX0 132 yX9_netOf cX9_netOf 2 (some .int) 1 := ⟨TBL_t 1106 (by decide +kernel) (by decide +kernel), im_X9_netOf, sl_X9_netOf, ini_RX9, cd_X9_netOf, ⟨by decide +kernel, by decide +kernel, by decide +kernel⟩, by decide⟩
theorem ml_X0_135 : MLv RX0 135 yX0_mostGroups cX0_mostGroups 4 (some .int) 1 := ⟨TBL_t 1107 (by decide +kernel) (by decide +kernel), im_X0_mostGroups, sl_X0_mostGroups, ini_RX0, cd_X0_mostGroups, ⟨by decide +kernel, by decide +kernel, by decide +kernel⟩, by decide⟩
theorem fl_X1_13 : FL RX1 13 1 0 := ⟨RX1, TX1, 4, rfl, by decide, rfl, by decide, cw1, TBL_t 294 (by decide +kernel) (by decide +kernel), rfl⟩
theorem fl_X1_16 : FL RX1 16 1 1 := ⟨RX1, TX1, 4, rfl, by decide, rfl, by decide, cw1, TBL_t 295 (by decide +kernel) (by decide +kernel), rfl⟩
theorem fl_X1_20 : FL RX1 20 1 3 := ⟨RX1, TX1, 4, rfl, by decide, rfl, by decide, cw1, TBL_t 297 (by decide +kernel) (by decide +kernel), rfl⟩
theorem fl_X1_24 : FL RX1 24 1 2 := ⟨RX1, TX1, 4, rfl, by decide, rfl, by decide, cw1, TBL_t 296 (by decide +kernel) (by decide +kernel), rfl⟩
theorem ml_X1_27 : MLv RX1 27 yX9_writeTo cX9_writeTo 2 none 1 := ⟨TBL_t 1162 (by decide +kernel) (by decide +kernel), im_X9_writeTo, sl_X9_writeTo, ini_RX9, cd_X9_writeTo, ⟨by decide +kernel, by decide +kernel, by decide +kernel⟩, by decide⟩
theorem ml_X1_31 : MLs RX1 31 yJ9_min_7cf53 cJ9_min_7cf53 2 (some .int) 2 := ⟨TBL_t 1166 (by decide +kernel) (by decide +kernel), sm_J9_min_7cf53, ini_RJ9, cd_J9_min_7cf53, ⟨by decide +kernel, by decide +kernel, by decide +kernel⟩, by decide⟩
theorem ml_X1_37 : MLv RX1 37 yX9_readFrom cX9_readFrom 2 none 1 := ⟨TBL_t 1239 (by decide +kernel) (by decide +kernel), im_X9_readFrom, sl_X9_readFrom, ini_RX9, cd_X9_readFrom, ⟨by decide +kernel, by decide +kernel, by decide +kernel⟩, by decide⟩
theorem fl_X2_9 : FL RX2 9 2 5 := ⟨RX2, TX2, 19, rfl, by decide, rfl, by decide, cw2, TBL_t 62 (by decide +kernel) (by decide +kernel), rfl⟩
theorem fl_X2_15 : FL RX2 15 2 6 := ⟨RX2, TX2, 19, rfl, by decide, rfl, by decide, cw2, TBL_t 66 (by decide +kernel) (by decide +kernel), rfl⟩
theorem fl_X2_19 : FL RX2 19 2 7 := ⟨RX2, TX2, 19, rfl, by decide, rfl, by decide, cw2, TBL_t 69 (by decide +kernel) (by decide +kernel), rfl⟩
theorem fl_X2_22 : FL RX2 22 2 8 := ⟨RX2, TX2, 19, rfl, by decide, rfl, by decide, cw2, TBL_t 72 (by decide +kernel) (by decide +kernel), rfl⟩
theorem fl_X2_25 : FL RX2 25 2 9 := ⟨RX2, TX2, 19, rfl, by decide, rfl, by decide, cw2, TBL_t 75 (by decide +kernel) (by decide +kernel), rfl⟩
theorem fl_X2_28 : FL RX2 28 2 10 := ⟨RX2, TX2, 19, rfl, by decide, rfl, by decide, cw2, TBL_t 79 (by decide +kernel) (by decide +kernel), rfl⟩
theorem fl_X2_31 : FL RX2 31 2 11 := ⟨RX2, TX2, 19, rfl, by decide, rfl, by decide, cw2, TBL_t 83 (by decide +kernel) (by decide +kernel), rfl⟩
theorem fl_X2_34 : FL RX2 34 2 12 := ⟨RX2, TX2, 19, rfl, by decide, rfl, by decide, cw2, TBL_t 86 (by decide +kernel) (by decide +kernel), rfl⟩
theorem fl_X2_37 : FL RX2 37 2 13 := ⟨RX2, TX2, 19, rfl, by decide, rfl, by decide, cw2, TBL_t 89 (by decide +kernel) (by decide +kernel), rfl⟩
theorem fl_X2_40 : FL RX2 40 2 14 := ⟨RX2, TX2, 19, rfl, by decide, rfl, by decide, cw2, TBL_t 92 (by decide +kernel) (by decide +kernel), rfl⟩
theorem fl_X2_43 : FL RX2 43 2 15 := ⟨RX2, TX2, 19, rfl, by decide, rfl, by decide, cw2, TBL_t 95 (by decide +kernel) (by decide +kernel), rfl⟩
theorem fl_X2_46 : FL RX2 46 2 17 := ⟨RX2, TX2, 19, rfl, by decide, rfl, by decide, cw2, TBL_t 99 (by decide +kernel) (by decide +kernel), rfl⟩
theorem fl_X2_49 : FL RX2 49 2 18 := ⟨RX2, TX2, 19, rfl, by decide, rfl, by decide, cw2, TBL_t 102 (by decide +kernel) (by decide +kernel), rfl⟩
theorem fl_X2_52 : FL RX2 52 2 0 := ⟨RX2, TX2, 19, rfl, by decide, rfl, by decide, cw2, TBL_t 36 (by decide +kernel) (by decide +kernel), rfl⟩
theorem fl_X2_55 : FL RX2 55 2 1 := ⟨RX2, TX2, 19, rfl, by decide, rfl, by decide, cw2, TBL_t 39 (by decide +kernel) (by decide +kernel), rfl⟩
theorem fl_X2_58 : FL RX2 58 2 2 := ⟨RX2, TX2, 19, rfl, by decide, rfl, by decide, cw2, TBL_t 46 (by decide +kernel) (by decide +kernel), rfl⟩
theorem fl_X2_61 : FL RX2 61 2 3 := ⟨RX2, TX2, 19, rfl, by decide, rfl, by decide, cw2, TBL_t 53 (by decide +kernel) (by decide +kernel), rfl⟩
theorem fl_X2_64 : FL RX2 64 2 4 := ⟨RX2, TX2, 19, rfl, by decide, rfl, by decide, cw2, TBL_t 59 (by decide +kernel) (by decide +kernel), rfl⟩
theorem fl_X2_67 : FL RX2 67 2 16 := ⟨RX2, TX2, 19, rfl, by decide, rfl, by decide, cw2, TBL_t 98 (by decide +kernel) (by decide +kernel), rfl⟩
theorem ml_X2_70 : MLs RX2 70 yJ7_fill_53178 cJ7_fill_53178 4 none 2 := ⟨TBL_t 498 (by decide +kernel) (by decide +kernel), sm_J7_fill_53178, ini_RJ7, cd_J7_fill_53178, ⟨by decide +kernel, by decide +kernel, by decide +kernel⟩, by decide⟩
theorem ml_X2_76 : MLv RX2 76 yX2_find cX2_find 5 (some .int) 3 := ⟨TBL_t 613 (by decide +kernel) (by decide +kernel), im_X2_find, sl_X2_find, ini_RX2, cd_X2_find, ⟨by decide +kernel, by decide +kernel, by decide +kernel⟩, by decide⟩
theorem fl_X3_11 : FL RX3 11 3 0 := ⟨RX3, TX3, 3, rfl, by decide, rfl, by decide, cw3, TBL_t 233 (by decide +kernel) (by decide +kernel), rfl⟩
theorem fl_X3_15 : FL RX3 15 3 2 := ⟨RX3, TX3, 3, rfl, by decide, rfl, by decide, cw3, TBL_t 235 (by decide +kernel) (by decide +kernel), rfl⟩
theorem fl_X3_18 : FL RX3 18 3 1 := ⟨RX3, TX3, 3, rfl, by decide, rfl, by decide, cw3, TBL_t 234 (by decide +kernel) (by decide +kernel), rfl⟩
theorem fl_X3_22 : FL RX3 22 2 18 := ⟨RX2, TX2, 19, rfl, by decide, rfl, by decide, cw2, TBL_t 104 (by decide +kernel) (by decide +kernel), rfl⟩
theorem ml_X3_27 : MLs RX3 27 yJ9_min_7cf53 cJ9_min_7cf53 2 (some .int) 2 := ⟨TBL_t 807 (by decide +kernel) (by decide +kernel), sm_J9_min_7cf53, ini_RJ9, cd_J9_min_7cf53, ⟨by decide +kernel, by decide +kernel, by decide +kernel⟩, by decide⟩
theorem fl_X3_33 : FL RX3 33 2 17 := ⟨RX2, TX2, 19, rfl, by decide, rfl, by decide, cw2, TBL_t 101 (by decide +kernel) (by decide +kernel), rfl⟩
theorem ml_X3_36 : MLs RX3 36 yJ9_max_7cf53 cJ9_max_7cf53 2 (some .int) 2 := ⟨TBL_t 810 (by decide +kernel) (by decide +kernel), sm_J9_max_7cf53, ini_RJ9, cd_J9_max_7cf53, ⟨by decide +kernel, by decide +kernel, by decide +kernel⟩, by decide⟩
theorem fl_X3_39 : FL RX3 39 2 15 := ⟨RX2, TX2, 19, rfl, by decide, rfl, by decide, cw2, TBL_t 96 (by decide +kernel) (by decide +kernel), rfl⟩
theorem ml_X3_42 : MLv RX3 42 yX3_step cX3_step 4 none 1 := ⟨TBL_t 813 (by decide +kernel) (by decide +kernel), im_X3_step, sl_X3_step, ini_RX3, cd_X3_step, ⟨by decide +kernel, by decide +kernel, by decide +kernel⟩, by decide⟩
theorem ml_X3_46 : MLv RX3 46 yX3_pop cX3_pop 1 (some .int) 0 := ⟨TBL_t 821 (by decide +kernel) (by decide +kernel), im_X3_pop, sl_X3_pop, ini_RX3, cd_X3_pop, ⟨by decide +kernel, by decide +kernel, by decide +kernel⟩, by decide⟩
theorem ml_X3_50 : MLv RX3 50 yX3_push cX3_push 2 none 1 := ⟨TBL_t 817 (by decide +kernel) (by decide +kernel), im_X3_push, sl_X3_push, ini_RX3, cd_X3_push, ⟨by decide +kernel, by decide +kernel, by decide +kernel⟩, by decide⟩
theorem ml_X3_53 : MLs RX3 53 yX3_combine cX3_combine 5 (some .long) 3 := ⟨TBL_t 825 (by decide +kernel) (by decide +kernel), sm_X3_combine, ini_RX3, cd_X3_combine, ⟨by decide +kernel, by decide +kernel, by decide +kernel⟩, by decide⟩
theorem ml_X3_57 : MLs RX3 57 yX3_limited cX3_limited 2 (some .int) 1 := ⟨TBL_t 840 (by decide +kernel) (by decide +kernel), sm_X3_limited, ini_RX3, cd_X3_limited, ⟨by decide +kernel, by decide +kernel, by decide +kernel⟩, by decide⟩
theorem ml_X3_61 : MLs RX3 61 yJ9_floorDiv_f86c9 cJ9_floorDiv_f86c9 6 (some .long) 2 := ⟨TBL_t 828 (by decide +kernel) (by decide +kernel), sm_J9_floorDiv_f86c9, ini_RJ9, cd_J9_floorDiv_f86c9, ⟨by decide +kernel, by decide +kernel, by decide +kernel⟩, by decide⟩
theorem ml_X3_65 : MLs RX3 65 yJ9_floorMod_f86c9 cJ9_floorMod_f86c9 6 (some .long) 2 := ⟨TBL_t 831 (by decide +kernel) (by decide +kernel), sm_J9_floorMod_f86c9, ini_RJ9, cd_J9_floorMod_f86c9, ⟨by decide +kernel, by decide +kernel, by decide +kernel⟩, by decide⟩
theorem ml_X3_68 : MLs RX3 68 yJ9_min_f86c9 cJ9_min_f86c9 4 (some .long) 2 := ⟨TBL_t 834 (by decide +kernel) (by decide +kernel), sm_J9_min_f86c9, ini_RJ9, cd_J9_min_f86c9, ⟨by decide +kernel, by decide +kernel, by decide +kernel⟩, by decide⟩
theorem ml_X3_70 : MLs RX3 70 yJ9_max_f86c9 cJ9_max_f86c9 4 (some .long) 2 := ⟨TBL_t 837 (by decide +kernel) (by decide +kernel), sm_J9_max_f86c9, ini_RJ9, cd_J9_max_f86c9, ⟨by decide +kernel, by decide +kernel, by decide +kernel⟩, by decide⟩
theorem kc_X3_72 : Cond.constantLong RX3 72 (-1000000) ∈ TBL := TBL_t 843 (by decide +kernel) (by decide +kernel)
theorem kc_X3_74 : Cond.constantLong RX3 74 (1000000) ∈ TBL := TBL_t 844 (by decide +kernel) (by decide +kernel)
theorem fl_X4_9 : FL RX4 9 4 0 := ⟨RX4, TX4, 5, rfl, by decide, rfl, by decide, cw4, TBL_t 366 (by decide +kernel) (by decide +kernel), rfl⟩
theorem fl_X4_15 : FL RX4 15 4 1 := ⟨RX4, TX4, 5, rfl, by decide, rfl, by decide, cw4, TBL_t 367 (by decide +kernel) (by decide +kernel), rfl⟩
theorem fl_X4_18 : FL RX4 18 4 2 := ⟨RX4, TX4, 5, rfl, by decide, rfl, by decide, cw4, TBL_t 368 (by decide +kernel) (by decide +kernel), rfl⟩
theorem fl_X4_21 : FL RX4 21 4 3 := ⟨RX4, TX4, 5, rfl, by decide, rfl, by decide, cw4, TBL_t 369 (by decide +kernel) (by decide +kernel), rfl⟩
theorem ml_X4_24 : MLs RX4 24 yJ7_fill_53178 cJ7_fill_53178 4 none 2 := ⟨TBL_t 998 (by decide +kernel) (by decide +kernel), sm_J7_fill_53178, ini_RJ7, cd_J7_fill_53178, ⟨by decide +kernel, by decide +kernel, by decide +kernel⟩, by decide⟩
theorem ml_X4_30 : MLv RX4 30 yX9_stands cX9_stands 2 (some .boolean) 1 := ⟨TBL_t 999 (by decide +kernel) (by decide +kernel), im_X9_stands, sl_X9_stands, ini_RX9, cd_X9_stands, ⟨by decide +kernel, by decide +kernel, by decide +kernel⟩, by decide⟩
theorem ml_X4_36 : MLv RX4 36 yX9_isHollow cX9_isHollow 2 (some .boolean) 1 := ⟨TBL_t 1000 (by decide +kernel) (by decide +kernel), im_X9_isHollow, sl_X9_isHollow, ini_RX9, cd_X9_isHollow, ⟨by decide +kernel, by decide +kernel, by decide +kernel⟩, by decide⟩
theorem fl_X4_39 : FL RX4 39 4 4 := ⟨RX4, TX4, 5, rfl, by decide, rfl, by decide, cw4, TBL_t 370 (by decide +kernel) (by decide +kernel), rfl⟩
theorem ml_X4_43 : MLv RX4 43 yX4_hasHeavyStray cX4_hasHeavyStray 2 (some .boolean) 0 := ⟨TBL_t 1005 (by decide +kernel) (by decide +kernel), im_X4_hasHeavyStray, sl_X4_hasHeavyStray, ini_RX4, cd_X4_hasHeavyStray, ⟨by decide +kernel, by decide +kernel, by decide +kernel⟩, by decide⟩
theorem fl_X4_47 : FL RX4 47 9 0 := ⟨RX9, TX9, 8, rfl, by decide, rfl, by decide, cw9, TBL_t 246 (by decide +kernel) (by decide +kernel), rfl⟩
theorem fl_X4_51 : FL RX4 51 2 1 := ⟨RX2, TX2, 19, rfl, by decide, rfl, by decide, cw2, TBL_t 40 (by decide +kernel) (by decide +kernel), rfl⟩
theorem ml_X4_57 : MLv RX4 57 yX9_roomIn cX9_roomIn 4 (some .int) 1 := ⟨TBL_t 1013 (by decide +kernel) (by decide +kernel), im_X9_roomIn, sl_X9_roomIn, ini_RX9, cd_X9_roomIn, ⟨by decide +kernel, by decide +kernel, by decide +kernel⟩, by decide⟩
theorem ml_X4_61 : MLv RX4 61 yX9_countIn cX9_countIn 4 (some .int) 1 := ⟨TBL_t 1014 (by decide +kernel) (by decide +kernel), im_X9_countIn, sl_X9_countIn, ini_RX9, cd_X9_countIn, ⟨by decide +kernel, by decide +kernel, by decide +kernel⟩, by decide⟩
theorem ml_X4_64 : MLv RX4 64 yX4_forgetSeen cX4_forgetSeen 2 none 1 := ⟨TBL_t 1015 (by decide +kernel) (by decide +kernel), im_X4_forgetSeen, sl_X4_forgetSeen, ini_RX4, cd_X4_forgetSeen, ⟨by decide +kernel, by decide +kernel, by decide +kernel⟩, by decide⟩
theorem ml_X4_68 : MLv RX4 68 yX4_reaches cX4_reaches 4 (some .boolean) 1 := ⟨TBL_t 1019 (by decide +kernel) (by decide +kernel), im_X4_reaches, sl_X4_reaches, ini_RX4, cd_X4_reaches, ⟨by decide +kernel, by decide +kernel, by decide +kernel⟩, by decide⟩
theorem fl_X4_71 : FL RX4 71 2 3 := ⟨RX2, TX2, 19, rfl, by decide, rfl, by decide, cw2, TBL_t 56 (by decide +kernel) (by decide +kernel), rfl⟩
theorem fl_X4_74 : FL RX4 74 9 3 := ⟨RX9, TX9, 8, rfl, by decide, rfl, by decide, cw9, TBL_t 257 (by decide +kernel) (by decide +kernel), rfl⟩
theorem ml_X4_77 : MLv RX4 77 yX4_isAstray cX4_isAstray 3 (some .boolean) 2 := ⟨TBL_t 1009 (by decide +kernel) (by decide +kernel), im_X4_isAstray, sl_X4_isAstray, ini_RX4, cd_X4_isAstray, ⟨by decide +kernel, by decide +kernel, by decide +kernel⟩, by decide⟩
theorem fl_X4_81 : FL RX4 81 9 2 := ⟨RX9, TX9, 8, rfl, by decide, rfl, by decide, cw9, TBL_t 253 (by decide +kernel) (by decide +kernel), rfl⟩
theorem fl_X4_84 : FL RX4 84 2 5 := ⟨RX2, TX2, 19, rfl, by decide, rfl, by decide, cw2, TBL_t 63 (by decide +kernel) (by decide +kernel), rfl⟩
theorem ml_X4_87 : MLv RX4 87 yX4_strayCount cX4_strayCount 3 (some .int) 0 := ⟨TBL_t 1023 (by decide +kernel) (by decide +kernel), im_X4_strayCount, sl_X4_strayCount, ini_RX4, cd_X4_strayCount, ⟨by decide +kernel, by decide +kernel, by decide +kernel⟩, by decide⟩
theorem ml_X4_91 : MLv RX4 91 yX4_reachesStraight cX4_reachesStraight 3 (some .boolean) 1 := ⟨TBL_t 1027 (by decide +kernel) (by decide +kernel), im_X4_reachesStraight, sl_X4_reachesStraight, ini_RX4, cd_X4_reachesStraight, ⟨by decide +kernel, by decide +kernel, by decide +kernel⟩, by decide⟩
theorem ml_X4_94 : MLv RX4 94 yX4_wasSeen cX4_wasSeen 4 (some .boolean) 0 := ⟨TBL_t 1050 (by decide +kernel) (by decide +kernel), im_X4_wasSeen, sl_X4_wasSeen, ini_RX4, cd_X4_wasSeen, ⟨by decide +kernel, by decide +kernel, by decide +kernel⟩, by decide⟩
theorem ml_X4_97 : MLv RX4 97 yX4_reachesBy cX4_reachesBy 7 (some .boolean) 3 := ⟨TBL_t 1056 (by decide +kernel) (by decide +kernel), im_X4_reachesBy, sl_X4_reachesBy, ini_RX4, cd_X4_reachesBy, ⟨by decide +kernel, by decide +kernel, by decide +kernel⟩, by decide⟩
theorem ml_X4_101 : MLv RX4 101 yX4_reachesInto cX4_reachesInto 6 (some .boolean) 3 := ⟨TBL_t 1031 (by decide +kernel) (by decide +kernel), im_X4_reachesInto, sl_X4_reachesInto, ini_RX4, cd_X4_reachesInto, ⟨by decide +kernel, by decide +kernel, by decide +kernel⟩, by decide⟩
theorem ml_X4_104 : MLv RX4 104 yX4_helpsLast cX4_helpsLast 3 (some .boolean) 2 := ⟨TBL_t 1060 (by decide +kernel) (by decide +kernel), im_X4_helpsLast, sl_X4_helpsLast, ini_RX4, cd_X4_helpsLast, ⟨by decide +kernel, by decide +kernel, by decide +kernel⟩, by decide⟩
theorem ml_X4_107 : MLv RX4 107 yX4_isAwaited cX4_isAwaited 3 (some .boolean) 1 := ⟨TBL_t 1064 (by decide +kernel) (by decide +kernel), im_X4_isAwaited, sl_X4_isAwaited, ini_RX4, cd_X4_isAwaited, ⟨by decide +kernel, by decide +kernel, by decide +kernel⟩, by decide⟩
theorem ml_X4_110 : MLv RX4 110 yX9_mayGo cX9_mayGo 5 (some .boolean) 4 := ⟨TBL_t 1035 (by decide +kernel) (by decide +kernel), im_X9_mayGo, sl_X9_mayGo, ini_RX9, cd_X9_mayGo, ⟨by decide +kernel, by decide +kernel, by decide +kernel⟩, by decide⟩
theorem ml_X4_114 : MLv RX4 114 yX4_shift cX4_shift 4 none 3 := ⟨TBL_t 1046 (by decide +kernel) (by decide +kernel), im_X4_shift, sl_X4_shift, ini_RX4, cd_X4_shift, ⟨by decide +kernel, by decide +kernel, by decide +kernel⟩, by decide⟩
theorem ml_X4_118 : MLs RX4 118 yJ9_max_7cf53 cJ9_max_7cf53 2 (some .int) 2 := ⟨TBL_t 1054 (by decide +kernel) (by decide +kernel), sm_J9_max_7cf53, ini_RJ9, cd_J9_max_7cf53, ⟨by decide +kernel, by decide +kernel, by decide +kernel⟩, by decide⟩
theorem kc_X4_124 : Cond.constant RX4 124 (-1640531535) ∈ TBL := TBL_t 1055 (by decide +kernel) (by decide +kernel)
theorem fl_X5_11 : FL RX5 11 5 0 := ⟨RX5, TX5, 2, rfl, by decide, rfl, by decide, cw5, TBL_t 314 (by decide +kernel) (by decide +kernel), rfl⟩
theorem fl_X5_15 : FL RX5 15 5 1 := ⟨RX5, TX5, 2, rfl, by decide, rfl, by decide, cw5, TBL_t 315 (by decide +kernel) (by decide +kernel), rfl⟩
theorem ml_X5_19 : MLs RX5 19 yJ9_min_7cf53 cJ9_min_7cf53 2 (some .int) 2 := ⟨TBL_t 859 (by decide +kernel) (by decide +kernel), sm_J9_min_7cf53, ini_RJ9, cd_J9_min_7cf53, ⟨by decide +kernel, by decide +kernel, by decide +kernel⟩, by decide⟩
theorem ml_X5_25 : MLv RX5 25 yX5_count cX5_count 1 (some .int) 0 := ⟨TBL_t 1255 (by decide +kernel) (by decide +kernel), im_X5_count, sl_X5_count, ini_RX5, cd_X5_count, ⟨by decide +kernel, by decide +kernel, by decide +kernel⟩, by decide⟩
theorem fl_X6_11 : FL RX6 11 6 0 := ⟨RX6, TX6, 2, rfl, by decide, rfl, by decide, cw6, TBL_t 388 (by decide +kernel) (by decide +kernel), rfl⟩
theorem fl_X6_15 : FL RX6 15 6 1 := ⟨RX6, TX6, 2, rfl, by decide, rfl, by decide, cw6, TBL_t 390 (by decide +kernel) (by decide +kernel), rfl⟩
theorem fl_X6_19 : FL RX6 19 9 1 := ⟨RX9, TX9, 8, rfl, by decide, rfl, by decide, cw9, TBL_t 248 (by decide +kernel) (by decide +kernel), rfl⟩
theorem ml_X6_24 : MLv RX6 24 yX6_putPair cX6_putPair 2 none 1 := ⟨TBL_t 1264 (by decide +kernel) (by decide +kernel), im_X6_putPair, sl_X6_putPair, ini_RX6, cd_X6_putPair, ⟨by decide +kernel, by decide +kernel, by decide +kernel⟩, by decide⟩
theorem fl_X6_28 : FL RX6 28 9 0 := ⟨RX9, TX9, 8, rfl, by decide, rfl, by decide, cw9, TBL_t 245 (by decide +kernel) (by decide +kernel), rfl⟩
theorem fl_X6_32 : FL RX6 32 2 3 := ⟨RX2, TX2, 19, rfl, by decide, rfl, by decide, cw2, TBL_t 54 (by decide +kernel) (by decide +kernel), rfl⟩
theorem fl_X6_37 : FL RX6 37 9 2 := ⟨RX9, TX9, 8, rfl, by decide, rfl, by decide, cw9, TBL_t 251 (by decide +kernel) (by decide +kernel), rfl⟩
theorem ml_X6_40 : MLv RX6 40 yX9_stands cX9_stands 2 (some .boolean) 1 := ⟨TBL_t 1272 (by decide +kernel) (by decide +kernel), im_X9_stands, sl_X9_stands, ini_RX9, cd_X9_stands, ⟨by decide +kernel, by decide +kernel, by decide +kernel⟩, by decide⟩
theorem fl_X6_44 : FL RX6 44 9 3 := ⟨RX9, TX9, 8, rfl, by decide, rfl, by decide, cw9, TBL_t 256 (by decide +kernel) (by decide +kernel), rfl⟩
theorem ml_X6_47 : MLv RX6 47 yX6_put cX6_put 2 none 1 := ⟨TBL_t 1268 (by decide +kernel) (by decide +kernel), im_X6_put, sl_X6_put, ini_RX6, cd_X6_put, ⟨by decide +kernel, by decide +kernel, by decide +kernel⟩, by decide⟩
theorem fl_X6_50 : FL RX6 50 9 4 := ⟨RX9, TX9, 8, rfl, by decide, rfl, by decide, cw9, TBL_t 262 (by decide +kernel) (by decide +kernel), rfl⟩
theorem fl_X6_53 : FL RX6 53 2 2 := ⟨RX2, TX2, 19, rfl, by decide, rfl, by decide, cw2, TBL_t 47 (by decide +kernel) (by decide +kernel), rfl⟩
theorem fl_X6_56 : FL RX6 56 9 5 := ⟨RX9, TX9, 8, rfl, by decide, rfl, by decide, cw9, TBL_t 265 (by decide +kernel) (by decide +kernel), rfl⟩
theorem ml_X6_59 : MLs RX6 59 yX6_check cX6_check 4 (some .int) 2 := ⟨TBL_t 1273 (by decide +kernel) (by decide +kernel), sm_X6_check, ini_RX6, cd_X6_check, ⟨by decide +kernel, by decide +kernel, by decide +kernel⟩, by decide⟩
theorem ml_X6_63 : MLs RX6 63 yX6_sizeFor cX6_sizeFor 1 (some .int) 1 := ⟨TBL_t 1288 (by decide +kernel) (by decide +kernel), sm_X6_sizeFor, ini_RX6, cd_X6_sizeFor, ⟨by decide +kernel, by decide +kernel, by decide +kernel⟩, by decide⟩
theorem ml_X6_67 : MLs RX6 67 yX6_pair cX6_pair 2 (some .int) 2 := ⟨TBL_t 1291 (by decide +kernel) (by decide +kernel), sm_X6_pair, ini_RX6, cd_X6_pair, ⟨by decide +kernel, by decide +kernel, by decide +kernel⟩, by decide⟩
theorem ml_X6_70 : MLv RX6 70 yX6_restoresLakes cX6_restoresLakes 5 (some .boolean) 2 := ⟨TBL_t 1294 (by decide +kernel) (by decide +kernel), im_X6_restoresLakes, sl_X6_restoresLakes, ini_RX6, cd_X6_restoresLakes, ⟨by decide +kernel, by decide +kernel, by decide +kernel⟩, by decide⟩
theorem ml_X6_74 : MLv RX6 74 yX6_restoresDebts cX6_restoresDebts 8 (some .boolean) 3 := ⟨TBL_t 1305 (by decide +kernel) (by decide +kernel), im_X6_restoresDebts, sl_X6_restoresDebts, ini_RX6, cd_X6_restoresDebts, ⟨by decide +kernel, by decide +kernel, by decide +kernel⟩, by decide⟩
theorem ml_X6_78 : MLs RX6 78 yX6_isLakeRow cX6_isLakeRow 4 (some .boolean) 4 := ⟨TBL_t 1298 (by decide +kernel) (by decide +kernel), sm_X6_isLakeRow, ini_RX6, cd_X6_isLakeRow, ⟨by decide +kernel, by decide +kernel, by decide +kernel⟩, by decide⟩
theorem ml_X6_82 : MLv RX6 82 yX9_setBarrels cX9_setBarrels 3 none 2 := ⟨TBL_t 1303 (by decide +kernel) (by decide +kernel), im_X9_setBarrels, sl_X9_setBarrels, ini_RX9, cd_X9_setBarrels, ⟨by decide +kernel, by decide +kernel, by decide +kernel⟩, by decide⟩
theorem fl_X6_86 : FL RX6 86 2 1 := ⟨RX2, TX2, 19, rfl, by decide, rfl, by decide, cw2, TBL_t 44 (by decide +kernel) (by decide +kernel), rfl⟩
theorem ml_X6_89 : MLv RX6 89 yX9_roomIn cX9_roomIn 4 (some .int) 1 := ⟨TBL_t 1304 (by decide +kernel) (by decide +kernel), im_X9_roomIn, sl_X9_roomIn, ini_RX9, cd_X9_roomIn, ⟨by decide +kernel, by decide +kernel, by decide +kernel⟩, by decide⟩
theorem ml_X6_93 : MLv RX6 93 yX9_isHollow cX9_isHollow 2 (some .boolean) 1 := ⟨TBL_t 1301 (by decide +kernel) (by decide +kernel), im_X9_isHollow, sl_X9_isHollow, ini_RX9, cd_X9_isHollow, ⟨by decide +kernel, by decide +kernel, by decide +kernel⟩, by decide⟩
theorem ml_X6_96 : MLv RX6 96 yX9_isOwner cX9_isOwner 2 (some .boolean) 1 := ⟨TBL_t 1302 (by decide +kernel) (by decide +kernel), im_X9_isOwner, sl_X9_isOwner, ini_RX9, cd_X9_isOwner, ⟨by decide +kernel, by decide +kernel, by decide +kernel⟩, by decide⟩
theorem fl_X7_14 : FL RX7 14 7 0 := ⟨RX7, TX7, 4, rfl, by decide, rfl, by decide, cw7, TBL_t 207 (by decide +kernel) (by decide +kernel), rfl⟩
theorem fl_X7_25 : FL RX7 25 7 1 := ⟨RX7, TX7, 4, rfl, by decide, rfl, by decide, cw7, TBL_t 209 (by decide +kernel) (by decide +kernel), rfl⟩
theorem fl_X7_29 : FL RX7 29 7 2 := ⟨RX7, TX7, 4, rfl, by decide, rfl, by decide, cw7, TBL_t 210 (by decide +kernel) (by decide +kernel), rfl⟩
theorem ml_X7_33 : MLv RX7 33 yX2_clear cX2_clear 1 none 0 := ⟨TBL_t 494 (by decide +kernel) (by decide +kernel), im_X2_clear, sl_X2_clear, ini_RX2, cd_X2_clear, ⟨by decide +kernel, by decide +kernel, by decide +kernel⟩, by decide⟩
theorem ml_X7_38 : MLv RX7 38 yX10_begin cX10_begin 2 none 1 := ⟨TBL_t 501 (by decide +kernel) (by decide +kernel), im_X10_begin, sl_X10_begin, ini_RX10, cd_X10_begin, ⟨by decide +kernel, by decide +kernel, by decide +kernel⟩, by decide⟩
theorem fl_X7_42 : FL RX7 42 10 3 := ⟨RX10, TX10, 9, rfl, by decide, rfl, by decide, cw10, TBL_t 161 (by decide +kernel) (by decide +kernel), rfl⟩
theorem ml_X7_46 : MLv RX7 46 yX7_readStatement cX7_readStatement 2 (some .boolean) 0 := ⟨TBL_t 576 (by decide +kernel) (by decide +kernel), im_X7_readStatement, sl_X7_readStatement, ini_RX7, cd_X7_readStatement, ⟨by decide +kernel, by decide +kernel, by decide +kernel⟩, by decide⟩
theorem fl_X7_50 : FL RX7 50 2 0 := ⟨RX2, TX2, 19, rfl, by decide, rfl, by decide, cw2, TBL_t 37 (by decide +kernel) (by decide +kernel), rfl⟩
theorem ml_X7_53 : MLv RX7 53 yX10_fail cX10_fail 2 (some .boolean) 1 := ⟨TBL_t 580 (by decide +kernel) (by decide +kernel), im_X10_fail, sl_X10_fail, ini_RX10, cd_X10_fail, ⟨by decide +kernel, by decide +kernel, by decide +kernel⟩, by decide⟩
theorem ml_X7_57 : MLv RX7 57 yX10_needKind cX10_needKind 2 (some .boolean) 1 := ⟨TBL_t 584 (by decide +kernel) (by decide +kernel), im_X10_needKind, sl_X10_needKind, ini_RX10, cd_X10_needKind, ⟨by decide +kernel, by decide +kernel, by decide +kernel⟩, by decide⟩
theorem fl_X7_60 : FL RX7 60 10 6 := ⟨RX10, TX10, 9, rfl, by decide, rfl, by decide, cw10, TBL_t 166 (by decide +kernel) (by decide +kernel), rfl⟩
theorem ml_X7_63 : MLv RX7 63 yX7_isOneTooMany cX7_isOneTooMany 2 (some .boolean) 1 := ⟨TBL_t 592 (by decide +kernel) (by decide +kernel), im_X7_isOneTooMany, sl_X7_isOneTooMany, ini_RX7, cd_X7_isOneTooMany, ⟨by decide +kernel, by decide +kernel, by decide +kernel⟩, by decide⟩
theorem ml_X7_66 : MLv RX7 66 yX7_readHollow cX7_readHollow 3 (some .boolean) 0 := ⟨TBL_t 600 (by decide +kernel) (by decide +kernel), im_X7_readHollow, sl_X7_readHollow, ini_RX7, cd_X7_readHollow, ⟨by decide +kernel, by decide +kernel, by decide +kernel⟩, by decide⟩
theorem ml_X7_69 : MLv RX7 69 yX7_readOwner cX7_readOwner 1 (some .boolean) 0 := ⟨TBL_t 633 (by decide +kernel) (by decide +kernel), im_X7_readOwner, sl_X7_readOwner, ini_RX7, cd_X7_readOwner, ⟨by decide +kernel, by decide +kernel, by decide +kernel⟩, by decide⟩
theorem ml_X7_72 : MLv RX7 72 yX7_readLake cX7_readLake 4 (some .boolean) 0 := ⟨TBL_t 637 (by decide +kernel) (by decide +kernel), im_X7_readLake, sl_X7_readLake, ini_RX7, cd_X7_readLake, ⟨by decide +kernel, by decide +kernel, by decide +kernel⟩, by decide⟩
theorem ml_X7_75 : MLv RX7 75 yX7_readDebt cX7_readDebt 3 (some .boolean) 0 := ⟨TBL_t 661 (by decide +kernel) (by decide +kernel), im_X7_readDebt, sl_X7_readDebt, ini_RX7, cd_X7_readDebt, ⟨by decide +kernel, by decide +kernel, by decide +kernel⟩, by decide⟩
theorem ml_X7_78 : MLv RX7 78 yX8_readRule cX8_readRule 4 (some .boolean) 2 := ⟨TBL_t 665 (by decide +kernel) (by decide +kernel), im_X8_readRule, sl_X8_readRule, ini_RX8, cd_X8_readRule, ⟨by decide +kernel, by decide +kernel, by decide +kernel⟩, by decide⟩
theorem ml_X7_82 : MLv RX7 82 yX7_readDrought cX7_readDrought 1 (some .boolean) 0 := ⟨TBL_t 739 (by decide +kernel) (by decide +kernel), im_X7_readDrought, sl_X7_readDrought, ini_RX7, cd_X7_readDrought, ⟨by decide +kernel, by decide +kernel, by decide +kernel⟩, by decide⟩
theorem ml_X7_85 : MLv RX7 85 yX7_readCarts cX7_readCarts 1 (some .boolean) 0 := ⟨TBL_t 743 (by decide +kernel) (by decide +kernel), im_X7_readCarts, sl_X7_readCarts, ini_RX7, cd_X7_readCarts, ⟨by decide +kernel, by decide +kernel, by decide +kernel⟩, by decide⟩
theorem ml_X7_88 : MLv RX7 88 yX10_failForm cX10_failForm 1 (some .boolean) 0 := ⟨TBL_t 747 (by decide +kernel) (by decide +kernel), im_X10_failForm, sl_X10_failForm, ini_RX10, cd_X10_failForm, ⟨by decide +kernel, by decide +kernel, by decide +kernel⟩, by decide⟩
theorem ml_X7_91 : MLv RX7 91 yX10_needSign cX10_needSign 2 (some .boolean) 1 := ⟨TBL_t 748 (by decide +kernel) (by decide +kernel), im_X10_needSign, sl_X10_needSign, ini_RX10, cd_X10_needSign, ⟨by decide +kernel, by decide +kernel, by decide +kernel⟩, by decide⟩
theorem ml_X7_94 : MLv RX7 94 yX10_advance cX10_advance 3 (some .boolean) 0 := ⟨TBL_t 604 (by decide +kernel) (by decide +kernel), im_X10_advance, sl_X10_advance, ini_RX10, cd_X10_advance, ⟨by decide +kernel, by decide +kernel, by decide +kernel⟩, by decide⟩
theorem fl_X7_97 : FL RX7 97 2 1 := ⟨RX2, TX2, 19, rfl, by decide, rfl, by decide, cw2, TBL_t 41 (by decide +kernel) (by decide +kernel), rfl⟩
theorem fl_X7_100 : FL RX7 100 2 2 := ⟨RX2, TX2, 19, rfl, by decide, rfl, by decide, cw2, TBL_t 48 (by decide +kernel) (by decide +kernel), rfl⟩
theorem fl_X7_103 : FL RX7 103 2 3 := ⟨RX2, TX2, 19, rfl, by decide, rfl, by decide, cw2, TBL_t 57 (by decide +kernel) (by decide +kernel), rfl⟩
theorem ml_X7_106 : MLv RX7 106 yX2_hasRule cX2_hasRule 2 (some .boolean) 1 := ⟨TBL_t 596 (by decide +kernel) (by decide +kernel), im_X2_hasRule, sl_X2_hasRule, ini_RX2, cd_X2_hasRule, ⟨by decide +kernel, by decide +kernel, by decide +kernel⟩, by decide⟩
theorem ml_X7_109 : MLv RX7 109 yX7_takeNewName cX7_takeNewName 1 (some .boolean) 0 := ⟨TBL_t 605 (by decide +kernel) (by decide +kernel), im_X7_takeNewName, sl_X7_takeNewName, ini_RX7, cd_X7_takeNewName, ⟨by decide +kernel, by decide +kernel, by decide +kernel⟩, by decide⟩
theorem fl_X7_112 : FL RX7 112 7 3 := ⟨RX7, TX7, 4, rfl, by decide, rfl, by decide, cw7, TBL_t 211 (by decide +kernel) (by decide +kernel), rfl⟩
theorem ml_X7_115 : MLv RX7 115 yX7_takeWord cX7_takeWord 2 (some .boolean) 1 := ⟨TBL_t 617 (by decide +kernel) (by decide +kernel), im_X7_takeWord, sl_X7_takeWord, ini_RX7, cd_X7_takeWord, ⟨by decide +kernel, by decide +kernel, by decide +kernel⟩, by decide⟩
theorem ml_X7_118 : MLv RX7 118 yX7_takeNumber cX7_takeNumber 3 (some .boolean) 2 := ⟨TBL_t 629 (by decide +kernel) (by decide +kernel), im_X7_takeNumber, sl_X7_takeNumber, ini_RX7, cd_X7_takeNumber, ⟨by decide +kernel, by decide +kernel, by decide +kernel⟩, by decide⟩
theorem fl_X7_122 : FL RX7 122 2 6 := ⟨RX2, TX2, 19, rfl, by decide, rfl, by decide, cw2, TBL_t 67 (by decide +kernel) (by decide +kernel), rfl⟩
theorem fl_X7_126 : FL RX7 126 2 9 := ⟨RX2, TX2, 19, rfl, by decide, rfl, by decide, cw2, TBL_t 76 (by decide +kernel) (by decide +kernel), rfl⟩
theorem fl_X7_129 : FL RX7 129 2 10 := ⟨RX2, TX2, 19, rfl, by decide, rfl, by decide, cw2, TBL_t 80 (by decide +kernel) (by decide +kernel), rfl⟩
theorem fl_X7_132 : FL RX7 132 2 7 := ⟨RX2, TX2, 19, rfl, by decide, rfl, by decide, cw2, TBL_t 70 (by decide +kernel) (by decide +kernel), rfl⟩
theorem ml_X7_135 : MLv RX7 135 yX7_takeHollowWithRoom cX7_takeHollowWithRoom 2 (some .boolean) 1 := ⟨TBL_t 641 (by decide +kernel) (by decide +kernel), im_X7_takeHollowWithRoom, sl_X7_takeHollowWithRoom, ini_RX7, cd_X7_takeHollowWithRoom, ⟨by decide +kernel, by decide +kernel, by decide +kernel⟩, by decide⟩
theorem ml_X7_138 : MLv RX7 138 yX7_takeOwnerBut cX7_takeOwnerBut 2 (some .boolean) 1 := ⟨TBL_t 653 (by decide +kernel) (by decide +kernel), im_X7_takeOwnerBut, sl_X7_takeOwnerBut, ini_RX7, cd_X7_takeOwnerBut, ⟨by decide +kernel, by decide +kernel, by decide +kernel⟩, by decide⟩
theorem fl_X7_141 : FL RX7 141 2 8 := ⟨RX2, TX2, 19, rfl, by decide, rfl, by decide, cw2, TBL_t 73 (by decide +kernel) (by decide +kernel), rfl⟩
theorem fl_X7_144 : FL RX7 144 2 11 := ⟨RX2, TX2, 19, rfl, by decide, rfl, by decide, cw2, TBL_t 85 (by decide +kernel) (by decide +kernel), rfl⟩
theorem fl_X7_147 : FL RX7 147 2 12 := ⟨RX2, TX2, 19, rfl, by decide, rfl, by decide, cw2, TBL_t 88 (by decide +kernel) (by decide +kernel), rfl⟩
theorem fl_X7_150 : FL RX7 150 2 13 := ⟨RX2, TX2, 19, rfl, by decide, rfl, by decide, cw2, TBL_t 91 (by decide +kernel) (by decide +kernel), rfl⟩
theorem fl_X7_153 : FL RX7 153 2 14 := ⟨RX2, TX2, 19, rfl, by decide, rfl, by decide, cw2, TBL_t 94 (by decide +kernel) (by decide +kernel), rfl⟩
theorem fl_X7_156 : FL RX7 156 2 4 := ⟨RX2, TX2, 19, rfl, by decide, rfl, by decide, cw2, TBL_t 60 (by decide +kernel) (by decide +kernel), rfl⟩
theorem fl_X7_159 : FL RX7 159 2 5 := ⟨RX2, TX2, 19, rfl, by decide, rfl, by decide, cw2, TBL_t 64 (by decide +kernel) (by decide +kernel), rfl⟩
theorem ml_X7_162 : MLv RX7 162 yX10_needOwn cX10_needOwn 2 (some .boolean) 1 := ⟨TBL_t 621 (by decide +kernel) (by decide +kernel), im_X10_needOwn, sl_X10_needOwn, ini_RX10, cd_X10_needOwn, ⟨by decide +kernel, by decide +kernel, by decide +kernel⟩, by decide⟩
theorem ml_X7_165 : MLv RX7 165 yX2_isTaken cX2_isTaken 2 (some .boolean) 1 := ⟨TBL_t 609 (by decide +kernel) (by decide +kernel), im_X2_isTaken, sl_X2_isTaken, ini_RX2, cd_X2_isTaken, ⟨by decide +kernel, by decide +kernel, by decide +kernel⟩, by decide⟩
theorem ml_X7_168 : MLv RX7 168 yX2_findHollow cX2_findHollow 2 (some .int) 1 := ⟨TBL_t 645 (by decide +kernel) (by decide +kernel), im_X2_findHollow, sl_X2_findHollow, ini_RX2, cd_X2_findHollow, ⟨by decide +kernel, by decide +kernel, by decide +kernel⟩, by decide⟩
theorem ml_X7_172 : MLv RX7 172 yX2_roomAtFirst cX2_roomAtFirst 4 (some .int) 1 := ⟨TBL_t 649 (by decide +kernel) (by decide +kernel), im_X2_roomAtFirst, sl_X2_roomAtFirst, ini_RX2, cd_X2_roomAtFirst, ⟨by decide +kernel, by decide +kernel, by decide +kernel⟩, by decide⟩
theorem ml_X7_175 : MLv RX7 175 yX2_findOwner cX2_findOwner 2 (some .int) 1 := ⟨TBL_t 657 (by decide +kernel) (by decide +kernel), im_X2_findOwner, sl_X2_findOwner, ini_RX2, cd_X2_findOwner, ⟨by decide +kernel, by decide +kernel, by decide +kernel⟩, by decide⟩
theorem fl_X8_9 : FL RX8 9 8 0 := ⟨RX8, TX8, 3, rfl, by decide, rfl, by decide, cw8, TBL_t 197 (by decide +kernel) (by decide +kernel), rfl⟩
theorem fl_X8_15 : FL RX8 15 8 2 := ⟨RX8, TX8, 3, rfl, by decide, rfl, by decide, cw8, TBL_t 199 (by decide +kernel) (by decide +kernel), rfl⟩
theorem fl_X8_19 : FL RX8 19 8 1 := ⟨RX8, TX8, 3, rfl, by decide, rfl, by decide, cw8, TBL_t 198 (by decide +kernel) (by decide +kernel), rfl⟩
theorem fl_X8_23 : FL RX8 23 2 16 := ⟨RX2, TX2, 19, rfl, by decide, rfl, by decide, cw2, TBL_t 97 (by decide +kernel) (by decide +kernel), rfl⟩
theorem ml_X8_28 : MLv RX8 28 yX10_advance cX10_advance 3 (some .boolean) 0 := ⟨TBL_t 669 (by decide +kernel) (by decide +kernel), im_X10_advance, sl_X10_advance, ini_RX10, cd_X10_advance, ⟨by decide +kernel, by decide +kernel, by decide +kernel⟩, by decide⟩
theorem ml_X8_34 : MLv RX8 34 yX8_readTest cX8_readTest 4 (some .boolean) 1 := ⟨TBL_t 670 (by decide +kernel) (by decide +kernel), im_X8_readTest, sl_X8_readTest, ini_RX8, cd_X8_readTest, ⟨by decide +kernel, by decide +kernel, by decide +kernel⟩, by decide⟩
theorem ml_X8_38 : MLv RX8 38 yX8_readSum cX8_readSum 5 (some .boolean) 1 := ⟨TBL_t 701 (by decide +kernel) (by decide +kernel), im_X8_readSum, sl_X8_readSum, ini_RX8, cd_X8_readSum, ⟨by decide +kernel, by decide +kernel, by decide +kernel⟩, by decide⟩
theorem fl_X8_41 : FL RX8 41 2 17 := ⟨RX2, TX2, 19, rfl, by decide, rfl, by decide, cw2, TBL_t 100 (by decide +kernel) (by decide +kernel), rfl⟩
theorem fl_X8_45 : FL RX8 45 2 18 := ⟨RX2, TX2, 19, rfl, by decide, rfl, by decide, cw2, TBL_t 103 (by decide +kernel) (by decide +kernel), rfl⟩
theorem ml_X8_48 : MLv RX8 48 yX10_fail cX10_fail 2 (some .boolean) 1 := ⟨TBL_t 687 (by decide +kernel) (by decide +kernel), im_X10_fail, sl_X10_fail, ini_RX10, cd_X10_fail, ⟨by decide +kernel, by decide +kernel, by decide +kernel⟩, by decide⟩
theorem ml_X8_51 : MLv RX8 51 yX8_readBoth cX8_readBoth 4 (some .boolean) 1 := ⟨TBL_t 674 (by decide +kernel) (by decide +kernel), im_X8_readBoth, sl_X8_readBoth, ini_RX8, cd_X8_readBoth, ⟨by decide +kernel, by decide +kernel, by decide +kernel⟩, by decide⟩
theorem ml_X8_54 : MLv RX8 54 yX10_isOwn cX10_isOwn 2 (some .boolean) 1 := ⟨TBL_t 682 (by decide +kernel) (by decide +kernel), im_X10_isOwn, sl_X10_isOwn, ini_RX10, cd_X10_isOwn, ⟨by decide +kernel, by decide +kernel, by decide +kernel⟩, by decide⟩
theorem ml_X8_57 : MLv RX8 57 yX2_emit cX2_emit 2 (some .boolean) 1 := ⟨TBL_t 688 (by decide +kernel) (by decide +kernel), im_X2_emit, sl_X2_emit, ini_RX2, cd_X2_emit, ⟨by decide +kernel, by decide +kernel, by decide +kernel⟩, by decide⟩
theorem ml_X8_60 : MLv RX8 60 yX8_readFact cX8_readFact 3 (some .boolean) 1 := ⟨TBL_t 678 (by decide +kernel) (by decide +kernel), im_X8_readFact, sl_X8_readFact, ini_RX8, cd_X8_readFact, ⟨by decide +kernel, by decide +kernel, by decide +kernel⟩, by decide⟩
theorem ml_X8_63 : MLv RX8 63 yX8_mayOpen cX8_mayOpen 2 (some .boolean) 1 := ⟨TBL_t 683 (by decide +kernel) (by decide +kernel), im_X8_mayOpen, sl_X8_mayOpen, ini_RX8, cd_X8_mayOpen, ⟨by decide +kernel, by decide +kernel, by decide +kernel⟩, by decide⟩
theorem ml_X8_66 : MLv RX8 66 yX10_isSign cX10_isSign 2 (some .boolean) 1 := ⟨TBL_t 692 (by decide +kernel) (by decide +kernel), im_X10_isSign, sl_X10_isSign, ini_RX10, cd_X10_isSign, ⟨by decide +kernel, by decide +kernel, by decide +kernel⟩, by decide⟩
theorem ml_X8_69 : MLv RX8 69 yX10_needSign cX10_needSign 2 (some .boolean) 1 := ⟨TBL_t 696 (by decide +kernel) (by decide +kernel), im_X10_needSign, sl_X10_needSign, ini_RX10, cd_X10_needSign, ⟨by decide +kernel, by decide +kernel, by decide +kernel⟩, by decide⟩
theorem ml_X8_72 : MLv RX8 72 yX8_compareOp cX8_compareOp 1 (some .int) 0 := ⟨TBL_t 735 (by decide +kernel) (by decide +kernel), im_X8_compareOp, sl_X8_compareOp, ini_RX8, cd_X8_compareOp, ⟨by decide +kernel, by decide +kernel, by decide +kernel⟩, by decide⟩
theorem ml_X8_76 : MLv RX8 76 yX10_failForm cX10_failForm 1 (some .boolean) 0 := ⟨TBL_t 726 (by decide +kernel) (by decide +kernel), im_X10_failForm, sl_X10_failForm, ini_RX10, cd_X10_failForm, ⟨by decide +kernel, by decide +kernel, by decide +kernel⟩, by decide⟩
theorem ml_X8_79 : MLv RX8 79 yX8_readProduct cX8_readProduct 5 (some .boolean) 1 := ⟨TBL_t 705 (by decide +kernel) (by decide +kernel), im_X8_readProduct, sl_X8_readProduct, ini_RX8, cd_X8_readProduct, ⟨by decide +kernel, by decide +kernel, by decide +kernel⟩, by decide⟩
theorem ml_X8_82 : MLv RX8 82 yX8_addOp cX8_addOp 1 (some .int) 0 := ⟨TBL_t 731 (by decide +kernel) (by decide +kernel), im_X8_addOp, sl_X8_addOp, ini_RX8, cd_X8_addOp, ⟨by decide +kernel, by decide +kernel, by decide +kernel⟩, by decide⟩
theorem ml_X8_85 : MLv RX8 85 yX8_readPart cX8_readPart 3 (some .boolean) 1 := ⟨TBL_t 709 (by decide +kernel) (by decide +kernel), im_X8_readPart, sl_X8_readPart, ini_RX8, cd_X8_readPart, ⟨by decide +kernel, by decide +kernel, by decide +kernel⟩, by decide⟩
theorem ml_X8_88 : MLv RX8 88 yX8_timesOp cX8_timesOp 1 (some .int) 0 := ⟨TBL_t 727 (by decide +kernel) (by decide +kernel), im_X8_timesOp, sl_X8_timesOp, ini_RX8, cd_X8_timesOp, ⟨by decide +kernel, by decide +kernel, by decide +kernel⟩, by decide⟩
theorem fl_X8_91 : FL RX8 91 10 3 := ⟨RX10, TX10, 9, rfl, by decide, rfl, by decide, cw10, TBL_t 162 (by decide +kernel) (by decide +kernel), rfl⟩
theorem fl_X8_94 : FL RX8 94 10 6 := ⟨RX10, TX10, 9, rfl, by decide, rfl, by decide, cw10, TBL_t 167 (by decide +kernel) (by decide +kernel), rfl⟩
theorem ml_X8_97 : MLv RX8 97 yX10_needKind cX10_needKind 2 (some .boolean) 1 := ⟨TBL_t 713 (by decide +kernel) (by decide +kernel), im_X10_needKind, sl_X10_needKind, ini_RX10, cd_X10_needKind, ⟨by decide +kernel, by decide +kernel, by decide +kernel⟩, by decide⟩
theorem ml_X8_100 : MLv RX8 100 yX8_readPair cX8_readPair 3 (some .boolean) 2 := ⟨TBL_t 714 (by decide +kernel) (by decide +kernel), im_X8_readPair, sl_X8_readPair, ini_RX8, cd_X8_readPair, ⟨by decide +kernel, by decide +kernel, by decide +kernel⟩, by decide⟩
theorem ml_X8_104 : MLv RX8 104 yX8_readChoice cX8_readChoice 2 (some .boolean) 1 := ⟨TBL_t 718 (by decide +kernel) (by decide +kernel), im_X8_readChoice, sl_X8_readChoice, ini_RX8, cd_X8_readChoice, ⟨by decide +kernel, by decide +kernel, by decide +kernel⟩, by decide⟩
theorem ml_X8_107 : MLv RX8 107 yX8_figureOp cX8_figureOp 2 (some .int) 1 := ⟨TBL_t 722 (by decide +kernel) (by decide +kernel), im_X8_figureOp, sl_X8_figureOp, ini_RX8, cd_X8_figureOp, ⟨by decide +kernel, by decide +kernel, by decide +kernel⟩, by decide⟩
theorem fl_X9_9 : FL RX9 9 9 2 := ⟨RX9, TX9, 8, rfl, by decide, rfl, by decide, cw9, TBL_t 250 (by decide +kernel) (by decide +kernel), rfl⟩
theorem fl_X9_15 : FL RX9 15 9 3 := ⟨RX9, TX9, 8, rfl, by decide, rfl, by decide, cw9, TBL_t 255 (by decide +kernel) (by decide +kernel), rfl⟩
theorem fl_X9_18 : FL RX9 18 9 4 := ⟨RX9, TX9, 8, rfl, by decide, rfl, by decide, cw9, TBL_t 260 (by decide +kernel) (by decide +kernel), rfl⟩
theorem fl_X9_21 : FL RX9 21 9 5 := ⟨RX9, TX9, 8, rfl, by decide, rfl, by decide, cw9, TBL_t 264 (by decide +kernel) (by decide +kernel), rfl⟩
theorem fl_X9_24 : FL RX9 24 9 6 := ⟨RX9, TX9, 8, rfl, by decide, rfl, by decide, cw9, TBL_t 267 (by decide +kernel) (by decide +kernel), rfl⟩
theorem fl_X9_30 : FL RX9 30 9 7 := ⟨RX9, TX9, 8, rfl, by decide, rfl, by decide, cw9, TBL_t 268 (by decide +kernel) (by decide +kernel), rfl⟩
theorem fl_X9_34 : FL RX9 34 9 0 := ⟨RX9, TX9, 8, rfl, by decide, rfl, by decide, cw9, TBL_t 243 (by decide +kernel) (by decide +kernel), rfl⟩
theorem fl_X9_38 : FL RX9 38 9 1 := ⟨RX9, TX9, 8, rfl, by decide, rfl, by decide, cw9, TBL_t 247 (by decide +kernel) (by decide +kernel), rfl⟩
theorem fl_X9_42 : FL RX9 42 2 11 := ⟨RX2, TX2, 19, rfl, by decide, rfl, by decide, cw2, TBL_t 84 (by decide +kernel) (by decide +kernel), rfl⟩
theorem wc_X9_45 : WCopy RX9 45 := ⟨TBL_t 401 (by decide +kernel) (by decide +kernel), TBL_t 403 (by decide +kernel) (by decide +kernel), TBL_t 402 (by decide +kernel) (by decide +kernel), TBL_t 13 (by decide +kernel) (by decide +kernel)⟩
theorem fl_X9_51 : FL RX9 51 2 12 := ⟨RX2, TX2, 19, rfl, by decide, rfl, by decide, cw2, TBL_t 87 (by decide +kernel) (by decide +kernel), rfl⟩
theorem fl_X9_52 : FL RX9 52 2 13 := ⟨RX2, TX2, 19, rfl, by decide, rfl, by decide, cw2, TBL_t 90 (by decide +kernel) (by decide +kernel), rfl⟩
theorem fl_X9_53 : FL RX9 53 2 14 := ⟨RX2, TX2, 19, rfl, by decide, rfl, by decide, cw2, TBL_t 93 (by decide +kernel) (by decide +kernel), rfl⟩
theorem fl_X9_54 : FL RX9 54 2 3 := ⟨RX2, TX2, 19, rfl, by decide, rfl, by decide, cw2, TBL_t 55 (by decide +kernel) (by decide +kernel), rfl⟩
theorem ml_X9_57 : MLv RX9 57 yX9_setBarrels cX9_setBarrels 3 none 2 := ⟨TBL_t 404 (by decide +kernel) (by decide +kernel), im_X9_setBarrels, sl_X9_setBarrels, ini_RX9, cd_X9_setBarrels, ⟨by decide +kernel, by decide +kernel, by decide +kernel⟩, by decide⟩
theorem fl_X9_61 : FL RX9 61 2 1 := ⟨RX2, TX2, 19, rfl, by decide, rfl, by decide, cw2, TBL_t 42 (by decide +kernel) (by decide +kernel), rfl⟩
theorem fl_X9_64 : FL RX9 64 2 2 := ⟨RX2, TX2, 19, rfl, by decide, rfl, by decide, cw2, TBL_t 49 (by decide +kernel) (by decide +kernel), rfl⟩
theorem ml_X9_67 : MLv RX9 67 yX9_isOwner cX9_isOwner 2 (some .boolean) 1 := ⟨TBL_t 932 (by decide +kernel) (by decide +kernel), im_X9_isOwner, sl_X9_isOwner, ini_RX9, cd_X9_isOwner, ⟨by decide +kernel, by decide +kernel, by decide +kernel⟩, by decide⟩
theorem ml_X9_71 : MLv RX9 71 yX9_isLake cX9_isLake 2 (some .boolean) 1 := ⟨TBL_t 790 (by decide +kernel) (by decide +kernel), im_X9_isLake, sl_X9_isLake, ini_RX9, cd_X9_isLake, ⟨by decide +kernel, by decide +kernel, by decide +kernel⟩, by decide⟩
theorem fl_X9_74 : FL RX9 74 2 9 := ⟨RX2, TX2, 19, rfl, by decide, rfl, by decide, cw2, TBL_t 78 (by decide +kernel) (by decide +kernel), rfl⟩
theorem ml_X9_77 : MLv RX9 77 yX9_stands cX9_stands 2 (some .boolean) 1 := ⟨TBL_t 786 (by decide +kernel) (by decide +kernel), im_X9_stands, sl_X9_stands, ini_RX9, cd_X9_stands, ⟨by decide +kernel, by decide +kernel, by decide +kernel⟩, by decide⟩
theorem ml_X9_80 : MLv RX9 80 yX2_hasRule cX2_hasRule 2 (some .boolean) 1 := ⟨TBL_t 794 (by decide +kernel) (by decide +kernel), im_X2_hasRule, sl_X2_hasRule, ini_RX2, cd_X2_hasRule, ⟨by decide +kernel, by decide +kernel, by decide +kernel⟩, by decide⟩
theorem ml_X9_83 : MLv RX9 83 yX9_countIn cX9_countIn 4 (some .int) 1 := ⟨TBL_t 795 (by decide +kernel) (by decide +kernel), im_X9_countIn, sl_X9_countIn, ini_RX9, cd_X9_countIn, ⟨by decide +kernel, by decide +kernel, by decide +kernel⟩, by decide⟩
theorem ml_X9_87 : MLv RX9 87 yX3_setLake cX3_setLake 4 none 3 := ⟨TBL_t 799 (by decide +kernel) (by decide +kernel), im_X3_setLake, sl_X3_setLake, ini_RX3, cd_X3_setLake, ⟨by decide +kernel, by decide +kernel, by decide +kernel⟩, by decide⟩
theorem ml_X9_91 : MLv RX9 91 yX3_run cX3_run 5 (some .int) 2 := ⟨TBL_t 803 (by decide +kernel) (by decide +kernel), im_X3_run, sl_X3_run, ini_RX3, cd_X3_run, ⟨by decide +kernel, by decide +kernel, by decide +kernel⟩, by decide⟩
theorem ml_X9_95 : MLs RX9 95 yJ9_min_7cf53 cJ9_min_7cf53 2 (some .int) 2 := ⟨TBL_t 845 (by decide +kernel) (by decide +kernel), sm_J9_min_7cf53, ini_RJ9, cd_J9_min_7cf53, ⟨by decide +kernel, by decide +kernel, by decide +kernel⟩, by decide⟩
theorem ml_X9_101 : MLs RX9 101 yJ9_max_7cf53 cJ9_max_7cf53 2 (some .int) 2 := ⟨TBL_t 846 (by decide +kernel) (by decide +kernel), sm_J9_max_7cf53, ini_RJ9, cd_J9_max_7cf53, ⟨by decide +kernel, by decide +kernel, by decide +kernel⟩, by decide⟩
theorem ml_X9_104 : MLv RX9 104 yX9_worthOf cX9_worthOf 2 (some .int) 1 := ⟨TBL_t 782 (by decide +kernel) (by decide +kernel), im_X9_worthOf, sl_X9_worthOf, ini_RX9, cd_X9_worthOf, ⟨by decide +kernel, by decide +kernel, by decide +kernel⟩, by decide⟩
theorem ml_X9_107 : MLv RX9 107 yX9_worthOfBits cX9_worthOfBits 4 (some .int) 1 := ⟨TBL_t 778 (by decide +kernel) (by decide +kernel), im_X9_worthOfBits, sl_X9_worthOfBits, ini_RX9, cd_X9_worthOfBits, ⟨by decide +kernel, by decide +kernel, by decide +kernel⟩, by decide⟩
theorem ml_X9_110 : MLv RX9 110 yX9_lakesOf cX9_lakesOf 4 (some .int) 1 := ⟨TBL_t 914 (by decide +kernel) (by decide +kernel), im_X9_lakesOf, sl_X9_lakesOf, ini_RX9, cd_X9_lakesOf, ⟨by decide +kernel, by decide +kernel, by decide +kernel⟩, by decide⟩
theorem ml_X9_113 : MLv RX9 113 yX3_setDrought cX3_setDrought 2 none 1 := ⟨TBL_t 898 (by decide +kernel) (by decide +kernel), im_X3_setDrought, sl_X3_setDrought, ini_RX3, cd_X3_setDrought, ⟨by decide +kernel, by decide +kernel, by decide +kernel⟩, by decide⟩
theorem ml_X9_117 : MLv RX9 117 yX9_leakOf cX9_leakOf 3 (some .int) 2 := ⟨TBL_t 949 (by decide +kernel) (by decide +kernel), im_X9_leakOf, sl_X9_leakOf, ini_RX9, cd_X9_leakOf, ⟨by decide +kernel, by decide +kernel, by decide +kernel⟩, by decide⟩
theorem ml_X9_120 : MLv RX9 120 yX9_isHollow cX9_isHollow 2 (some .boolean) 1 := ⟨TBL_t 1185 (by decide +kernel) (by decide +kernel), im_X9_isHollow, sl_X9_isHollow, ini_RX9, cd_X9_isHollow, ⟨by decide +kernel, by decide +kernel, by decide +kernel⟩, by decide⟩
theorem ml_X9_123 : MLv RX9 123 yX9_roomIn cX9_roomIn 4 (some .int) 1 := ⟨TBL_t 1186 (by decide +kernel) (by decide +kernel), im_X9_roomIn, sl_X9_roomIn, ini_RX9, cd_X9_roomIn, ⟨by decide +kernel, by decide +kernel, by decide +kernel⟩, by decide⟩
theorem ml_X9_126 : MLv RX9 126 yX9_mayGo cX9_mayGo 5 (some .boolean) 4 := ⟨TBL_t 1187 (by decide +kernel) (by decide +kernel), im_X9_mayGo, sl_X9_mayGo, ini_RX9, cd_X9_mayGo, ⟨by decide +kernel, by decide +kernel, by decide +kernel⟩, by decide⟩
theorem fl_X9_130 : FL RX9 130 2 5 := ⟨RX2, TX2, 19, rfl, by decide, rfl, by decide, cw2, TBL_t 65 (by decide +kernel) (by decide +kernel), rfl⟩
theorem fl_X9_133 : FL RX9 133 2 10 := ⟨RX2, TX2, 19, rfl, by decide, rfl, by decide, cw2, TBL_t 82 (by decide +kernel) (by decide +kernel), rfl⟩
theorem ml_X9_136 : MLs RX9 136 yJ9_abs_0f7a4 cJ9_abs_0f7a4 1 (some .int) 1 := ⟨TBL_t 1039 (by decide +kernel) (by decide +kernel), sm_J9_abs_0f7a4, ini_RJ9, cd_J9_abs_0f7a4, ⟨by decide +kernel, by decide +kernel, by decide +kernel⟩, by decide⟩
theorem ml_X9_139 : MLv RX9 139 yX3_setWay cX3_setWay 3 none 2 := ⟨TBL_t 1042 (by decide +kernel) (by decide +kernel), im_X3_setWay, sl_X3_setWay, ini_RX3, cd_X3_setWay, ⟨by decide +kernel, by decide +kernel, by decide +kernel⟩, by decide⟩
theorem ml_X9_142 : MLv RX9 142 yX9_owedTo cX9_owedTo 4 (some .int) 1 := ⟨TBL_t 1096 (by decide +kernel) (by decide +kernel), im_X9_owedTo, sl_X9_owedTo, ini_RX9, cd_X9_owedTo, ⟨by decide +kernel, by decide +kernel, by decide +kernel⟩, by decide⟩
theorem ml_X9_145 : MLv RX9 145 yX9_owedBy cX9_owedBy 4 (some .int) 1 := ⟨TBL_t 851 (by decide +kernel) (by decide +kernel), im_X9_owedBy, sl_X9_owedBy, ini_RX9, cd_X9_owedBy, ⟨by decide +kernel, by decide +kernel, by decide +kernel⟩, by decide⟩
theorem fl_X10_9 : FL RX10 9 10 0 := ⟨RX10, TX10, 9, rfl, by decide, rfl, by decide, cw10, TBL_t 157 (by decide +kernel) (by decide +kernel), rfl⟩
theorem fl_X10_15 : FL RX10 15 10 1 := ⟨RX10, TX10, 9, rfl, by decide, rfl, by decide, cw10, TBL_t 158 (by decide +kernel) (by decide +kernel), rfl⟩
theorem fl_X10_19 : FL RX10 19 10 2 := ⟨RX10, TX10, 9, rfl, by decide, rfl, by decide, cw10, TBL_t 159 (by decide +kernel) (by decide +kernel), rfl⟩
theorem fl_X10_22 : FL RX10 22 10 3 := ⟨RX10, TX10, 9, rfl, by decide, rfl, by decide, cw10, TBL_t 160 (by decide +kernel) (by decide +kernel), rfl⟩
theorem ml_X10_25 : MLv RX10 25 yX10_advance cX10_advance 3 (some .boolean) 0 := ⟨TBL_t 505 (by decide +kernel) (by decide +kernel), im_X10_advance, sl_X10_advance, ini_RX10, cd_X10_advance, ⟨by decide +kernel, by decide +kernel, by decide +kernel⟩, by decide⟩
theorem fl_X10_29 : FL RX10 29 10 6 := ⟨RX10, TX10, 9, rfl, by decide, rfl, by decide, cw10, TBL_t 165 (by decide +kernel) (by decide +kernel), rfl⟩
theorem ml_X10_32 : MLv RX10 32 yX10_isSign cX10_isSign 2 (some .boolean) 1 := ⟨TBL_t 700 (by decide +kernel) (by decide +kernel), im_X10_isSign, sl_X10_isSign, ini_RX10, cd_X10_isSign, ⟨by decide +kernel, by decide +kernel, by decide +kernel⟩, by decide⟩
theorem ml_X10_36 : MLv RX10 36 yX10_failForm cX10_failForm 1 (some .boolean) 0 := ⟨TBL_t 588 (by decide +kernel) (by decide +kernel), im_X10_failForm, sl_X10_failForm, ini_RX10, cd_X10_failForm, ⟨by decide +kernel, by decide +kernel, by decide +kernel⟩, by decide⟩
theorem ml_X10_39 : MLv RX10 39 yX10_isOwn cX10_isOwn 2 (some .boolean) 1 := ⟨TBL_t 625 (by decide +kernel) (by decide +kernel), im_X10_isOwn, sl_X10_isOwn, ini_RX10, cd_X10_isOwn, ⟨by decide +kernel, by decide +kernel, by decide +kernel⟩, by decide⟩
theorem fl_X10_42 : FL RX10 42 10 7 := ⟨RX10, TX10, 9, rfl, by decide, rfl, by decide, cw10, TBL_t 169 (by decide +kernel) (by decide +kernel), rfl⟩
theorem fl_X10_45 : FL RX10 45 10 4 := ⟨RX10, TX10, 9, rfl, by decide, rfl, by decide, cw10, TBL_t 163 (by decide +kernel) (by decide +kernel), rfl⟩
theorem fl_X10_48 : FL RX10 48 10 8 := ⟨RX10, TX10, 9, rfl, by decide, rfl, by decide, cw10, TBL_t 171 (by decide +kernel) (by decide +kernel), rfl⟩
theorem fl_X10_51 : FL RX10 51 10 5 := ⟨RX10, TX10, 9, rfl, by decide, rfl, by decide, cw10, TBL_t 164 (by decide +kernel) (by decide +kernel), rfl⟩
theorem ml_X10_54 : MLv RX10 54 yX10_isText cX10_isText 1 (some .boolean) 0 := ⟨TBL_t 509 (by decide +kernel) (by decide +kernel), im_X10_isText, sl_X10_isText, ini_RX10, cd_X10_isText, ⟨by decide +kernel, by decide +kernel, by decide +kernel⟩, by decide⟩
theorem ml_X10_57 : MLs RX10 57 yX10_isLetter cX10_isLetter 1 (some .boolean) 1 := ⟨TBL_t 513 (by decide +kernel) (by decide +kernel), sm_X10_isLetter, ini_RX10, cd_X10_isLetter, ⟨by decide +kernel, by decide +kernel, by decide +kernel⟩, by decide⟩
theorem ml_X10_60 : MLv RX10 60 yX10_readWord cX10_readWord 3 none 0 := ⟨TBL_t 516 (by decide +kernel) (by decide +kernel), im_X10_readWord, sl_X10_readWord, ini_RX10, cd_X10_readWord, ⟨by decide +kernel, by decide +kernel, by decide +kernel⟩, by decide⟩
theorem ml_X10_63 : MLs RX10 63 yX10_isDigit cX10_isDigit 1 (some .boolean) 1 := ⟨TBL_t 569 (by decide +kernel) (by decide +kernel), sm_X10_isDigit, ini_RX10, cd_X10_isDigit, ⟨by decide +kernel, by decide +kernel, by decide +kernel⟩, by decide⟩
theorem ml_X10_66 : MLv RX10 66 yX10_readNumber cX10_readNumber 2 none 0 := ⟨TBL_t 572 (by decide +kernel) (by decide +kernel), im_X10_readNumber, sl_X10_readNumber, ini_RX10, cd_X10_readNumber, ⟨by decide +kernel, by decide +kernel, by decide +kernel⟩, by decide⟩
theorem ml_X10_69 : MLv RX10 69 yX10_findOwn cX10_findOwn 5 (some .int) 1 := ⟨TBL_t 520 (by decide +kernel) (by decide +kernel), im_X10_findOwn, sl_X10_findOwn, ini_RX10, cd_X10_findOwn, ⟨by decide +kernel, by decide +kernel, by decide +kernel⟩, by decide⟩
theorem ml_X10_73 : MLv RX10 73 yX10_packName cX10_packName 4 (some .int) 1 := ⟨TBL_t 565 (by decide +kernel) (by decide +kernel), im_X10_packName, sl_X10_packName, ini_RX10, cd_X10_packName, ⟨by decide +kernel, by decide +kernel, by decide +kernel⟩, by decide⟩
theorem ml_X10_78 : MLv RX10 78 yJ0_charAt_5068e cJ0_charAt_5068e 2 (some .char) 1 := ⟨TBL_t 525 (by decide +kernel) (by decide +kernel), im_J0_charAt_5068e, sl_J0_charAt_5068e, ini_RJ0, cd_J0_charAt_5068e, ⟨by decide +kernel, by decide +kernel, by decide +kernel⟩, by decide⟩
theorem ml_L_13 : MLv RL 13 yX11_feed cX11_feed 6 (some .int) 5 := ⟨TBL_t 466 (by decide +kernel) (by decide +kernel), im_X11_feed, sl_X11_feed, ini_RX11, cd_X11_feed, ⟨by decide +kernel, by decide +kernel, by decide +kernel⟩, by decide⟩
theorem ml_L_17 : MLv RL 17 yX12_feed cX12_feed 6 (some .int) 5 := ⟨TBL_t 1536 (by decide +kernel) (by decide +kernel), im_X12_feed, sl_X12_feed, ini_RX12, cd_X12_feed, ⟨by decide +kernel, by decide +kernel, by decide +kernel⟩, by decide⟩
theorem ml_L_18 : MLv RL 18 yX11_end cX11_end 2 (some .boolean) 1 := ⟨TBL_t 478 (by decide +kernel) (by decide +kernel), im_X11_end, sl_X11_end, ini_RX11, cd_X11_end, ⟨by decide +kernel, by decide +kernel, by decide +kernel⟩, by decide⟩
theorem ml_L_22 : MLv RL 22 yX12_end cX12_end 2 (some .boolean) 1 := ⟨TBL_t 1548 (by decide +kernel) (by decide +kernel), im_X12_end, sl_X12_end, ini_RX12, cd_X12_end, ⟨by decide +kernel, by decide +kernel, by decide +kernel⟩, by decide⟩
theorem ml_L_23 : MLv RL 23 yX11_lowland cX11_lowland 3 (some .int) 0 := ⟨TBL_t 482 (by decide +kernel) (by decide +kernel), im_X11_lowland, sl_X11_lowland, ini_RX11, cd_X11_lowland, ⟨by decide +kernel, by decide +kernel, by decide +kernel⟩, by decide⟩
theorem ml_L_27 : MLv RL 27 yX12_lowland cX12_lowland 2 (some .int) 0 := ⟨TBL_t 1552 (by decide +kernel) (by decide +kernel), im_X12_lowland, sl_X12_lowland, ini_RX12, cd_X12_lowland, ⟨by decide +kernel, by decide +kernel, by decide +kernel⟩, by decide⟩
theorem ml_L_28 : MLv RL 28 yX11_fault cX11_fault 2 (some .int) 1 := ⟨TBL_t 758 (by decide +kernel) (by decide +kernel), im_X11_fault, sl_X11_fault, ini_RX11, cd_X11_fault, ⟨by decide +kernel, by decide +kernel, by decide +kernel⟩, by decide⟩
theorem ml_L_32 : MLv RL 32 yX12_fault cX12_fault 2 (some .int) 1 := ⟨TBL_t 1731 (by decide +kernel) (by decide +kernel), im_X12_fault, sl_X12_fault, ini_RX12, cd_X12_fault, ⟨by decide +kernel, by decide +kernel, by decide +kernel⟩, by decide⟩
theorem ml_L_33 : MLv RL 33 yX11_has cX11_has 2 (some .int) 1 := ⟨TBL_t 762 (by decide +kernel) (by decide +kernel), im_X11_has, sl_X11_has, ini_RX11, cd_X11_has, ⟨by decide +kernel, by decide +kernel, by decide +kernel⟩, by decide⟩
theorem ml_L_36 : MLv RL 36 yX12_has cX12_has 4 (some .int) 1 := ⟨TBL_t 1751 (by decide +kernel) (by decide +kernel), im_X12_has, sl_X12_has, ini_RX12, cd_X12_has, ⟨by decide +kernel, by decide +kernel, by decide +kernel⟩, by decide⟩
theorem ml_L_37 : MLv RL 37 yX11_letter cX11_letter 4 (some .int) 3 := ⟨TBL_t 860 (by decide +kernel) (by decide +kernel), im_X11_letter, sl_X11_letter, ini_RX11, cd_X11_letter, ⟨by decide +kernel, by decide +kernel, by decide +kernel⟩, by decide⟩
theorem ml_L_41 : MLv RL 41 yX12_letter cX12_letter 9 (some .int) 3 := ⟨TBL_t 1811 (by decide +kernel) (by decide +kernel), im_X12_letter, sl_X12_letter, ini_RX12, cd_X12_letter, ⟨by decide +kernel, by decide +kernel, by decide +kernel⟩, by decide⟩
theorem ml_L_42 : MLv RL 42 yX11_hollow cX11_hollow 3 (some .int) 2 := ⟨TBL_t 877 (by decide +kernel) (by decide +kernel), im_X11_hollow, sl_X11_hollow, ini_RX11, cd_X11_hollow, ⟨by decide +kernel, by decide +kernel, by decide +kernel⟩, by decide⟩
theorem ml_L_46 : MLv RL 46 yX12_hollow cX12_hollow 5 (some .int) 2 := ⟨TBL_t 1816 (by decide +kernel) (by decide +kernel), im_X12_hollow, sl_X12_hollow, ini_RX12, cd_X12_hollow, ⟨by decide +kernel, by decide +kernel, by decide +kernel⟩, by decide⟩
theorem ml_L_47 : MLv RL 47 yX11_lake cX11_lake 3 (some .int) 2 := ⟨TBL_t 889 (by decide +kernel) (by decide +kernel), im_X11_lake, sl_X11_lake, ini_RX11, cd_X11_lake, ⟨by decide +kernel, by decide +kernel, by decide +kernel⟩, by decide⟩
theorem ml_L_50 : MLv RL 50 yX12_lake cX12_lake 3 (some .int) 2 := ⟨TBL_t 1828 (by decide +kernel) (by decide +kernel), im_X12_lake, sl_X12_lake, ini_RX12, cd_X12_lake, ⟨by decide +kernel, by decide +kernel, by decide +kernel⟩, by decide⟩
theorem ml_L_51 : MLv RL 51 yX11_owner cX11_owner 3 (some .int) 2 := ⟨TBL_t 902 (by decide +kernel) (by decide +kernel), im_X11_owner, sl_X11_owner, ini_RX11, cd_X11_owner, ⟨by decide +kernel, by decide +kernel, by decide +kernel⟩, by decide⟩
theorem ml_L_54 : MLv RL 54 yX12_owner cX12_owner 3 (some .int) 2 := ⟨TBL_t 1844 (by decide +kernel) (by decide +kernel), im_X12_owner, sl_X12_owner, ini_RX12, cd_X12_owner, ⟨by decide +kernel, by decide +kernel, by decide +kernel⟩, by decide⟩
theorem ml_L_55 : MLv RL 55 yX11_owes cX11_owes 3 (some .int) 2 := ⟨TBL_t 924 (by decide +kernel) (by decide +kernel), im_X11_owes, sl_X11_owes, ini_RX11, cd_X11_owes, ⟨by decide +kernel, by decide +kernel, by decide +kernel⟩, by decide⟩
theorem ml_L_58 : MLv RL 58 yX12_owes cX12_owes 3 (some .int) 2 := ⟨TBL_t 1860 (by decide +kernel) (by decide +kernel), im_X12_owes, sl_X12_owes, ini_RX12, cd_X12_owes, ⟨by decide +kernel, by decide +kernel, by decide +kernel⟩, by decide⟩
theorem ml_L_59 : MLv RL 59 yX11_later cX11_later 4 (some .int) 2 := ⟨TBL_t 933 (by decide +kernel) (by decide +kernel), im_X11_later, sl_X11_later, ini_RX11, cd_X11_later, ⟨by decide +kernel, by decide +kernel, by decide +kernel⟩, by decide⟩
theorem ml_L_62 : MLv RL 62 yX12_later cX12_later 4 (some .int) 2 := ⟨TBL_t 1864 (by decide +kernel) (by decide +kernel), im_X12_later, sl_X12_later, ini_RX12, cd_X12_later, ⟨by decide +kernel, by decide +kernel, by decide +kernel⟩, by decide⟩
theorem ml_L_63 : MLv RL 63 yX11_broke cX11_broke 3 (some .int) 1 := ⟨TBL_t 950 (by decide +kernel) (by decide +kernel), im_X11_broke, sl_X11_broke, ini_RX11, cd_X11_broke, ⟨by decide +kernel, by decide +kernel, by decide +kernel⟩, by decide⟩
theorem ml_L_66 : MLv RL 66 yX12_broke cX12_broke 3 (some .int) 1 := ⟨TBL_t 1880 (by decide +kernel) (by decide +kernel), im_X12_broke, sl_X12_broke, ini_RX12, cd_X12_broke, ⟨by decide +kernel, by decide +kernel, by decide +kernel⟩, by decide⟩
theorem ml_L_67 : MLv RL 67 yX11_spend cX11_spend 7 (some .int) 2 := ⟨TBL_t 954 (by decide +kernel) (by decide +kernel), im_X11_spend, sl_X11_spend, ini_RX11, cd_X11_spend, ⟨by decide +kernel, by decide +kernel, by decide +kernel⟩, by decide⟩
theorem ml_L_70 : MLv RL 70 yX12_spend cX12_spend 6 (some .int) 2 := ⟨TBL_t 1884 (by decide +kernel) (by decide +kernel), im_X12_spend, sl_X12_spend, ini_RX12, cd_X12_spend, ⟨by decide +kernel, by decide +kernel, by decide +kernel⟩, by decide⟩
theorem ml_L_71 : MLv RL 71 yX11_price cX11_price 5 (some .int) 3 := ⟨TBL_t 959 (by decide +kernel) (by decide +kernel), im_X11_price, sl_X11_price, ini_RX11, cd_X11_price, ⟨by decide +kernel, by decide +kernel, by decide +kernel⟩, by decide⟩
theorem ml_L_74 : MLv RL 74 yX12_price cX12_price 9 (some .int) 3 := ⟨TBL_t 1888 (by decide +kernel) (by decide +kernel), im_X12_price, sl_X12_price, ini_RX12, cd_X12_price, ⟨by decide +kernel, by decide +kernel, by decide +kernel⟩, by decide⟩
theorem ml_L_75 : MLv RL 75 yX11_moves cX11_moves 2 (some .int) 0 := ⟨TBL_t 990 (by decide +kernel) (by decide +kernel), im_X11_moves, sl_X11_moves, ini_RX11, cd_X11_moves, ⟨by decide +kernel, by decide +kernel, by decide +kernel⟩, by decide⟩
theorem ml_L_78 : MLv RL 78 yX12_moves cX12_moves 4 (some .int) 0 := ⟨TBL_t 1896 (by decide +kernel) (by decide +kernel), im_X12_moves, sl_X12_moves, ini_RX12, cd_X12_moves, ⟨by decide +kernel, by decide +kernel, by decide +kernel⟩, by decide⟩
theorem ml_L_79 : MLv RL 79 yX11_pack cX11_pack 4 (some .int) 2 := ⟨TBL_t 1068 (by decide +kernel) (by decide +kernel), im_X11_pack, sl_X11_pack, ini_RX11, cd_X11_pack, ⟨by decide +kernel, by decide +kernel, by decide +kernel⟩, by decide⟩
theorem ml_L_82 : MLv RL 82 yX12_pack cX12_pack 11 (some .int) 2 := ⟨TBL_t 1920 (by decide +kernel) (by decide +kernel), im_X12_pack, sl_X12_pack, ini_RX12, cd_X12_pack, ⟨by decide +kernel, by decide +kernel, by decide +kernel⟩, by decide⟩
theorem ml_L_83 : MLv RL 83 yX11_net cX11_net 2 (some .int) 1 := ⟨TBL_t 1088 (by decide +kernel) (by decide +kernel), im_X11_net, sl_X11_net, ini_RX11, cd_X11_net, ⟨by decide +kernel, by decide +kernel, by decide +kernel⟩, by decide⟩
theorem ml_L_86 : MLv RL 86 yX12_net cX12_net 2 (some .int) 1 := ⟨TBL_t 1927 (by decide +kernel) (by decide +kernel), im_X12_net, sl_X12_net, ini_RX12, cd_X12_net, ⟨by decide +kernel, by decide +kernel, by decide +kernel⟩, by decide⟩
theorem ml_L_87 : MLv RL 87 yX11_settling cX11_settling 1 (some .int) 0 := ⟨TBL_t 1098 (by decide +kernel) (by decide +kernel), im_X11_settling, sl_X11_settling, ini_RX11, cd_X11_settling, ⟨by decide +kernel, by decide +kernel, by decide +kernel⟩, by decide⟩
theorem ml_L_90 : MLv RL 90 yX12_settling cX12_settling 6 (some .int) 0 := ⟨TBL_t 1936 (by decide +kernel) (by decide +kernel), im_X12_settling, sl_X12_settling, ini_RX12, cd_X12_settling, ⟨by decide +kernel, by decide +kernel, by decide +kernel⟩, by decide⟩
theorem ml_L_91 : MLv RL 91 yX11_share cX11_share 4 (some .int) 3 := ⟨TBL_t 1112 (by decide +kernel) (by decide +kernel), im_X11_share, sl_X11_share, ini_RX11, cd_X11_share, ⟨by decide +kernel, by decide +kernel, by decide +kernel⟩, by decide⟩
theorem ml_L_94 : MLv RL 94 yX12_share cX12_share 9 (some .int) 3 := ⟨TBL_t 1940 (by decide +kernel) (by decide +kernel), im_X12_share, sl_X12_share, ini_RX12, cd_X12_share, ⟨by decide +kernel, by decide +kernel, by decide +kernel⟩, by decide⟩
theorem ml_L_95 : MLv RL 95 yX11_stood cX11_stood 3 (some .int) 0 := ⟨TBL_t 1133 (by decide +kernel) (by decide +kernel), im_X11_stood, sl_X11_stood, ini_RX11, cd_X11_stood, ⟨by decide +kernel, by decide +kernel, by decide +kernel⟩, by decide⟩
theorem ml_L_98 : MLv RL 98 yX12_stood cX12_stood 4 (some .int) 0 := ⟨TBL_t 1948 (by decide +kernel) (by decide +kernel), im_X12_stood, sl_X12_stood, ini_RX12, cd_X12_stood, ⟨by decide +kernel, by decide +kernel, by decide +kernel⟩, by decide⟩
theorem ml_L_99 : MLv RL 99 yX11_robbed cX11_robbed 4 (some .int) 1 := ⟨TBL_t 1141 (by decide +kernel) (by decide +kernel), im_X11_robbed, sl_X11_robbed, ini_RX11, cd_X11_robbed, ⟨by decide +kernel, by decide +kernel, by decide +kernel⟩, by decide⟩
theorem ml_L_102 : MLv RL 102 yX12_robbed cX12_robbed 5 (some .int) 1 := ⟨TBL_t 1956 (by decide +kernel) (by decide +kernel), im_X12_robbed, sl_X12_robbed, ini_RX12, cd_X12_robbed, ⟨by decide +kernel, by decide +kernel, by decide +kernel⟩, by decide⟩
theorem ml_L_103 : MLv RL 103 yX11_nights cX11_nights 4 (some .int) 1 := ⟨TBL_t 1150 (by decide +kernel) (by decide +kernel), im_X11_nights, sl_X11_nights, ini_RX11, cd_X11_nights, ⟨by decide +kernel, by decide +kernel, by decide +kernel⟩, by decide⟩
theorem ml_L_106 : MLv RL 106 yX12_nights cX12_nights 4 (some .int) 1 := ⟨TBL_t 1964 (by decide +kernel) (by decide +kernel), im_X12_nights, sl_X12_nights, ini_RX12, cd_X12_nights, ⟨by decide +kernel, by decide +kernel, by decide +kernel⟩, by decide⟩
theorem ml_L_107 : MLv RL 107 yX11_chance cX11_chance 5 (some .int) 1 := ⟨TBL_t 1167 (by decide +kernel) (by decide +kernel), im_X11_chance, sl_X11_chance, ini_RX11, cd_X11_chance, ⟨by decide +kernel, by decide +kernel, by decide +kernel⟩, by decide⟩
theorem ml_L_110 : MLv RL 110 yX12_chance cX12_chance 5 (some .int) 1 := ⟨TBL_t 1972 (by decide +kernel) (by decide +kernel), im_X12_chance, sl_X12_chance, ini_RX12, cd_X12_chance, ⟨by decide +kernel, by decide +kernel, by decide +kernel⟩, by decide⟩
theorem ml_L_111 : MLv RL 111 yX11_move cX11_move 3 (some .boolean) 2 := ⟨TBL_t 1177 (by decide +kernel) (by decide +kernel), im_X11_move, sl_X11_move, ini_RX11, cd_X11_move, ⟨by decide +kernel, by decide +kernel, by decide +kernel⟩, by decide⟩
theorem ml_L_115 : MLv RL 115 yX12_move cX12_move 3 (some .boolean) 2 := ⟨TBL_t 1984 (by decide +kernel) (by decide +kernel), im_X12_move, sl_X12_move, ini_RX12, cd_X12_move, ⟨by decide +kernel, by decide +kernel, by decide +kernel⟩, by decide⟩
theorem ml_L_116 : MLv RL 116 yX11_pour cX11_pour 3 (some .int) 2 := ⟨TBL_t 1188 (by decide +kernel) (by decide +kernel), im_X11_pour, sl_X11_pour, ini_RX11, cd_X11_pour, ⟨by decide +kernel, by decide +kernel, by decide +kernel⟩, by decide⟩
theorem ml_L_119 : MLv RL 119 yX12_pour cX12_pour 4 (some .int) 2 := ⟨TBL_t 1988 (by decide +kernel) (by decide +kernel), im_X12_pour, sl_X12_pour, ini_RX12, cd_X12_pour, ⟨by decide +kernel, by decide +kernel, by decide +kernel⟩, by decide⟩
theorem ml_L_120 : MLv RL 120 yX11_part cX11_part 4 (some .int) 2 := ⟨TBL_t 1197 (by decide +kernel) (by decide +kernel), im_X11_part, sl_X11_part, ini_RX11, cd_X11_part, ⟨by decide +kernel, by decide +kernel, by decide +kernel⟩, by decide⟩
theorem ml_L_123 : MLv RL 123 yX12_part cX12_part 4 (some .int) 2 := ⟨TBL_t 1992 (by decide +kernel) (by decide +kernel), im_X12_part, sl_X12_part, ini_RX12, cd_X12_part, ⟨by decide +kernel, by decide +kernel, by decide +kernel⟩, by decide⟩
theorem ml_L_124 : MLv RL 124 yX11_pay cX11_pay 7 (some .int) 3 := ⟨TBL_t 1205 (by decide +kernel) (by decide +kernel), im_X11_pay, sl_X11_pay, ini_RX11, cd_X11_pay, ⟨by decide +kernel, by decide +kernel, by decide +kernel⟩, by decide⟩
theorem ml_L_127 : MLv RL 127 yX12_pay cX12_pay 7 (some .int) 3 := ⟨TBL_t 1996 (by decide +kernel) (by decide +kernel), im_X12_pay, sl_X12_pay, ini_RX12, cd_X12_pay, ⟨by decide +kernel, by decide +kernel, by decide +kernel⟩, by decide⟩
theorem ml_L_128 : MLv RL 128 yX11_strike cX11_strike 4 (some .int) 0 := ⟨TBL_t 1218 (by decide +kernel) (by decide +kernel), im_X11_strike, sl_X11_strike, ini_RX11, cd_X11_strike, ⟨by decide +kernel, by decide +kernel, by decide +kernel⟩, by decide⟩
theorem ml_L_131 : MLv RL 131 yX12_strike cX12_strike 7 (some .int) 0 := ⟨TBL_t 2004 (by decide +kernel) (by decide +kernel), im_X12_strike, sl_X12_strike, ini_RX12, cd_X12_strike, ⟨by decide +kernel, by decide +kernel, by decide +kernel⟩, by decide⟩
theorem ml_L_132 : MLv RL 132 yX11_undo cX11_undo 1 (some .boolean) 0 := ⟨TBL_t 1231 (by decide +kernel) (by decide +kernel), im_X11_undo, sl_X11_undo, ini_RX11, cd_X11_undo, ⟨by decide +kernel, by decide +kernel, by decide +kernel⟩, by decide⟩
theorem ml_L_136 : MLv RL 136 yX12_undo cX12_undo 1 (some .boolean) 0 := ⟨TBL_t 1739 (by decide +kernel) (by decide +kernel), im_X12_undo, sl_X12_undo, ini_RX12, cd_X12_undo, ⟨by decide +kernel, by decide +kernel, by decide +kernel⟩, by decide⟩
theorem ml_L_137 : MLv RL 137 yX11_seed cX11_seed 2 (some .boolean) 1 := ⟨TBL_t 1243 (by decide +kernel) (by decide +kernel), im_X11_seed, sl_X11_seed, ini_RX11, cd_X11_seed, ⟨by decide +kernel, by decide +kernel, by decide +kernel⟩, by decide⟩
theorem ml_L_140 : MLv RL 140 yX12_seed cX12_seed 2 (some .boolean) 1 := ⟨TBL_t 2008 (by decide +kernel) (by decide +kernel), im_X12_seed, sl_X12_seed, ini_RX12, cd_X12_seed, ⟨by decide +kernel, by decide +kernel, by decide +kernel⟩, by decide⟩
theorem ml_L_141 : MLv RL 141 yX11_kept cX11_kept 3 (some .int) 2 := ⟨TBL_t 1247 (by decide +kernel) (by decide +kernel), im_X11_kept, sl_X11_kept, ini_RX11, cd_X11_kept, ⟨by decide +kernel, by decide +kernel, by decide +kernel⟩, by decide⟩
theorem ml_L_144 : MLv RL 144 yX12_kept cX12_kept 3 (some .int) 2 := ⟨TBL_t 2012 (by decide +kernel) (by decide +kernel), im_X12_kept, sl_X12_kept, ini_RX12, cd_X12_kept, ⟨by decide +kernel, by decide +kernel, by decide +kernel⟩, by decide⟩
theorem ml_L_145 : MLv RL 145 yX11_image cX11_image 1 (some .int) 0 := ⟨TBL_t 1256 (by decide +kernel) (by decide +kernel), im_X11_image, sl_X11_image, ini_RX11, cd_X11_image, ⟨by decide +kernel, by decide +kernel, by decide +kernel⟩, by decide⟩
theorem ml_L_148 : MLv RL 148 yX12_image cX12_image 3 (some .int) 0 := ⟨TBL_t 2016 (by decide +kernel) (by decide +kernel), im_X12_image, sl_X12_image, ini_RX12, cd_X12_image, ⟨by decide +kernel, by decide +kernel, by decide +kernel⟩, by decide⟩
theorem ml_L_149 : MLv RL 149 yX11_octet cX11_octet 2 (some .int) 1 := ⟨TBL_t 1276 (by decide +kernel) (by decide +kernel), im_X11_octet, sl_X11_octet, ini_RX11, cd_X11_octet, ⟨by decide +kernel, by decide +kernel, by decide +kernel⟩, by decide⟩
theorem ml_L_152 : MLv RL 152 yX12_octet cX12_octet 2 (some .int) 1 := ⟨TBL_t 2028 (by decide +kernel) (by decide +kernel), im_X12_octet, sl_X12_octet, ini_RX12, cd_X12_octet, ⟨by decide +kernel, by decide +kernel, by decide +kernel⟩, by decide⟩
theorem ml_L_153 : MLv RL 153 yX11_on cX11_on 2 (some .boolean) 0 := ⟨TBL_t 1280 (by decide +kernel) (by decide +kernel), im_X11_on, sl_X11_on, ini_RX11, cd_X11_on, ⟨by decide +kernel, by decide +kernel, by decide +kernel⟩, by decide⟩
theorem ml_L_156 : MLv RL 156 yX12_on cX12_on 2 (some .boolean) 0 := ⟨TBL_t 2032 (by decide +kernel) (by decide +kernel), im_X12_on, sl_X12_on, ini_RX12, cd_X12_on, ⟨by decide +kernel, by decide +kernel, by decide +kernel⟩, by decide⟩
theorem ml_L_157 : MLv RL 157 yX11_status cX11_status 2 (some .int) 1 := ⟨TBL_t 1309 (by decide +kernel) (by decide +kernel), im_X11_status, sl_X11_status, ini_RX11, cd_X11_status, ⟨by decide +kernel, by decide +kernel, by decide +kernel⟩, by decide⟩
theorem ml_L_160 : MLv RL 160 yX12_status cX12_status 2 (some .int) 1 := ⟨TBL_t 1735 (by decide +kernel) (by decide +kernel), im_X12_status, sl_X12_status, ini_RX12, cd_X12_status, ⟨by decide +kernel, by decide +kernel, by decide +kernel⟩, by decide⟩
theorem fl_X12_7 : FL RX12 7 12 0 := ⟨RX12, TX12, 71, rfl, by decide, rfl, by decide, cw12, TBL_t 1320 (by decide +kernel) (by decide +kernel), rfl⟩
theorem fl_X12_13 : FL RX12 13 12 1 := ⟨RX12, TX12, 71, rfl, by decide, rfl, by decide, cw12, TBL_t 1321 (by decide +kernel) (by decide +kernel), rfl⟩
theorem fl_X12_17 : FL RX12 17 12 2 := ⟨RX12, TX12, 71, rfl, by decide, rfl, by decide, cw12, TBL_t 1322 (by decide +kernel) (by decide +kernel), rfl⟩
theorem fl_X12_20 : FL RX12 20 12 3 := ⟨RX12, TX12, 71, rfl, by decide, rfl, by decide, cw12, TBL_t 1323 (by decide +kernel) (by decide +kernel), rfl⟩
theorem fl_X12_23 : FL RX12 23 12 4 := ⟨RX12, TX12, 71, rfl, by decide, rfl, by decide, cw12, TBL_t 1324 (by decide +kernel) (by decide +kernel), rfl⟩
theorem fl_X12_26 : FL RX12 26 12 5 := ⟨RX12, TX12, 71, rfl, by decide, rfl, by decide, cw12, TBL_t 1325 (by decide +kernel) (by decide +kernel), rfl⟩
theorem fl_X12_29 : FL RX12 29 12 6 := ⟨RX12, TX12, 71, rfl, by decide, rfl, by decide, cw12, TBL_t 1326 (by decide +kernel) (by decide +kernel), rfl⟩
theorem fl_X12_32 : FL RX12 32 12 7 := ⟨RX12, TX12, 71, rfl, by decide, rfl, by decide, cw12, TBL_t 1327 (by decide +kernel) (by decide +kernel), rfl⟩
theorem fl_X12_36 : FL RX12 36 12 8 := ⟨RX12, TX12, 71, rfl, by decide, rfl, by decide, cw12, TBL_t 1328 (by decide +kernel) (by decide +kernel), rfl⟩
theorem fl_X12_39 : FL RX12 39 12 9 := ⟨RX12, TX12, 71, rfl, by decide, rfl, by decide, cw12, TBL_t 1329 (by decide +kernel) (by decide +kernel), rfl⟩
theorem fl_X12_42 : FL RX12 42 12 10 := ⟨RX12, TX12, 71, rfl, by decide, rfl, by decide, cw12, TBL_t 1330 (by decide +kernel) (by decide +kernel), rfl⟩
theorem fl_X12_45 : FL RX12 45 12 11 := ⟨RX12, TX12, 71, rfl, by decide, rfl, by decide, cw12, TBL_t 1331 (by decide +kernel) (by decide +kernel), rfl⟩
theorem fl_X12_48 : FL RX12 48 12 12 := ⟨RX12, TX12, 71, rfl, by decide, rfl, by decide, cw12, TBL_t 1332 (by decide +kernel) (by decide +kernel), rfl⟩
theorem fl_X12_51 : FL RX12 51 12 13 := ⟨RX12, TX12, 71, rfl, by decide, rfl, by decide, cw12, TBL_t 1333 (by decide +kernel) (by decide +kernel), rfl⟩
theorem fl_X12_54 : FL RX12 54 12 14 := ⟨RX12, TX12, 71, rfl, by decide, rfl, by decide, cw12, TBL_t 1334 (by decide +kernel) (by decide +kernel), rfl⟩
theorem fl_X12_57 : FL RX12 57 12 15 := ⟨RX12, TX12, 71, rfl, by decide, rfl, by decide, cw12, TBL_t 1335 (by decide +kernel) (by decide +kernel), rfl⟩
theorem fl_X12_60 : FL RX12 60 12 16 := ⟨RX12, TX12, 71, rfl, by decide, rfl, by decide, cw12, TBL_t 1336 (by decide +kernel) (by decide +kernel), rfl⟩
theorem fl_X12_63 : FL RX12 63 12 17 := ⟨RX12, TX12, 71, rfl, by decide, rfl, by decide, cw12, TBL_t 1337 (by decide +kernel) (by decide +kernel), rfl⟩
theorem fl_X12_66 : FL RX12 66 12 18 := ⟨RX12, TX12, 71, rfl, by decide, rfl, by decide, cw12, TBL_t 1338 (by decide +kernel) (by decide +kernel), rfl⟩
theorem fl_X12_69 : FL RX12 69 12 19 := ⟨RX12, TX12, 71, rfl, by decide, rfl, by decide, cw12, TBL_t 1339 (by decide +kernel) (by decide +kernel), rfl⟩
theorem fl_X12_72 : FL RX12 72 12 20 := ⟨RX12, TX12, 71, rfl, by decide, rfl, by decide, cw12, TBL_t 1340 (by decide +kernel) (by decide +kernel), rfl⟩
theorem fl_X12_75 : FL RX12 75 12 21 := ⟨RX12, TX12, 71, rfl, by decide, rfl, by decide, cw12, TBL_t 1341 (by decide +kernel) (by decide +kernel), rfl⟩
theorem fl_X12_78 : FL RX12 78 12 22 := ⟨RX12, TX12, 71, rfl, by decide, rfl, by decide, cw12, TBL_t 1342 (by decide +kernel) (by decide +kernel), rfl⟩
theorem fl_X12_81 : FL RX12 81 12 23 := ⟨RX12, TX12, 71, rfl, by decide, rfl, by decide, cw12, TBL_t 1343 (by decide +kernel) (by decide +kernel), rfl⟩
theorem fl_X12_84 : FL RX12 84 12 24 := ⟨RX12, TX12, 71, rfl, by decide, rfl, by decide, cw12, TBL_t 1344 (by decide +kernel) (by decide +kernel), rfl⟩
theorem fl_X12_87 : FL RX12 87 12 25 := ⟨RX12, TX12, 71, rfl, by decide, rfl, by decide, cw12, TBL_t 1345 (by decide +kernel) (by decide +kernel), rfl⟩
theorem fl_X12_90 : FL RX12 90 12 26 := ⟨RX12, TX12, 71, rfl, by decide, rfl, by decide, cw12, TBL_t 1346 (by decide +kernel) (by decide +kernel), rfl⟩
theorem fl_X12_93 : FL RX12 93 12 27 := ⟨RX12, TX12, 71, rfl, by decide, rfl, by decide, cw12, TBL_t 1347 (by decide +kernel) (by decide +kernel), rfl⟩
theorem fl_X12_96 : FL RX12 96 12 28 := ⟨RX12, TX12, 71, rfl, by decide, rfl, by decide, cw12, TBL_t 1348 (by decide +kernel) (by decide +kernel), rfl⟩
theorem fl_X12_99 : FL RX12 99 12 29 := ⟨RX12, TX12, 71, rfl, by decide, rfl, by decide, cw12, TBL_t 1349 (by decide +kernel) (by decide +kernel), rfl⟩
theorem fl_X12_103 : FL RX12 103 12 30 := ⟨RX12, TX12, 71, rfl, by decide, rfl, by decide, cw12, TBL_t 1350 (by decide +kernel) (by decide +kernel), rfl⟩
theorem fl_X12_106 : FL RX12 106 12 31 := ⟨RX12, TX12, 71, rfl, by decide, rfl, by decide, cw12, TBL_t 1351 (by decide +kernel) (by decide +kernel), rfl⟩
theorem fl_X12_109 : FL RX12 109 12 32 := ⟨RX12, TX12, 71, rfl, by decide, rfl, by decide, cw12, TBL_t 1352 (by decide +kernel) (by decide +kernel), rfl⟩
theorem fl_X12_112 : FL RX12 112 12 33 := ⟨RX12, TX12, 71, rfl, by decide, rfl, by decide, cw12, TBL_t 1353 (by decide +kernel) (by decide +kernel), rfl⟩
theorem fl_X12_115 : FL RX12 115 12 34 := ⟨RX12, TX12, 71, rfl, by decide, rfl, by decide, cw12, TBL_t 1354 (by decide +kernel) (by decide +kernel), rfl⟩
theorem fl_X12_118 : FL RX12 118 12 35 := ⟨RX12, TX12, 71, rfl, by decide, rfl, by decide, cw12, TBL_t 1355 (by decide +kernel) (by decide +kernel), rfl⟩
theorem fl_X12_121 : FL RX12 121 12 36 := ⟨RX12, TX12, 71, rfl, by decide, rfl, by decide, cw12, TBL_t 1356 (by decide +kernel) (by decide +kernel), rfl⟩
theorem fl_X12_124 : FL RX12 124 12 37 := ⟨RX12, TX12, 71, rfl, by decide, rfl, by decide, cw12, TBL_t 1357 (by decide +kernel) (by decide +kernel), rfl⟩
theorem fl_X12_128 : FL RX12 128 12 38 := ⟨RX12, TX12, 71, rfl, by decide, rfl, by decide, cw12, TBL_t 1358 (by decide +kernel) (by decide +kernel), rfl⟩
theorem fl_X12_131 : FL RX12 131 12 39 := ⟨RX12, TX12, 71, rfl, by decide, rfl, by decide, cw12, TBL_t 1359 (by decide +kernel) (by decide +kernel), rfl⟩
theorem fl_X12_134 : FL RX12 134 12 40 := ⟨RX12, TX12, 71, rfl, by decide, rfl, by decide, cw12, TBL_t 1360 (by decide +kernel) (by decide +kernel), rfl⟩
theorem fl_X12_137 : FL RX12 137 12 41 := ⟨RX12, TX12, 71, rfl, by decide, rfl, by decide, cw12, TBL_t 1361 (by decide +kernel) (by decide +kernel), rfl⟩
theorem fl_X12_140 : FL RX12 140 12 42 := ⟨RX12, TX12, 71, rfl, by decide, rfl, by decide, cw12, TBL_t 1362 (by decide +kernel) (by decide +kernel), rfl⟩
theorem fl_X12_143 : FL RX12 143 12 43 := ⟨RX12, TX12, 71, rfl, by decide, rfl, by decide, cw12, TBL_t 1363 (by decide +kernel) (by decide +kernel), rfl⟩
theorem fl_X12_146 : FL RX12 146 12 44 := ⟨RX12, TX12, 71, rfl, by decide, rfl, by decide, cw12, TBL_t 1364 (by decide +kernel) (by decide +kernel), rfl⟩
theorem fl_X12_150 : FL RX12 150 12 45 := ⟨RX12, TX12, 71, rfl, by decide, rfl, by decide, cw12, TBL_t 1365 (by decide +kernel) (by decide +kernel), rfl⟩
theorem fl_X12_153 : FL RX12 153 12 46 := ⟨RX12, TX12, 71, rfl, by decide, rfl, by decide, cw12, TBL_t 1366 (by decide +kernel) (by decide +kernel), rfl⟩
theorem fl_X12_156 : FL RX12 156 12 47 := ⟨RX12, TX12, 71, rfl, by decide, rfl, by decide, cw12, TBL_t 1367 (by decide +kernel) (by decide +kernel), rfl⟩
theorem fl_X12_159 : FL RX12 159 12 48 := ⟨RX12, TX12, 71, rfl, by decide, rfl, by decide, cw12, TBL_t 1368 (by decide +kernel) (by decide +kernel), rfl⟩
theorem fl_X12_162 : FL RX12 162 12 49 := ⟨RX12, TX12, 71, rfl, by decide, rfl, by decide, cw12, TBL_t 1369 (by decide +kernel) (by decide +kernel), rfl⟩
theorem fl_X12_165 : FL RX12 165 12 50 := ⟨RX12, TX12, 71, rfl, by decide, rfl, by decide, cw12, TBL_t 1370 (by decide +kernel) (by decide +kernel), rfl⟩
theorem fl_X12_168 : FL RX12 168 12 51 := ⟨RX12, TX12, 71, rfl, by decide, rfl, by decide, cw12, TBL_t 1371 (by decide +kernel) (by decide +kernel), rfl⟩
theorem fl_X12_171 : FL RX12 171 12 52 := ⟨RX12, TX12, 71, rfl, by decide, rfl, by decide, cw12, TBL_t 1372 (by decide +kernel) (by decide +kernel), rfl⟩
theorem fl_X12_174 : FL RX12 174 12 53 := ⟨RX12, TX12, 71, rfl, by decide, rfl, by decide, cw12, TBL_t 1373 (by decide +kernel) (by decide +kernel), rfl⟩
theorem fl_X12_177 : FL RX12 177 12 54 := ⟨RX12, TX12, 71, rfl, by decide, rfl, by decide, cw12, TBL_t 1374 (by decide +kernel) (by decide +kernel), rfl⟩
theorem fl_X12_180 : FL RX12 180 12 55 := ⟨RX12, TX12, 71, rfl, by decide, rfl, by decide, cw12, TBL_t 1375 (by decide +kernel) (by decide +kernel), rfl⟩
theorem fl_X12_183 : FL RX12 183 12 56 := ⟨RX12, TX12, 71, rfl, by decide, rfl, by decide, cw12, TBL_t 1376 (by decide +kernel) (by decide +kernel), rfl⟩
theorem fl_X12_186 : FL RX12 186 12 57 := ⟨RX12, TX12, 71, rfl, by decide, rfl, by decide, cw12, TBL_t 1377 (by decide +kernel) (by decide +kernel), rfl⟩
theorem fl_X12_189 : FL RX12 189 12 58 := ⟨RX12, TX12, 71, rfl, by decide, rfl, by decide, cw12, TBL_t 1378 (by decide +kernel) (by decide +kernel), rfl⟩
theorem fl_X12_192 : FL RX12 192 12 59 := ⟨RX12, TX12, 71, rfl, by decide, rfl, by decide, cw12, TBL_t 1379 (by decide +kernel) (by decide +kernel), rfl⟩
theorem fl_X12_195 : FL RX12 195 12 60 := ⟨RX12, TX12, 71, rfl, by decide, rfl, by decide, cw12, TBL_t 1380 (by decide +kernel) (by decide +kernel), rfl⟩
theorem kc_X12_198 : Cond.constant RX12 198 (65536) ∈ TBL := TBL_t 1319 (by decide +kernel) (by decide +kernel)
theorem fl_X12_199 : FL RX12 199 12 61 := ⟨RX12, TX12, 71, rfl, by decide, rfl, by decide, cw12, TBL_t 1381 (by decide +kernel) (by decide +kernel), rfl⟩
theorem fl_X12_202 : FL RX12 202 12 62 := ⟨RX12, TX12, 71, rfl, by decide, rfl, by decide, cw12, TBL_t 1382 (by decide +kernel) (by decide +kernel), rfl⟩
theorem fl_X12_205 : FL RX12 205 12 63 := ⟨RX12, TX12, 71, rfl, by decide, rfl, by decide, cw12, TBL_t 1383 (by decide +kernel) (by decide +kernel), rfl⟩
theorem fl_X12_208 : FL RX12 208 12 64 := ⟨RX12, TX12, 71, rfl, by decide, rfl, by decide, cw12, TBL_t 1384 (by decide +kernel) (by decide +kernel), rfl⟩
theorem fl_X12_211 : FL RX12 211 12 65 := ⟨RX12, TX12, 71, rfl, by decide, rfl, by decide, cw12, TBL_t 1385 (by decide +kernel) (by decide +kernel), rfl⟩
theorem fl_X12_214 : FL RX12 214 12 66 := ⟨RX12, TX12, 71, rfl, by decide, rfl, by decide, cw12, TBL_t 1386 (by decide +kernel) (by decide +kernel), rfl⟩
theorem fl_X12_217 : FL RX12 217 12 67 := ⟨RX12, TX12, 71, rfl, by decide, rfl, by decide, cw12, TBL_t 1387 (by decide +kernel) (by decide +kernel), rfl⟩
theorem fl_X12_220 : FL RX12 220 12 68 := ⟨RX12, TX12, 71, rfl, by decide, rfl, by decide, cw12, TBL_t 1388 (by decide +kernel) (by decide +kernel), rfl⟩
theorem fl_X12_223 : FL RX12 223 12 69 := ⟨RX12, TX12, 71, rfl, by decide, rfl, by decide, cw12, TBL_t 1389 (by decide +kernel) (by decide +kernel), rfl⟩
theorem fl_X12_226 : FL RX12 226 12 70 := ⟨RX12, TX12, 71, rfl, by decide, rfl, by decide, cw12, TBL_t 1390 (by decide +kernel) (by decide +kernel), rfl⟩
theorem ml_X12_229 : MLv RX12 229 yX12_refuses cX12_refuses 2 (some .int) 1 := ⟨TBL_t 1540 (by decide +kernel) (by decide +kernel), im_X12_refuses, sl_X12_refuses, ini_RX12, cd_X12_refuses, ⟨by decide +kernel, by decide +kernel, by decide +kernel⟩, by decide⟩
theorem ml_X12_233 : MLv RX12 233 yX12_put cX12_put 3 none 1 := ⟨TBL_t 1544 (by decide +kernel) (by decide +kernel), im_X12_put, sl_X12_put, ini_RX12, cd_X12_put, ⟨by decide +kernel, by decide +kernel, by decide +kernel⟩, by decide⟩
theorem ml_X12_237 : MLv RX12 237 yX12_blame cX12_blame 3 none 2 := ⟨TBL_t 1603 (by decide +kernel) (by decide +kernel), im_X12_blame, sl_X12_blame, ini_RX12, cd_X12_blame, ⟨by decide +kernel, by decide +kernel, by decide +kernel⟩, by decide⟩
theorem ml_X12_241 : MLs RX12 241 yX12_isLetter cX12_isLetter 1 (some .boolean) 1 := ⟨TBL_t 1560 (by decide +kernel) (by decide +kernel), sm_X12_isLetter, ini_RX12, cd_X12_isLetter, ⟨by decide +kernel, by decide +kernel, by decide +kernel⟩, by decide⟩
theorem ml_X12_245 : MLs RX12 245 yX12_isDigit cX12_isDigit 1 (some .boolean) 1 := ⟨TBL_t 1563 (by decide +kernel) (by decide +kernel), sm_X12_isDigit, ini_RX12, cd_X12_isDigit, ⟨by decide +kernel, by decide +kernel, by decide +kernel⟩, by decide⟩
theorem ml_X12_248 : MLv RX12 248 yX12_isOwn cX12_isOwn 3 (some .boolean) 1 := ⟨TBL_t 1566 (by decide +kernel) (by decide +kernel), im_X12_isOwn, sl_X12_isOwn, ini_RX12, cd_X12_isOwn, ⟨by decide +kernel, by decide +kernel, by decide +kernel⟩, by decide⟩
theorem ml_X12_252 : MLv RX12 252 yX12_lex cX12_lex 1 none 0 := ⟨TBL_t 1599 (by decide +kernel) (by decide +kernel), im_X12_lex, sl_X12_lex, ini_RX12, cd_X12_lex, ⟨by decide +kernel, by decide +kernel, by decide +kernel⟩, by decide⟩
theorem ml_X12_255 : MLv RX12 255 yX12_isSign cX12_isSign 2 (some .boolean) 1 := ⟨TBL_t 1692 (by decide +kernel) (by decide +kernel), im_X12_isSign, sl_X12_isSign, ini_RX12, cd_X12_isSign, ⟨by decide +kernel, by decide +kernel, by decide +kernel⟩, by decide⟩
theorem ml_X12_258 : MLv RX12 258 yX12_ahead cX12_ahead 6 none 0 := ⟨TBL_t 1556 (by decide +kernel) (by decide +kernel), im_X12_ahead, sl_X12_ahead, ini_RX12, cd_X12_ahead, ⟨by decide +kernel, by decide +kernel, by decide +kernel⟩, by decide⟩
theorem kc_X12_261 : Cond.constantLong RX12 261 (114827769704311) ∈ TBL := TBL_t 1570 (by decide +kernel) (by decide +kernel)
theorem kc_X12_263 : Cond.constantLong RX12 263 (448545973363) ∈ TBL := TBL_t 1571 (by decide +kernel) (by decide +kernel)
theorem kc_X12_265 : Cond.constantLong RX12 265 (24948) ∈ TBL := TBL_t 1572 (by decide +kernel) (by decide +kernel)
theorem kc_X12_267 : Cond.constantLong RX12 267 (478745093490) ∈ TBL := TBL_t 1573 (by decide +kernel) (by decide +kernel)
theorem kc_X12_269 : Cond.constantLong RX12 269 (1818323813) ∈ TBL := TBL_t 1574 (by decide +kernel) (by decide +kernel)
theorem kc_X12_271 : Cond.constantLong RX12 271 (6840691) ∈ TBL := TBL_t 1575 (by decide +kernel) (by decide +kernel)
theorem kc_X12_273 : Cond.constantLong RX12 273 (26990) ∈ TBL := TBL_t 1576 (by decide +kernel) (by decide +kernel)
theorem kc_X12_275 : Cond.constantLong RX12 275 (28518) ∈ TBL := TBL_t 1577 (by decide +kernel) (by decide +kernel)
theorem kc_X12_277 : Cond.constantLong RX12 277 (1870095731) ∈ TBL := TBL_t 1578 (by decide +kernel) (by decide +kernel)
theorem kc_X12_279 : Cond.constantLong RX12 279 (465557351283) ∈ TBL := TBL_t 1579 (by decide +kernel) (by decide +kernel)
theorem kc_X12_281 : Cond.constantLong RX12 281 (512970880104) ∈ TBL := TBL_t 1580 (by decide +kernel) (by decide +kernel)
theorem kc_X12_283 : Cond.constantLong RX12 283 (7168377) ∈ TBL := TBL_t 1581 (by decide +kernel) (by decide +kernel)
theorem kc_X12_285 : Cond.constantLong RX12 285 (426836653171) ∈ TBL := TBL_t 1582 (by decide +kernel) (by decide +kernel)
theorem kc_X12_287 : Cond.constantLong RX12 287 (474214787188) ∈ TBL := TBL_t 1583 (by decide +kernel) (by decide +kernel)
theorem kc_X12_289 : Cond.constantLong RX12 289 (108187867505765) ∈ TBL := TBL_t 1584 (by decide +kernel) (by decide +kernel)
theorem kc_X12_291 : Cond.constantLong RX12 291 (495874044019) ∈ TBL := TBL_t 1585 (by decide +kernel) (by decide +kernel)
theorem kc_X12_293 : Cond.constantLong RX12 293 (1718773093) ∈ TBL := TBL_t 1586 (by decide +kernel) (by decide +kernel)
theorem kc_X12_295 : Cond.constantLong RX12 295 (26982) ∈ TBL := TBL_t 1587 (by decide +kernel) (by decide +kernel)
theorem kc_X12_297 : Cond.constantLong RX12 297 (28530) ∈ TBL := TBL_t 1588 (by decide +kernel) (by decide +kernel)
theorem kc_X12_299 : Cond.constantLong RX12 299 (6385252) ∈ TBL := TBL_t 1589 (by decide +kernel) (by decide +kernel)
theorem kc_X12_301 : Cond.constantLong RX12 301 (7237492) ∈ TBL := TBL_t 1590 (by decide +kernel) (by decide +kernel)
theorem kc_X12_303 : Cond.constantLong RX12 303 (6384748) ∈ TBL := TBL_t 1591 (by decide +kernel) (by decide +kernel)
theorem kc_X12_305 : Cond.constantLong RX12 305 (7170414) ∈ TBL := TBL_t 1592 (by decide +kernel) (by decide +kernel)
theorem kc_X12_307 : Cond.constantLong RX12 307 (7168376) ∈ TBL := TBL_t 1593 (by decide +kernel) (by decide +kernel)
theorem kc_X12_309 : Cond.constantLong RX12 309 (28273320707713140) ∈ TBL := TBL_t 1594 (by decide +kernel) (by decide +kernel)
theorem ml_X12_311 : MLv RX12 311 yX12_manyOf cX12_manyOf 3 (some .int) 2 := ⟨TBL_t 1627 (by decide +kernel) (by decide +kernel), im_X12_manyOf, sl_X12_manyOf, ini_RX12, cd_X12_manyOf, ⟨by decide +kernel, by decide +kernel, by decide +kernel⟩, by decide⟩
theorem ml_X12_315 : MLv RX12 315 yX12_nameOf cX12_nameOf 4 (some .long) 3 := ⟨TBL_t 1631 (by decide +kernel) (by decide +kernel), im_X12_nameOf, sl_X12_nameOf, ini_RX12, cd_X12_nameOf, ⟨by decide +kernel, by decide +kernel, by decide +kernel⟩, by decide⟩
theorem ml_X12_319 : MLs RX12 319 yX12_is cX12_is 3 (some .boolean) 3 := ⟨TBL_t 1643 (by decide +kernel) (by decide +kernel), sm_X12_is, ini_RX12, cd_X12_is, ⟨by decide +kernel, by decide +kernel, by decide +kernel⟩, by decide⟩
theorem ml_X12_323 : MLs RX12 323 yX12_rank cX12_rank 1 (some .int) 1 := ⟨TBL_t 1712 (by decide +kernel) (by decide +kernel), sm_X12_rank, ini_RX12, cd_X12_rank, ⟨by decide +kernel, by decide +kernel, by decide +kernel⟩, by decide⟩
theorem ml_X12_326 : MLv RX12 326 yX12_add cX12_add 3 none 2 := ⟨TBL_t 1700 (by decide +kernel) (by decide +kernel), im_X12_add, sl_X12_add, ini_RX12, cd_X12_add, ⟨by decide +kernel, by decide +kernel, by decide +kernel⟩, by decide⟩
theorem ml_X12_329 : MLv RX12 329 yX12_pushes cX12_pushes 2 none 1 := ⟨TBL_t 1677 (by decide +kernel) (by decide +kernel), im_X12_pushes, sl_X12_pushes, ini_RX12, cd_X12_pushes, ⟨by decide +kernel, by decide +kernel, by decide +kernel⟩, by decide⟩
theorem ml_X12_332 : MLs RX12 332 yX12_isTest cX12_isTest 1 (some .boolean) 1 := ⟨TBL_t 1685 (by decide +kernel) (by decide +kernel), sm_X12_isTest, ini_RX12, cd_X12_isTest, ⟨by decide +kernel, by decide +kernel, by decide +kernel⟩, by decide⟩
theorem ml_X12_335 : MLv RX12 335 yX12_isWord cX12_isWord 3 (some .boolean) 1 := ⟨TBL_t 1607 (by decide +kernel) (by decide +kernel), im_X12_isWord, sl_X12_isWord, ini_RX12, cd_X12_isWord, ⟨by decide +kernel, by decide +kernel, by decide +kernel⟩, by decide⟩
theorem ml_X12_338 : MLv RX12 338 yX12_holdsBack cX12_holdsBack 2 none 1 := ⟨TBL_t 1688 (by decide +kernel) (by decide +kernel), im_X12_holdsBack, sl_X12_holdsBack, ini_RX12, cd_X12_holdsBack, ⟨by decide +kernel, by decide +kernel, by decide +kernel⟩, by decide⟩
theorem ml_X12_341 : MLv RX12 341 yX12_opens cX12_opens 2 none 1 := ⟨TBL_t 1696 (by decide +kernel) (by decide +kernel), im_X12_opens, sl_X12_opens, ini_RX12, cd_X12_opens, ⟨by decide +kernel, by decide +kernel, by decide +kernel⟩, by decide⟩
theorem ml_X12_344 : MLv RX12 344 yX12_joins cX12_joins 2 none 1 := ⟨TBL_t 1708 (by decide +kernel) (by decide +kernel), im_X12_joins, sl_X12_joins, ini_RX12, cd_X12_joins, ⟨by decide +kernel, by decide +kernel, by decide +kernel⟩, by decide⟩
theorem ml_X12_347 : MLv RX12 347 yX12_operand cX12_operand 4 (some .boolean) 0 := ⟨TBL_t 1681 (by decide +kernel) (by decide +kernel), im_X12_operand, sl_X12_operand, ini_RX12, cd_X12_operand, ⟨by decide +kernel, by decide +kernel, by decide +kernel⟩, by decide⟩
theorem ml_X12_350 : MLv RX12 350 yX12_goesOn cX12_goesOn 5 (some .boolean) 0 := ⟨TBL_t 1704 (by decide +kernel) (by decide +kernel), im_X12_goesOn, sl_X12_goesOn, ini_RX12, cd_X12_goesOn, ⟨by decide +kernel, by decide +kernel, by decide +kernel⟩, by decide⟩
theorem ml_X12_353 : MLv RX12 353 yX12_named cX12_named 5 (some .int) 2 := ⟨TBL_t 1623 (by decide +kernel) (by decide +kernel), im_X12_named, sl_X12_named, ini_RX12, cd_X12_named, ⟨by decide +kernel, by decide +kernel, by decide +kernel⟩, by decide⟩
theorem ml_X12_357 : MLs RX12 357 yX12_has2 cX12_has2 2 (some .boolean) 2 := ⟨TBL_t 1662 (by decide +kernel) (by decide +kernel), sm_X12_has2, ini_RX12, cd_X12_has2, ⟨by decide +kernel, by decide +kernel, by decide +kernel⟩, by decide⟩
theorem ml_X12_361 : MLv RX12 361 yX12_counts cX12_counts 2 (some .boolean) 1 := ⟨TBL_t 1615 (by decide +kernel) (by decide +kernel), im_X12_counts, sl_X12_counts, ini_RX12, cd_X12_counts, ⟨by decide +kernel, by decide +kernel, by decide +kernel⟩, by decide⟩
theorem ml_X12_365 : MLv RX12 365 yX12_fresh cX12_fresh 3 (some .long) 0 := ⟨TBL_t 1619 (by decide +kernel) (by decide +kernel), im_X12_fresh, sl_X12_fresh, ini_RX12, cd_X12_fresh, ⟨by decide +kernel, by decide +kernel, by decide +kernel⟩, by decide⟩
theorem ml_X12_369 : MLv RX12 369 yX12_must_ cX12_must_ 3 none 1 := ⟨TBL_t 1635 (by decide +kernel) (by decide +kernel), im_X12_must_, sl_X12_must_, ini_RX12, cd_X12_must_, ⟨by decide +kernel, by decide +kernel, by decide +kernel⟩, by decide⟩
theorem ml_X12_373 : MLv RX12 373 yX12_number cX12_number 4 (some .int) 2 := ⟨TBL_t 1639 (by decide +kernel) (by decide +kernel), im_X12_number, sl_X12_number, ini_RX12, cd_X12_number, ⟨by decide +kernel, by decide +kernel, by decide +kernel⟩, by decide⟩
theorem ml_X12_376 : MLv RX12 376 yX12_without cX12_without 6 (some .int) 1 := ⟨TBL_t 1654 (by decide +kernel) (by decide +kernel), im_X12_without, sl_X12_without, ini_RX12, cd_X12_without, ⟨by decide +kernel, by decide +kernel, by decide +kernel⟩, by decide⟩
theorem ml_X12_379 : MLv RX12 379 yX12_askedBut cX12_askedBut 4 (some .int) 2 := ⟨TBL_t 1658 (by decide +kernel) (by decide +kernel), im_X12_askedBut, sl_X12_askedBut, ini_RX12, cd_X12_askedBut, ⟨by decide +kernel, by decide +kernel, by decide +kernel⟩, by decide⟩
theorem ml_X12_382 : MLv RX12 382 yX12_reads cX12_reads 3 none 1 := ⟨TBL_t 1673 (by decide +kernel) (by decide +kernel), im_X12_reads, sl_X12_reads, ini_RX12, cd_X12_reads, ⟨by decide +kernel, by decide +kernel, by decide +kernel⟩, by decide⟩
theorem ml_X12_386 : MLv RX12 386 yX12_hollowing cX12_hollowing 2 none 0 := ⟨TBL_t 1611 (by decide +kernel) (by decide +kernel), im_X12_hollowing, sl_X12_hollowing, ini_RX12, cd_X12_hollowing, ⟨by decide +kernel, by decide +kernel, by decide +kernel⟩, by decide⟩
theorem ml_X12_389 : MLv RX12 389 yX12_owning cX12_owning 3 none 0 := ⟨TBL_t 1646 (by decide +kernel) (by decide +kernel), im_X12_owning, sl_X12_owning, ini_RX12, cd_X12_owning, ⟨by decide +kernel, by decide +kernel, by decide +kernel⟩, by decide⟩
theorem ml_X12_392 : MLv RX12 392 yX12_laking cX12_laking 2 none 0 := ⟨TBL_t 1650 (by decide +kernel) (by decide +kernel), im_X12_laking, sl_X12_laking, ini_RX12, cd_X12_laking, ⟨by decide +kernel, by decide +kernel, by decide +kernel⟩, by decide⟩
theorem ml_X12_395 : MLv RX12 395 yX12_owing cX12_owing 4 none 0 := ⟨TBL_t 1665 (by decide +kernel) (by decide +kernel), im_X12_owing, sl_X12_owing, ini_RX12, cd_X12_owing, ⟨by decide +kernel, by decide +kernel, by decide +kernel⟩, by decide⟩
theorem ml_X12_398 : MLv RX12 398 yX12_reading cX12_reading 3 none 1 := ⟨TBL_t 1669 (by decide +kernel) (by decide +kernel), im_X12_reading, sl_X12_reading, ini_RX12, cd_X12_reading, ⟨by decide +kernel, by decide +kernel, by decide +kernel⟩, by decide⟩
theorem ml_X12_401 : MLv RX12 401 yX12_telling cX12_telling 3 none 1 := ⟨TBL_t 1715 (by decide +kernel) (by decide +kernel), im_X12_telling, sl_X12_telling, ini_RX12, cd_X12_telling, ⟨by decide +kernel, by decide +kernel, by decide +kernel⟩, by decide⟩
theorem ml_X12_404 : MLv RX12 404 yX12_must cX12_must 2 none 1 := ⟨TBL_t 1723 (by decide +kernel) (by decide +kernel), im_X12_must, sl_X12_must, ini_RX12, cd_X12_must, ⟨by decide +kernel, by decide +kernel, by decide +kernel⟩, by decide⟩
theorem ml_X12_406 : MLv RX12 406 yX12_statement cX12_statement 1 none 0 := ⟨TBL_t 1595 (by decide +kernel) (by decide +kernel), im_X12_statement, sl_X12_statement, ini_RX12, cd_X12_statement, ⟨by decide +kernel, by decide +kernel, by decide +kernel⟩, by decide⟩
theorem ml_X12_409 : MLv RX12 409 yX12_finishes cX12_finishes 3 none 1 := ⟨TBL_t 1719 (by decide +kernel) (by decide +kernel), im_X12_finishes, sl_X12_finishes, ini_RX12, cd_X12_finishes, ⟨by decide +kernel, by decide +kernel, by decide +kernel⟩, by decide⟩
theorem ml_X12_412 : MLv RX12 412 yX12_begin cX12_begin 3 none 0 := ⟨TBL_t 1727 (by decide +kernel) (by decide +kernel), im_X12_begin, sl_X12_begin, ini_RX12, cd_X12_begin, ⟨by decide +kernel, by decide +kernel, by decide +kernel⟩, by decide⟩
theorem ml_X12_415 : MLv RX12 415 yX12_slot cX12_slot 2 (some .int) 1 := ⟨TBL_t 1743 (by decide +kernel) (by decide +kernel), im_X12_slot, sl_X12_slot, ini_RX12, cd_X12_slot, ⟨by decide +kernel, by decide +kernel, by decide +kernel⟩, by decide⟩
theorem ml_X12_418 : MLv RX12 418 yX12_copies cX12_copies 4 none 2 := ⟨TBL_t 1747 (by decide +kernel) (by decide +kernel), im_X12_copies, sl_X12_copies, ini_RX12, cd_X12_copies, ⟨by decide +kernel, by decide +kernel, by decide +kernel⟩, by decide⟩
theorem kc_X12_421 : Cond.constantLong RX12 421 (1000000) ∈ TBL := TBL_t 1797 (by decide +kernel) (by decide +kernel)
theorem kc_X12_423 : Cond.constantLong RX12 423 (-1000000) ∈ TBL := TBL_t 1798 (by decide +kernel) (by decide +kernel)
theorem ml_X12_425 : MLs RX12 425 yX12_held cX12_held 2 (some .long) 1 := ⟨TBL_t 1794 (by decide +kernel) (by decide +kernel), sm_X12_held, ini_RX12, cd_X12_held, ⟨by decide +kernel, by decide +kernel, by decide +kernel⟩, by decide⟩
theorem ml_X12_429 : MLs RX12 429 yX12_floor cX12_floor 6 (some .long) 2 := ⟨TBL_t 1799 (by decide +kernel) (by decide +kernel), sm_X12_floor, ini_RX12, cd_X12_floor, ⟨by decide +kernel, by decide +kernel, by decide +kernel⟩, by decide⟩
theorem ml_X12_433 : MLs RX12 433 yX12_two cX12_two 5 (some .long) 3 := ⟨TBL_t 1791 (by decide +kernel) (by decide +kernel), sm_X12_two, ini_RX12, cd_X12_two, ⟨by decide +kernel, by decide +kernel, by decide +kernel⟩, by decide⟩
theorem ml_X12_437 : MLv RX12 437 yX12_liesIn cX12_liesIn 3 (some .int) 2 := ⟨TBL_t 1775 (by decide +kernel) (by decide +kernel), im_X12_liesIn, sl_X12_liesIn, ini_RX12, cd_X12_liesIn, ⟨by decide +kernel, by decide +kernel, by decide +kernel⟩, by decide⟩
theorem ml_X12_440 : MLv RX12 440 yX12_fill cX12_fill 3 (some .int) 2 := ⟨TBL_t 1755 (by decide +kernel) (by decide +kernel), im_X12_fill, sl_X12_fill, ini_RX12, cd_X12_fill, ⟨by decide +kernel, by decide +kernel, by decide +kernel⟩, by decide⟩
theorem ml_X12_443 : MLv RX12 443 yX12_beside cX12_beside 6 (some .int) 3 := ⟨TBL_t 1783 (by decide +kernel) (by decide +kernel), im_X12_beside, sl_X12_beside, ini_RX12, cd_X12_beside, ⟨by decide +kernel, by decide +kernel, by decide +kernel⟩, by decide⟩
theorem ml_X12_447 : MLv RX12 447 yX12_isTold cX12_isTold 2 (some .boolean) 1 := ⟨TBL_t 1771 (by decide +kernel) (by decide +kernel), im_X12_isTold, sl_X12_isTold, ini_RX12, cd_X12_isTold, ⟨by decide +kernel, by decide +kernel, by decide +kernel⟩, by decide⟩
theorem ml_X12_450 : MLv RX12 450 yX12_asks cX12_asks 4 none 3 := ⟨TBL_t 1779 (by decide +kernel) (by decide +kernel), im_X12_asks, sl_X12_asks, ini_RX12, cd_X12_asks, ⟨by decide +kernel, by decide +kernel, by decide +kernel⟩, by decide⟩
theorem ml_X12_454 : MLv RX12 454 yX12_reckons cX12_reckons 5 (some .long) 1 := ⟨TBL_t 1787 (by decide +kernel) (by decide +kernel), im_X12_reckons, sl_X12_reckons, ini_RX12, cd_X12_reckons, ⟨by decide +kernel, by decide +kernel, by decide +kernel⟩, by decide⟩
theorem kc_X12_458 : Cond.constantLong RX12 458 (9999) ∈ TBL := TBL_t 1802 (by decide +kernel) (by decide +kernel)
theorem ml_X12_460 : MLv RX12 460 yX12_room cX12_room 5 (some .int) 2 := ⟨TBL_t 1824 (by decide +kernel) (by decide +kernel), im_X12_room, sl_X12_room, ini_RX12, cd_X12_room, ⟨by decide +kernel, by decide +kernel, by decide +kernel⟩, by decide⟩
theorem ml_X12_463 : MLv RX12 463 yX12_steps cX12_steps 3 (some .int) 2 := ⟨TBL_t 1916 (by decide +kernel) (by decide +kernel), im_X12_steps, sl_X12_steps, ini_RX12, cd_X12_steps, ⟨by decide +kernel, by decide +kernel, by decide +kernel⟩, by decide⟩
theorem ml_X12_466 : MLv RX12 466 yX12_leaking cX12_leaking 6 (some .int) 3 := ⟨TBL_t 1840 (by decide +kernel) (by decide +kernel), im_X12_leaking, sl_X12_leaking, ini_RX12, cd_X12_leaking, ⟨by decide +kernel, by decide +kernel, by decide +kernel⟩, by decide⟩
theorem ml_X12_470 : MLv RX12 470 yX12_sets cX12_sets 5 none 3 := ⟨TBL_t 1876 (by decide +kernel) (by decide +kernel), im_X12_sets, sl_X12_sets, ini_RX12, cd_X12_sets, ⟨by decide +kernel, by decide +kernel, by decide +kernel⟩, by decide⟩
theorem ml_X12_473 : MLv RX12 473 yX12_ownerOf cX12_ownerOf 3 (some .int) 2 := ⟨TBL_t 1836 (by decide +kernel) (by decide +kernel), im_X12_ownerOf, sl_X12_ownerOf, ini_RX12, cd_X12_ownerOf, ⟨by decide +kernel, by decide +kernel, by decide +kernel⟩, by decide⟩
theorem ml_X12_476 : MLv RX12 476 yX12_worth cX12_worth 5 (some .int) 2 := ⟨TBL_t 1767 (by decide +kernel) (by decide +kernel), im_X12_worth, sl_X12_worth, ini_RX12, cd_X12_worth, ⟨by decide +kernel, by decide +kernel, by decide +kernel⟩, by decide⟩
theorem ml_X12_479 : MLv RX12 479 yX12_debt cX12_debt 3 (some .int) 2 := ⟨TBL_t 1807 (by decide +kernel) (by decide +kernel), im_X12_debt, sl_X12_debt, ini_RX12, cd_X12_debt, ⟨by decide +kernel, by decide +kernel, by decide +kernel⟩, by decide⟩
theorem ml_X12_482 : MLv RX12 482 yX12_owed cX12_owed 5 (some .int) 2 := ⟨TBL_t 1803 (by decide +kernel) (by decide +kernel), im_X12_owed, sl_X12_owed, ini_RX12, cd_X12_owed, ⟨by decide +kernel, by decide +kernel, by decide +kernel⟩, by decide⟩
theorem ml_X12_486 : MLv RX12 486 yX12_lakesOf cX12_lakesOf 5 (some .int) 2 := ⟨TBL_t 1852 (by decide +kernel) (by decide +kernel), im_X12_lakesOf, sl_X12_lakesOf, ini_RX12, cd_X12_lakesOf, ⟨by decide +kernel, by decide +kernel, by decide +kernel⟩, by decide⟩
theorem ml_X12_489 : MLv RX12 489 yX12_worthOf cX12_worthOf 5 (some .int) 2 := ⟨TBL_t 1763 (by decide +kernel) (by decide +kernel), im_X12_worthOf, sl_X12_worthOf, ini_RX12, cd_X12_worthOf, ⟨by decide +kernel, by decide +kernel, by decide +kernel⟩, by decide⟩
theorem ml_X12_492 : MLv RX12 492 yX12_allLakes cX12_allLakes 1 (some .int) 0 := ⟨TBL_t 1759 (by decide +kernel) (by decide +kernel), im_X12_allLakes, sl_X12_allLakes, ini_RX12, cd_X12_allLakes, ⟨by decide +kernel, by decide +kernel, by decide +kernel⟩, by decide⟩
theorem kc_X12_496 : Cond.constantLong RX12 496 (255) ∈ TBL := TBL_t 1815 (by decide +kernel) (by decide +kernel)
theorem ml_X12_498 : MLv RX12 498 yX12_isHollow cX12_isHollow 2 (some .boolean) 1 := ⟨TBL_t 1820 (by decide +kernel) (by decide +kernel), im_X12_isHollow, sl_X12_isHollow, ini_RX12, cd_X12_isHollow, ⟨by decide +kernel, by decide +kernel, by decide +kernel⟩, by decide⟩
theorem ml_X12_501 : MLv RX12 501 yX12_isLake cX12_isLake 2 (some .boolean) 1 := ⟨TBL_t 1832 (by decide +kernel) (by decide +kernel), im_X12_isLake, sl_X12_isLake, ini_RX12, cd_X12_isLake, ⟨by decide +kernel, by decide +kernel, by decide +kernel⟩, by decide⟩
theorem ml_X12_504 : MLv RX12 504 yX12_isOwner cX12_isOwner 2 (some .boolean) 1 := ⟨TBL_t 1848 (by decide +kernel) (by decide +kernel), im_X12_isOwner, sl_X12_isOwner, ini_RX12, cd_X12_isOwner, ⟨by decide +kernel, by decide +kernel, by decide +kernel⟩, by decide⟩
theorem ml_X12_507 : MLv RX12 507 yX12_isBroke cX12_isBroke 3 (some .boolean) 2 := ⟨TBL_t 1856 (by decide +kernel) (by decide +kernel), im_X12_isBroke, sl_X12_isBroke, ini_RX12, cd_X12_isBroke, ⟨by decide +kernel, by decide +kernel, by decide +kernel⟩, by decide⟩
theorem ml_X12_510 : MLv RX12 510 yX12_isAhead cX12_isAhead 3 (some .boolean) 2 := ⟨TBL_t 1868 (by decide +kernel) (by decide +kernel), im_X12_isAhead, sl_X12_isAhead, ini_RX12, cd_X12_isAhead, ⟨by decide +kernel, by decide +kernel, by decide +kernel⟩, by decide⟩
theorem ml_X12_513 : MLv RX12 513 yX12_passes cX12_passes 5 (some .int) 2 := ⟨TBL_t 1872 (by decide +kernel) (by decide +kernel), im_X12_passes, sl_X12_passes, ini_RX12, cd_X12_passes, ⟨by decide +kernel, by decide +kernel, by decide +kernel⟩, by decide⟩
theorem kc_X12_516 : Cond.constant RX12 516 (100000000) ∈ TBL := TBL_t 1892 (by decide +kernel) (by decide +kernel)
theorem ml_X12_517 : MLs RX12 517 yX12_bits cX12_bits 3 (some .int) 1 := ⟨TBL_t 1893 (by decide +kernel) (by decide +kernel), sm_X12_bits, ini_RX12, cd_X12_bits, ⟨by decide +kernel, by decide +kernel, by decide +kernel⟩, by decide⟩
theorem ml_X12_520 : MLv RX12 520 yX12_astray cX12_astray 4 (some .int) 1 := ⟨TBL_t 1904 (by decide +kernel) (by decide +kernel), im_X12_astray, sl_X12_astray, ini_RX12, cd_X12_astray, ⟨by decide +kernel, by decide +kernel, by decide +kernel⟩, by decide⟩
theorem ml_X12_523 : MLv RX12 523 yX12_canMove cX12_canMove 4 (some .boolean) 3 := ⟨TBL_t 1912 (by decide +kernel) (by decide +kernel), im_X12_canMove, sl_X12_canMove, ini_RX12, cd_X12_canMove, ⟨by decide +kernel, by decide +kernel, by decide +kernel⟩, by decide⟩
theorem ml_X12_526 : MLv RX12 526 yX12_movesNext cX12_movesNext 7 (some .boolean) 2 := ⟨TBL_t 1908 (by decide +kernel) (by decide +kernel), im_X12_movesNext, sl_X12_movesNext, ini_RX12, cd_X12_movesNext, ⟨by decide +kernel, by decide +kernel, by decide +kernel⟩, by decide⟩
theorem ml_X12_529 : MLv RX12 529 yX12_isEnough cX12_isEnough 3 (some .boolean) 1 := ⟨TBL_t 1900 (by decide +kernel) (by decide +kernel), im_X12_isEnough, sl_X12_isEnough, ini_RX12, cd_X12_isEnough, ⟨by decide +kernel, by decide +kernel, by decide +kernel⟩, by decide⟩
theorem ml_X12_532 : MLs RX12 532 yX12_lowest cX12_lowest 2 (some .int) 1 := ⟨TBL_t 1924 (by decide +kernel) (by decide +kernel), sm_X12_lowest, ini_RX12, cd_X12_lowest, ⟨by decide +kernel, by decide +kernel, by decide +kernel⟩, by decide⟩
theorem ml_X12_535 : MLv RX12 535 yX12_netOf cX12_netOf 2 (some .int) 1 := ⟨TBL_t 1931 (by decide +kernel) (by decide +kernel), im_X12_netOf, sl_X12_netOf, ini_RX12, cd_X12_netOf, ⟨by decide +kernel, by decide +kernel, by decide +kernel⟩, by decide⟩
theorem kc_X12_538 : Cond.constant RX12 538 (-1000000000) ∈ TBL := TBL_t 1935 (by decide +kernel) (by decide +kernel)
theorem ml_X12_539 : MLv RX12 539 yX12_apart cX12_apart 8 (some .int) 3 := ⟨TBL_t 1944 (by decide +kernel) (by decide +kernel), im_X12_apart, sl_X12_apart, ini_RX12, cd_X12_apart, ⟨by decide +kernel, by decide +kernel, by decide +kernel⟩, by decide⟩
theorem ml_X12_542 : MLv RX12 542 yX12_twoBytes cX12_twoBytes 2 (some .int) 1 := ⟨TBL_t 1952 (by decide +kernel) (by decide +kernel), im_X12_twoBytes, sl_X12_twoBytes, ini_RX12, cd_X12_twoBytes, ⟨by decide +kernel, by decide +kernel, by decide +kernel⟩, by decide⟩
theorem ml_X12_545 : MLv RX12 545 yX12_isAsStood cX12_isAsStood 2 (some .boolean) 0 := ⟨TBL_t 1960 (by decide +kernel) (by decide +kernel), im_X12_isAsStood, sl_X12_isAsStood, ini_RX12, cd_X12_isAsStood, ⟨by decide +kernel, by decide +kernel, by decide +kernel⟩, by decide⟩
theorem ml_X12_548 : MLv RX12 548 yX12_keeps cX12_keeps 1 none 0 := ⟨TBL_t 1968 (by decide +kernel) (by decide +kernel), im_X12_keeps, sl_X12_keeps, ini_RX12, cd_X12_keeps, ⟨by decide +kernel, by decide +kernel, by decide +kernel⟩, by decide⟩
theorem kc_X12_551 : Cond.constantLong RX12 551 (1103515245) ∈ TBL := TBL_t 1980 (by decide +kernel) (by decide +kernel)
theorem kc_X12_553 : Cond.constantLong RX12 553 (12345) ∈ TBL := TBL_t 1981 (by decide +kernel) (by decide +kernel)
theorem kc_X12_555 : Cond.constantLong RX12 555 (2147483648) ∈ TBL := TBL_t 1982 (by decide +kernel) (by decide +kernel)
theorem kc_X12_557 : Cond.constantLong RX12 557 (64) ∈ TBL := TBL_t 1983 (by decide +kernel) (by decide +kernel)
theorem ml_X12_559 : MLv RX12 559 yX12_draw cX12_draw 2 (some .int) 1 := ⟨TBL_t 1976 (by decide +kernel) (by decide +kernel), im_X12_draw, sl_X12_draw, ini_RX12, cd_X12_draw, ⟨by decide +kernel, by decide +kernel, by decide +kernel⟩, by decide⟩
theorem ml_X12_562 : MLv RX12 562 yX12_writesDown cX12_writesDown 5 none 3 := ⟨TBL_t 2000 (by decide +kernel) (by decide +kernel), im_X12_writesDown, sl_X12_writesDown, ini_RX12, cd_X12_writesDown, ⟨by decide +kernel, by decide +kernel, by decide +kernel⟩, by decide⟩
theorem ml_X12_565 : MLv RX12 565 yX12_writes cX12_writes 2 none 1 := ⟨TBL_t 2024 (by decide +kernel) (by decide +kernel), im_X12_writes, sl_X12_writes, ini_RX12, cd_X12_writes, ⟨by decide +kernel, by decide +kernel, by decide +kernel⟩, by decide⟩
theorem ml_X12_568 : MLv RX12 568 yX12_writesTwo cX12_writesTwo 2 none 1 := ⟨TBL_t 2020 (by decide +kernel) (by decide +kernel), im_X12_writesTwo, sl_X12_writesTwo, ini_RX12, cd_X12_writesTwo, ⟨by decide +kernel, by decide +kernel, by decide +kernel⟩, by decide⟩
theorem ml_X12_571 : MLv RX12 571 yX12_lakeOn cX12_lakeOn 6 (some .boolean) 2 := ⟨TBL_t 2040 (by decide +kernel) (by decide +kernel), im_X12_lakeOn, sl_X12_lakeOn, ini_RX12, cd_X12_lakeOn, ⟨by decide +kernel, by decide +kernel, by decide +kernel⟩, by decide⟩
theorem ml_X12_574 : MLv RX12 574 yX12_comesOn cX12_comesOn 8 (some .boolean) 1 := ⟨TBL_t 2036 (by decide +kernel) (by decide +kernel), im_X12_comesOn, sl_X12_comesOn, ini_RX12, cd_X12_comesOn, ⟨by decide +kernel, by decide +kernel, by decide +kernel⟩, by decide⟩
theorem kc_J6_265 : Cond.constant RJ6 265 (1431655765) ∈ TBL := TBL_t 983 (by decide +kernel) (by decide +kernel)
theorem kc_J6_266 : Cond.constant RJ6 266 (858993459) ∈ TBL := TBL_t 984 (by decide +kernel) (by decide +kernel)
theorem kc_J6_267 : Cond.constant RJ6 267 (252645135) ∈ TBL := TBL_t 985 (by decide +kernel) (by decide +kernel)
theorem ml_J0_492 : MLv RJ0 492 yJ0_isLatin1_aae02 cJ0_isLatin1_aae02 1 (some .boolean) 0 := ⟨TBL_t 529 (by decide +kernel) (by decide +kernel), im_J0_isLatin1_aae02, sl_J0_isLatin1_aae02, ini_RJ0, cd_J0_isLatin1_aae02, ⟨by decide +kernel, by decide +kernel, by decide +kernel⟩, by decide⟩
theorem ml_J0_495 : MLs RJ0 495 yJ1_charAt_3b067 cJ1_charAt_3b067 2 (some .char) 2 := ⟨TBL_t 535 (by decide +kernel) (by decide +kernel), sm_J1_charAt_3b067, ini_RJ1, cd_J1_charAt_3b067, ⟨by decide +kernel, by decide +kernel, by decide +kernel⟩, by decide⟩
theorem ml_J0_498 : MLs RJ0 498 yJ2_charAt_3b067 cJ2_charAt_3b067 2 (some .char) 2 := ⟨TBL_t 546 (by decide +kernel) (by decide +kernel), sm_J2_charAt_3b067, ini_RJ2, cd_J2_charAt_3b067, ⟨by decide +kernel, by decide +kernel, by decide +kernel⟩, by decide⟩
theorem ml_J0_1059 : MLs RJ0 1059 yJ3_checkIndex_8e157 cJ3_checkIndex_8e157 3 (some .int) 3 := ⟨TBL_t 543 (by decide +kernel) (by decide +kernel), sm_J3_checkIndex_8e157, ini_RJ3, cd_J3_checkIndex_8e157, ⟨by decide +kernel, by decide +kernel, by decide +kernel⟩, by decide⟩
theorem ml_J1_9 : MLs RJ1 9 yJ0_checkIndex_df160 cJ0_checkIndex_df160 2 none 2 := ⟨TBL_t 538 (by decide +kernel) (by decide +kernel), sm_J0_checkIndex_df160, ini_RJ0, cd_J0_checkIndex_df160, ⟨by decide +kernel, by decide +kernel, by decide +kernel⟩, by decide⟩
theorem ml_J2_48 : MLs RJ2 48 yJ2_length_9d52b cJ2_length_9d52b 1 (some .int) 1 := ⟨TBL_t 552 (by decide +kernel) (by decide +kernel), sm_J2_length_9d52b, ini_RJ2, cd_J2_length_9d52b, ⟨by decide +kernel, by decide +kernel, by decide +kernel⟩, by decide⟩
theorem ml_J2_67 : MLs RJ2 67 yJ2_checkIndex_2214a cJ2_checkIndex_2214a 2 none 2 := ⟨TBL_t 549 (by decide +kernel) (by decide +kernel), sm_J2_checkIndex_2214a, ini_RJ2, cd_J2_checkIndex_2214a, ⟨by decide +kernel, by decide +kernel, by decide +kernel⟩, by decide⟩
theorem ml_J2_71 : MLs RJ2 71 yJ2_getChar_3b067 cJ2_getChar_3b067 2 (some .char) 2 := ⟨TBL_t 556 (by decide +kernel) (by decide +kernel), sm_J2_getChar_3b067, ini_RJ2, cd_J2_getChar_3b067, ⟨by decide +kernel, by decide +kernel, by decide +kernel⟩, by decide⟩
theorem ml_J2_414 : MLs RJ2 414 yJ0_checkIndex_df160 cJ0_checkIndex_df160 2 none 2 := ⟨TBL_t 555 (by decide +kernel) (by decide +kernel), sm_J0_checkIndex_df160, ini_RJ0, cd_J0_checkIndex_df160, ⟨by decide +kernel, by decide +kernel, by decide +kernel⟩, by decide⟩
theorem fp_0_2 : FP 0 2 .int := by
  intro C T n h
  cases h
  exact ⟨⟨tyX0, tyX0_ok⟩, nmX0, rfl, by decide +kernel⟩
theorem fp_0_8 : FP 0 8 .int := by
  intro C T n h
  cases h
  exact ⟨⟨tyX0, tyX0_ok⟩, nmX0, rfl, by decide +kernel⟩
theorem fp_0_9 : FP 0 9 .int := by
  intro C T n h
  cases h
  exact ⟨⟨tyX0, tyX0_ok⟩, nmX0, rfl, by decide +kernel⟩
theorem fp_1_2 : FP 1 2 .int := by
  intro C T n h
  cases h
  exact ⟨⟨tyX1, tyX1_ok⟩, nmX1, rfl, by decide +kernel⟩
theorem fp_1_3 : FP 1 3 .int := by
  intro C T n h
  cases h
  exact ⟨⟨tyX1, tyX1_ok⟩, nmX1, rfl, by decide +kernel⟩
theorem fp_2_0 : FP 2 0 .int := by
  intro C T n h
  cases h
  exact ⟨⟨tyX2, tyX2_ok⟩, nmX2, rfl, by decide +kernel⟩
theorem fp_2_1 : FP 2 1 .int := by
  intro C T n h
  cases h
  exact ⟨⟨tyX2, tyX2_ok⟩, nmX2, rfl, by decide +kernel⟩
theorem fp_2_2 : FP 2 2 .int := by
  intro C T n h
  cases h
  exact ⟨⟨tyX2, tyX2_ok⟩, nmX2, rfl, by decide +kernel⟩
theorem fp_2_3 : FP 2 3 .int := by
  intro C T n h
  cases h
  exact ⟨⟨tyX2, tyX2_ok⟩, nmX2, rfl, by decide +kernel⟩
theorem fp_2_4 : FP 2 4 .int := by
  intro C T n h
  cases h
  exact ⟨⟨tyX2, tyX2_ok⟩, nmX2, rfl, by decide +kernel⟩
theorem fp_2_5 : FP 2 5 .int := by
  intro C T n h
  cases h
  exact ⟨⟨tyX2, tyX2_ok⟩, nmX2, rfl, by decide +kernel⟩
theorem fp_2_16 : FP 2 16 .int := by
  intro C T n h
  cases h
  exact ⟨⟨tyX2, tyX2_ok⟩, nmX2, rfl, by decide +kernel⟩
theorem fp_3_1 : FP 3 1 .int := by
  intro C T n h
  cases h
  exact ⟨⟨tyX3, tyX3_ok⟩, nmX3, rfl, by decide +kernel⟩
theorem fp_4_4 : FP 4 4 (.object "LakeMarket$Scene") := by
  intro C T n h
  cases h
  exact ⟨⟨tyX4, tyX4_ok⟩, nmX4, rfl, by decide +kernel⟩
theorem fp_5_1 : FP 5 1 .int := by
  intro C T n h
  cases h
  exact ⟨⟨tyX5, tyX5_ok⟩, nmX5, rfl, by decide +kernel⟩
theorem fp_6_1 : FP 6 1 .int := by
  intro C T n h
  cases h
  exact ⟨⟨tyX6, tyX6_ok⟩, nmX6, rfl, by decide +kernel⟩
theorem fp_7_2 : FP 7 2 (.object "LakeMarket$Lowland") := by
  intro C T n h
  cases h
  exact ⟨⟨tyX7, tyX7_ok⟩, nmX7, rfl, by decide +kernel⟩
theorem fp_7_3 : FP 7 3 .int := by
  intro C T n h
  cases h
  exact ⟨⟨tyX7, tyX7_ok⟩, nmX7, rfl, by decide +kernel⟩
theorem fp_8_1 : FP 8 1 (.object "LakeMarket$Lowland") := by
  intro C T n h
  cases h
  exact ⟨⟨tyX8, tyX8_ok⟩, nmX8, rfl, by decide +kernel⟩
theorem fp_8_2 : FP 8 2 .int := by
  intro C T n h
  cases h
  exact ⟨⟨tyX8, tyX8_ok⟩, nmX8, rfl, by decide +kernel⟩
theorem fp_9_0 : FP 9 0 (.object "LakeMarket$Lowland") := by
  intro C T n h
  cases h
  exact ⟨⟨tyX9, tyX9_ok⟩, nmX9, rfl, by decide +kernel⟩
theorem fp_9_1 : FP 9 1 .int := by
  intro C T n h
  cases h
  exact ⟨⟨tyX9, tyX9_ok⟩, nmX9, rfl, by decide +kernel⟩
theorem fp_10_1 : FP 10 1 .int := by
  intro C T n h
  cases h
  exact ⟨⟨tyX10, tyX10_ok⟩, nmX10, rfl, by decide +kernel⟩
theorem fp_10_2 : FP 10 2 .int := by
  intro C T n h
  cases h
  exact ⟨⟨tyX10, tyX10_ok⟩, nmX10, rfl, by decide +kernel⟩
theorem fp_10_3 : FP 10 3 .int := by
  intro C T n h
  cases h
  exact ⟨⟨tyX10, tyX10_ok⟩, nmX10, rfl, by decide +kernel⟩
theorem fp_10_4 : FP 10 4 .int := by
  intro C T n h
  cases h
  exact ⟨⟨tyX10, tyX10_ok⟩, nmX10, rfl, by decide +kernel⟩
theorem fp_10_5 : FP 10 5 .int := by
  intro C T n h
  cases h
  exact ⟨⟨tyX10, tyX10_ok⟩, nmX10, rfl, by decide +kernel⟩
theorem fp_10_6 : FP 10 6 .int := by
  intro C T n h
  cases h
  exact ⟨⟨tyX10, tyX10_ok⟩, nmX10, rfl, by decide +kernel⟩
theorem fp_10_7 : FP 10 7 .int := by
  intro C T n h
  cases h
  exact ⟨⟨tyX10, tyX10_ok⟩, nmX10, rfl, by decide +kernel⟩
theorem fp_10_8 : FP 10 8 .int := by
  intro C T n h
  cases h
  exact ⟨⟨tyX10, tyX10_ok⟩, nmX10, rfl, by decide +kernel⟩
theorem fp_11_1 : FP 11 1 .int := by
  intro C T n h
  cases h
  exact ⟨⟨tyX11, tyX11_ok⟩, nmX11, rfl, by decide +kernel⟩
theorem fp_11_2 : FP 11 2 (.object "LakeMarket$Lowland") := by
  intro C T n h
  cases h
  exact ⟨⟨tyX11, tyX11_ok⟩, nmX11, rfl, by decide +kernel⟩
theorem fp_11_3 : FP 11 3 (.object "LakeMarket$Lowland") := by
  intro C T n h
  cases h
  exact ⟨⟨tyX11, tyX11_ok⟩, nmX11, rfl, by decide +kernel⟩
theorem fp_11_5 : FP 11 5 .int := by
  intro C T n h
  cases h
  exact ⟨⟨tyX11, tyX11_ok⟩, nmX11, rfl, by decide +kernel⟩
theorem fp_11_6 : FP 11 6 .int := by
  intro C T n h
  cases h
  exact ⟨⟨tyX11, tyX11_ok⟩, nmX11, rfl, by decide +kernel⟩
theorem fp_11_16 : FP 11 16 .int := by
  intro C T n h
  cases h
  exact ⟨⟨tyX11, tyX11_ok⟩, nmX11, rfl, by decide +kernel⟩
theorem fp_11_17 : FP 11 17 .int := by
  intro C T n h
  cases h
  exact ⟨⟨tyX11, tyX11_ok⟩, nmX11, rfl, by decide +kernel⟩
theorem fp_12_1 : FP 12 1 .int := by
  intro C T n h
  cases h
  exact ⟨⟨tyX12, tyX12_ok⟩, nmX12, rfl, by decide +kernel⟩
theorem fp_12_2 : FP 12 2 .int := by
  intro C T n h
  cases h
  exact ⟨⟨tyX12, tyX12_ok⟩, nmX12, rfl, by decide +kernel⟩
theorem fp_12_3 : FP 12 3 .int := by
  intro C T n h
  cases h
  exact ⟨⟨tyX12, tyX12_ok⟩, nmX12, rfl, by decide +kernel⟩
theorem fp_12_4 : FP 12 4 .int := by
  intro C T n h
  cases h
  exact ⟨⟨tyX12, tyX12_ok⟩, nmX12, rfl, by decide +kernel⟩
theorem fp_12_5 : FP 12 5 .int := by
  intro C T n h
  cases h
  exact ⟨⟨tyX12, tyX12_ok⟩, nmX12, rfl, by decide +kernel⟩
theorem fp_12_6 : FP 12 6 .int := by
  intro C T n h
  cases h
  exact ⟨⟨tyX12, tyX12_ok⟩, nmX12, rfl, by decide +kernel⟩
theorem fp_12_7 : FP 12 7 .long := by
  intro C T n h
  cases h
  exact ⟨⟨tyX12, tyX12_ok⟩, nmX12, rfl, by decide +kernel⟩
theorem fp_12_8 : FP 12 8 .int := by
  intro C T n h
  cases h
  exact ⟨⟨tyX12, tyX12_ok⟩, nmX12, rfl, by decide +kernel⟩
theorem fp_12_9 : FP 12 9 .int := by
  intro C T n h
  cases h
  exact ⟨⟨tyX12, tyX12_ok⟩, nmX12, rfl, by decide +kernel⟩
theorem fp_12_10 : FP 12 10 .int := by
  intro C T n h
  cases h
  exact ⟨⟨tyX12, tyX12_ok⟩, nmX12, rfl, by decide +kernel⟩
theorem fp_12_11 : FP 12 11 .int := by
  intro C T n h
  cases h
  exact ⟨⟨tyX12, tyX12_ok⟩, nmX12, rfl, by decide +kernel⟩
theorem fp_12_12 : FP 12 12 .int := by
  intro C T n h
  cases h
  exact ⟨⟨tyX12, tyX12_ok⟩, nmX12, rfl, by decide +kernel⟩
theorem fp_12_13 : FP 12 13 .int := by
  intro C T n h
  cases h
  exact ⟨⟨tyX12, tyX12_ok⟩, nmX12, rfl, by decide +kernel⟩
theorem fp_12_32 : FP 12 32 .int := by
  intro C T n h
  cases h
  exact ⟨⟨tyX12, tyX12_ok⟩, nmX12, rfl, by decide +kernel⟩
theorem fp_12_33 : FP 12 33 .int := by
  intro C T n h
  cases h
  exact ⟨⟨tyX12, tyX12_ok⟩, nmX12, rfl, by decide +kernel⟩
theorem fp_12_34 : FP 12 34 .int := by
  intro C T n h
  cases h
  exact ⟨⟨tyX12, tyX12_ok⟩, nmX12, rfl, by decide +kernel⟩
theorem fp_12_40 : FP 12 40 .int := by
  intro C T n h
  cases h
  exact ⟨⟨tyX12, tyX12_ok⟩, nmX12, rfl, by decide +kernel⟩
theorem fp_12_41 : FP 12 41 .int := by
  intro C T n h
  cases h
  exact ⟨⟨tyX12, tyX12_ok⟩, nmX12, rfl, by decide +kernel⟩
theorem fp_12_43 : FP 12 43 .int := by
  intro C T n h
  cases h
  exact ⟨⟨tyX12, tyX12_ok⟩, nmX12, rfl, by decide +kernel⟩
theorem fp_12_44 : FP 12 44 .boolean := by
  intro C T n h
  cases h
  exact ⟨⟨tyX12, tyX12_ok⟩, nmX12, rfl, by decide +kernel⟩
theorem fp_12_53 : FP 12 53 .int := by
  intro C T n h
  cases h
  exact ⟨⟨tyX12, tyX12_ok⟩, nmX12, rfl, by decide +kernel⟩
theorem fp_12_54 : FP 12 54 .int := by
  intro C T n h
  cases h
  exact ⟨⟨tyX12, tyX12_ok⟩, nmX12, rfl, by decide +kernel⟩
theorem fp_12_55 : FP 12 55 .long := by
  intro C T n h
  cases h
  exact ⟨⟨tyX12, tyX12_ok⟩, nmX12, rfl, by decide +kernel⟩
theorem fp_12_66 : FP 12 66 .int := by
  intro C T n h
  cases h
  exact ⟨⟨tyX12, tyX12_ok⟩, nmX12, rfl, by decide +kernel⟩
theorem fp_12_70 : FP 12 70 .int := by
  intro C T n h
  cases h
  exact ⟨⟨tyX12, tyX12_ok⟩, nmX12, rfl, by decide +kernel⟩
