theorem TBL_1 (i : Nat) {w : Cond} (h : tables_1_1[i]? = some w) (g : goodWord w = true) : w ∈ TBL := TBL_in (List.mem_append_right _ (show w ∈ tables_1 from (List.mem_append_left _ (List.mem_of_getElem? h)))) g
theorem TBL_2 (i : Nat) {w : Cond} (h : tables_1_2[i]? = some w) (g : goodWord w = true) : w ∈ TBL := TBL_in (List.mem_append_right _ (show w ∈ tables_1 from (List.mem_append_right _ (List.mem_append_left _ (List.mem_of_getElem? h))))) g
theorem TBL_3 (i : Nat) {w : Cond} (h : tables_1_3[i]? = some w) (g : goodWord w = true) : w ∈ TBL := TBL_in (List.mem_append_right _ (show w ∈ tables_1 from (List.mem_append_right _ (List.mem_append_right _ (List.mem_append_left _ (List.mem_of_getElem? h)))))) g
theorem TBL_4 (i : Nat) {w : Cond} (h : tables_1_4[i]? = some w) (g : goodWord w = true) : w ∈ TBL := TBL_in (List.mem_append_right _ (show w ∈ tables_1 from (List.mem_append_right _ (List.mem_append_right _ (List.mem_append_right _ (List.mem_append_left _ (List.mem_of_getElem? h))))))) g
theorem TBL_5 (i : Nat) {w : Cond} (h : tables_1_5[i]? = some w) (g : goodWord w = true) : w ∈ TBL := TBL_in (List.mem_append_right _ (show w ∈ tables_1 from (List.mem_append_right _ (List.mem_append_right _ (List.mem_append_right _ (List.mem_append_right _ (List.mem_append_left _ (List.mem_of_getElem? h)))))))) g
theorem TBL_6 (i : Nat) {w : Cond} (h : tables_1_6[i]? = some w) (g : goodWord w = true) : w ∈ TBL := TBL_in (List.mem_append_right _ (show w ∈ tables_1 from (List.mem_append_right _ (List.mem_append_right _ (List.mem_append_right _ (List.mem_append_right _ (List.mem_append_right _ (List.mem_append_left _ (List.mem_of_getElem? h))))))))) g
theorem TBL_7 (i : Nat) {w : Cond} (h : tables_1_7[i]? = some w) (g : goodWord w = true) : w ∈ TBL := TBL_in (List.mem_append_right _ (show w ∈ tables_1 from (List.mem_append_right _ (List.mem_append_right _ (List.mem_append_right _ (List.mem_append_right _ (List.mem_append_right _ (List.mem_append_right _ (List.mem_append_left _ (List.mem_of_getElem? h)))))))))) g
theorem TBL_8 (i : Nat) {w : Cond} (h : tables_1_8[i]? = some w) (g : goodWord w = true) : w ∈ TBL := TBL_in (List.mem_append_right _ (show w ∈ tables_1 from (List.mem_append_right _ (List.mem_append_right _ (List.mem_append_right _ (List.mem_append_right _ (List.mem_append_right _ (List.mem_append_right _ (List.mem_append_right _ (List.mem_append_left _ (List.mem_of_getElem? h))))))))))) g
theorem TBL_9 (i : Nat) {w : Cond} (h : tables_1_9[i]? = some w) (g : goodWord w = true) : w ∈ TBL := TBL_in (List.mem_append_right _ (show w ∈ tables_1 from (List.mem_append_right _ (List.mem_append_right _ (List.mem_append_right _ (List.mem_append_right _ (List.mem_append_right _ (List.mem_append_right _ (List.mem_append_right _ (List.mem_append_right _ (List.mem_of_getElem? h))))))))))) g
theorem TBL_s (i : Nat) {q : MethodName × Nat} (h : lw_privs[i]? = some q) (g : goodWord (Cond.selects q.1.cls q.1 q.1) = true) : Cond.selects q.1.cls q.1 q.1 ∈ TBL := TBL_in (List.mem_append_left _ (List.mem_map.mpr ⟨q, List.mem_of_getElem? h, rfl⟩)) g
theorem cw0 : ∀ w ∈ u_ws RX0 TX0 10, w ∈ TBL := by
  intro w hw
  obtain ⟨k, hk, rfl⟩ := List.mem_map.mp hw
  have hk := List.mem_range.mp hk
  have h : ∀ k, k < 10 → (u_lay RX0 TX0 k ∈ tables_1 ∧ goodWord (u_lay RX0 TX0 k) = true) := by decide +kernel
  exact TBL_in (List.mem_append_right _ (h k hk).1) (h k hk).2
theorem cw1 : ∀ w ∈ u_ws RX1 TX1 4, w ∈ TBL := by
  intro w hw
  obtain ⟨k, hk, rfl⟩ := List.mem_map.mp hw
  have hk := List.mem_range.mp hk
  have h : ∀ k, k < 4 → (u_lay RX1 TX1 k ∈ tables_1 ∧ goodWord (u_lay RX1 TX1 k) = true) := by decide +kernel
  exact TBL_in (List.mem_append_right _ (h k hk).1) (h k hk).2
theorem cw2 : ∀ w ∈ u_ws RX2 TX2 19, w ∈ TBL := by
  intro w hw
  obtain ⟨k, hk, rfl⟩ := List.mem_map.mp hw
  have hk := List.mem_range.mp hk
  have h : ∀ k, k < 19 → (u_lay RX2 TX2 k ∈ tables_1 ∧ goodWord (u_lay RX2 TX2 k) = true) := by decide +kernel
  exact TBL_in (List.mem_append_right _ (h k hk).1) (h k hk).2
theorem cw3 : ∀ w ∈ u_ws RX3 TX3 3, w ∈ TBL := by
  intro w hw
  obtain ⟨k, hk, rfl⟩ := List.mem_map.mp hw
  have hk := List.mem_range.mp hk
  have h : ∀ k, k < 3 → (u_lay RX3 TX3 k ∈ tables_1 ∧ goodWord (u_lay RX3 TX3 k) = true) := by decide +kernel
  exact TBL_in (List.mem_append_right _ (h k hk).1) (h k hk).2
theorem cw4 : ∀ w ∈ u_ws RX4 TX4 5, w ∈ TBL := by
  intro w hw
  obtain ⟨k, hk, rfl⟩ := List.mem_map.mp hw
  have hk := List.mem_range.mp hk
  have h : ∀ k, k < 5 → (u_lay RX4 TX4 k ∈ tables_1 ∧ goodWord (u_lay RX4 TX4 k) = true) := by decide +kernel
  exact TBL_in (List.mem_append_right _ (h k hk).1) (h k hk).2
theorem cw5 : ∀ w ∈ u_ws RX5 TX5 2, w ∈ TBL := by
  intro w hw
  obtain ⟨k, hk, rfl⟩ := List.mem_map.mp hw
  have hk := List.mem_range.mp hk
  have h : ∀ k, k < 2 → (u_lay RX5 TX5 k ∈ tables_1 ∧ goodWord (u_lay RX5 TX5 k) = true) := by decide +kernel
  exact TBL_in (List.mem_append_right _ (h k hk).1) (h k hk).2
theorem cw6 : ∀ w ∈ u_ws RX6 TX6 2, w ∈ TBL := by
  intro w hw
  obtain ⟨k, hk, rfl⟩ := List.mem_map.mp hw
  have hk := List.mem_range.mp hk
  have h : ∀ k, k < 2 → (u_lay RX6 TX6 k ∈ tables_1 ∧ goodWord (u_lay RX6 TX6 k) = true) := by decide +kernel
  exact TBL_in (List.mem_append_right _ (h k hk).1) (h k hk).2
theorem cw7 : ∀ w ∈ u_ws RX7 TX7 4, w ∈ TBL := by
  intro w hw
  obtain ⟨k, hk, rfl⟩ := List.mem_map.mp hw
  have hk := List.mem_range.mp hk
  have h : ∀ k, k < 4 → (u_lay RX7 TX7 k ∈ tables_1 ∧ goodWord (u_lay RX7 TX7 k) = true) := by decide +kernel
  exact TBL_in (List.mem_append_right _ (h k hk).1) (h k hk).2
theorem cw8 : ∀ w ∈ u_ws RX8 TX8 3, w ∈ TBL := by
  intro w hw
  obtain ⟨k, hk, rfl⟩ := List.mem_map.mp hw
  have hk := List.mem_range.mp hk
  have h : ∀ k, k < 3 → (u_lay RX8 TX8 k ∈ tables_1 ∧ goodWord (u_lay RX8 TX8 k) = true) := by decide +kernel
  exact TBL_in (List.mem_append_right _ (h k hk).1) (h k hk).2
theorem cw9 : ∀ w ∈ u_ws RX9 TX9 8, w ∈ TBL := by
  intro w hw
  obtain ⟨k, hk, rfl⟩ := List.mem_map.mp hw
  have hk := List.mem_range.mp hk
  have h : ∀ k, k < 8 → (u_lay RX9 TX9 k ∈ tables_1 ∧ goodWord (u_lay RX9 TX9 k) = true) := by decide +kernel
  exact TBL_in (List.mem_append_right _ (h k hk).1) (h k hk).2
theorem cw10 : ∀ w ∈ u_ws RX10 TX10 9, w ∈ TBL := by
  intro w hw
  obtain ⟨k, hk, rfl⟩ := List.mem_map.mp hw
  have hk := List.mem_range.mp hk
  have h : ∀ k, k < 9 → (u_lay RX10 TX10 k ∈ tables_1 ∧ goodWord (u_lay RX10 TX10 k) = true) := by decide +kernel
  exact TBL_in (List.mem_append_right _ (h k hk).1) (h k hk).2
theorem cw11 : ∀ w ∈ u_ws RX11 TX11 19, w ∈ TBL := by
  intro w hw
  obtain ⟨k, hk, rfl⟩ := List.mem_map.mp hw
  have hk := List.mem_range.mp hk
  have h : ∀ k, k < 19 → (u_lay RX11 TX11 k ∈ tables_1 ∧ goodWord (u_lay RX11 TX11 k) = true) := by decide +kernel
  exact TBL_in (List.mem_append_right _ (h k hk).1) (h k hk).2
theorem cw12 : ∀ w ∈ u_ws RX12 TX12 71, w ∈ TBL := by
  intro w hw
  obtain ⟨k, hk, rfl⟩ := List.mem_map.mp hw
  have hk := List.mem_range.mp hk
  have h : ∀ k, k < 71 → (u_lay RX12 TX12 k ∈ tables_1 ∧ goodWord (u_lay RX12 TX12 k) = true) := by decide +kernel
  exact TBL_in (List.mem_append_right _ (h k hk).1) (h k hk).2
theorem ini_RX11 : Cond.initialized RX11 ∈ TBL := TBL_1 1 rfl rfl
theorem ini_RX0 : Cond.initialized RX0 ∈ TBL := TBL_1 10 rfl rfl
theorem ini_RX1 : Cond.initialized RX1 ∈ TBL := TBL_1 8 rfl rfl
theorem ini_RX2 : Cond.initialized RX2 ∈ TBL := TBL_1 2 rfl rfl
theorem ini_RX3 : Cond.initialized RX3 ∈ TBL := TBL_1 7 rfl rfl
theorem ini_RX4 : Cond.initialized RX4 ∈ TBL := TBL_1 11 rfl rfl
theorem ini_RX5 : Cond.initialized RX5 ∈ TBL := TBL_1 9 rfl rfl
theorem ini_RX6 : Cond.initialized RX6 ∈ TBL := TBL_1 12 rfl rfl
theorem ini_RX7 : Cond.initialized RX7 ∈ TBL := TBL_1 3 rfl rfl
theorem ini_RX8 : Cond.initialized RX8 ∈ TBL := TBL_1 5 rfl rfl
theorem ini_RX9 : Cond.initialized RX9 ∈ TBL := TBL_1 6 rfl rfl
theorem ini_RX10 : Cond.initialized RX10 ∈ TBL := TBL_1 4 rfl rfl
theorem ini_RL : Cond.initialized RL ∈ TBL := TBL_1 0 rfl rfl
theorem ini_RX12 : Cond.initialized RX12 ∈ TBL := TBL_1 14 rfl rfl
theorem ini_RJ6 : Cond.initialized RJ6 ∈ TBL := TBL_1 21 rfl rfl
theorem ini_RJ9 : Cond.initialized RJ9 ∈ TBL := TBL_1 20 rfl rfl
theorem ini_RJ0 : Cond.initialized RJ0 ∈ TBL := TBL_1 16 rfl rfl
theorem ini_RJ1 : Cond.initialized RJ1 ∈ TBL := TBL_1 17 rfl rfl
theorem ini_RJ2 : Cond.initialized RJ2 ∈ TBL := TBL_1 19 rfl rfl
theorem ini_RJ7 : Cond.initialized RJ7 ∈ TBL := TBL_1 15 rfl rfl
theorem ini_RJ3 : Cond.initialized RJ3 ∈ TBL := TBL_1 18 rfl rfl
theorem cd_X0_init : Cond.code yX0_init cX0_init 1 none ∈ TBL := TBL_2 86 rfl rfl
theorem cd_X0_collect : Cond.code yX0_collect cX0_collect 5 none ∈ TBL := TBL_5 10 rfl rfl
theorem im_X0_collect : Cond.instanceMethod yX0_collect ∈ TBL := TBL_5 9 rfl rfl
theorem sl_X0_collect : Cond.selects yX0_collect.cls yX0_collect yX0_collect ∈ TBL := TBL_in (List.mem_append_left _ (List.mem_of_getElem? (i := 39) rfl)) rfl
theorem cd_X0_sumUp : Cond.code yX0_sumUp cX0_sumUp 4 none ∈ TBL := TBL_5 15 rfl rfl
theorem im_X0_sumUp : Cond.instanceMethod yX0_sumUp ∈ TBL := TBL_5 14 rfl rfl
theorem sl_X0_sumUp : Cond.selects yX0_sumUp.cls yX0_sumUp yX0_sumUp ∈ TBL := TBL_in (List.mem_append_left _ (List.mem_of_getElem? (i := 40) rfl)) rfl
theorem cd_X0_lakeBits : Cond.code yX0_lakeBits cX0_lakeBits 4 (some .int) ∈ TBL := TBL_5 29 rfl rfl
theorem im_X0_lakeBits : Cond.instanceMethod yX0_lakeBits ∈ TBL := TBL_5 28 rfl rfl
theorem sl_X0_lakeBits : Cond.selects yX0_lakeBits.cls yX0_lakeBits yX0_lakeBits ∈ TBL := TBL_in (List.mem_append_left _ (List.mem_of_getElem? (i := 42) rfl)) rfl
theorem cd_X0_payers : Cond.code yX0_payers cX0_payers 6 (some .int) ∈ TBL := TBL_5 6 rfl rfl
theorem im_X0_payers : Cond.instanceMethod yX0_payers ∈ TBL := TBL_5 4 rfl rfl
theorem sl_X0_payers : Cond.selects yX0_payers.cls yX0_payers yX0_payers ∈ TBL := TBL_5 5 rfl rfl
theorem cd_X0_paysBetter : Cond.code yX0_paysBetter cX0_paysBetter 3 (some .boolean) ∈ TBL := TBL_5 19 rfl rfl
theorem im_X0_paysBetter : Cond.instanceMethod yX0_paysBetter ∈ TBL := TBL_5 18 rfl rfl
theorem sl_X0_paysBetter : Cond.selects yX0_paysBetter.cls yX0_paysBetter yX0_paysBetter ∈ TBL := TBL_in (List.mem_append_left _ (List.mem_of_getElem? (i := 41) rfl)) rfl
theorem cd_X0_packing : Cond.code yX0_packing cX0_packing 5 (some .int) ∈ TBL := TBL_5 115 rfl rfl
theorem im_X0_packing : Cond.instanceMethod yX0_packing ∈ TBL := TBL_5 113 rfl rfl
theorem sl_X0_packing : Cond.selects yX0_packing.cls yX0_packing yX0_packing ∈ TBL := TBL_5 114 rfl rfl
theorem cd_X0_roomWithout : Cond.code yX0_roomWithout cX0_roomWithout 5 (some .int) ∈ TBL := TBL_5 121 rfl rfl
theorem im_X0_roomWithout : Cond.instanceMethod yX0_roomWithout ∈ TBL := TBL_5 120 rfl rfl
theorem sl_X0_roomWithout : Cond.selects yX0_roomWithout.cls yX0_roomWithout yX0_roomWithout ∈ TBL := TBL_in (List.mem_append_left _ (List.mem_of_getElem? (i := 55) rfl)) rfl
theorem cd_X0_packInto : Cond.code yX0_packInto cX0_packInto 6 none ∈ TBL := TBL_5 126 rfl rfl
theorem im_X0_packInto : Cond.instanceMethod yX0_packInto ∈ TBL := TBL_5 125 rfl rfl
theorem sl_X0_packInto : Cond.selects yX0_packInto.cls yX0_packInto yX0_packInto ∈ TBL := TBL_in (List.mem_append_left _ (List.mem_of_getElem? (i := 56) rfl)) rfl
theorem cd_X0_fairest : Cond.code yX0_fairest cX0_fairest 4 (some .int) ∈ TBL := TBL_5 159 rfl rfl
theorem im_X0_fairest : Cond.instanceMethod yX0_fairest ∈ TBL := TBL_5 157 rfl rfl
theorem sl_X0_fairest : Cond.selects yX0_fairest.cls yX0_fairest yX0_fairest ∈ TBL := TBL_5 158 rfl rfl
theorem cd_X0_divide : Cond.code yX0_divide cX0_divide 5 none ∈ TBL := TBL_5 163 rfl rfl
theorem im_X0_divide : Cond.instanceMethod yX0_divide ∈ TBL := TBL_5 162 rfl rfl
theorem sl_X0_divide : Cond.selects yX0_divide.cls yX0_divide yX0_divide ∈ TBL := TBL_in (List.mem_append_left _ (List.mem_of_getElem? (i := 58) rfl)) rfl
theorem cd_X0_keepIfFairer : Cond.code yX0_keepIfFairer cX0_keepIfFairer 4 none ∈ TBL := TBL_5 167 rfl rfl
theorem im_X0_keepIfFairer : Cond.instanceMethod yX0_keepIfFairer ∈ TBL := TBL_5 166 rfl rfl
theorem sl_X0_keepIfFairer : Cond.selects yX0_keepIfFairer.cls yX0_keepIfFairer yX0_keepIfFairer ∈ TBL := TBL_in (List.mem_append_left _ (List.mem_of_getElem? (i := 59) rfl)) rfl
theorem cd_X0_heirOf : Cond.code yX0_heirOf cX0_heirOf 3 (some .int) ∈ TBL := TBL_5 172 rfl rfl
theorem im_X0_heirOf : Cond.instanceMethod yX0_heirOf ∈ TBL := TBL_5 170 rfl rfl
theorem sl_X0_heirOf : Cond.selects yX0_heirOf.cls yX0_heirOf yX0_heirOf ∈ TBL := TBL_5 171 rfl rfl
theorem cd_X0_payments : Cond.code yX0_payments cX0_payments 3 (some .int) ∈ TBL := TBL_5 145 rfl rfl
theorem im_X0_payments : Cond.instanceMethod yX0_payments ∈ TBL := TBL_5 143 rfl rfl
theorem sl_X0_payments : Cond.selects yX0_payments.cls yX0_payments yX0_payments ∈ TBL := TBL_5 144 rfl rfl
theorem cd_X0_mostGroups : Cond.code yX0_mostGroups cX0_mostGroups 4 (some .int) ∈ TBL := TBL_5 150 rfl rfl
theorem im_X0_mostGroups : Cond.instanceMethod yX0_mostGroups ∈ TBL := TBL_5 149 rfl rfl
theorem sl_X0_mostGroups : Cond.selects yX0_mostGroups.cls yX0_mostGroups yX0_mostGroups ∈ TBL := TBL_in (List.mem_append_left _ (List.mem_of_getElem? (i := 57) rfl)) rfl
theorem cd_X1_init : Cond.code yX1_init cX1_init 1 none ∈ TBL := TBL_2 50 rfl rfl
theorem cd_X1_forget : Cond.code yX1_forget cX1_forget 1 none ∈ TBL := TBL_4 36 rfl rfl
theorem im_X1_forget : Cond.instanceMethod yX1_forget ∈ TBL := TBL_4 34 rfl rfl
theorem sl_X1_forget : Cond.selects yX1_forget.cls yX1_forget yX1_forget ∈ TBL := TBL_4 35 rfl rfl
theorem cd_X1_push : Cond.code yX1_push cX1_push 3 none ∈ TBL := TBL_5 201 rfl rfl
theorem im_X1_push : Cond.instanceMethod yX1_push ∈ TBL := TBL_5 199 rfl rfl
theorem sl_X1_push : Cond.selects yX1_push.cls yX1_push yX1_push ∈ TBL := TBL_5 200 rfl rfl
theorem cd_X1_pop : Cond.code yX1_pop cX1_pop 2 (some .int) ∈ TBL := TBL_6 38 rfl rfl
theorem im_X1_pop : Cond.instanceMethod yX1_pop ∈ TBL := TBL_6 36 rfl rfl
theorem sl_X1_pop : Cond.selects yX1_pop.cls yX1_pop yX1_pop ∈ TBL := TBL_6 37 rfl rfl
theorem cd_X2_init : Cond.code yX2_init cX2_init 1 none ∈ TBL := TBL_1 34 rfl rfl
theorem cd_X2_clear : Cond.code yX2_clear cX2_clear 1 none ∈ TBL := TBL_3 17 rfl rfl
theorem im_X2_clear : Cond.instanceMethod yX2_clear ∈ TBL := TBL_3 15 rfl rfl
theorem sl_X2_clear : Cond.selects yX2_clear.cls yX2_clear yX2_clear ∈ TBL := TBL_3 16 rfl rfl
theorem cd_X2_hasRule : Cond.code yX2_hasRule cX2_hasRule 2 (some .boolean) ∈ TBL := TBL_3 119 rfl rfl
theorem im_X2_hasRule : Cond.instanceMethod yX2_hasRule ∈ TBL := TBL_3 117 rfl rfl
theorem sl_X2_hasRule : Cond.selects yX2_hasRule.cls yX2_hasRule yX2_hasRule ∈ TBL := TBL_3 118 rfl rfl
theorem cd_X2_emit : Cond.code yX2_emit cX2_emit 2 (some .boolean) ∈ TBL := TBL_3 211 rfl rfl
theorem im_X2_emit : Cond.instanceMethod yX2_emit ∈ TBL := TBL_3 209 rfl rfl
theorem sl_X2_emit : Cond.selects yX2_emit.cls yX2_emit yX2_emit ∈ TBL := TBL_3 210 rfl rfl
theorem cd_X2_find : Cond.code yX2_find cX2_find 5 (some .int) ∈ TBL := TBL_3 136 rfl rfl
theorem im_X2_find : Cond.instanceMethod yX2_find ∈ TBL := TBL_3 134 rfl rfl
theorem sl_X2_find : Cond.selects yX2_find.cls yX2_find yX2_find ∈ TBL := TBL_3 135 rfl rfl
theorem cd_X2_findHollow : Cond.code yX2_findHollow cX2_findHollow 2 (some .int) ∈ TBL := TBL_3 168 rfl rfl
theorem im_X2_findHollow : Cond.instanceMethod yX2_findHollow ∈ TBL := TBL_3 166 rfl rfl
theorem sl_X2_findHollow : Cond.selects yX2_findHollow.cls yX2_findHollow yX2_findHollow ∈ TBL := TBL_3 167 rfl rfl
theorem cd_X2_findOwner : Cond.code yX2_findOwner cX2_findOwner 2 (some .int) ∈ TBL := TBL_3 180 rfl rfl
theorem im_X2_findOwner : Cond.instanceMethod yX2_findOwner ∈ TBL := TBL_3 178 rfl rfl
theorem sl_X2_findOwner : Cond.selects yX2_findOwner.cls yX2_findOwner yX2_findOwner ∈ TBL := TBL_3 179 rfl rfl
theorem cd_X2_isTaken : Cond.code yX2_isTaken cX2_isTaken 2 (some .boolean) ∈ TBL := TBL_3 132 rfl rfl
theorem im_X2_isTaken : Cond.instanceMethod yX2_isTaken ∈ TBL := TBL_3 130 rfl rfl
theorem sl_X2_isTaken : Cond.selects yX2_isTaken.cls yX2_isTaken yX2_isTaken ∈ TBL := TBL_3 131 rfl rfl
theorem cd_X2_letterOf : Cond.code yX2_letterOf cX2_letterOf 3 (some .int) ∈ TBL := TBL_4 151 rfl rfl
theorem im_X2_letterOf : Cond.instanceMethod yX2_letterOf ∈ TBL := TBL_4 149 rfl rfl
theorem sl_X2_letterOf : Cond.selects yX2_letterOf.cls yX2_letterOf yX2_letterOf ∈ TBL := TBL_4 150 rfl rfl
theorem cd_X2_roomAtFirst : Cond.code yX2_roomAtFirst cX2_roomAtFirst 4 (some .int) ∈ TBL := TBL_3 172 rfl rfl
theorem im_X2_roomAtFirst : Cond.instanceMethod yX2_roomAtFirst ∈ TBL := TBL_3 170 rfl rfl
theorem sl_X2_roomAtFirst : Cond.selects yX2_roomAtFirst.cls yX2_roomAtFirst yX2_roomAtFirst ∈ TBL := TBL_3 171 rfl rfl
theorem cd_X3_init : Cond.code yX3_init cX3_init 1 none ∈ TBL := TBL_1 231 rfl rfl
theorem cd_X3_setLake : Cond.code yX3_setLake cX3_setLake 4 none ∈ TBL := TBL_4 82 rfl rfl
theorem im_X3_setLake : Cond.instanceMethod yX3_setLake ∈ TBL := TBL_4 80 rfl rfl
theorem sl_X3_setLake : Cond.selects yX3_setLake.cls yX3_setLake yX3_setLake ∈ TBL := TBL_4 81 rfl rfl
theorem cd_X3_setDrought : Cond.code yX3_setDrought cX3_setDrought 2 none ∈ TBL := TBL_4 181 rfl rfl
theorem im_X3_setDrought : Cond.instanceMethod yX3_setDrought ∈ TBL := TBL_4 179 rfl rfl
theorem sl_X3_setDrought : Cond.selects yX3_setDrought.cls yX3_setDrought yX3_setDrought ∈ TBL := TBL_4 180 rfl rfl
theorem cd_X3_setWay : Cond.code yX3_setWay cX3_setWay 3 none ∈ TBL := TBL_5 85 rfl rfl
theorem im_X3_setWay : Cond.instanceMethod yX3_setWay ∈ TBL := TBL_5 83 rfl rfl
theorem sl_X3_setWay : Cond.selects yX3_setWay.cls yX3_setWay yX3_setWay ∈ TBL := TBL_5 84 rfl rfl
theorem cd_X3_run : Cond.code yX3_run cX3_run 5 (some .int) ∈ TBL := TBL_4 86 rfl rfl
theorem im_X3_run : Cond.instanceMethod yX3_run ∈ TBL := TBL_4 84 rfl rfl
theorem sl_X3_run : Cond.selects yX3_run.cls yX3_run yX3_run ∈ TBL := TBL_4 85 rfl rfl
theorem cd_X3_step : Cond.code yX3_step cX3_step 4 none ∈ TBL := TBL_4 96 rfl rfl
theorem im_X3_step : Cond.instanceMethod yX3_step ∈ TBL := TBL_4 95 rfl rfl
theorem sl_X3_step : Cond.selects yX3_step.cls yX3_step yX3_step ∈ TBL := TBL_in (List.mem_append_left _ (List.mem_of_getElem? (i := 35) rfl)) rfl
theorem cd_X3_push : Cond.code yX3_push cX3_push 2 none ∈ TBL := TBL_4 100 rfl rfl
theorem im_X3_push : Cond.instanceMethod yX3_push ∈ TBL := TBL_4 99 rfl rfl
theorem sl_X3_push : Cond.selects yX3_push.cls yX3_push yX3_push ∈ TBL := TBL_in (List.mem_append_left _ (List.mem_of_getElem? (i := 36) rfl)) rfl
theorem cd_X3_pop : Cond.code yX3_pop cX3_pop 1 (some .int) ∈ TBL := TBL_4 104 rfl rfl
theorem im_X3_pop : Cond.instanceMethod yX3_pop ∈ TBL := TBL_4 103 rfl rfl
theorem sl_X3_pop : Cond.selects yX3_pop.cls yX3_pop yX3_pop ∈ TBL := TBL_in (List.mem_append_left _ (List.mem_of_getElem? (i := 37) rfl)) rfl
theorem cd_X3_combine : Cond.code yX3_combine cX3_combine 5 (some .long) ∈ TBL := TBL_4 107 rfl rfl
theorem sm_X3_combine : Cond.static yX3_combine ∈ TBL := TBL_4 106 rfl rfl
theorem cd_X3_limited : Cond.code yX3_limited cX3_limited 2 (some .int) ∈ TBL := TBL_4 122 rfl rfl
theorem sm_X3_limited : Cond.static yX3_limited ∈ TBL := TBL_4 121 rfl rfl
theorem cd_X4_init : Cond.code yX4_init cX4_init 1 none ∈ TBL := TBL_2 124 rfl rfl
theorem cd_X4_takeRows : Cond.code yX4_takeRows cX4_takeRows 6 (some .boolean) ∈ TBL := TBL_5 37 rfl rfl
theorem im_X4_takeRows : Cond.instanceMethod yX4_takeRows ∈ TBL := TBL_5 35 rfl rfl
theorem sl_X4_takeRows : Cond.selects yX4_takeRows.cls yX4_takeRows yX4_takeRows ∈ TBL := TBL_5 36 rfl rfl
theorem cd_X4_fewest : Cond.code yX4_fewest cX4_fewest 3 (some .int) ∈ TBL := TBL_5 44 rfl rfl
theorem im_X4_fewest : Cond.instanceMethod yX4_fewest ∈ TBL := TBL_5 42 rfl rfl
theorem sl_X4_fewest : Cond.selects yX4_fewest.cls yX4_fewest yX4_fewest ∈ TBL := TBL_5 43 rfl rfl
theorem cd_X4_hasHeavyStray : Cond.code yX4_hasHeavyStray cX4_hasHeavyStray 2 (some .boolean) ∈ TBL := TBL_5 48 rfl rfl
theorem im_X4_hasHeavyStray : Cond.instanceMethod yX4_hasHeavyStray ∈ TBL := TBL_5 47 rfl rfl
theorem sl_X4_hasHeavyStray : Cond.selects yX4_hasHeavyStray.cls yX4_hasHeavyStray yX4_hasHeavyStray ∈ TBL := TBL_in (List.mem_append_left _ (List.mem_of_getElem? (i := 43) rfl)) rfl
theorem cd_X4_isAstray : Cond.code yX4_isAstray cX4_isAstray 3 (some .boolean) ∈ TBL := TBL_5 52 rfl rfl
theorem im_X4_isAstray : Cond.instanceMethod yX4_isAstray ∈ TBL := TBL_5 51 rfl rfl
theorem sl_X4_isAstray : Cond.selects yX4_isAstray.cls yX4_isAstray yX4_isAstray ∈ TBL := TBL_in (List.mem_append_left _ (List.mem_of_getElem? (i := 44) rfl)) rfl
theorem cd_X4_strayCount : Cond.code yX4_strayCount cX4_strayCount 3 (some .int) ∈ TBL := TBL_5 66 rfl rfl
theorem im_X4_strayCount : Cond.instanceMethod yX4_strayCount ∈ TBL := TBL_5 65 rfl rfl
theorem sl_X4_strayCount : Cond.selects yX4_strayCount.cls yX4_strayCount yX4_strayCount ∈ TBL := TBL_in (List.mem_append_left _ (List.mem_of_getElem? (i := 47) rfl)) rfl
theorem cd_X4_reaches : Cond.code yX4_reaches cX4_reaches 4 (some .boolean) ∈ TBL := TBL_5 62 rfl rfl
theorem im_X4_reaches : Cond.instanceMethod yX4_reaches ∈ TBL := TBL_5 61 rfl rfl
theorem sl_X4_reaches : Cond.selects yX4_reaches.cls yX4_reaches yX4_reaches ∈ TBL := TBL_in (List.mem_append_left _ (List.mem_of_getElem? (i := 46) rfl)) rfl
theorem cd_X4_reachesStraight : Cond.code yX4_reachesStraight cX4_reachesStraight 3 (some .boolean) ∈ TBL := TBL_5 70 rfl rfl
theorem im_X4_reachesStraight : Cond.instanceMethod yX4_reachesStraight ∈ TBL := TBL_5 69 rfl rfl
theorem sl_X4_reachesStraight : Cond.selects yX4_reachesStraight.cls yX4_reachesStraight yX4_reachesStraight ∈ TBL := TBL_in (List.mem_append_left _ (List.mem_of_getElem? (i := 48) rfl)) rfl
theorem cd_X4_reachesBy : Cond.code yX4_reachesBy cX4_reachesBy 7 (some .boolean) ∈ TBL := TBL_5 99 rfl rfl
theorem im_X4_reachesBy : Cond.instanceMethod yX4_reachesBy ∈ TBL := TBL_5 98 rfl rfl
theorem sl_X4_reachesBy : Cond.selects yX4_reachesBy.cls yX4_reachesBy yX4_reachesBy ∈ TBL := TBL_in (List.mem_append_left _ (List.mem_of_getElem? (i := 52) rfl)) rfl
theorem cd_X4_helpsLast : Cond.code yX4_helpsLast cX4_helpsLast 3 (some .boolean) ∈ TBL := TBL_5 103 rfl rfl
theorem im_X4_helpsLast : Cond.instanceMethod yX4_helpsLast ∈ TBL := TBL_5 102 rfl rfl
theorem sl_X4_helpsLast : Cond.selects yX4_helpsLast.cls yX4_helpsLast yX4_helpsLast ∈ TBL := TBL_in (List.mem_append_left _ (List.mem_of_getElem? (i := 53) rfl)) rfl
theorem cd_X4_isAwaited : Cond.code yX4_isAwaited cX4_isAwaited 3 (some .boolean) ∈ TBL := TBL_5 107 rfl rfl
theorem im_X4_isAwaited : Cond.instanceMethod yX4_isAwaited ∈ TBL := TBL_5 106 rfl rfl
theorem sl_X4_isAwaited : Cond.selects yX4_isAwaited.cls yX4_isAwaited yX4_isAwaited ∈ TBL := TBL_in (List.mem_append_left _ (List.mem_of_getElem? (i := 54) rfl)) rfl
theorem cd_X4_reachesInto : Cond.code yX4_reachesInto cX4_reachesInto 6 (some .boolean) ∈ TBL := TBL_5 74 rfl rfl
theorem im_X4_reachesInto : Cond.instanceMethod yX4_reachesInto ∈ TBL := TBL_5 73 rfl rfl
theorem sl_X4_reachesInto : Cond.selects yX4_reachesInto.cls yX4_reachesInto yX4_reachesInto ∈ TBL := TBL_in (List.mem_append_left _ (List.mem_of_getElem? (i := 49) rfl)) rfl
theorem cd_X4_shift : Cond.code yX4_shift cX4_shift 4 none ∈ TBL := TBL_5 89 rfl rfl
theorem im_X4_shift : Cond.instanceMethod yX4_shift ∈ TBL := TBL_5 88 rfl rfl
theorem sl_X4_shift : Cond.selects yX4_shift.cls yX4_shift yX4_shift ∈ TBL := TBL_in (List.mem_append_left _ (List.mem_of_getElem? (i := 50) rfl)) rfl
theorem cd_X4_forgetSeen : Cond.code yX4_forgetSeen cX4_forgetSeen 2 none ∈ TBL := TBL_5 58 rfl rfl
theorem im_X4_forgetSeen : Cond.instanceMethod yX4_forgetSeen ∈ TBL := TBL_5 57 rfl rfl
theorem sl_X4_forgetSeen : Cond.selects yX4_forgetSeen.cls yX4_forgetSeen yX4_forgetSeen ∈ TBL := TBL_in (List.mem_append_left _ (List.mem_of_getElem? (i := 45) rfl)) rfl
theorem cd_X4_wasSeen : Cond.code yX4_wasSeen cX4_wasSeen 4 (some .boolean) ∈ TBL := TBL_5 93 rfl rfl
theorem im_X4_wasSeen : Cond.instanceMethod yX4_wasSeen ∈ TBL := TBL_5 92 rfl rfl
theorem sl_X4_wasSeen : Cond.selects yX4_wasSeen.cls yX4_wasSeen yX4_wasSeen ∈ TBL := TBL_in (List.mem_append_left _ (List.mem_of_getElem? (i := 51) rfl)) rfl
theorem cd_X5_init : Cond.code yX5_init cX5_init 1 none ∈ TBL := TBL_2 72 rfl rfl
theorem cd_X5_count : Cond.code yX5_count cX5_count 1 (some .int) ∈ TBL := TBL_4 138 rfl rfl
theorem im_X5_count : Cond.instanceMethod yX5_count ∈ TBL := TBL_4 136 rfl rfl
theorem sl_X5_count : Cond.selects yX5_count.cls yX5_count yX5_count ∈ TBL := TBL_4 137 rfl rfl
theorem cd_X5_add : Cond.code yX5_add cX5_add 6 none ∈ TBL := TBL_6 17 rfl rfl
theorem im_X5_add : Cond.instanceMethod yX5_add ∈ TBL := TBL_6 15 rfl rfl
theorem sl_X5_add : Cond.selects yX5_add.cls yX5_add yX5_add ∈ TBL := TBL_6 16 rfl rfl
theorem cd_X5_tell : Cond.code yX5_tell cX5_tell 3 (some .int) ∈ TBL := TBL_6 54 rfl rfl
theorem im_X5_tell : Cond.instanceMethod yX5_tell ∈ TBL := TBL_6 52 rfl rfl
theorem sl_X5_tell : Cond.selects yX5_tell.cls yX5_tell yX5_tell ∈ TBL := TBL_6 53 rfl rfl
theorem cd_X6_init : Cond.code yX6_init cX6_init 1 none ∈ TBL := TBL_2 146 rfl rfl
theorem cd_X6_draw : Cond.code yX6_draw cX6_draw 4 none ∈ TBL := TBL_6 63 rfl rfl
theorem im_X6_draw : Cond.instanceMethod yX6_draw ∈ TBL := TBL_6 61 rfl rfl
theorem sl_X6_draw : Cond.selects yX6_draw.cls yX6_draw yX6_draw ∈ TBL := TBL_6 62 rfl rfl
theorem cd_X6_put : Cond.code yX6_put cX6_put 2 none ∈ TBL := TBL_6 71 rfl rfl
theorem im_X6_put : Cond.instanceMethod yX6_put ∈ TBL := TBL_6 70 rfl rfl
theorem sl_X6_put : Cond.selects yX6_put.cls yX6_put yX6_put ∈ TBL := TBL_in (List.mem_append_left _ (List.mem_of_getElem? (i := 67) rfl)) rfl
theorem cd_X6_putPair : Cond.code yX6_putPair cX6_putPair 2 none ∈ TBL := TBL_6 67 rfl rfl
theorem im_X6_putPair : Cond.instanceMethod yX6_putPair ∈ TBL := TBL_6 66 rfl rfl
theorem sl_X6_putPair : Cond.selects yX6_putPair.cls yX6_putPair yX6_putPair ∈ TBL := TBL_in (List.mem_append_left _ (List.mem_of_getElem? (i := 66) rfl)) rfl
theorem cd_X6_check : Cond.code yX6_check cX6_check 4 (some .int) ∈ TBL := TBL_6 75 rfl rfl
theorem sm_X6_check : Cond.static yX6_check ∈ TBL := TBL_6 74 rfl rfl
theorem cd_X6_sizeFor : Cond.code yX6_sizeFor cX6_sizeFor 1 (some .int) ∈ TBL := TBL_6 90 rfl rfl
theorem sm_X6_sizeFor : Cond.static yX6_sizeFor ∈ TBL := TBL_6 89 rfl rfl
theorem cd_X6_restores : Cond.code yX6_restores cX6_restores 5 (some .boolean) ∈ TBL := TBL_6 87 rfl rfl
theorem im_X6_restores : Cond.instanceMethod yX6_restores ∈ TBL := TBL_6 85 rfl rfl
theorem sl_X6_restores : Cond.selects yX6_restores.cls yX6_restores yX6_restores ∈ TBL := TBL_6 86 rfl rfl
theorem cd_X6_pair : Cond.code yX6_pair cX6_pair 2 (some .int) ∈ TBL := TBL_6 93 rfl rfl
theorem sm_X6_pair : Cond.static yX6_pair ∈ TBL := TBL_6 92 rfl rfl
theorem cd_X6_restoresLakes : Cond.code yX6_restoresLakes cX6_restoresLakes 5 (some .boolean) ∈ TBL := TBL_6 97 rfl rfl
theorem im_X6_restoresLakes : Cond.instanceMethod yX6_restoresLakes ∈ TBL := TBL_6 96 rfl rfl
theorem sl_X6_restoresLakes : Cond.selects yX6_restoresLakes.cls yX6_restoresLakes yX6_restoresLakes ∈ TBL := TBL_in (List.mem_append_left _ (List.mem_of_getElem? (i := 68) rfl)) rfl
theorem cd_X6_isLakeRow : Cond.code yX6_isLakeRow cX6_isLakeRow 4 (some .boolean) ∈ TBL := TBL_6 100 rfl rfl
theorem sm_X6_isLakeRow : Cond.static yX6_isLakeRow ∈ TBL := TBL_6 99 rfl rfl
theorem cd_X6_restoresDebts : Cond.code yX6_restoresDebts cX6_restoresDebts 8 (some .boolean) ∈ TBL := TBL_6 108 rfl rfl
theorem im_X6_restoresDebts : Cond.instanceMethod yX6_restoresDebts ∈ TBL := TBL_6 107 rfl rfl
theorem sl_X6_restoresDebts : Cond.selects yX6_restoresDebts.cls yX6_restoresDebts yX6_restoresDebts ∈ TBL := TBL_in (List.mem_append_left _ (List.mem_of_getElem? (i := 69) rfl)) rfl
theorem cd_X7_init : Cond.code yX7_init cX7_init 2 none ∈ TBL := TBL_1 149 rfl rfl
theorem cd_X7_readAll : Cond.code yX7_readAll cX7_readAll 4 (some .boolean) ∈ TBL := TBL_3 13 rfl rfl
theorem im_X7_readAll : Cond.instanceMethod yX7_readAll ∈ TBL := TBL_3 11 rfl rfl
theorem sl_X7_readAll : Cond.selects yX7_readAll.cls yX7_readAll yX7_readAll ∈ TBL := TBL_3 12 rfl rfl
theorem cd_X7_readStatement : Cond.code yX7_readStatement cX7_readStatement 2 (some .boolean) ∈ TBL := TBL_3 99 rfl rfl
theorem im_X7_readStatement : Cond.instanceMethod yX7_readStatement ∈ TBL := TBL_3 98 rfl rfl
theorem sl_X7_readStatement : Cond.selects yX7_readStatement.cls yX7_readStatement yX7_readStatement ∈ TBL := TBL_in (List.mem_append_left _ (List.mem_of_getElem? (i := 8) rfl)) rfl
theorem cd_X7_isOneTooMany : Cond.code yX7_isOneTooMany cX7_isOneTooMany 2 (some .boolean) ∈ TBL := TBL_3 115 rfl rfl
theorem im_X7_isOneTooMany : Cond.instanceMethod yX7_isOneTooMany ∈ TBL := TBL_3 114 rfl rfl
theorem sl_X7_isOneTooMany : Cond.selects yX7_isOneTooMany.cls yX7_isOneTooMany yX7_isOneTooMany ∈ TBL := TBL_in (List.mem_append_left _ (List.mem_of_getElem? (i := 9) rfl)) rfl
theorem cd_X7_readHollow : Cond.code yX7_readHollow cX7_readHollow 3 (some .boolean) ∈ TBL := TBL_3 123 rfl rfl
theorem im_X7_readHollow : Cond.instanceMethod yX7_readHollow ∈ TBL := TBL_3 122 rfl rfl
theorem sl_X7_readHollow : Cond.selects yX7_readHollow.cls yX7_readHollow yX7_readHollow ∈ TBL := TBL_in (List.mem_append_left _ (List.mem_of_getElem? (i := 10) rfl)) rfl
theorem cd_X7_readOwner : Cond.code yX7_readOwner cX7_readOwner 1 (some .boolean) ∈ TBL := TBL_3 156 rfl rfl
theorem im_X7_readOwner : Cond.instanceMethod yX7_readOwner ∈ TBL := TBL_3 155 rfl rfl
theorem sl_X7_readOwner : Cond.selects yX7_readOwner.cls yX7_readOwner yX7_readOwner ∈ TBL := TBL_in (List.mem_append_left _ (List.mem_of_getElem? (i := 14) rfl)) rfl
theorem cd_X7_readLake : Cond.code yX7_readLake cX7_readLake 4 (some .boolean) ∈ TBL := TBL_3 160 rfl rfl
theorem im_X7_readLake : Cond.instanceMethod yX7_readLake ∈ TBL := TBL_3 159 rfl rfl
theorem sl_X7_readLake : Cond.selects yX7_readLake.cls yX7_readLake yX7_readLake ∈ TBL := TBL_in (List.mem_append_left _ (List.mem_of_getElem? (i := 15) rfl)) rfl
theorem cd_X7_readDebt : Cond.code yX7_readDebt cX7_readDebt 3 (some .boolean) ∈ TBL := TBL_3 184 rfl rfl
theorem im_X7_readDebt : Cond.instanceMethod yX7_readDebt ∈ TBL := TBL_3 183 rfl rfl
theorem sl_X7_readDebt : Cond.selects yX7_readDebt.cls yX7_readDebt yX7_readDebt ∈ TBL := TBL_in (List.mem_append_left _ (List.mem_of_getElem? (i := 18) rfl)) rfl
theorem cd_X7_readDrought : Cond.code yX7_readDrought cX7_readDrought 1 (some .boolean) ∈ TBL := TBL_4 22 rfl rfl
theorem im_X7_readDrought : Cond.instanceMethod yX7_readDrought ∈ TBL := TBL_4 21 rfl rfl
theorem sl_X7_readDrought : Cond.selects yX7_readDrought.cls yX7_readDrought yX7_readDrought ∈ TBL := TBL_in (List.mem_append_left _ (List.mem_of_getElem? (i := 32) rfl)) rfl
theorem cd_X7_readCarts : Cond.code yX7_readCarts cX7_readCarts 1 (some .boolean) ∈ TBL := TBL_4 26 rfl rfl
theorem im_X7_readCarts : Cond.instanceMethod yX7_readCarts ∈ TBL := TBL_4 25 rfl rfl
theorem sl_X7_readCarts : Cond.selects yX7_readCarts.cls yX7_readCarts yX7_readCarts ∈ TBL := TBL_in (List.mem_append_left _ (List.mem_of_getElem? (i := 33) rfl)) rfl
theorem cd_X7_takeWord : Cond.code yX7_takeWord cX7_takeWord 2 (some .boolean) ∈ TBL := TBL_3 140 rfl rfl
theorem im_X7_takeWord : Cond.instanceMethod yX7_takeWord ∈ TBL := TBL_3 139 rfl rfl
theorem sl_X7_takeWord : Cond.selects yX7_takeWord.cls yX7_takeWord yX7_takeWord ∈ TBL := TBL_in (List.mem_append_left _ (List.mem_of_getElem? (i := 12) rfl)) rfl
theorem cd_X7_takeNumber : Cond.code yX7_takeNumber cX7_takeNumber 3 (some .boolean) ∈ TBL := TBL_3 152 rfl rfl
theorem im_X7_takeNumber : Cond.instanceMethod yX7_takeNumber ∈ TBL := TBL_3 151 rfl rfl
theorem sl_X7_takeNumber : Cond.selects yX7_takeNumber.cls yX7_takeNumber yX7_takeNumber ∈ TBL := TBL_in (List.mem_append_left _ (List.mem_of_getElem? (i := 13) rfl)) rfl
theorem cd_X7_takeNewName : Cond.code yX7_takeNewName cX7_takeNewName 1 (some .boolean) ∈ TBL := TBL_3 128 rfl rfl
theorem im_X7_takeNewName : Cond.instanceMethod yX7_takeNewName ∈ TBL := TBL_3 127 rfl rfl
theorem sl_X7_takeNewName : Cond.selects yX7_takeNewName.cls yX7_takeNewName yX7_takeNewName ∈ TBL := TBL_in (List.mem_append_left _ (List.mem_of_getElem? (i := 11) rfl)) rfl
theorem cd_X7_takeHollowWithRoom : Cond.code yX7_takeHollowWithRoom cX7_takeHollowWithRoom 2 (some .boolean) ∈ TBL := TBL_3 164 rfl rfl
theorem im_X7_takeHollowWithRoom : Cond.instanceMethod yX7_takeHollowWithRoom ∈ TBL := TBL_3 163 rfl rfl
theorem sl_X7_takeHollowWithRoom : Cond.selects yX7_takeHollowWithRoom.cls yX7_takeHollowWithRoom yX7_takeHollowWithRoom ∈ TBL := TBL_in (List.mem_append_left _ (List.mem_of_getElem? (i := 16) rfl)) rfl
theorem cd_X7_takeOwnerBut : Cond.code yX7_takeOwnerBut cX7_takeOwnerBut 2 (some .boolean) ∈ TBL := TBL_3 176 rfl rfl
theorem im_X7_takeOwnerBut : Cond.instanceMethod yX7_takeOwnerBut ∈ TBL := TBL_3 175 rfl rfl
theorem sl_X7_takeOwnerBut : Cond.selects yX7_takeOwnerBut.cls yX7_takeOwnerBut yX7_takeOwnerBut ∈ TBL := TBL_in (List.mem_append_left _ (List.mem_of_getElem? (i := 17) rfl)) rfl
theorem cd_X8_init : Cond.code yX8_init cX8_init 2 none ∈ TBL := TBL_1 195 rfl rfl
theorem cd_X8_readRule : Cond.code yX8_readRule cX8_readRule 4 (some .boolean) ∈ TBL := TBL_3 188 rfl rfl
theorem im_X8_readRule : Cond.instanceMethod yX8_readRule ∈ TBL := TBL_3 186 rfl rfl
theorem sl_X8_readRule : Cond.selects yX8_readRule.cls yX8_readRule yX8_readRule ∈ TBL := TBL_3 187 rfl rfl
theorem cd_X8_mayOpen : Cond.code yX8_mayOpen cX8_mayOpen 2 (some .boolean) ∈ TBL := TBL_3 206 rfl rfl
theorem im_X8_mayOpen : Cond.instanceMethod yX8_mayOpen ∈ TBL := TBL_3 205 rfl rfl
theorem sl_X8_mayOpen : Cond.selects yX8_mayOpen.cls yX8_mayOpen yX8_mayOpen ∈ TBL := TBL_in (List.mem_append_left _ (List.mem_of_getElem? (i := 22) rfl)) rfl
theorem cd_X8_readTest : Cond.code yX8_readTest cX8_readTest 4 (some .boolean) ∈ TBL := TBL_3 193 rfl rfl
theorem im_X8_readTest : Cond.instanceMethod yX8_readTest ∈ TBL := TBL_3 192 rfl rfl
theorem sl_X8_readTest : Cond.selects yX8_readTest.cls yX8_readTest yX8_readTest ∈ TBL := TBL_in (List.mem_append_left _ (List.mem_of_getElem? (i := 19) rfl)) rfl
theorem cd_X8_readBoth : Cond.code yX8_readBoth cX8_readBoth 4 (some .boolean) ∈ TBL := TBL_3 197 rfl rfl
theorem im_X8_readBoth : Cond.instanceMethod yX8_readBoth ∈ TBL := TBL_3 196 rfl rfl
theorem sl_X8_readBoth : Cond.selects yX8_readBoth.cls yX8_readBoth yX8_readBoth ∈ TBL := TBL_in (List.mem_append_left _ (List.mem_of_getElem? (i := 20) rfl)) rfl
theorem cd_X8_readFact : Cond.code yX8_readFact cX8_readFact 3 (some .boolean) ∈ TBL := TBL_3 201 rfl rfl
theorem im_X8_readFact : Cond.instanceMethod yX8_readFact ∈ TBL := TBL_3 200 rfl rfl
theorem sl_X8_readFact : Cond.selects yX8_readFact.cls yX8_readFact yX8_readFact ∈ TBL := TBL_in (List.mem_append_left _ (List.mem_of_getElem? (i := 21) rfl)) rfl
theorem cd_X8_compareOp : Cond.code yX8_compareOp cX8_compareOp 1 (some .int) ∈ TBL := TBL_4 18 rfl rfl
theorem im_X8_compareOp : Cond.instanceMethod yX8_compareOp ∈ TBL := TBL_4 17 rfl rfl
theorem sl_X8_compareOp : Cond.selects yX8_compareOp.cls yX8_compareOp yX8_compareOp ∈ TBL := TBL_in (List.mem_append_left _ (List.mem_of_getElem? (i := 31) rfl)) rfl
theorem cd_X8_readSum : Cond.code yX8_readSum cX8_readSum 5 (some .boolean) ∈ TBL := TBL_3 224 rfl rfl
theorem im_X8_readSum : Cond.instanceMethod yX8_readSum ∈ TBL := TBL_3 223 rfl rfl
theorem sl_X8_readSum : Cond.selects yX8_readSum.cls yX8_readSum yX8_readSum ∈ TBL := TBL_in (List.mem_append_left _ (List.mem_of_getElem? (i := 23) rfl)) rfl
theorem cd_X8_addOp : Cond.code yX8_addOp cX8_addOp 1 (some .int) ∈ TBL := TBL_4 14 rfl rfl
theorem im_X8_addOp : Cond.instanceMethod yX8_addOp ∈ TBL := TBL_4 13 rfl rfl
theorem sl_X8_addOp : Cond.selects yX8_addOp.cls yX8_addOp yX8_addOp ∈ TBL := TBL_in (List.mem_append_left _ (List.mem_of_getElem? (i := 30) rfl)) rfl
theorem cd_X8_readProduct : Cond.code yX8_readProduct cX8_readProduct 5 (some .boolean) ∈ TBL := TBL_3 228 rfl rfl
theorem im_X8_readProduct : Cond.instanceMethod yX8_readProduct ∈ TBL := TBL_3 227 rfl rfl
theorem sl_X8_readProduct : Cond.selects yX8_readProduct.cls yX8_readProduct yX8_readProduct ∈ TBL := TBL_in (List.mem_append_left _ (List.mem_of_getElem? (i := 24) rfl)) rfl
theorem cd_X8_timesOp : Cond.code yX8_timesOp cX8_timesOp 1 (some .int) ∈ TBL := TBL_4 10 rfl rfl
theorem im_X8_timesOp : Cond.instanceMethod yX8_timesOp ∈ TBL := TBL_4 9 rfl rfl
theorem sl_X8_timesOp : Cond.selects yX8_timesOp.cls yX8_timesOp yX8_timesOp ∈ TBL := TBL_in (List.mem_append_left _ (List.mem_of_getElem? (i := 29) rfl)) rfl
theorem cd_X8_readPart : Cond.code yX8_readPart cX8_readPart 3 (some .boolean) ∈ TBL := TBL_3 232 rfl rfl
theorem im_X8_readPart : Cond.instanceMethod yX8_readPart ∈ TBL := TBL_3 231 rfl rfl
theorem sl_X8_readPart : Cond.selects yX8_readPart.cls yX8_readPart yX8_readPart ∈ TBL := TBL_in (List.mem_append_left _ (List.mem_of_getElem? (i := 25) rfl)) rfl
theorem cd_X8_readPair : Cond.code yX8_readPair cX8_readPair 3 (some .boolean) ∈ TBL := TBL_3 237 rfl rfl
theorem im_X8_readPair : Cond.instanceMethod yX8_readPair ∈ TBL := TBL_3 236 rfl rfl
theorem sl_X8_readPair : Cond.selects yX8_readPair.cls yX8_readPair yX8_readPair ∈ TBL := TBL_in (List.mem_append_left _ (List.mem_of_getElem? (i := 26) rfl)) rfl
theorem cd_X8_readChoice : Cond.code yX8_readChoice cX8_readChoice 2 (some .boolean) ∈ TBL := TBL_4 1 rfl rfl
theorem im_X8_readChoice : Cond.instanceMethod yX8_readChoice ∈ TBL := TBL_4 0 rfl rfl
theorem sl_X8_readChoice : Cond.selects yX8_readChoice.cls yX8_readChoice yX8_readChoice ∈ TBL := TBL_in (List.mem_append_left _ (List.mem_of_getElem? (i := 27) rfl)) rfl
theorem cd_X8_figureOp : Cond.code yX8_figureOp cX8_figureOp 2 (some .int) ∈ TBL := TBL_4 5 rfl rfl
theorem im_X8_figureOp : Cond.instanceMethod yX8_figureOp ∈ TBL := TBL_4 4 rfl rfl
theorem sl_X8_figureOp : Cond.selects yX8_figureOp.cls yX8_figureOp yX8_figureOp ∈ TBL := TBL_in (List.mem_append_left _ (List.mem_of_getElem? (i := 28) rfl)) rfl
theorem cd_X9_init : Cond.code yX9_init cX9_init 1 none ∈ TBL := TBL_1 225 rfl rfl
theorem cd_X9_begin : Cond.code yX9_begin cX9_begin 3 none ∈ TBL := TBL_2 160 rfl rfl
theorem im_X9_begin : Cond.instanceMethod yX9_begin ∈ TBL := TBL_2 158 rfl rfl
theorem sl_X9_begin : Cond.selects yX9_begin.cls yX9_begin yX9_begin ∈ TBL := TBL_2 159 rfl rfl
theorem cd_X9_copyFrom : Cond.code yX9_copyFrom cX9_copyFrom 2 none ∈ TBL := TBL_4 224 rfl rfl
theorem im_X9_copyFrom : Cond.instanceMethod yX9_copyFrom ∈ TBL := TBL_4 222 rfl rfl
theorem sl_X9_copyFrom : Cond.selects yX9_copyFrom.cls yX9_copyFrom yX9_copyFrom ∈ TBL := TBL_4 223 rfl rfl
theorem cd_X9_writeTo : Cond.code yX9_writeTo cX9_writeTo 2 none ∈ TBL := TBL_5 205 rfl rfl
theorem im_X9_writeTo : Cond.instanceMethod yX9_writeTo ∈ TBL := TBL_5 203 rfl rfl
theorem sl_X9_writeTo : Cond.selects yX9_writeTo.cls yX9_writeTo yX9_writeTo ∈ TBL := TBL_5 204 rfl rfl
theorem cd_X9_readFrom : Cond.code yX9_readFrom cX9_readFrom 2 none ∈ TBL := TBL_6 42 rfl rfl
theorem im_X9_readFrom : Cond.instanceMethod yX9_readFrom ∈ TBL := TBL_6 40 rfl rfl
theorem sl_X9_readFrom : Cond.selects yX9_readFrom.cls yX9_readFrom yX9_readFrom ∈ TBL := TBL_6 41 rfl rfl
theorem cd_X9_isHollow : Cond.code yX9_isHollow cX9_isHollow 2 (some .boolean) ∈ TBL := TBL_4 147 rfl rfl
theorem im_X9_isHollow : Cond.instanceMethod yX9_isHollow ∈ TBL := TBL_4 145 rfl rfl
theorem sl_X9_isHollow : Cond.selects yX9_isHollow.cls yX9_isHollow yX9_isHollow ∈ TBL := TBL_4 146 rfl rfl
theorem cd_X9_isOwner : Cond.code yX9_isOwner cX9_isOwner 2 (some .boolean) ∈ TBL := TBL_4 155 rfl rfl
theorem im_X9_isOwner : Cond.instanceMethod yX9_isOwner ∈ TBL := TBL_4 153 rfl rfl
theorem sl_X9_isOwner : Cond.selects yX9_isOwner.cls yX9_isOwner yX9_isOwner ∈ TBL := TBL_4 154 rfl rfl
theorem cd_X9_isLake : Cond.code yX9_isLake cX9_isLake 2 (some .boolean) ∈ TBL := TBL_4 73 rfl rfl
theorem im_X9_isLake : Cond.instanceMethod yX9_isLake ∈ TBL := TBL_4 71 rfl rfl
theorem sl_X9_isLake : Cond.selects yX9_isLake.cls yX9_isLake yX9_isLake ∈ TBL := TBL_4 72 rfl rfl
theorem cd_X9_areTwoOwners : Cond.code yX9_areTwoOwners cX9_areTwoOwners 3 (some .boolean) ∈ TBL := TBL_4 211 rfl rfl
theorem im_X9_areTwoOwners : Cond.instanceMethod yX9_areTwoOwners ∈ TBL := TBL_4 209 rfl rfl
theorem sl_X9_areTwoOwners : Cond.selects yX9_areTwoOwners.cls yX9_areTwoOwners yX9_areTwoOwners ∈ TBL := TBL_4 210 rfl rfl
theorem cd_X9_stands : Cond.code yX9_stands cX9_stands 2 (some .boolean) ∈ TBL := TBL_4 69 rfl rfl
theorem im_X9_stands : Cond.instanceMethod yX9_stands ∈ TBL := TBL_4 67 rfl rfl
theorem sl_X9_stands : Cond.selects yX9_stands.cls yX9_stands yX9_stands ∈ TBL := TBL_4 68 rfl rfl
theorem cd_X9_setBarrels : Cond.code yX9_setBarrels cX9_setBarrels 3 none ∈ TBL := TBL_2 167 rfl rfl
theorem im_X9_setBarrels : Cond.instanceMethod yX9_setBarrels ∈ TBL := TBL_2 165 rfl rfl
theorem sl_X9_setBarrels : Cond.selects yX9_setBarrels.cls yX9_setBarrels yX9_setBarrels ∈ TBL := TBL_2 166 rfl rfl
theorem cd_X9_standing : Cond.code yX9_standing cX9_standing 3 (some .int) ∈ TBL := TBL_4 49 rfl rfl
theorem im_X9_standing : Cond.instanceMethod yX9_standing ∈ TBL := TBL_4 47 rfl rfl
theorem sl_X9_standing : Cond.selects yX9_standing.cls yX9_standing yX9_standing ∈ TBL := TBL_4 48 rfl rfl
theorem cd_X9_firstGone : Cond.code yX9_firstGone cX9_firstGone 2 (some .int) ∈ TBL := TBL_6 4 rfl rfl
theorem im_X9_firstGone : Cond.instanceMethod yX9_firstGone ∈ TBL := TBL_6 2 rfl rfl
theorem sl_X9_firstGone : Cond.selects yX9_firstGone.cls yX9_firstGone yX9_firstGone ∈ TBL := TBL_6 3 rfl rfl
theorem cd_X9_allBarrels : Cond.code yX9_allBarrels cX9_allBarrels 3 (some .int) ∈ TBL := TBL_4 53 rfl rfl
theorem im_X9_allBarrels : Cond.instanceMethod yX9_allBarrels ∈ TBL := TBL_4 51 rfl rfl
theorem sl_X9_allBarrels : Cond.selects yX9_allBarrels.cls yX9_allBarrels yX9_allBarrels ∈ TBL := TBL_4 52 rfl rfl
theorem cd_X9_lakesIn : Cond.code yX9_lakesIn cX9_lakesIn 4 (some .int) ∈ TBL := TBL_4 168 rfl rfl
theorem im_X9_lakesIn : Cond.instanceMethod yX9_lakesIn ∈ TBL := TBL_4 166 rfl rfl
theorem sl_X9_lakesIn : Cond.selects yX9_lakesIn.cls yX9_lakesIn yX9_lakesIn ∈ TBL := TBL_4 167 rfl rfl
theorem cd_X9_roomIn : Cond.code yX9_roomIn cX9_roomIn 4 (some .int) ∈ TBL := TBL_4 164 rfl rfl
theorem im_X9_roomIn : Cond.instanceMethod yX9_roomIn ∈ TBL := TBL_4 162 rfl rfl
theorem sl_X9_roomIn : Cond.selects yX9_roomIn.cls yX9_roomIn yX9_roomIn ∈ TBL := TBL_4 163 rfl rfl
theorem cd_X9_countIn : Cond.code yX9_countIn cX9_countIn 4 (some .int) ∈ TBL := TBL_4 78 rfl rfl
theorem im_X9_countIn : Cond.instanceMethod yX9_countIn ∈ TBL := TBL_4 76 rfl rfl
theorem sl_X9_countIn : Cond.selects yX9_countIn.cls yX9_countIn yX9_countIn ∈ TBL := TBL_4 77 rfl rfl
theorem cd_X9_lakesOf : Cond.code yX9_lakesOf cX9_lakesOf 4 (some .int) ∈ TBL := TBL_4 189 rfl rfl
theorem im_X9_lakesOf : Cond.instanceMethod yX9_lakesOf ∈ TBL := TBL_4 187 rfl rfl
theorem sl_X9_lakesOf : Cond.selects yX9_lakesOf.cls yX9_lakesOf yX9_lakesOf ∈ TBL := TBL_4 188 rfl rfl
theorem cd_X9_give : Cond.code yX9_give cX9_give 4 none ∈ TBL := TBL_6 13 rfl rfl
theorem im_X9_give : Cond.instanceMethod yX9_give ∈ TBL := TBL_6 11 rfl rfl
theorem sl_X9_give : Cond.selects yX9_give.cls yX9_give yX9_give ∈ TBL := TBL_6 12 rfl rfl
theorem cd_X9_worthOf : Cond.code yX9_worthOf cX9_worthOf 2 (some .int) ∈ TBL := TBL_4 65 rfl rfl
theorem im_X9_worthOf : Cond.instanceMethod yX9_worthOf ∈ TBL := TBL_4 63 rfl rfl
theorem sl_X9_worthOf : Cond.selects yX9_worthOf.cls yX9_worthOf yX9_worthOf ∈ TBL := TBL_4 64 rfl rfl
theorem cd_X9_worthOfBits : Cond.code yX9_worthOfBits cX9_worthOfBits 4 (some .int) ∈ TBL := TBL_4 61 rfl rfl
theorem im_X9_worthOfBits : Cond.instanceMethod yX9_worthOfBits ∈ TBL := TBL_4 59 rfl rfl
theorem sl_X9_worthOfBits : Cond.selects yX9_worthOfBits.cls yX9_worthOfBits yX9_worthOfBits ∈ TBL := TBL_4 60 rfl rfl
theorem cd_X9_worthOfAll : Cond.code yX9_worthOfAll cX9_worthOfAll 1 (some .int) ∈ TBL := TBL_4 57 rfl rfl
theorem im_X9_worthOfAll : Cond.instanceMethod yX9_worthOfAll ∈ TBL := TBL_4 55 rfl rfl
theorem sl_X9_worthOfAll : Cond.selects yX9_worthOfAll.cls yX9_worthOfAll yX9_worthOfAll ∈ TBL := TBL_4 56 rfl rfl
theorem cd_X9_worthOfOwner : Cond.code yX9_worthOfOwner cX9_worthOfOwner 2 (some .int) ∈ TBL := TBL_4 193 rfl rfl
theorem im_X9_worthOfOwner : Cond.instanceMethod yX9_worthOfOwner ∈ TBL := TBL_4 191 rfl rfl
theorem sl_X9_worthOfOwner : Cond.selects yX9_worthOfOwner.cls yX9_worthOfOwner yX9_worthOfOwner ∈ TBL := TBL_4 192 rfl rfl
theorem cd_X9_leakOf : Cond.code yX9_leakOf cX9_leakOf 3 (some .int) ∈ TBL := TBL_4 177 rfl rfl
theorem im_X9_leakOf : Cond.instanceMethod yX9_leakOf ∈ TBL := TBL_4 175 rfl rfl
theorem sl_X9_leakOf : Cond.selects yX9_leakOf.cls yX9_leakOf yX9_leakOf ∈ TBL := TBL_4 176 rfl rfl
theorem cd_X9_passNight : Cond.code yX9_passNight cX9_passNight 4 (some .int) ∈ TBL := TBL_4 228 rfl rfl
theorem im_X9_passNight : Cond.instanceMethod yX9_passNight ∈ TBL := TBL_4 226 rfl rfl
theorem sl_X9_passNight : Cond.selects yX9_passNight.cls yX9_passNight yX9_passNight ∈ TBL := TBL_4 227 rfl rfl
theorem cd_X9_canMove : Cond.code yX9_canMove cX9_canMove 3 (some .boolean) ∈ TBL := TBL_5 224 rfl rfl
theorem im_X9_canMove : Cond.instanceMethod yX9_canMove ∈ TBL := TBL_5 222 rfl rfl
theorem sl_X9_canMove : Cond.selects yX9_canMove.cls yX9_canMove yX9_canMove ∈ TBL := TBL_5 223 rfl rfl
theorem cd_X9_mayGo : Cond.code yX9_mayGo cX9_mayGo 5 (some .boolean) ∈ TBL := TBL_5 78 rfl rfl
theorem im_X9_mayGo : Cond.instanceMethod yX9_mayGo ∈ TBL := TBL_5 76 rfl rfl
theorem sl_X9_mayGo : Cond.selects yX9_mayGo.cls yX9_mayGo yX9_mayGo ∈ TBL := TBL_5 77 rfl rfl
theorem cd_X9_canPour : Cond.code yX9_canPour cX9_canPour 3 (some .boolean) ∈ TBL := TBL_5 235 rfl rfl
theorem im_X9_canPour : Cond.instanceMethod yX9_canPour ∈ TBL := TBL_5 233 rfl rfl
theorem sl_X9_canPour : Cond.selects yX9_canPour.cls yX9_canPour yX9_canPour ∈ TBL := TBL_5 234 rfl rfl
theorem cd_X9_owedBy : Cond.code yX9_owedBy cX9_owedBy 4 (some .int) ∈ TBL := TBL_4 134 rfl rfl
theorem im_X9_owedBy : Cond.instanceMethod yX9_owedBy ∈ TBL := TBL_4 132 rfl rfl
theorem sl_X9_owedBy : Cond.selects yX9_owedBy.cls yX9_owedBy yX9_owedBy ∈ TBL := TBL_4 133 rfl rfl
theorem cd_X9_owedTo : Cond.code yX9_owedTo cX9_owedTo 4 (some .int) ∈ TBL := TBL_4 199 rfl rfl
theorem im_X9_owedTo : Cond.instanceMethod yX9_owedTo ∈ TBL := TBL_4 197 rfl rfl
theorem sl_X9_owedTo : Cond.selects yX9_owedTo.cls yX9_owedTo yX9_owedTo ∈ TBL := TBL_4 198 rfl rfl
theorem cd_X9_netOf : Cond.code yX9_netOf cX9_netOf 2 (some .int) ∈ TBL := TBL_5 135 rfl rfl
theorem im_X9_netOf : Cond.instanceMethod yX9_netOf ∈ TBL := TBL_5 133 rfl rfl
theorem sl_X9_netOf : Cond.selects yX9_netOf.cls yX9_netOf yX9_netOf ∈ TBL := TBL_5 134 rfl rfl
theorem cd_X9_allDebts : Cond.code yX9_allDebts cX9_allDebts 3 (some .int) ∈ TBL := TBL_4 130 rfl rfl
theorem im_X9_allDebts : Cond.instanceMethod yX9_allDebts ∈ TBL := TBL_4 128 rfl rfl
theorem sl_X9_allDebts : Cond.selects yX9_allDebts.cls yX9_allDebts yX9_allDebts ∈ TBL := TBL_4 129 rfl rfl
theorem cd_X9_isBroke : Cond.code yX9_isBroke cX9_isBroke 2 (some .boolean) ∈ TBL := TBL_4 203 rfl rfl
theorem im_X9_isBroke : Cond.instanceMethod yX9_isBroke ∈ TBL := TBL_4 201 rfl rfl
theorem sl_X9_isBroke : Cond.selects yX9_isBroke.cls yX9_isBroke yX9_isBroke ∈ TBL := TBL_4 202 rfl rfl
theorem cd_X10_init : Cond.code yX10_init cX10_init 2 none ∈ TBL := TBL_1 155 rfl rfl
theorem cd_X10_begin : Cond.code yX10_begin cX10_begin 2 none ∈ TBL := TBL_3 24 rfl rfl
theorem im_X10_begin : Cond.instanceMethod yX10_begin ∈ TBL := TBL_3 22 rfl rfl
theorem sl_X10_begin : Cond.selects yX10_begin.cls yX10_begin yX10_begin ∈ TBL := TBL_3 23 rfl rfl
theorem cd_X10_isSign : Cond.code yX10_isSign cX10_isSign 2 (some .boolean) ∈ TBL := TBL_3 215 rfl rfl
theorem im_X10_isSign : Cond.instanceMethod yX10_isSign ∈ TBL := TBL_3 213 rfl rfl
theorem sl_X10_isSign : Cond.selects yX10_isSign.cls yX10_isSign yX10_isSign ∈ TBL := TBL_3 214 rfl rfl
theorem cd_X10_isOwn : Cond.code yX10_isOwn cX10_isOwn 2 (some .boolean) ∈ TBL := TBL_3 148 rfl rfl
theorem im_X10_isOwn : Cond.instanceMethod yX10_isOwn ∈ TBL := TBL_3 146 rfl rfl
theorem sl_X10_isOwn : Cond.selects yX10_isOwn.cls yX10_isOwn yX10_isOwn ∈ TBL := TBL_3 147 rfl rfl
theorem cd_X10_needSign : Cond.code yX10_needSign cX10_needSign 2 (some .boolean) ∈ TBL := TBL_3 219 rfl rfl
theorem im_X10_needSign : Cond.instanceMethod yX10_needSign ∈ TBL := TBL_3 217 rfl rfl
theorem sl_X10_needSign : Cond.selects yX10_needSign.cls yX10_needSign yX10_needSign ∈ TBL := TBL_3 218 rfl rfl
theorem cd_X10_needOwn : Cond.code yX10_needOwn cX10_needOwn 2 (some .boolean) ∈ TBL := TBL_3 144 rfl rfl
theorem im_X10_needOwn : Cond.instanceMethod yX10_needOwn ∈ TBL := TBL_3 142 rfl rfl
theorem sl_X10_needOwn : Cond.selects yX10_needOwn.cls yX10_needOwn yX10_needOwn ∈ TBL := TBL_3 143 rfl rfl
theorem cd_X10_needKind : Cond.code yX10_needKind cX10_needKind 2 (some .boolean) ∈ TBL := TBL_3 107 rfl rfl
theorem im_X10_needKind : Cond.instanceMethod yX10_needKind ∈ TBL := TBL_3 105 rfl rfl
theorem sl_X10_needKind : Cond.selects yX10_needKind.cls yX10_needKind yX10_needKind ∈ TBL := TBL_3 106 rfl rfl
theorem cd_X10_fail : Cond.code yX10_fail cX10_fail 2 (some .boolean) ∈ TBL := TBL_3 103 rfl rfl
theorem im_X10_fail : Cond.instanceMethod yX10_fail ∈ TBL := TBL_3 101 rfl rfl
theorem sl_X10_fail : Cond.selects yX10_fail.cls yX10_fail yX10_fail ∈ TBL := TBL_3 102 rfl rfl
theorem cd_X10_failForm : Cond.code yX10_failForm cX10_failForm 1 (some .boolean) ∈ TBL := TBL_3 111 rfl rfl
theorem im_X10_failForm : Cond.instanceMethod yX10_failForm ∈ TBL := TBL_3 109 rfl rfl
theorem sl_X10_failForm : Cond.selects yX10_failForm.cls yX10_failForm yX10_failForm ∈ TBL := TBL_3 110 rfl rfl
theorem cd_X10_advance : Cond.code yX10_advance cX10_advance 3 (some .boolean) ∈ TBL := TBL_3 28 rfl rfl
theorem im_X10_advance : Cond.instanceMethod yX10_advance ∈ TBL := TBL_3 26 rfl rfl
theorem sl_X10_advance : Cond.selects yX10_advance.cls yX10_advance yX10_advance ∈ TBL := TBL_3 27 rfl rfl
theorem cd_X10_isText : Cond.code yX10_isText cX10_isText 1 (some .boolean) ∈ TBL := TBL_3 32 rfl rfl
theorem im_X10_isText : Cond.instanceMethod yX10_isText ∈ TBL := TBL_3 31 rfl rfl
theorem sl_X10_isText : Cond.selects yX10_isText.cls yX10_isText yX10_isText ∈ TBL := TBL_in (List.mem_append_left _ (List.mem_of_getElem? (i := 3) rfl)) rfl
theorem cd_X10_isLetter : Cond.code yX10_isLetter cX10_isLetter 1 (some .boolean) ∈ TBL := TBL_3 35 rfl rfl
theorem sm_X10_isLetter : Cond.static yX10_isLetter ∈ TBL := TBL_3 34 rfl rfl
theorem cd_X10_isDigit : Cond.code yX10_isDigit cX10_isDigit 1 (some .boolean) ∈ TBL := TBL_3 91 rfl rfl
theorem sm_X10_isDigit : Cond.static yX10_isDigit ∈ TBL := TBL_3 90 rfl rfl
theorem cd_X10_readWord : Cond.code yX10_readWord cX10_readWord 3 none ∈ TBL := TBL_3 39 rfl rfl
theorem im_X10_readWord : Cond.instanceMethod yX10_readWord ∈ TBL := TBL_3 38 rfl rfl
theorem sl_X10_readWord : Cond.selects yX10_readWord.cls yX10_readWord yX10_readWord ∈ TBL := TBL_in (List.mem_append_left _ (List.mem_of_getElem? (i := 4) rfl)) rfl
theorem cd_X10_packName : Cond.code yX10_packName cX10_packName 4 (some .int) ∈ TBL := TBL_3 88 rfl rfl
theorem im_X10_packName : Cond.instanceMethod yX10_packName ∈ TBL := TBL_3 87 rfl rfl
theorem sl_X10_packName : Cond.selects yX10_packName.cls yX10_packName yX10_packName ∈ TBL := TBL_in (List.mem_append_left _ (List.mem_of_getElem? (i := 6) rfl)) rfl
theorem cd_X10_findOwn : Cond.code yX10_findOwn cX10_findOwn 5 (some .int) ∈ TBL := TBL_3 43 rfl rfl
theorem im_X10_findOwn : Cond.instanceMethod yX10_findOwn ∈ TBL := TBL_3 42 rfl rfl
theorem sl_X10_findOwn : Cond.selects yX10_findOwn.cls yX10_findOwn yX10_findOwn ∈ TBL := TBL_in (List.mem_append_left _ (List.mem_of_getElem? (i := 5) rfl)) rfl
theorem cd_X10_readNumber : Cond.code yX10_readNumber cX10_readNumber 2 none ∈ TBL := TBL_3 95 rfl rfl
theorem im_X10_readNumber : Cond.instanceMethod yX10_readNumber ∈ TBL := TBL_3 94 rfl rfl
theorem sl_X10_readNumber : Cond.selects yX10_readNumber.cls yX10_readNumber yX10_readNumber ∈ TBL := TBL_in (List.mem_append_left _ (List.mem_of_getElem? (i := 7) rfl)) rfl
theorem cd_X11_init : Cond.code yX11_init cX11_init 1 none ∈ TBL := TBL_1 26 rfl rfl
theorem cd_X11_feed : Cond.code yX11_feed cX11_feed 6 (some .int) ∈ TBL := TBL_2 229 rfl rfl
theorem im_X11_feed : Cond.instanceMethod yX11_feed ∈ TBL := TBL_2 227 rfl rfl
theorem sl_X11_feed : Cond.selects yX11_feed.cls yX11_feed yX11_feed ∈ TBL := TBL_2 228 rfl rfl
theorem cd_X11_putFour : Cond.code yX11_putFour cX11_putFour 3 none ∈ TBL := TBL_2 237 rfl rfl
theorem im_X11_putFour : Cond.instanceMethod yX11_putFour ∈ TBL := TBL_2 236 rfl rfl
theorem sl_X11_putFour : Cond.selects yX11_putFour.cls yX11_putFour yX11_putFour ∈ TBL := TBL_in (List.mem_append_left _ (List.mem_of_getElem? (i := 1) rfl)) rfl
theorem cd_X11_end : Cond.code yX11_end cX11_end 2 (some .boolean) ∈ TBL := TBL_3 1 rfl rfl
theorem im_X11_end : Cond.instanceMethod yX11_end ∈ TBL := TBL_2 239 rfl rfl
theorem sl_X11_end : Cond.selects yX11_end.cls yX11_end yX11_end ∈ TBL := TBL_3 0 rfl rfl
theorem cd_X11_takeTape : Cond.code yX11_takeTape cX11_takeTape 2 (some .int) ∈ TBL := TBL_3 9 rfl rfl
theorem im_X11_takeTape : Cond.instanceMethod yX11_takeTape ∈ TBL := TBL_3 8 rfl rfl
theorem sl_X11_takeTape : Cond.selects yX11_takeTape.cls yX11_takeTape yX11_takeTape ∈ TBL := TBL_in (List.mem_append_left _ (List.mem_of_getElem? (i := 2) rfl)) rfl
theorem cd_X11_refuse : Cond.code yX11_refuse cX11_refuse 2 (some .int) ∈ TBL := TBL_2 233 rfl rfl
theorem im_X11_refuse : Cond.instanceMethod yX11_refuse ∈ TBL := TBL_2 232 rfl rfl
theorem sl_X11_refuse : Cond.selects yX11_refuse.cls yX11_refuse yX11_refuse ∈ TBL := TBL_in (List.mem_append_left _ (List.mem_of_getElem? (i := 0) rfl)) rfl
theorem cd_X11_lowland : Cond.code yX11_lowland cX11_lowland 3 (some .int) ∈ TBL := TBL_3 5 rfl rfl
theorem im_X11_lowland : Cond.instanceMethod yX11_lowland ∈ TBL := TBL_3 3 rfl rfl
theorem sl_X11_lowland : Cond.selects yX11_lowland.cls yX11_lowland yX11_lowland ∈ TBL := TBL_3 4 rfl rfl
theorem cd_X11_forgetActs : Cond.code yX11_forgetActs cX11_forgetActs 1 none ∈ TBL := TBL_4 32 rfl rfl
theorem im_X11_forgetActs : Cond.instanceMethod yX11_forgetActs ∈ TBL := TBL_4 31 rfl rfl
theorem sl_X11_forgetActs : Cond.selects yX11_forgetActs.cls yX11_forgetActs yX11_forgetActs ∈ TBL := TBL_in (List.mem_append_left _ (List.mem_of_getElem? (i := 34) rfl)) rfl
theorem cd_X11_fault : Cond.code yX11_fault cX11_fault 2 (some .int) ∈ TBL := TBL_4 41 rfl rfl
theorem im_X11_fault : Cond.instanceMethod yX11_fault ∈ TBL := TBL_4 39 rfl rfl
theorem sl_X11_fault : Cond.selects yX11_fault.cls yX11_fault yX11_fault ∈ TBL := TBL_4 40 rfl rfl
theorem cd_X11_has : Cond.code yX11_has cX11_has 2 (some .int) ∈ TBL := TBL_4 45 rfl rfl
theorem im_X11_has : Cond.instanceMethod yX11_has ∈ TBL := TBL_4 43 rfl rfl
theorem sl_X11_has : Cond.selects yX11_has.cls yX11_has yX11_has ∈ TBL := TBL_4 44 rfl rfl
theorem cd_X11_letter : Cond.code yX11_letter cX11_letter 4 (some .int) ∈ TBL := TBL_4 143 rfl rfl
theorem im_X11_letter : Cond.instanceMethod yX11_letter ∈ TBL := TBL_4 141 rfl rfl
theorem sl_X11_letter : Cond.selects yX11_letter.cls yX11_letter yX11_letter ∈ TBL := TBL_4 142 rfl rfl
theorem cd_X11_hollow : Cond.code yX11_hollow cX11_hollow 3 (some .int) ∈ TBL := TBL_4 160 rfl rfl
theorem im_X11_hollow : Cond.instanceMethod yX11_hollow ∈ TBL := TBL_4 158 rfl rfl
theorem sl_X11_hollow : Cond.selects yX11_hollow.cls yX11_hollow yX11_hollow ∈ TBL := TBL_4 159 rfl rfl
theorem cd_X11_lake : Cond.code yX11_lake cX11_lake 3 (some .int) ∈ TBL := TBL_4 172 rfl rfl
theorem im_X11_lake : Cond.instanceMethod yX11_lake ∈ TBL := TBL_4 170 rfl rfl
theorem sl_X11_lake : Cond.selects yX11_lake.cls yX11_lake yX11_lake ∈ TBL := TBL_4 171 rfl rfl
theorem cd_X11_owner : Cond.code yX11_owner cX11_owner 3 (some .int) ∈ TBL := TBL_4 185 rfl rfl
theorem im_X11_owner : Cond.instanceMethod yX11_owner ∈ TBL := TBL_4 183 rfl rfl
theorem sl_X11_owner : Cond.selects yX11_owner.cls yX11_owner yX11_owner ∈ TBL := TBL_4 184 rfl rfl
theorem cd_X11_owes : Cond.code yX11_owes cX11_owes 3 (some .int) ∈ TBL := TBL_4 207 rfl rfl
theorem im_X11_owes : Cond.instanceMethod yX11_owes ∈ TBL := TBL_4 205 rfl rfl
theorem sl_X11_owes : Cond.selects yX11_owes.cls yX11_owes yX11_owes ∈ TBL := TBL_4 206 rfl rfl
theorem cd_X11_nightsCanBe : Cond.code yX11_nightsCanBe cX11_nightsCanBe 2 (some .boolean) ∈ TBL := TBL_4 220 rfl rfl
theorem im_X11_nightsCanBe : Cond.instanceMethod yX11_nightsCanBe ∈ TBL := TBL_4 219 rfl rfl
theorem sl_X11_nightsCanBe : Cond.selects yX11_nightsCanBe.cls yX11_nightsCanBe yX11_nightsCanBe ∈ TBL := TBL_in (List.mem_append_left _ (List.mem_of_getElem? (i := 38) rfl)) rfl
theorem cd_X11_later : Cond.code yX11_later cX11_later 4 (some .int) ∈ TBL := TBL_4 216 rfl rfl
theorem im_X11_later : Cond.instanceMethod yX11_later ∈ TBL := TBL_4 214 rfl rfl
theorem sl_X11_later : Cond.selects yX11_later.cls yX11_later yX11_later ∈ TBL := TBL_4 215 rfl rfl
theorem cd_X11_broke : Cond.code yX11_broke cX11_broke 3 (some .int) ∈ TBL := TBL_4 233 rfl rfl
theorem im_X11_broke : Cond.instanceMethod yX11_broke ∈ TBL := TBL_4 231 rfl rfl
theorem sl_X11_broke : Cond.selects yX11_broke.cls yX11_broke yX11_broke ∈ TBL := TBL_4 232 rfl rfl
theorem cd_X11_spend : Cond.code yX11_spend cX11_spend 7 (some .int) ∈ TBL := TBL_4 237 rfl rfl
theorem im_X11_spend : Cond.instanceMethod yX11_spend ∈ TBL := TBL_4 235 rfl rfl
theorem sl_X11_spend : Cond.selects yX11_spend.cls yX11_spend yX11_spend ∈ TBL := TBL_4 236 rfl rfl
theorem cd_X11_price : Cond.code yX11_price cX11_price 5 (some .int) ∈ TBL := TBL_5 2 rfl rfl
theorem im_X11_price : Cond.instanceMethod yX11_price ∈ TBL := TBL_5 0 rfl rfl
theorem sl_X11_price : Cond.selects yX11_price.cls yX11_price yX11_price ∈ TBL := TBL_5 1 rfl rfl
theorem cd_X11_moves : Cond.code yX11_moves cX11_moves 2 (some .int) ∈ TBL := TBL_5 33 rfl rfl
theorem im_X11_moves : Cond.instanceMethod yX11_moves ∈ TBL := TBL_5 31 rfl rfl
theorem sl_X11_moves : Cond.selects yX11_moves.cls yX11_moves yX11_moves ∈ TBL := TBL_5 32 rfl rfl
theorem cd_X11_pack : Cond.code yX11_pack cX11_pack 4 (some .int) ∈ TBL := TBL_5 111 rfl rfl
theorem im_X11_pack : Cond.instanceMethod yX11_pack ∈ TBL := TBL_5 109 rfl rfl
theorem sl_X11_pack : Cond.selects yX11_pack.cls yX11_pack yX11_pack ∈ TBL := TBL_5 110 rfl rfl
theorem cd_X11_net : Cond.code yX11_net cX11_net 2 (some .int) ∈ TBL := TBL_5 131 rfl rfl
theorem im_X11_net : Cond.instanceMethod yX11_net ∈ TBL := TBL_5 129 rfl rfl
theorem sl_X11_net : Cond.selects yX11_net.cls yX11_net yX11_net ∈ TBL := TBL_5 130 rfl rfl
theorem cd_X11_settling : Cond.code yX11_settling cX11_settling 1 (some .int) ∈ TBL := TBL_5 141 rfl rfl
theorem im_X11_settling : Cond.instanceMethod yX11_settling ∈ TBL := TBL_5 139 rfl rfl
theorem sl_X11_settling : Cond.selects yX11_settling.cls yX11_settling yX11_settling ∈ TBL := TBL_5 140 rfl rfl
theorem cd_X11_share : Cond.code yX11_share cX11_share 4 (some .int) ∈ TBL := TBL_5 155 rfl rfl
theorem im_X11_share : Cond.instanceMethod yX11_share ∈ TBL := TBL_5 153 rfl rfl
theorem sl_X11_share : Cond.selects yX11_share.cls yX11_share yX11_share ∈ TBL := TBL_5 154 rfl rfl
theorem cd_X11_stood : Cond.code yX11_stood cX11_stood 3 (some .int) ∈ TBL := TBL_5 176 rfl rfl
theorem im_X11_stood : Cond.instanceMethod yX11_stood ∈ TBL := TBL_5 174 rfl rfl
theorem sl_X11_stood : Cond.selects yX11_stood.cls yX11_stood yX11_stood ∈ TBL := TBL_5 175 rfl rfl
theorem cd_X11_tellsStood : Cond.code yX11_tellsStood cX11_tellsStood 3 (some .boolean) ∈ TBL := TBL_5 180 rfl rfl
theorem im_X11_tellsStood : Cond.instanceMethod yX11_tellsStood ∈ TBL := TBL_5 179 rfl rfl
theorem sl_X11_tellsStood : Cond.selects yX11_tellsStood.cls yX11_tellsStood yX11_tellsStood ∈ TBL := TBL_in (List.mem_append_left _ (List.mem_of_getElem? (i := 60) rfl)) rfl
theorem cd_X11_robbed : Cond.code yX11_robbed cX11_robbed 4 (some .int) ∈ TBL := TBL_5 184 rfl rfl
theorem im_X11_robbed : Cond.instanceMethod yX11_robbed ∈ TBL := TBL_5 182 rfl rfl
theorem sl_X11_robbed : Cond.selects yX11_robbed.cls yX11_robbed yX11_robbed ∈ TBL := TBL_5 183 rfl rfl
theorem cd_X11_stoodIfTaken : Cond.code yX11_stoodIfTaken cX11_stoodIfTaken 5 (some .boolean) ∈ TBL := TBL_5 188 rfl rfl
theorem im_X11_stoodIfTaken : Cond.instanceMethod yX11_stoodIfTaken ∈ TBL := TBL_5 187 rfl rfl
theorem sl_X11_stoodIfTaken : Cond.selects yX11_stoodIfTaken.cls yX11_stoodIfTaken yX11_stoodIfTaken ∈ TBL := TBL_in (List.mem_append_left _ (List.mem_of_getElem? (i := 61) rfl)) rfl
theorem cd_X11_remember : Cond.code yX11_remember cX11_remember 1 none ∈ TBL := TBL_5 197 rfl rfl
theorem im_X11_remember : Cond.instanceMethod yX11_remember ∈ TBL := TBL_5 196 rfl rfl
theorem sl_X11_remember : Cond.selects yX11_remember.cls yX11_remember yX11_remember ∈ TBL := TBL_in (List.mem_append_left _ (List.mem_of_getElem? (i := 62) rfl)) rfl
theorem cd_X11_nights : Cond.code yX11_nights cX11_nights 4 (some .int) ∈ TBL := TBL_5 193 rfl rfl
theorem im_X11_nights : Cond.instanceMethod yX11_nights ∈ TBL := TBL_5 191 rfl rfl
theorem sl_X11_nights : Cond.selects yX11_nights.cls yX11_nights yX11_nights ∈ TBL := TBL_5 192 rfl rfl
theorem cd_X11_chance : Cond.code yX11_chance cX11_chance 5 (some .int) ∈ TBL := TBL_5 210 rfl rfl
theorem im_X11_chance : Cond.instanceMethod yX11_chance ∈ TBL := TBL_5 208 rfl rfl
theorem sl_X11_chance : Cond.selects yX11_chance.cls yX11_chance yX11_chance ∈ TBL := TBL_5 209 rfl rfl
theorem cd_X11_draw : Cond.code yX11_draw cX11_draw 2 (some .int) ∈ TBL := TBL_5 214 rfl rfl
theorem im_X11_draw : Cond.instanceMethod yX11_draw ∈ TBL := TBL_5 213 rfl rfl
theorem sl_X11_draw : Cond.selects yX11_draw.cls yX11_draw yX11_draw ∈ TBL := TBL_in (List.mem_append_left _ (List.mem_of_getElem? (i := 63) rfl)) rfl
theorem cd_X11_move : Cond.code yX11_move cX11_move 3 (some .boolean) ∈ TBL := TBL_5 220 rfl rfl
theorem im_X11_move : Cond.instanceMethod yX11_move ∈ TBL := TBL_5 218 rfl rfl
theorem sl_X11_move : Cond.selects yX11_move.cls yX11_move yX11_move ∈ TBL := TBL_5 219 rfl rfl
theorem cd_X11_pour : Cond.code yX11_pour cX11_pour 3 (some .int) ∈ TBL := TBL_5 231 rfl rfl
theorem im_X11_pour : Cond.instanceMethod yX11_pour ∈ TBL := TBL_5 229 rfl rfl
theorem sl_X11_pour : Cond.selects yX11_pour.cls yX11_pour yX11_pour ∈ TBL := TBL_5 230 rfl rfl
theorem cd_X11_part : Cond.code yX11_part cX11_part 4 (some .int) ∈ TBL := TBL_6 0 rfl rfl
theorem im_X11_part : Cond.instanceMethod yX11_part ∈ TBL := TBL_5 238 rfl rfl
theorem sl_X11_part : Cond.selects yX11_part.cls yX11_part yX11_part ∈ TBL := TBL_5 239 rfl rfl
theorem cd_X11_pay : Cond.code yX11_pay cX11_pay 7 (some .int) ∈ TBL := TBL_6 8 rfl rfl
theorem im_X11_pay : Cond.instanceMethod yX11_pay ∈ TBL := TBL_6 6 rfl rfl
theorem sl_X11_pay : Cond.selects yX11_pay.cls yX11_pay yX11_pay ∈ TBL := TBL_6 7 rfl rfl
theorem cd_X11_strike : Cond.code yX11_strike cX11_strike 4 (some .int) ∈ TBL := TBL_6 21 rfl rfl
theorem im_X11_strike : Cond.instanceMethod yX11_strike ∈ TBL := TBL_6 19 rfl rfl
theorem sl_X11_strike : Cond.selects yX11_strike.cls yX11_strike yX11_strike ∈ TBL := TBL_6 20 rfl rfl
theorem cd_X11_isRing : Cond.code yX11_isRing cX11_isRing 4 (some .boolean) ∈ TBL := TBL_6 25 rfl rfl
theorem im_X11_isRing : Cond.instanceMethod yX11_isRing ∈ TBL := TBL_6 24 rfl rfl
theorem sl_X11_isRing : Cond.selects yX11_isRing.cls yX11_isRing yX11_isRing ∈ TBL := TBL_in (List.mem_append_left _ (List.mem_of_getElem? (i := 64) rfl)) rfl
theorem cd_X11_debtInRing : Cond.code yX11_debtInRing cX11_debtInRing 4 (some .int) ∈ TBL := TBL_6 29 rfl rfl
theorem im_X11_debtInRing : Cond.instanceMethod yX11_debtInRing ∈ TBL := TBL_6 28 rfl rfl
theorem sl_X11_debtInRing : Cond.selects yX11_debtInRing.cls yX11_debtInRing yX11_debtInRing ∈ TBL := TBL_in (List.mem_append_left _ (List.mem_of_getElem? (i := 65) rfl)) rfl
theorem cd_X11_undo : Cond.code yX11_undo cX11_undo 1 (some .boolean) ∈ TBL := TBL_6 34 rfl rfl
theorem im_X11_undo : Cond.instanceMethod yX11_undo ∈ TBL := TBL_6 32 rfl rfl
theorem sl_X11_undo : Cond.selects yX11_undo.cls yX11_undo yX11_undo ∈ TBL := TBL_6 33 rfl rfl
theorem cd_X11_seed : Cond.code yX11_seed cX11_seed 2 (some .boolean) ∈ TBL := TBL_6 46 rfl rfl
theorem im_X11_seed : Cond.instanceMethod yX11_seed ∈ TBL := TBL_6 44 rfl rfl
theorem sl_X11_seed : Cond.selects yX11_seed.cls yX11_seed yX11_seed ∈ TBL := TBL_6 45 rfl rfl
theorem cd_X11_kept : Cond.code yX11_kept cX11_kept 3 (some .int) ∈ TBL := TBL_6 50 rfl rfl
theorem im_X11_kept : Cond.instanceMethod yX11_kept ∈ TBL := TBL_6 48 rfl rfl
theorem sl_X11_kept : Cond.selects yX11_kept.cls yX11_kept yX11_kept ∈ TBL := TBL_6 49 rfl rfl
theorem cd_X11_image : Cond.code yX11_image cX11_image 1 (some .int) ∈ TBL := TBL_6 59 rfl rfl
theorem im_X11_image : Cond.instanceMethod yX11_image ∈ TBL := TBL_6 57 rfl rfl
theorem sl_X11_image : Cond.selects yX11_image.cls yX11_image yX11_image ∈ TBL := TBL_6 58 rfl rfl
theorem cd_X11_octet : Cond.code yX11_octet cX11_octet 2 (some .int) ∈ TBL := TBL_6 79 rfl rfl
theorem im_X11_octet : Cond.instanceMethod yX11_octet ∈ TBL := TBL_6 77 rfl rfl
theorem sl_X11_octet : Cond.selects yX11_octet.cls yX11_octet yX11_octet ∈ TBL := TBL_6 78 rfl rfl
theorem cd_X11_on : Cond.code yX11_on cX11_on 2 (some .boolean) ∈ TBL := TBL_6 83 rfl rfl
theorem im_X11_on : Cond.instanceMethod yX11_on ∈ TBL := TBL_6 81 rfl rfl
theorem sl_X11_on : Cond.selects yX11_on.cls yX11_on yX11_on ∈ TBL := TBL_6 82 rfl rfl
theorem cd_X11_status : Cond.code yX11_status cX11_status 2 (some .int) ∈ TBL := TBL_6 112 rfl rfl
theorem im_X11_status : Cond.instanceMethod yX11_status ∈ TBL := TBL_6 110 rfl rfl
theorem sl_X11_status : Cond.selects yX11_status.cls yX11_status yX11_status ∈ TBL := TBL_6 111 rfl rfl
theorem cd_X12_init : Cond.code yX12_init cX12_init 2 none ∈ TBL := TBL_6 117 rfl rfl
theorem cd_X12_is : Cond.code yX12_is cX12_is 3 (some .boolean) ∈ TBL := TBL_7 205 rfl rfl
theorem sm_X12_is : Cond.static yX12_is ∈ TBL := TBL_7 204 rfl rfl
theorem cd_X12_put : Cond.code yX12_put cX12_put 3 none ∈ TBL := TBL_7 107 rfl rfl
theorem im_X12_put : Cond.instanceMethod yX12_put ∈ TBL := TBL_7 106 rfl rfl
theorem sl_X12_put : Cond.selects yX12_put.cls yX12_put yX12_put ∈ TBL := TBL_in (List.mem_append_left _ (List.mem_of_getElem? (i := 71) rfl)) rfl
theorem cd_X12_feed : Cond.code yX12_feed cX12_feed 6 (some .int) ∈ TBL := TBL_7 99 rfl rfl
theorem im_X12_feed : Cond.instanceMethod yX12_feed ∈ TBL := TBL_7 97 rfl rfl
theorem sl_X12_feed : Cond.selects yX12_feed.cls yX12_feed yX12_feed ∈ TBL := TBL_7 98 rfl rfl
theorem cd_X12_end : Cond.code yX12_end cX12_end 2 (some .boolean) ∈ TBL := TBL_7 111 rfl rfl
theorem im_X12_end : Cond.instanceMethod yX12_end ∈ TBL := TBL_7 109 rfl rfl
theorem sl_X12_end : Cond.selects yX12_end.cls yX12_end yX12_end ∈ TBL := TBL_7 110 rfl rfl
theorem cd_X12_blame : Cond.code yX12_blame cX12_blame 3 none ∈ TBL := TBL_7 166 rfl rfl
theorem im_X12_blame : Cond.instanceMethod yX12_blame ∈ TBL := TBL_7 165 rfl rfl
theorem sl_X12_blame : Cond.selects yX12_blame.cls yX12_blame yX12_blame ∈ TBL := TBL_in (List.mem_append_left _ (List.mem_of_getElem? (i := 76) rfl)) rfl
theorem cd_X12_isLetter : Cond.code yX12_isLetter cX12_isLetter 1 (some .boolean) ∈ TBL := TBL_7 122 rfl rfl
theorem sm_X12_isLetter : Cond.static yX12_isLetter ∈ TBL := TBL_7 121 rfl rfl
theorem cd_X12_isDigit : Cond.code yX12_isDigit cX12_isDigit 1 (some .boolean) ∈ TBL := TBL_7 125 rfl rfl
theorem sm_X12_isDigit : Cond.static yX12_isDigit ∈ TBL := TBL_7 124 rfl rfl
theorem cd_X12_lex : Cond.code yX12_lex cX12_lex 1 none ∈ TBL := TBL_7 162 rfl rfl
theorem im_X12_lex : Cond.instanceMethod yX12_lex ∈ TBL := TBL_7 161 rfl rfl
theorem sl_X12_lex : Cond.selects yX12_lex.cls yX12_lex yX12_lex ∈ TBL := TBL_in (List.mem_append_left _ (List.mem_of_getElem? (i := 75) rfl)) rfl
theorem cd_X12_ahead : Cond.code yX12_ahead cX12_ahead 6 none ∈ TBL := TBL_7 119 rfl rfl
theorem im_X12_ahead : Cond.instanceMethod yX12_ahead ∈ TBL := TBL_7 118 rfl rfl
theorem sl_X12_ahead : Cond.selects yX12_ahead.cls yX12_ahead yX12_ahead ∈ TBL := TBL_in (List.mem_append_left _ (List.mem_of_getElem? (i := 72) rfl)) rfl
theorem cd_X12_isSign : Cond.code yX12_isSign cX12_isSign 2 (some .boolean) ∈ TBL := TBL_8 15 rfl rfl
theorem im_X12_isSign : Cond.instanceMethod yX12_isSign ∈ TBL := TBL_8 14 rfl rfl
theorem sl_X12_isSign : Cond.selects yX12_isSign.cls yX12_isSign yX12_isSign ∈ TBL := TBL_in (List.mem_append_left _ (List.mem_of_getElem? (i := 96) rfl)) rfl
theorem cd_X12_isWord : Cond.code yX12_isWord cX12_isWord 3 (some .boolean) ∈ TBL := TBL_7 170 rfl rfl
theorem im_X12_isWord : Cond.instanceMethod yX12_isWord ∈ TBL := TBL_7 169 rfl rfl
theorem sl_X12_isWord : Cond.selects yX12_isWord.cls yX12_isWord yX12_isWord ∈ TBL := TBL_in (List.mem_append_left _ (List.mem_of_getElem? (i := 77) rfl)) rfl
theorem cd_X12_must : Cond.code yX12_must cX12_must 2 none ∈ TBL := TBL_8 46 rfl rfl
theorem im_X12_must : Cond.instanceMethod yX12_must ∈ TBL := TBL_8 45 rfl rfl
theorem sl_X12_must : Cond.selects yX12_must.cls yX12_must yX12_must ∈ TBL := TBL_in (List.mem_append_left _ (List.mem_of_getElem? (i := 103) rfl)) rfl
theorem cd_X12_isOwn : Cond.code yX12_isOwn cX12_isOwn 3 (some .boolean) ∈ TBL := TBL_7 129 rfl rfl
theorem im_X12_isOwn : Cond.instanceMethod yX12_isOwn ∈ TBL := TBL_7 128 rfl rfl
theorem sl_X12_isOwn : Cond.selects yX12_isOwn.cls yX12_isOwn yX12_isOwn ∈ TBL := TBL_in (List.mem_append_left _ (List.mem_of_getElem? (i := 73) rfl)) rfl
theorem cd_X12_manyOf : Cond.code yX12_manyOf cX12_manyOf 3 (some .int) ∈ TBL := TBL_7 190 rfl rfl
theorem im_X12_manyOf : Cond.instanceMethod yX12_manyOf ∈ TBL := TBL_7 189 rfl rfl
theorem sl_X12_manyOf : Cond.selects yX12_manyOf.cls yX12_manyOf yX12_manyOf ∈ TBL := TBL_in (List.mem_append_left _ (List.mem_of_getElem? (i := 82) rfl)) rfl
theorem cd_X12_nameOf : Cond.code yX12_nameOf cX12_nameOf 4 (some .long) ∈ TBL := TBL_7 194 rfl rfl
theorem im_X12_nameOf : Cond.instanceMethod yX12_nameOf ∈ TBL := TBL_7 193 rfl rfl
theorem sl_X12_nameOf : Cond.selects yX12_nameOf.cls yX12_nameOf yX12_nameOf ∈ TBL := TBL_in (List.mem_append_left _ (List.mem_of_getElem? (i := 83) rfl)) rfl
theorem cd_X12_named : Cond.code yX12_named cX12_named 5 (some .int) ∈ TBL := TBL_7 186 rfl rfl
theorem im_X12_named : Cond.instanceMethod yX12_named ∈ TBL := TBL_7 185 rfl rfl
theorem sl_X12_named : Cond.selects yX12_named.cls yX12_named yX12_named ∈ TBL := TBL_in (List.mem_append_left _ (List.mem_of_getElem? (i := 81) rfl)) rfl
theorem cd_X12_number : Cond.code yX12_number cX12_number 4 (some .int) ∈ TBL := TBL_7 202 rfl rfl
theorem im_X12_number : Cond.instanceMethod yX12_number ∈ TBL := TBL_7 201 rfl rfl
theorem sl_X12_number : Cond.selects yX12_number.cls yX12_number yX12_number ∈ TBL := TBL_in (List.mem_append_left _ (List.mem_of_getElem? (i := 85) rfl)) rfl
theorem cd_X12_add : Cond.code yX12_add cX12_add 3 none ∈ TBL := TBL_8 23 rfl rfl
theorem im_X12_add : Cond.instanceMethod yX12_add ∈ TBL := TBL_8 22 rfl rfl
theorem sl_X12_add : Cond.selects yX12_add.cls yX12_add yX12_add ∈ TBL := TBL_in (List.mem_append_left _ (List.mem_of_getElem? (i := 98) rfl)) rfl
theorem cd_X12_rank : Cond.code yX12_rank cX12_rank 1 (some .int) ∈ TBL := TBL_8 34 rfl rfl
theorem sm_X12_rank : Cond.static yX12_rank ∈ TBL := TBL_8 33 rfl rfl
theorem cd_X12_joins : Cond.code yX12_joins cX12_joins 2 none ∈ TBL := TBL_8 31 rfl rfl
theorem im_X12_joins : Cond.instanceMethod yX12_joins ∈ TBL := TBL_8 30 rfl rfl
theorem sl_X12_joins : Cond.selects yX12_joins.cls yX12_joins yX12_joins ∈ TBL := TBL_in (List.mem_append_left _ (List.mem_of_getElem? (i := 100) rfl)) rfl
theorem cd_X12_holdsBack : Cond.code yX12_holdsBack cX12_holdsBack 2 none ∈ TBL := TBL_8 11 rfl rfl
theorem im_X12_holdsBack : Cond.instanceMethod yX12_holdsBack ∈ TBL := TBL_8 10 rfl rfl
theorem sl_X12_holdsBack : Cond.selects yX12_holdsBack.cls yX12_holdsBack yX12_holdsBack ∈ TBL := TBL_in (List.mem_append_left _ (List.mem_of_getElem? (i := 95) rfl)) rfl
theorem cd_X12_pushes : Cond.code yX12_pushes cX12_pushes 2 none ∈ TBL := TBL_8 0 rfl rfl
theorem im_X12_pushes : Cond.instanceMethod yX12_pushes ∈ TBL := TBL_7 239 rfl rfl
theorem sl_X12_pushes : Cond.selects yX12_pushes.cls yX12_pushes yX12_pushes ∈ TBL := TBL_in (List.mem_append_left _ (List.mem_of_getElem? (i := 93) rfl)) rfl
theorem cd_X12_opens : Cond.code yX12_opens cX12_opens 2 none ∈ TBL := TBL_8 19 rfl rfl
theorem im_X12_opens : Cond.instanceMethod yX12_opens ∈ TBL := TBL_8 18 rfl rfl
theorem sl_X12_opens : Cond.selects yX12_opens.cls yX12_opens yX12_opens ∈ TBL := TBL_in (List.mem_append_left _ (List.mem_of_getElem? (i := 97) rfl)) rfl
theorem cd_X12_isTest : Cond.code yX12_isTest cX12_isTest 1 (some .boolean) ∈ TBL := TBL_8 7 rfl rfl
theorem sm_X12_isTest : Cond.static yX12_isTest ∈ TBL := TBL_8 6 rfl rfl
theorem cd_X12_operand : Cond.code yX12_operand cX12_operand 4 (some .boolean) ∈ TBL := TBL_8 4 rfl rfl
theorem im_X12_operand : Cond.instanceMethod yX12_operand ∈ TBL := TBL_8 3 rfl rfl
theorem sl_X12_operand : Cond.selects yX12_operand.cls yX12_operand yX12_operand ∈ TBL := TBL_in (List.mem_append_left _ (List.mem_of_getElem? (i := 94) rfl)) rfl
theorem cd_X12_goesOn : Cond.code yX12_goesOn cX12_goesOn 5 (some .boolean) ∈ TBL := TBL_8 27 rfl rfl
theorem im_X12_goesOn : Cond.instanceMethod yX12_goesOn ∈ TBL := TBL_8 26 rfl rfl
theorem sl_X12_goesOn : Cond.selects yX12_goesOn.cls yX12_goesOn yX12_goesOn ∈ TBL := TBL_in (List.mem_append_left _ (List.mem_of_getElem? (i := 99) rfl)) rfl
theorem cd_X12_reads : Cond.code yX12_reads cX12_reads 3 none ∈ TBL := TBL_7 236 rfl rfl
theorem im_X12_reads : Cond.instanceMethod yX12_reads ∈ TBL := TBL_7 235 rfl rfl
theorem sl_X12_reads : Cond.selects yX12_reads.cls yX12_reads yX12_reads ∈ TBL := TBL_in (List.mem_append_left _ (List.mem_of_getElem? (i := 92) rfl)) rfl
theorem cd_X12_counts : Cond.code yX12_counts cX12_counts 2 (some .boolean) ∈ TBL := TBL_7 178 rfl rfl
theorem im_X12_counts : Cond.instanceMethod yX12_counts ∈ TBL := TBL_7 177 rfl rfl
theorem sl_X12_counts : Cond.selects yX12_counts.cls yX12_counts yX12_counts ∈ TBL := TBL_in (List.mem_append_left _ (List.mem_of_getElem? (i := 79) rfl)) rfl
theorem cd_X12_must_ : Cond.code yX12_must_ cX12_must_ 3 none ∈ TBL := TBL_7 198 rfl rfl
theorem im_X12_must_ : Cond.instanceMethod yX12_must_ ∈ TBL := TBL_7 197 rfl rfl
theorem sl_X12_must_ : Cond.selects yX12_must_.cls yX12_must_ yX12_must_ ∈ TBL := TBL_in (List.mem_append_left _ (List.mem_of_getElem? (i := 84) rfl)) rfl
theorem cd_X12_fresh : Cond.code yX12_fresh cX12_fresh 3 (some .long) ∈ TBL := TBL_7 182 rfl rfl
theorem im_X12_fresh : Cond.instanceMethod yX12_fresh ∈ TBL := TBL_7 181 rfl rfl
theorem sl_X12_fresh : Cond.selects yX12_fresh.cls yX12_fresh yX12_fresh ∈ TBL := TBL_in (List.mem_append_left _ (List.mem_of_getElem? (i := 80) rfl)) rfl
theorem cd_X12_askedBut : Cond.code yX12_askedBut cX12_askedBut 4 (some .int) ∈ TBL := TBL_7 221 rfl rfl
theorem im_X12_askedBut : Cond.instanceMethod yX12_askedBut ∈ TBL := TBL_7 220 rfl rfl
theorem sl_X12_askedBut : Cond.selects yX12_askedBut.cls yX12_askedBut yX12_askedBut ∈ TBL := TBL_in (List.mem_append_left _ (List.mem_of_getElem? (i := 89) rfl)) rfl
theorem cd_X12_has2 : Cond.code yX12_has2 cX12_has2 2 (some .boolean) ∈ TBL := TBL_7 224 rfl rfl
theorem sm_X12_has2 : Cond.static yX12_has2 ∈ TBL := TBL_7 223 rfl rfl
theorem cd_X12_hollowing : Cond.code yX12_hollowing cX12_hollowing 2 none ∈ TBL := TBL_7 174 rfl rfl
theorem im_X12_hollowing : Cond.instanceMethod yX12_hollowing ∈ TBL := TBL_7 173 rfl rfl
theorem sl_X12_hollowing : Cond.selects yX12_hollowing.cls yX12_hollowing yX12_hollowing ∈ TBL := TBL_in (List.mem_append_left _ (List.mem_of_getElem? (i := 78) rfl)) rfl
theorem cd_X12_owning : Cond.code yX12_owning cX12_owning 3 none ∈ TBL := TBL_7 209 rfl rfl
theorem im_X12_owning : Cond.instanceMethod yX12_owning ∈ TBL := TBL_7 208 rfl rfl
theorem sl_X12_owning : Cond.selects yX12_owning.cls yX12_owning yX12_owning ∈ TBL := TBL_in (List.mem_append_left _ (List.mem_of_getElem? (i := 86) rfl)) rfl
theorem cd_X12_without : Cond.code yX12_without cX12_without 6 (some .int) ∈ TBL := TBL_7 217 rfl rfl
theorem im_X12_without : Cond.instanceMethod yX12_without ∈ TBL := TBL_7 216 rfl rfl
theorem sl_X12_without : Cond.selects yX12_without.cls yX12_without yX12_without ∈ TBL := TBL_in (List.mem_append_left _ (List.mem_of_getElem? (i := 88) rfl)) rfl
theorem cd_X12_laking : Cond.code yX12_laking cX12_laking 2 none ∈ TBL := TBL_7 213 rfl rfl
theorem im_X12_laking : Cond.instanceMethod yX12_laking ∈ TBL := TBL_7 212 rfl rfl
theorem sl_X12_laking : Cond.selects yX12_laking.cls yX12_laking yX12_laking ∈ TBL := TBL_in (List.mem_append_left _ (List.mem_of_getElem? (i := 87) rfl)) rfl
theorem cd_X12_owing : Cond.code yX12_owing cX12_owing 4 none ∈ TBL := TBL_7 228 rfl rfl
theorem im_X12_owing : Cond.instanceMethod yX12_owing ∈ TBL := TBL_7 227 rfl rfl
theorem sl_X12_owing : Cond.selects yX12_owing.cls yX12_owing yX12_owing ∈ TBL := TBL_in (List.mem_append_left _ (List.mem_of_getElem? (i := 90) rfl)) rfl
theorem cd_X12_reading : Cond.code yX12_reading cX12_reading 3 none ∈ TBL := TBL_7 232 rfl rfl
theorem im_X12_reading : Cond.instanceMethod yX12_reading ∈ TBL := TBL_7 231 rfl rfl
theorem sl_X12_reading : Cond.selects yX12_reading.cls yX12_reading yX12_reading ∈ TBL := TBL_in (List.mem_append_left _ (List.mem_of_getElem? (i := 91) rfl)) rfl
theorem cd_X12_telling : Cond.code yX12_telling cX12_telling 3 none ∈ TBL := TBL_8 38 rfl rfl
theorem im_X12_telling : Cond.instanceMethod yX12_telling ∈ TBL := TBL_8 37 rfl rfl
theorem sl_X12_telling : Cond.selects yX12_telling.cls yX12_telling yX12_telling ∈ TBL := TBL_in (List.mem_append_left _ (List.mem_of_getElem? (i := 101) rfl)) rfl
theorem cd_X12_statement : Cond.code yX12_statement cX12_statement 1 none ∈ TBL := TBL_7 158 rfl rfl
theorem im_X12_statement : Cond.instanceMethod yX12_statement ∈ TBL := TBL_7 157 rfl rfl
theorem sl_X12_statement : Cond.selects yX12_statement.cls yX12_statement yX12_statement ∈ TBL := TBL_in (List.mem_append_left _ (List.mem_of_getElem? (i := 74) rfl)) rfl
theorem cd_X12_finishes : Cond.code yX12_finishes cX12_finishes 3 none ∈ TBL := TBL_8 42 rfl rfl
theorem im_X12_finishes : Cond.instanceMethod yX12_finishes ∈ TBL := TBL_8 41 rfl rfl
theorem sl_X12_finishes : Cond.selects yX12_finishes.cls yX12_finishes yX12_finishes ∈ TBL := TBL_in (List.mem_append_left _ (List.mem_of_getElem? (i := 102) rfl)) rfl
theorem cd_X12_lowland : Cond.code yX12_lowland cX12_lowland 2 (some .int) ∈ TBL := TBL_7 115 rfl rfl
