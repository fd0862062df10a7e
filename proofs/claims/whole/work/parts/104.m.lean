/-! CONTRACTS, laid by wip/gen/lay.py: yX3_tellPrice, yX3_tellNet, yX3_tell, yX6_signAt, yX4_numbersBehind, yX4_isFigure, yX4_readNumber, yX4_readItem, yX4_firstFault -/
set_option maxRecDepth 100000 in
set_option maxHeartbeats 4000000 in
theorem mX3_tellPrice (l : Launch) (dC : Nat → ClassId) (dI : Nat → Nat → Nat) (cI cJ : ClassId) (a0 a1 a2 a3 a4 : Nat) (c_stand : Int32) (c_home : Int32) (c_priceStart : Int32) (c_priceStep : Int32) (c_thrown_cells : Nat → Int32) (c_thrown_filled : Int32) (c_nets_cells : Nat → Int32) (c_nets_filled : Int32) (x1 : Int32) (x2 : Int32) {res : Int32} {n_priceStart : Int32} {n_priceStep : Int32} (hD : DX3_tellPrice x1 x2 c_priceStart c_priceStep = some (res, n_priceStart, n_priceStep)) : Met l yX3_tellPrice (WZ yX3_tellPrice cX3_tellPrice 3 (some .boolean)) (RM 1 22) (PC dC dI cI cJ [.ref a0, .int x1, .int x2] (W_X3 a0 a1 a2 a3 a4 cI cJ c_stand c_home c_priceStart c_priceStep c_thrown_cells c_thrown_filled c_nets_cells c_nets_filled)) (QI dC dI (W_X3 a0 a1 a2 a3 a4 cI cJ c_stand c_home c_priceStart c_priceStep c_thrown_cells c_thrown_filled c_nets_cells c_nets_filled) (W_X3 a0 a1 a2 a3 a4 cI cJ c_stand c_home n_priceStart n_priceStep c_thrown_cells c_thrown_filled c_nets_cells c_nets_filled) res) 0 0 (FA (W_X3 a0 a1 a2 a3 a4 cI cJ c_stand c_home c_priceStart c_priceStep c_thrown_cells c_thrown_filled c_nets_cells c_nets_filled)) := by
  refine r_metZ (by decide +kernel) (Nat.le_of_ble_eq_true rfl) ?_
  intro p e s m args below meth c A H0 QQ X ret ls hl hG
  have X : Cx p m c cX3_tellPrice 3 s args RX3 dC dI cI cJ meth (some .boolean) := X
  have hx := X.1.1
  have hb := X.1.2.1
  have hl : lv_has ls 3 [(0, .ref a0), (1, .int x1), (2, .int x2)] := hl
  have h := hD
  unfold DX3_tellPrice at h
  clear hD
  refine lv_iload_n hx hb dX3_tellPrice_0 rfl (lv_at hl 1 rfl) ?_
  refine lv_iconst (v := (0 : Int32)) hx hb dX3_tellPrice_1 (by decide) ?_
  refine lv_bipush (v := (49 : Int32)) hx hb dX3_tellPrice_2 (by decide) ?_
  obtain ⟨r_1, hz_2, h⟩ := bd1_some h
  refine aft_i (ws' := (W_X3 a0 a1 a2 a3 a4 cI cJ c_stand c_home c_priceStart c_priceStep c_thrown_cells c_thrown_filled c_nets_cells c_nets_filled)) (run_SN (rest := []) X hG hl.1 (mX8_within l dC dI cI cJ x1 (0 : Int32) (49 : Int32) hz_2) gi_N_yX8_within w_318 w_265 w_41 hd_S_yX8_within ⟨rfl, rfl⟩ rfl ⟨Nat.le_of_ble_eq_true rfl, Nat.le_of_ble_eq_true rfl⟩ [] (by decide) rfl rfl (Nat.le_of_ble_eq_true rfl) ⟨Nat.le_of_ble_eq_true rfl, Nat.le_of_ble_eq_true rfl⟩ dX3_tellPrice_4) hG [] rfl rfl rfl (fun H locs hG => ?_)
  clear hz_2
  refine lv_if_eq (tgt := 20) hx hb dX3_tellPrice_7 (by decide) (fun c_3 => ?_) (fun c_3 => ?_)
  · have h := ite_t h c_3
    refine lv_iconst (v := (0 : Int32)) hx hb dX3_tellPrice_20 (by decide) ?_
    cases h
    exact ret _ _ _ _ dX3_tellPrice_21 (by decide) hG
  · have h := ite_f h c_3
    refine lv_iload_n hx hb dX3_tellPrice_10 rfl (lv_at hl 2 rfl) ?_
    refine lv_iconst (v := (0 : Int32)) hx hb dX3_tellPrice_11 (by decide) ?_
    refine lv_bipush (v := (49 : Int32)) hx hb dX3_tellPrice_12 (by decide) ?_
    obtain ⟨r_4, hz_5, h⟩ := bd1_some h
    refine aft_i (ws' := (W_X3 a0 a1 a2 a3 a4 cI cJ c_stand c_home c_priceStart c_priceStep c_thrown_cells c_thrown_filled c_nets_cells c_nets_filled)) (run_SN (rest := []) X hG hl.1 (mX8_within l dC dI cI cJ x2 (0 : Int32) (49 : Int32) hz_5) gi_N_yX8_within w_318 w_265 w_41 hd_S_yX8_within ⟨rfl, rfl⟩ rfl ⟨Nat.le_of_ble_eq_true rfl, Nat.le_of_ble_eq_true rfl⟩ [] (by decide) rfl rfl (Nat.le_of_ble_eq_true rfl) ⟨Nat.le_of_ble_eq_true rfl, Nat.le_of_ble_eq_true rfl⟩ dX3_tellPrice_14) hG [] rfl rfl rfl (fun H locs hG => ?_)
    clear hz_5
    refine lv_if_ne (tgt := 22) hx hb dX3_tellPrice_17 (by decide) (fun c_6 => ?_) (fun c_6 => ?_)
    · have h := ite_f h c_6
      refine lv_aload_n hx hb dX3_tellPrice_22 rfl (lv_at hl 0 rfl) ?_
      refine lv_iload_n hx hb dX3_tellPrice_23 rfl (lv_at hl 1 rfl) ?_
      refine r_put X hG in_X3 rfl tyX3 tyX3_ok nmX3 2 (by decide) rfl (by decide +kernel) w_133 0 (ws' := (W_X3 a0 a1 a2 a3 a4 cI cJ c_stand c_home x1 c_priceStep c_thrown_cells c_thrown_filled c_nets_cells c_nets_filled)) rfl (Nat.le_of_ble_eq_true rfl) rfl dX3_tellPrice_24 (fun H locs hG => ?_)
      refine lv_aload_n hx hb dX3_tellPrice_27 rfl (lv_at hl 0 rfl) ?_
      refine lv_iload_n hx hb dX3_tellPrice_28 rfl (lv_at hl 2 rfl) ?_
      refine r_put X hG in_X3 rfl tyX3 tyX3_ok nmX3 3 (by decide) rfl (by decide +kernel) w_134 0 (ws' := (W_X3 a0 a1 a2 a3 a4 cI cJ c_stand c_home x1 x2 c_thrown_cells c_thrown_filled c_nets_cells c_nets_filled)) rfl (Nat.le_of_ble_eq_true rfl) rfl dX3_tellPrice_29 (fun H locs hG => ?_)
      refine lv_iconst (v := (1 : Int32)) hx hb dX3_tellPrice_32 (by decide) ?_
      cases h
      exact ret _ _ _ _ dX3_tellPrice_33 (by decide) hG
    · have h := ite_t h c_6
      refine lv_iconst (v := (0 : Int32)) hx hb dX3_tellPrice_20 (by decide) ?_
      cases h
      exact ret _ _ _ _ dX3_tellPrice_21 (by decide) hG
set_option maxRecDepth 100000 in
set_option maxHeartbeats 4000000 in
theorem mX3_tellNet (l : Launch) (dC : Nat → ClassId) (dI : Nat → Nat → Nat) (cI cJ : ClassId) (a0 a1 a2 a3 a4 : Nat) (c_stand : Int32) (c_home : Int32) (c_priceStart : Int32) (c_priceStep : Int32) (c_thrown_cells : Nat → Int32) (c_thrown_filled : Int32) (c_nets_cells : Nat → Int32) (c_nets_filled : Int32) (x1 : Int32) (x2 : Int32) (x3 : Int32) (x4 : Int32) {res : Int32} {n_nets_cells : Nat → Int32} {n_nets_filled : Int32} (hD : DX3_tellNet x1 x2 x3 x4 c_nets_cells c_nets_filled = some (res, n_nets_cells, n_nets_filled)) : Met l yX3_tellNet (WZ yX3_tellNet cX3_tellNet 5 (some .boolean)) (RM 2 47) (PC dC dI cI cJ [.ref a0, .int x1, .int x2, .int x3, .int x4] (W_X3 a0 a1 a2 a3 a4 cI cJ c_stand c_home c_priceStart c_priceStep c_thrown_cells c_thrown_filled c_nets_cells c_nets_filled)) (QI dC dI (W_X3 a0 a1 a2 a3 a4 cI cJ c_stand c_home c_priceStart c_priceStep c_thrown_cells c_thrown_filled c_nets_cells c_nets_filled) (W_X3 a0 a1 a2 a3 a4 cI cJ c_stand c_home c_priceStart c_priceStep c_thrown_cells c_thrown_filled n_nets_cells n_nets_filled) res) 0 0 (FA (W_X3 a0 a1 a2 a3 a4 cI cJ c_stand c_home c_priceStart c_priceStep c_thrown_cells c_thrown_filled c_nets_cells c_nets_filled)) := by
  refine r_metZ (by decide +kernel) (Nat.le_of_ble_eq_true rfl) ?_
  intro p e s m args below meth c A H0 QQ X ret ls hl hG
  have X : Cx p m c cX3_tellNet 5 s args RX3 dC dI cI cJ meth (some .boolean) := X
  have hx := X.1.1
  have hb := X.1.2.1
  have hl : lv_has ls 5 [(0, .ref a0), (1, .int x1), (2, .int x2), (3, .int x3), (4, .int x4)] := hl
  have h := hD
  unfold DX3_tellNet at h
  clear hD
  refine lv_iload_n hx hb dX3_tellNet_0 rfl (lv_at hl 1 rfl) ?_
  refine lv_iconst (v := (0 : Int32)) hx hb dX3_tellNet_1 (by decide) ?_
  refine lv_bipush (v := (23 : Int32)) hx hb dX3_tellNet_2 (by decide) ?_
  obtain ⟨r_1, hz_2, h⟩ := bd1_some h
  refine aft_i (ws' := (W_X3 a0 a1 a2 a3 a4 cI cJ c_stand c_home c_priceStart c_priceStep c_thrown_cells c_thrown_filled c_nets_cells c_nets_filled)) (run_SN (rest := []) X hG hl.1 (mX8_within l dC dI cI cJ x1 (0 : Int32) (23 : Int32) hz_2) gi_N_yX8_within w_318 w_265 w_41 hd_S_yX8_within ⟨rfl, rfl⟩ rfl ⟨Nat.le_of_ble_eq_true rfl, Nat.le_of_ble_eq_true rfl⟩ [] (by decide) rfl rfl (Nat.le_of_ble_eq_true rfl) ⟨Nat.le_of_ble_eq_true rfl, Nat.le_of_ble_eq_true rfl⟩ dX3_tellNet_4) hG [] rfl rfl rfl (fun H locs hG => ?_)
  clear hz_2
  refine lv_if_eq (tgt := 59) hx hb dX3_tellNet_7 (by decide) (fun c_3 => ?_) (fun c_3 => ?_)
  · have h := ite_t h c_3
    refine lv_iconst (v := (0 : Int32)) hx hb dX3_tellNet_59 (by decide) ?_
    cases h
    exact ret _ _ _ _ dX3_tellNet_60 (by decide) hG
  · have h := ite_f h c_3
    refine lv_iload_n hx hb dX3_tellNet_10 rfl (lv_at hl 2 rfl) ?_
    refine lv_iconst (v := (0 : Int32)) hx hb dX3_tellNet_11 (by decide) ?_
    refine lv_iconst (v := (3 : Int32)) hx hb dX3_tellNet_12 (by decide) ?_
    obtain ⟨r_4, hz_5, h⟩ := bd1_some h
    refine aft_i (ws' := (W_X3 a0 a1 a2 a3 a4 cI cJ c_stand c_home c_priceStart c_priceStep c_thrown_cells c_thrown_filled c_nets_cells c_nets_filled)) (run_SN (rest := []) X hG hl.1 (mX8_within l dC dI cI cJ x2 (0 : Int32) (3 : Int32) hz_5) gi_N_yX8_within w_318 w_265 w_41 hd_S_yX8_within ⟨rfl, rfl⟩ rfl ⟨Nat.le_of_ble_eq_true rfl, Nat.le_of_ble_eq_true rfl⟩ [] (by decide) rfl rfl (Nat.le_of_ble_eq_true rfl) ⟨Nat.le_of_ble_eq_true rfl, Nat.le_of_ble_eq_true rfl⟩ dX3_tellNet_13) hG [] rfl rfl rfl (fun H locs hG => ?_)
    clear hz_5
    refine lv_if_eq (tgt := 59) hx hb dX3_tellNet_16 (by decide) (fun c_6 => ?_) (fun c_6 => ?_)
    · have h := ite_t h c_6
      refine lv_iconst (v := (0 : Int32)) hx hb dX3_tellNet_59 (by decide) ?_
      cases h
      exact ret _ _ _ _ dX3_tellNet_60 (by decide) hG
    · have h := ite_f h c_6
      refine lv_iload_n hx hb dX3_tellNet_19 rfl (lv_at hl 3 rfl) ?_
      refine lv_iconst (v := (0 : Int32)) hx hb dX3_tellNet_20 (by decide) ?_
      refine lv_bipush (v := (99 : Int32)) hx hb dX3_tellNet_21 (by decide) ?_
      obtain ⟨r_7, hz_8, h⟩ := bd1_some h
      refine aft_i (ws' := (W_X3 a0 a1 a2 a3 a4 cI cJ c_stand c_home c_priceStart c_priceStep c_thrown_cells c_thrown_filled c_nets_cells c_nets_filled)) (run_SN (rest := []) X hG hl.1 (mX8_within l dC dI cI cJ x3 (0 : Int32) (99 : Int32) hz_8) gi_N_yX8_within w_318 w_265 w_41 hd_S_yX8_within ⟨rfl, rfl⟩ rfl ⟨Nat.le_of_ble_eq_true rfl, Nat.le_of_ble_eq_true rfl⟩ [] (by decide) rfl rfl (Nat.le_of_ble_eq_true rfl) ⟨Nat.le_of_ble_eq_true rfl, Nat.le_of_ble_eq_true rfl⟩ dX3_tellNet_23) hG [] rfl rfl rfl (fun H locs hG => ?_)
      clear hz_8
      refine lv_if_eq (tgt := 59) hx hb dX3_tellNet_26 (by decide) (fun c_9 => ?_) (fun c_9 => ?_)
      · have h := ite_t h c_9
        refine lv_iconst (v := (0 : Int32)) hx hb dX3_tellNet_59 (by decide) ?_
        cases h
        exact ret _ _ _ _ dX3_tellNet_60 (by decide) hG
      · have h := ite_f h c_9
        refine lv_iload hx hb dX3_tellNet_29 (lv_at hl 4 rfl) ?_
        refine lv_iconst (v := (0 : Int32)) hx hb dX3_tellNet_31 (by decide) ?_
        refine lv_bipush (v := (99 : Int32)) hx hb dX3_tellNet_32 (by decide) ?_
        obtain ⟨r_10, hz_11, h⟩ := bd1_some h
        refine aft_i (ws' := (W_X3 a0 a1 a2 a3 a4 cI cJ c_stand c_home c_priceStart c_priceStep c_thrown_cells c_thrown_filled c_nets_cells c_nets_filled)) (run_SN (rest := []) X hG hl.1 (mX8_within l dC dI cI cJ x4 (0 : Int32) (99 : Int32) hz_11) gi_N_yX8_within w_318 w_265 w_41 hd_S_yX8_within ⟨rfl, rfl⟩ rfl ⟨Nat.le_of_ble_eq_true rfl, Nat.le_of_ble_eq_true rfl⟩ [] (by decide) rfl rfl (Nat.le_of_ble_eq_true rfl) ⟨Nat.le_of_ble_eq_true rfl, Nat.le_of_ble_eq_true rfl⟩ dX3_tellNet_34) hG [] rfl rfl rfl (fun H locs hG => ?_)
        clear hz_11
        refine lv_if_eq (tgt := 59) hx hb dX3_tellNet_37 (by decide) (fun c_12 => ?_) (fun c_12 => ?_)
        · have h := ite_t h c_12
          refine lv_iconst (v := (0 : Int32)) hx hb dX3_tellNet_59 (by decide) ?_
          cases h
          exact ret _ _ _ _ dX3_tellNet_60 (by decide) hG
        · have h := ite_f h c_12
          refine lv_aload_n hx hb dX3_tellNet_40 rfl (lv_at hl 0 rfl) ?_
          refine r_get X hG in_X3 rfl 5 (by decide) w_138 0 rfl rfl dX3_tellNet_41 ?_
          refine lv_iload_n hx hb dX3_tellNet_44 rfl (lv_at hl 1 rfl) ?_
          refine lv_iload_n hx hb dX3_tellNet_45 rfl (lv_at hl 2 rfl) ?_
          refine lv_iload_n hx hb dX3_tellNet_46 rfl (lv_at hl 3 rfl) ?_
          refine lv_iload hx hb dX3_tellNet_47 (lv_at hl 4 rfl) ?_
          obtain ⟨r_13, k_nets_cells_14, k_nets_filled_15, hz_16, h⟩ := bd3_some h
          refine aft_i (ws' := (W_X3 a0 a1 a2 a3 a4 cI cJ c_stand c_home c_priceStart c_priceStep c_thrown_cells c_thrown_filled k_nets_cells_14 k_nets_filled_15)) (run_V (rest := []) X hG hl.1 (mX5_add l dC dI cI cJ a3 a4 (5 : Int32) (4 : Int32) 20 c_nets_cells c_nets_filled x1 x2 x3 x4 hz_16) gi_V_X3_64 hd_V_yX5_add ⟨rfl, rfl⟩ rfl ⟨Nat.le_of_ble_eq_true rfl, Nat.le_of_ble_eq_true rfl⟩ [3, 4] (by decide) rfl 3 rfl rfl rfl rfl (Nat.le_of_ble_eq_true rfl) ⟨Nat.le_of_ble_eq_true rfl, Nat.le_of_ble_eq_true rfl⟩ dX3_tellNet_49) hG [3, 4] rfl rfl rfl (fun H locs hG => ?_)
          clear hz_16
          refine lv_if_eq (tgt := 59) hx hb dX3_tellNet_52 (by decide) (fun c_17 => ?_) (fun c_17 => ?_)
          · have h := ite_t h c_17
            refine lv_iconst (v := (0 : Int32)) hx hb dX3_tellNet_59 (by decide) ?_
            cases h
            exact ret _ _ _ _ dX3_tellNet_60 (by decide) hG
          · have h := ite_f h c_17
            refine lv_iconst (v := (1 : Int32)) hx hb dX3_tellNet_55 (by decide) ?_
            refine lv_goto (tgt := 60) hx hb dX3_tellNet_56 (by decide) ?_
            cases h
            exact ret _ _ _ _ dX3_tellNet_60 (by decide) hG
set_option maxRecDepth 100000 in
set_option maxHeartbeats 4000000 in
theorem mX3_tell (l : Launch) (dC : Nat → ClassId) (dI : Nat → Nat → Nat) (cI cJ : ClassId) (a0 a1 a2 a3 a4 : Nat) (c_stand : Int32) (c_home : Int32) (c_priceStart : Int32) (c_priceStep : Int32) (c_thrown_cells : Nat → Int32) (c_thrown_filled : Int32) (c_nets_cells : Nat → Int32) (c_nets_filled : Int32) (x1 : Int32) (x2 : Int32) (x3 : Int32) (x4 : Int32) (x5 : Int32) {res : Int32} {n_stand : Int32} {n_home : Int32} {n_priceStart : Int32} {n_priceStep : Int32} {n_thrown_cells : Nat → Int32} {n_thrown_filled : Int32} {n_nets_cells : Nat → Int32} {n_nets_filled : Int32} (hD : DX3_tell x1 x2 x3 x4 x5 c_stand c_home c_priceStart c_priceStep c_thrown_cells c_thrown_filled c_nets_cells c_nets_filled = some (res, n_stand, n_home, n_priceStart, n_priceStep, n_thrown_cells, n_thrown_filled, n_nets_cells, n_nets_filled)) : Met l yX3_tell (WZ yX3_tell cX3_tell 6 (some .boolean)) (RM 3 71) (PC dC dI cI cJ [.ref a0, .int x1, .int x2, .int x3, .int x4, .int x5] (W_X3 a0 a1 a2 a3 a4 cI cJ c_stand c_home c_priceStart c_priceStep c_thrown_cells c_thrown_filled c_nets_cells c_nets_filled)) (QI dC dI (W_X3 a0 a1 a2 a3 a4 cI cJ c_stand c_home c_priceStart c_priceStep c_thrown_cells c_thrown_filled c_nets_cells c_nets_filled) (W_X3 a0 a1 a2 a3 a4 cI cJ n_stand n_home n_priceStart n_priceStep n_thrown_cells n_thrown_filled n_nets_cells n_nets_filled) res) 0 0 (FA (W_X3 a0 a1 a2 a3 a4 cI cJ c_stand c_home c_priceStart c_priceStep c_thrown_cells c_thrown_filled c_nets_cells c_nets_filled)) := by
  refine r_metZ (by decide +kernel) (Nat.le_of_ble_eq_true rfl) ?_
  intro p e s m args below meth c A H0 QQ X ret ls hl hG
  have X : Cx p m c cX3_tell 6 s args RX3 dC dI cI cJ meth (some .boolean) := X
  have hx := X.1.1
  have hb := X.1.2.1
  have hl : lv_has ls 6 [(0, .ref a0), (1, .int x1), (2, .int x2), (3, .int x3), (4, .int x4), (5, .int x5)] := hl
  have h := hD
  unfold DX3_tell at h
  clear hD
  refine lv_iload_n hx hb dX3_tell_0 rfl (lv_at hl 1 rfl) ?_
  rcases Decidable.em (x1 = (110 : Int32)) with c_1 | c_1
  · have h := ite_t h c_1
    refine lv_tableIn (off := 61) (tgt := 62) hx hb dX3_tell_1 (by rw [c_1] <;> decide) (by rw [c_1] <;> decide) (by rw [c_1] <;> rfl) (by decide) ?_
    refine lv_aload_n hx hb dX3_tell_62 rfl (lv_at hl 0 rfl) ?_
    refine lv_iload_n hx hb dX3_tell_63 rfl (lv_at hl 2 rfl) ?_
    refine lv_iload_n hx hb dX3_tell_64 rfl (lv_at hl 3 rfl) ?_
    refine lv_iload hx hb dX3_tell_65 (lv_at hl 4 rfl) ?_
    refine lv_iload hx hb dX3_tell_67 (lv_at hl 5 rfl) ?_
    obtain ⟨r_2, k_nets_cells_3, k_nets_filled_4, hz_5, h⟩ := bd3_some h
    refine aft_i1 (run_V1 (rest := []) X hG hl.1 (mX3_tellNet l dC dI cI cJ a0 a1 a2 a3 a4 c_stand c_home c_priceStart c_priceStep c_thrown_cells c_thrown_filled c_nets_cells c_nets_filled x2 x3 x4 x5 hz_5) gi_V_X3_54 hd_V_yX3_tellNet ⟨rfl, rfl⟩ rfl ⟨Nat.le_of_ble_eq_true rfl, Nat.le_of_ble_eq_true rfl⟩ 0 rfl rfl rfl rfl (Nat.le_of_ble_eq_true rfl) ⟨Nat.le_of_ble_eq_true rfl, Nat.le_of_ble_eq_true rfl⟩ dX3_tell_69) hG rfl (fun H locs hG => ?_)
    clear hz_5
    obtain ⟨g_6, h⟩ := gd h
    cases h
    exact ret _ _ _ _ dX3_tell_72 (Decidable.not_not.mp g_6) hG
  · have h := ite_f h c_1
    rcases Decidable.em (x1 = (111 : Int32)) with c_7 | c_7
    · have h := ite_t h c_7
      refine lv_tableIn (off := 79) (tgt := 80) hx hb dX3_tell_1 (by rw [c_7] <;> decide) (by rw [c_7] <;> decide) (by rw [c_7] <;> rfl) (by decide) ?_
      refine lv_iconst (v := (0 : Int32)) hx hb dX3_tell_80 (by decide) ?_
      cases h
      exact ret _ _ _ _ dX3_tell_81 (by decide) hG
    · have h := ite_f h c_7
      rcases Decidable.em (x1 = (112 : Int32)) with c_8 | c_8
      · have h := ite_t h c_8
        refine lv_tableIn (off := 72) (tgt := 73) hx hb dX3_tell_1 (by rw [c_8] <;> decide) (by rw [c_8] <;> decide) (by rw [c_8] <;> rfl) (by decide) ?_
        refine lv_aload_n hx hb dX3_tell_73 rfl (lv_at hl 0 rfl) ?_
        refine lv_iload_n hx hb dX3_tell_74 rfl (lv_at hl 2 rfl) ?_
        refine lv_iload_n hx hb dX3_tell_75 rfl (lv_at hl 3 rfl) ?_
        obtain ⟨r_9, k_priceStart_10, k_priceStep_11, hz_12, h⟩ := bd3_some h
        refine aft_i1 (run_V1 (rest := []) X hG hl.1 (mX3_tellPrice l dC dI cI cJ a0 a1 a2 a3 a4 c_stand c_home c_priceStart c_priceStep c_thrown_cells c_thrown_filled c_nets_cells c_nets_filled x2 x3 hz_12) gi_V_X3_57 hd_V_yX3_tellPrice ⟨rfl, rfl⟩ rfl ⟨Nat.le_of_ble_eq_true rfl, Nat.le_of_ble_eq_true rfl⟩ 0 rfl rfl rfl rfl (Nat.le_of_ble_eq_true rfl) ⟨Nat.le_of_ble_eq_true rfl, Nat.le_of_ble_eq_true rfl⟩ dX3_tell_76) hG rfl (fun H locs hG => ?_)
        clear hz_12
        obtain ⟨g_13, h⟩ := gd h
        cases h
        exact ret _ _ _ _ dX3_tell_79 (Decidable.not_not.mp g_13) hG
      · have h := ite_f h c_8
        rcases Decidable.em (x1 = (113 : Int32)) with c_14 | c_14
        · have h := ite_t h c_14
          refine lv_tableIn (off := 79) (tgt := 80) hx hb dX3_tell_1 (by rw [c_14] <;> decide) (by rw [c_14] <;> decide) (by rw [c_14] <;> rfl) (by decide) ?_
          refine lv_iconst (v := (0 : Int32)) hx hb dX3_tell_80 (by decide) ?_
          cases h
          exact ret _ _ _ _ dX3_tell_81 (by decide) hG
        · have h := ite_f h c_14
          rcases Decidable.em (x1 = (114 : Int32)) with c_15 | c_15
          · have h := ite_t h c_15
            refine lv_tableIn (off := 43) (tgt := 44) hx hb dX3_tell_1 (by rw [c_15] <;> decide) (by rw [c_15] <;> decide) (by rw [c_15] <;> rfl) (by decide) ?_
            refine lv_aload_n hx hb dX3_tell_44 rfl (lv_at hl 0 rfl) ?_
            refine lv_iload_n hx hb dX3_tell_45 rfl (lv_at hl 2 rfl) ?_
            refine lv_iload_n hx hb dX3_tell_46 rfl (lv_at hl 3 rfl) ?_
            obtain ⟨r_16, k_stand_17, k_home_18, hz_19, h⟩ := bd3_some h
            refine aft_i1 (run_V1 (rest := []) X hG hl.1 (mX3_tellRock l dC dI cI cJ a0 a1 a2 a3 a4 c_stand c_home c_priceStart c_priceStep c_thrown_cells c_thrown_filled c_nets_cells c_nets_filled x2 x3 hz_19) gi_V_X3_46 hd_V_yX3_tellRock ⟨rfl, rfl⟩ rfl ⟨Nat.le_of_ble_eq_true rfl, Nat.le_of_ble_eq_true rfl⟩ 0 rfl rfl rfl rfl (Nat.le_of_ble_eq_true rfl) ⟨Nat.le_of_ble_eq_true rfl, Nat.le_of_ble_eq_true rfl⟩ dX3_tell_47) hG rfl (fun H locs hG => ?_)
            clear hz_19
            obtain ⟨g_20, h⟩ := gd h
            cases h
            exact ret _ _ _ _ dX3_tell_50 (Decidable.not_not.mp g_20) hG
          · have h := ite_f h c_15
            rcases Decidable.em (x1 = (115 : Int32)) with c_21 | c_21
            · have h := ite_t h c_21
              refine lv_tableIn (off := 79) (tgt := 80) hx hb dX3_tell_1 (by rw [c_21] <;> decide) (by rw [c_21] <;> decide) (by rw [c_21] <;> rfl) (by decide) ?_
              refine lv_iconst (v := (0 : Int32)) hx hb dX3_tell_80 (by decide) ?_
              cases h
              exact ret _ _ _ _ dX3_tell_81 (by decide) hG
            · have h := ite_f h c_21
              rcases Decidable.em (x1 = (116 : Int32)) with c_22 | c_22
              · have h := ite_t h c_22
                refine lv_tableIn (off := 50) (tgt := 51) hx hb dX3_tell_1 (by rw [c_22] <;> decide) (by rw [c_22] <;> decide) (by rw [c_22] <;> rfl) (by decide) ?_
                refine lv_aload_n hx hb dX3_tell_51 rfl (lv_at hl 0 rfl) ?_
                refine lv_iload_n hx hb dX3_tell_52 rfl (lv_at hl 2 rfl) ?_
                refine lv_iload_n hx hb dX3_tell_53 rfl (lv_at hl 3 rfl) ?_
                refine lv_iload hx hb dX3_tell_54 (lv_at hl 4 rfl) ?_
                refine lv_iload hx hb dX3_tell_56 (lv_at hl 5 rfl) ?_
                obtain ⟨r_23, k_thrown_cells_24, k_thrown_filled_25, hz_26, h⟩ := bd3_some h
                refine aft_i1 (run_V1 (rest := []) X hG hl.1 (mX3_tellThrow l dC dI cI cJ a0 a1 a2 a3 a4 c_stand c_home c_priceStart c_priceStep c_thrown_cells c_thrown_filled c_nets_cells c_nets_filled x2 x3 x4 x5 hz_26) gi_V_X3_50 hd_V_yX3_tellThrow ⟨rfl, rfl⟩ rfl ⟨Nat.le_of_ble_eq_true rfl, Nat.le_of_ble_eq_true rfl⟩ 0 rfl rfl rfl rfl (Nat.le_of_ble_eq_true rfl) ⟨Nat.le_of_ble_eq_true rfl, Nat.le_of_ble_eq_true rfl⟩ dX3_tell_58) hG rfl (fun H locs hG => ?_)
                clear hz_26
                obtain ⟨g_27, h⟩ := gd h
                cases h
                exact ret _ _ _ _ dX3_tell_61 (Decidable.not_not.mp g_27) hG
              · have h := ite_f h c_22
                refine lv_tableOut (tgt := 80) hx hb dX3_tell_1 (by have := lv_neT c_1 (a := 110) rfl; have := lv_neT c_7 (a := 111) rfl; have := lv_neT c_8 (a := 112) rfl; have := lv_neT c_14 (a := 113) rfl; have := lv_neT c_15 (a := 114) rfl; have := lv_neT c_21 (a := 115) rfl; have := lv_neT c_22 (a := 116) rfl; omega) (by decide) ?_
                refine lv_iconst (v := (0 : Int32)) hx hb dX3_tell_80 (by decide) ?_
                cases h
                exact ret _ _ _ _ dX3_tell_81 (by decide) hG
set_option maxRecDepth 100000 in
set_option maxHeartbeats 4000000 in
theorem mX6_signAt (l : Launch) (dC : Nat → ClassId) (dI : Nat → Nat → Nat) (cI cJ : ClassId) (a0 a1 : Nat) (c_bytes : Nat → Int32) (c_length : Int32) (x1 : Int32) {res : Int32} (hD : DX6_signAt x1 c_bytes c_length = some res) : Met l yX6_signAt (WZ yX6_signAt cX6_signAt 2 (some .int)) (RM 1 21) (PC dC dI cI cJ [.ref a0, .int x1] (W_X6 a0 a1 cI cJ c_bytes c_length)) (QI dC dI (W_X6 a0 a1 cI cJ c_bytes c_length) (W_X6 a0 a1 cI cJ c_bytes c_length) res) 0 0 (FA (W_X6 a0 a1 cI cJ c_bytes c_length)) := by
  refine r_metI (by decide +kernel) (Nat.le_of_ble_eq_true rfl) ?_
  intro p e s m args below meth c A H0 QQ X ret ls hl hG
  have X : Cx p m c cX6_signAt 2 s args RX6 dC dI cI cJ meth (some .int) := X
  have hx := X.1.1
  have hb := X.1.2.1
  have hl : lv_has ls 2 [(0, .ref a0), (1, .int x1)] := hl
  have h := hD
  unfold DX6_signAt at h
  clear hD
  refine lv_iload_n hx hb dX6_signAt_0 rfl (lv_at hl 1 rfl) ?_
  refine lv_if_lt (tgt := 23) hx hb dX6_signAt_1 (by decide) (fun c_1 => ?_) (fun c_1 => ?_)
  · have h := ite_t h c_1
    refine lv_iconst (v := (-1 : Int32)) hx hb dX6_signAt_23 (by decide) ?_
    cases h
    exact ret _ _ _ _ dX6_signAt_24 hG
  · have h := ite_f h c_1
    refine lv_iload_n hx hb dX6_signAt_4 rfl (lv_at hl 1 rfl) ?_
    refine lv_aload_n hx hb dX6_signAt_5 rfl (lv_at hl 0 rfl) ?_
    refine r_get X hG in_X6 rfl 1 (by decide) w_69 0 rfl rfl dX6_signAt_6 ?_
    refine lv_icmp_ge (tgt := 23) hx hb dX6_signAt_9 (by decide) (fun c_2 => ?_) (fun c_2 => ?_)
    · have h := ite_t h c_2
      refine lv_iconst (v := (-1 : Int32)) hx hb dX6_signAt_23 (by decide) ?_
      cases h
      exact ret _ _ _ _ dX6_signAt_24 hG
    · have h := ite_f h c_2
      refine lv_aload_n hx hb dX6_signAt_12 rfl (lv_at hl 0 rfl) ?_
      refine r_get X hG in_X6 rfl 0 (by decide) w_68 0 rfl rfl dX6_signAt_13 ?_
      refine lv_iload_n hx hb dX6_signAt_16 rfl (lv_at hl 1 rfl) ?_
      obtain ⟨r_3, hz_4, h⟩ := bd1_some h
      refine aft_i (ws' := (W_X6 a0 a1 cI cJ c_bytes c_length)) (run_SN (rest := []) X hG hl.1 (mX8_at l dC dI cI cJ a1 300 c_bytes x1 hz_4) gi_N_yX8_at w_295 w_296 w_41 hd_S_yX8_at ⟨rfl, rfl⟩ rfl ⟨Nat.le_of_ble_eq_true rfl, Nat.le_of_ble_eq_true rfl⟩ [1] (by decide) rfl rfl (Nat.le_of_ble_eq_true rfl) ⟨Nat.le_of_ble_eq_true rfl, Nat.le_of_ble_eq_true rfl⟩ dX6_signAt_17) hG [1] rfl rfl rfl (fun H locs hG => ?_)
      clear hz_4
      refine lv_goto (tgt := 24) hx hb dX6_signAt_20 (by decide) ?_
      cases h
      exact ret _ _ _ _ dX6_signAt_24 hG
set_option maxRecDepth 100000 in
set_option maxHeartbeats 4000000 in
theorem mX4_numbersBehind (l : Launch) (dC : Nat → ClassId) (dI : Nat → Nat → Nat) (cI cJ : ClassId) (x0 : Int32) {res : Int32} (hD : DX4_numbersBehind x0 = some res) : Met l yX4_numbersBehind (WZ yX4_numbersBehind cX4_numbersBehind 1 (some .int)) (RM 0 0) (PC dC dI cI cJ [.int x0] []) (QI dC dI [] [] res) 0 0 (FA []) := by
  refine r_metI (by decide +kernel) (Nat.le_of_ble_eq_true rfl) ?_
  intro p e s m args below meth c A H0 QQ X ret ls hl hG
  have X : Cx p m c cX4_numbersBehind 1 s args RX4 dC dI cI cJ meth (some .int) := X
  have hx := X.1.1
  have hb := X.1.2.1
  have hl : lv_has ls 1 [(0, .int x0)] := hl
  have h := hD
  unfold DX4_numbersBehind at h
  clear hD
  refine lv_iload_n hx hb dX4_numbersBehind_0 rfl (lv_at hl 0 rfl) ?_
  rcases Decidable.em (x0 = (110 : Int32)) with c_1 | c_1
  · have h := ite_t h c_1
    refine lv_tableIn (off := 45) (tgt := 46) hx hb dX4_numbersBehind_1 (by rw [c_1] <;> decide) (by rw [c_1] <;> decide) (by rw [c_1] <;> rfl) (by decide) ?_
    refine lv_iconst (v := (4 : Int32)) hx hb dX4_numbersBehind_46 (by decide) ?_
    cases h
    exact ret _ _ _ _ dX4_numbersBehind_47 hG
  · have h := ite_f h c_1
    rcases Decidable.em (x0 = (111 : Int32)) with c_2 | c_2
    · have h := ite_t h c_2
      refine lv_tableIn (off := 47) (tgt := 48) hx hb dX4_numbersBehind_1 (by rw [c_2] <;> decide) (by rw [c_2] <;> decide) (by rw [c_2] <;> rfl) (by decide) ?_
      refine lv_iconst (v := (0 : Int32)) hx hb dX4_numbersBehind_48 (by decide) ?_
      cases h
      exact ret _ _ _ _ dX4_numbersBehind_49 hG
    · have h := ite_f h c_2
      rcases Decidable.em (x0 = (112 : Int32)) with c_3 | c_3
      · have h := ite_t h c_3
        refine lv_tableIn (off := 43) (tgt := 44) hx hb dX4_numbersBehind_1 (by rw [c_3] <;> decide) (by rw [c_3] <;> decide) (by rw [c_3] <;> rfl) (by decide) ?_
        refine lv_iconst (v := (2 : Int32)) hx hb dX4_numbersBehind_44 (by decide) ?_
        cases h
        exact ret _ _ _ _ dX4_numbersBehind_45 hG
      · have h := ite_f h c_3
        rcases Decidable.em (x0 = (113 : Int32)) with c_4 | c_4
        · have h := ite_t h c_4
          refine lv_tableIn (off := 47) (tgt := 48) hx hb dX4_numbersBehind_1 (by rw [c_4] <;> decide) (by rw [c_4] <;> decide) (by rw [c_4] <;> rfl) (by decide) ?_
          refine lv_iconst (v := (0 : Int32)) hx hb dX4_numbersBehind_48 (by decide) ?_
          cases h
          exact ret _ _ _ _ dX4_numbersBehind_49 hG
        · have h := ite_f h c_4
          rcases Decidable.em (x0 = (114 : Int32)) with c_5 | c_5
          · have h := ite_t h c_5
            refine lv_tableIn (off := 43) (tgt := 44) hx hb dX4_numbersBehind_1 (by rw [c_5] <;> decide) (by rw [c_5] <;> decide) (by rw [c_5] <;> rfl) (by decide) ?_
            refine lv_iconst (v := (2 : Int32)) hx hb dX4_numbersBehind_44 (by decide) ?_
            cases h
            exact ret _ _ _ _ dX4_numbersBehind_45 hG
          · have h := ite_f h c_5
            rcases Decidable.em (x0 = (115 : Int32)) with c_6 | c_6
            · have h := ite_t h c_6
              refine lv_tableIn (off := 47) (tgt := 48) hx hb dX4_numbersBehind_1 (by rw [c_6] <;> decide) (by rw [c_6] <;> decide) (by rw [c_6] <;> rfl) (by decide) ?_
              refine lv_iconst (v := (0 : Int32)) hx hb dX4_numbersBehind_48 (by decide) ?_
              cases h
              exact ret _ _ _ _ dX4_numbersBehind_49 hG
            · have h := ite_f h c_6
              rcases Decidable.em (x0 = (116 : Int32)) with c_7 | c_7
              · have h := ite_t h c_7
                refine lv_tableIn (off := 45) (tgt := 46) hx hb dX4_numbersBehind_1 (by rw [c_7] <;> decide) (by rw [c_7] <;> decide) (by rw [c_7] <;> rfl) (by decide) ?_
                refine lv_iconst (v := (4 : Int32)) hx hb dX4_numbersBehind_46 (by decide) ?_
                cases h
                exact ret _ _ _ _ dX4_numbersBehind_47 hG
              · have h := ite_f h c_7
                refine lv_tableOut (tgt := 48) hx hb dX4_numbersBehind_1 (by have := lv_neT c_1 (a := 110) rfl; have := lv_neT c_2 (a := 111) rfl; have := lv_neT c_3 (a := 112) rfl; have := lv_neT c_4 (a := 113) rfl; have := lv_neT c_5 (a := 114) rfl; have := lv_neT c_6 (a := 115) rfl; have := lv_neT c_7 (a := 116) rfl; omega) (by decide) ?_
                refine lv_iconst (v := (0 : Int32)) hx hb dX4_numbersBehind_48 (by decide) ?_
                cases h
                exact ret _ _ _ _ dX4_numbersBehind_49 hG
set_option maxRecDepth 100000 in
set_option maxHeartbeats 4000000 in
theorem mX4_isFigure (l : Launch) (dC : Nat → ClassId) (dI : Nat → Nat → Nat) (cI cJ : ClassId) (x0 : Int32) {res : Int32} (hD : DX4_isFigure x0 = some res) : Met l yX4_isFigure (WZ yX4_isFigure cX4_isFigure 1 (some .boolean)) (RM 0 0) (PC dC dI cI cJ [.int x0] []) (QI dC dI [] [] res) 0 0 (FA []) := by
  refine r_metZ (by decide +kernel) (Nat.le_of_ble_eq_true rfl) ?_
  intro p e s m args below meth c A H0 QQ X ret ls hl hG
  have X : Cx p m c cX4_isFigure 1 s args RX4 dC dI cI cJ meth (some .boolean) := X
  have hx := X.1.1
  have hb := X.1.2.1
  have hl : lv_has ls 1 [(0, .int x0)] := hl
  have h := hD
  unfold DX4_isFigure at h
  clear hD
  refine lv_iload_n hx hb dX4_isFigure_0 rfl (lv_at hl 0 rfl) ?_
  refine lv_bipush (v := (48 : Int32)) hx hb dX4_isFigure_1 (by decide) ?_
  refine lv_icmp_lt (tgt := 16) hx hb dX4_isFigure_3 (by decide) (fun c_1 => ?_) (fun c_1 => ?_)
  · have h := ite_t h c_1
    refine lv_iconst (v := (0 : Int32)) hx hb dX4_isFigure_16 (by decide) ?_
    cases h
    exact ret _ _ _ _ dX4_isFigure_17 (by decide) hG
  · have h := ite_f h c_1
    refine lv_iload_n hx hb dX4_isFigure_6 rfl (lv_at hl 0 rfl) ?_
    refine lv_bipush (v := (57 : Int32)) hx hb dX4_isFigure_7 (by decide) ?_
    refine lv_icmp_gt (tgt := 16) hx hb dX4_isFigure_9 (by decide) (fun c_2 => ?_) (fun c_2 => ?_)
    · have h := ite_t h c_2
      refine lv_iconst (v := (0 : Int32)) hx hb dX4_isFigure_16 (by decide) ?_
      cases h
      exact ret _ _ _ _ dX4_isFigure_17 (by decide) hG
    · have h := ite_f h c_2
      refine lv_iconst (v := (1 : Int32)) hx hb dX4_isFigure_12 (by decide) ?_
      refine lv_goto (tgt := 17) hx hb dX4_isFigure_13 (by decide) ?_
      cases h
      exact ret _ _ _ _ dX4_isFigure_17 (by decide) hG
set_option maxRecDepth 100000 in
set_option maxHeartbeats 4000000 in
theorem mX4_readNumber (l : Launch) (dC : Nat → ClassId) (dI : Nat → Nat → Nat) (cI cJ : ClassId) (a0 a1 a2 a3 : Nat) (c_numbers : Nat → Int32) (c_next : Int32) (o_bytes : Nat → Int32) (o_length : Int32) (x2 : Int32) {res : Int32} {n_numbers : Nat → Int32} {n_next : Int32} (hD : DX4_readNumber x2 c_numbers c_next o_bytes o_length = some (res, n_numbers, n_next)) : Met l yX4_readNumber (WZ yX4_readNumber cX4_readNumber 4 (some .boolean)) (RM 2 42) (PC dC dI cI cJ [.ref a0, .ref a2, .int x2] (W_X4_X6 a0 a1 a2 a3 cI cJ c_numbers c_next o_bytes o_length)) (QI dC dI (W_X4_X6 a0 a1 a2 a3 cI cJ c_numbers c_next o_bytes o_length) (W_X4_X6 a0 a1 a2 a3 cI cJ n_numbers n_next o_bytes o_length) res) 0 0 (FA (W_X4_X6 a0 a1 a2 a3 cI cJ c_numbers c_next o_bytes o_length)) := by
  refine r_metZ (by decide +kernel) (Nat.le_of_ble_eq_true rfl) ?_
  intro p e s m args below meth c A H0 QQ X ret ls hl hG
  have X : Cx p m c cX4_readNumber 4 s args RX4 dC dI cI cJ meth (some .boolean) := X
  have hx := X.1.1
  have hb := X.1.2.1
  have hl : lv_has ls 4 [(0, .ref a0), (1, .ref a2), (2, .int x2)] := hl
  have h := hD
  unfold DX4_readNumber at h
  clear hD
  refine lv_aload_n hx hb dX4_readNumber_0 rfl (lv_at hl 1 rfl) ?_
  refine lv_aload_n hx hb dX4_readNumber_1 rfl (lv_at hl 0 rfl) ?_
  refine r_get X hG in_X4 rfl 1 (by decide) w_85 0 rfl rfl dX4_readNumber_2 ?_
  obtain ⟨r_1, hz_2, h⟩ := bd1_some h
  refine aft_i (ws' := (W_X4_X6 a0 a1 a2 a3 cI cJ c_numbers c_next o_bytes o_length)) (run_V (rest := []) X hG hl.1 (mX6_signAt l dC dI cI cJ a2 a3 o_bytes o_length c_next hz_2) gi_V_X4_33 hd_V_yX6_signAt ⟨rfl, rfl⟩ rfl ⟨Nat.le_of_ble_eq_true rfl, Nat.le_of_ble_eq_true rfl⟩ [2, 3] (by decide) rfl 2 rfl rfl rfl rfl (Nat.le_of_ble_eq_true rfl) ⟨Nat.le_of_ble_eq_true rfl, Nat.le_of_ble_eq_true rfl⟩ dX4_readNumber_5) hG [2, 3] rfl rfl rfl (fun H locs hG => ?_)
  clear hz_2
  obtain ⟨r_3, hz_4, h⟩ := bd1_some h
  refine aft_i (ws' := (W_X4_X6 a0 a1 a2 a3 cI cJ c_numbers c_next o_bytes o_length)) (run_S (rest := []) X hG hl.1 (mX4_isFigure l dC dI cI cJ r_1 hz_4) gi_S_X4_52 hd_S_yX4_isFigure ⟨rfl, rfl⟩ rfl ⟨Nat.le_of_ble_eq_true rfl, Nat.le_of_ble_eq_true rfl⟩ [] (by decide) rfl rfl (Nat.le_of_ble_eq_true rfl) ⟨Nat.le_of_ble_eq_true rfl, Nat.le_of_ble_eq_true rfl⟩ dX4_readNumber_8) hG [] rfl rfl rfl (fun H locs hG => ?_)
  clear hz_4
  refine lv_if_ne (tgt := 16) hx hb dX4_readNumber_11 (by decide) (fun c_5 => ?_) (fun c_5 => ?_)
  · have h := ite_f h c_5
    refine lv_aload_n hx hb dX4_readNumber_16 rfl (lv_at hl 1 rfl) ?_
    refine lv_aload_n hx hb dX4_readNumber_17 rfl (lv_at hl 0 rfl) ?_
    refine r_get X hG in_X4 rfl 1 (by decide) w_85 0 rfl rfl dX4_readNumber_18 ?_
    obtain ⟨r_6, hz_7, h⟩ := bd1_some h
    refine aft_i (ws' := (W_X4_X6 a0 a1 a2 a3 cI cJ c_numbers c_next o_bytes o_length)) (run_V (rest := []) X hG hl.1 (mX6_signAt l dC dI cI cJ a2 a3 o_bytes o_length c_next hz_7) gi_V_X4_33 hd_V_yX6_signAt ⟨rfl, rfl⟩ rfl ⟨Nat.le_of_ble_eq_true rfl, Nat.le_of_ble_eq_true rfl⟩ [2, 3] (by decide) rfl 2 rfl rfl rfl rfl (Nat.le_of_ble_eq_true rfl) ⟨Nat.le_of_ble_eq_true rfl, Nat.le_of_ble_eq_true rfl⟩ dX4_readNumber_21) hG [2, 3] rfl rfl rfl (fun H locs hG => ?_)
    clear hz_7
    refine lv_bipush (v := (48 : Int32)) hx hb dX4_readNumber_24 (by decide) ?_
    refine lv_isub hx hb dX4_readNumber_26 ?_
    refine lv_istore_n (lv' := [(3, .int (r_6 - (48 : Int32))), (0, .ref a0), (1, .ref a2), (2, .int x2)]) hx hb dX4_readNumber_27 rfl hl (by decide) rfl (fun ls hl => ?_)
    refine lv_aload_n hx hb dX4_readNumber_28 rfl (lv_at hl 1 rfl) ?_
    refine lv_dup hx hb dX4_readNumber_29 rfl ?_
    refine r_get X hG in_X4 rfl 1 (by decide) w_85 0 rfl rfl dX4_readNumber_30 ?_
    refine lv_iconst (v := (1 : Int32)) hx hb dX4_readNumber_33 (by decide) ?_
    refine lv_iadd hx hb dX4_readNumber_34 ?_
    refine r_put X hG in_X4 rfl tyX4 tyX4_ok nmX4 1 (by decide) rfl (by decide +kernel) w_85 0 (ws' := (W_X4_X6 a0 a1 a2 a3 cI cJ c_numbers (c_next + (1 : Int32)) o_bytes o_length)) rfl (Nat.le_of_ble_eq_true rfl) rfl dX4_readNumber_35 (fun H locs hG => ?_)
    refine lv_aload_n hx hb dX4_readNumber_38 rfl (lv_at hl 2 rfl) ?_
    refine lv_aload_n hx hb dX4_readNumber_39 rfl (lv_at hl 1 rfl) ?_
    refine r_get X hG in_X4 rfl 1 (by decide) w_85 0 rfl rfl dX4_readNumber_40 ?_
    obtain ⟨r_8, hz_9, h⟩ := bd1_some h
    refine aft_i (ws' := (W_X4_X6 a0 a1 a2 a3 cI cJ c_numbers (c_next + (1 : Int32)) o_bytes o_length)) (run_V (rest := []) X hG hl.1 (mX6_signAt l dC dI cI cJ a2 a3 o_bytes o_length (c_next + (1 : Int32)) hz_9) gi_V_X4_33 hd_V_yX6_signAt ⟨rfl, rfl⟩ rfl ⟨Nat.le_of_ble_eq_true rfl, Nat.le_of_ble_eq_true rfl⟩ [2, 3] (by decide) rfl 2 rfl rfl rfl rfl (Nat.le_of_ble_eq_true rfl) ⟨Nat.le_of_ble_eq_true rfl, Nat.le_of_ble_eq_true rfl⟩ dX4_readNumber_43) hG [2, 3] rfl rfl rfl (fun H locs hG => ?_)
    clear hz_9
    obtain ⟨r_10, hz_11, h⟩ := bd1_some h
    refine aft_i (ws' := (W_X4_X6 a0 a1 a2 a3 cI cJ c_numbers (c_next + (1 : Int32)) o_bytes o_length)) (run_S (rest := []) X hG hl.1 (mX4_isFigure l dC dI cI cJ r_8 hz_11) gi_S_X4_52 hd_S_yX4_isFigure ⟨rfl, rfl⟩ rfl ⟨Nat.le_of_ble_eq_true rfl, Nat.le_of_ble_eq_true rfl⟩ [] (by decide) rfl rfl (Nat.le_of_ble_eq_true rfl) ⟨Nat.le_of_ble_eq_true rfl, Nat.le_of_ble_eq_true rfl⟩ dX4_readNumber_46) hG [] rfl rfl rfl (fun H locs hG => ?_)
    clear hz_11
    refine lv_if_eq (tgt := 79) hx hb dX4_readNumber_49 (by decide) (fun c_12 => ?_) (fun c_12 => ?_)
    · have h := ite_t h c_12
      refine lv_aload_n hx hb dX4_readNumber_79 rfl (lv_at hl 1 rfl) ?_
      refine r_get X hG in_X4 rfl 0 (by decide) w_84 0 rfl rfl dX4_readNumber_80 ?_
      refine lv_iload_n hx hb dX4_readNumber_83 rfl (lv_at hl 3 rfl) ?_
      refine lv_iload_n hx hb dX4_readNumber_84 rfl (lv_at hl 0 rfl) ?_
      obtain ⟨k_numbers_13, hz_14, h⟩ := bd1_some h
      refine aft_v (ws' := (W_X4_X6 a0 a1 a2 a3 cI cJ k_numbers_13 (c_next + (1 : Int32)) o_bytes o_length)) (run_SN (rest := []) X hG hl.1 (mX8_put l dC dI cI cJ a1 4 c_numbers x2 (r_6 - (48 : Int32)) hz_14) gi_N_yX8_put w_308 w_272 w_41 hd_S_yX8_put ⟨rfl, rfl⟩ rfl ⟨Nat.le_of_ble_eq_true rfl, Nat.le_of_ble_eq_true rfl⟩ [1] (by decide) rfl rfl (Nat.le_of_ble_eq_true rfl) ⟨Nat.le_of_ble_eq_true rfl, Nat.le_of_ble_eq_true rfl⟩ dX4_readNumber_85) hG [1] rfl rfl rfl (fun H locs hG => ?_)
      clear hz_14
      refine lv_iconst (v := (1 : Int32)) hx hb dX4_readNumber_88 (by decide) ?_
      cases h
      exact ret _ _ _ _ dX4_readNumber_89 (by decide) hG
    · have h := ite_f h c_12
      refine lv_bipush (v := (10 : Int32)) hx hb dX4_readNumber_52 (by decide) ?_
      refine lv_iload_n hx hb dX4_readNumber_54 rfl (lv_at hl 0 rfl) ?_
      refine lv_imul hx hb dX4_readNumber_55 ?_
      refine lv_aload_n hx hb dX4_readNumber_56 rfl (lv_at hl 2 rfl) ?_
      refine lv_aload_n hx hb dX4_readNumber_57 rfl (lv_at hl 1 rfl) ?_
      refine r_get X hG in_X4 rfl 1 (by decide) w_85 0 rfl rfl dX4_readNumber_58 ?_
      obtain ⟨r_15, hz_16, h⟩ := bd1_some h
      refine aft_i (ws' := (W_X4_X6 a0 a1 a2 a3 cI cJ c_numbers (c_next + (1 : Int32)) o_bytes o_length)) (run_V (rest := [.int ((10 : Int32) * (r_6 - (48 : Int32)))]) X hG hl.1 (mX6_signAt l dC dI cI cJ a2 a3 o_bytes o_length (c_next + (1 : Int32)) hz_16) gi_V_X4_33 hd_V_yX6_signAt ⟨rfl, rfl⟩ rfl ⟨Nat.le_of_ble_eq_true rfl, Nat.le_of_ble_eq_true rfl⟩ [2, 3] (by decide) rfl 2 rfl rfl rfl rfl (Nat.le_of_ble_eq_true rfl) ⟨Nat.le_of_ble_eq_true rfl, Nat.le_of_ble_eq_true rfl⟩ dX4_readNumber_61) hG [2, 3] rfl rfl rfl (fun H locs hG => ?_)
      clear hz_16
      refine lv_iadd hx hb dX4_readNumber_64 ?_
      refine lv_bipush (v := (48 : Int32)) hx hb dX4_readNumber_65 (by decide) ?_
      refine lv_isub hx hb dX4_readNumber_67 ?_
      refine lv_istore_n (lv' := [(3, .int ((((10 : Int32) * (r_6 - (48 : Int32))) + r_15) - (48 : Int32))), (0, .ref a0), (1, .ref a2), (2, .int x2)]) hx hb dX4_readNumber_68 rfl hl (by decide) rfl (fun ls hl => ?_)
      refine lv_aload_n hx hb dX4_readNumber_69 rfl (lv_at hl 1 rfl) ?_
      refine lv_dup hx hb dX4_readNumber_70 rfl ?_
      refine r_get X hG in_X4 rfl 1 (by decide) w_85 0 rfl rfl dX4_readNumber_71 ?_
      refine lv_iconst (v := (1 : Int32)) hx hb dX4_readNumber_74 (by decide) ?_
      refine lv_iadd hx hb dX4_readNumber_75 ?_
      refine r_put X hG in_X4 rfl tyX4 tyX4_ok nmX4 1 (by decide) rfl (by decide +kernel) w_85 0 (ws' := (W_X4_X6 a0 a1 a2 a3 cI cJ c_numbers ((c_next + (1 : Int32)) + (1 : Int32)) o_bytes o_length)) rfl (Nat.le_of_ble_eq_true rfl) rfl dX4_readNumber_76 (fun H locs hG => ?_)
      refine lv_aload_n hx hb dX4_readNumber_79 rfl (lv_at hl 1 rfl) ?_
      refine r_get X hG in_X4 rfl 0 (by decide) w_84 0 rfl rfl dX4_readNumber_80 ?_
      refine lv_iload_n hx hb dX4_readNumber_83 rfl (lv_at hl 3 rfl) ?_
      refine lv_iload_n hx hb dX4_readNumber_84 rfl (lv_at hl 0 rfl) ?_
      obtain ⟨k_numbers_17, hz_18, h⟩ := bd1_some h
      refine aft_v (ws' := (W_X4_X6 a0 a1 a2 a3 cI cJ k_numbers_17 ((c_next + (1 : Int32)) + (1 : Int32)) o_bytes o_length)) (run_SN (rest := []) X hG hl.1 (mX8_put l dC dI cI cJ a1 4 c_numbers x2 ((((10 : Int32) * (r_6 - (48 : Int32))) + r_15) - (48 : Int32)) hz_18) gi_N_yX8_put w_308 w_272 w_41 hd_S_yX8_put ⟨rfl, rfl⟩ rfl ⟨Nat.le_of_ble_eq_true rfl, Nat.le_of_ble_eq_true rfl⟩ [1] (by decide) rfl rfl (Nat.le_of_ble_eq_true rfl) ⟨Nat.le_of_ble_eq_true rfl, Nat.le_of_ble_eq_true rfl⟩ dX4_readNumber_85) hG [1] rfl rfl rfl (fun H locs hG => ?_)
      clear hz_18
      refine lv_iconst (v := (1 : Int32)) hx hb dX4_readNumber_88 (by decide) ?_
      cases h
      exact ret _ _ _ _ dX4_readNumber_89 (by decide) hG
  · have h := ite_t h c_5
    refine lv_iconst (v := (0 : Int32)) hx hb dX4_readNumber_14 (by decide) ?_
    cases h
    exact ret _ _ _ _ dX4_readNumber_15 (by decide) hG
set_option maxRecDepth 100000 in
set_option maxHeartbeats 4000000 in
theorem mX4_readItem (l : Launch) (dC : Nat → ClassId) (dI : Nat → Nat → Nat) (cI cJ : ClassId) (a0 a1 a2 a3 a4 a5 a6 a7 a8 : Nat) (c_numbers : Nat → Int32) (c_next : Int32) (o_bytes : Nat → Int32) (o_length : Int32) (o_stand : Int32) (o_home : Int32) (o_priceStart : Int32) (o_priceStep : Int32) (o_thrown_cells : Nat → Int32) (o_thrown_filled : Int32) (o_nets_cells : Nat → Int32) (o_nets_filled : Int32) {res : Int32} {n_numbers : Nat → Int32} {n_next : Int32} {n_stand : Int32} {n_home : Int32} {n_priceStart : Int32} {n_priceStep : Int32} {n_thrown_cells : Nat → Int32} {n_thrown_filled : Int32} {n_nets_cells : Nat → Int32} {n_nets_filled : Int32} (hD : DX4_readItem c_numbers c_next o_bytes o_length o_stand o_home o_priceStart o_priceStep o_thrown_cells o_thrown_filled o_nets_cells o_nets_filled = some (res, n_numbers, n_next, n_stand, n_home, n_priceStart, n_priceStep, n_thrown_cells, n_thrown_filled, n_nets_cells, n_nets_filled)) : Met l yX4_readItem (WZ yX4_readItem cX4_readItem 7 (some .boolean)) (RM 4 96) (PC dC dI cI cJ [.ref a0, .ref a2, .ref a4] (W_X4_X6_X3 a0 a1 a2 a3 a4 a5 a6 a7 a8 cI cJ c_numbers c_next o_bytes o_length o_stand o_home o_priceStart o_priceStep o_thrown_cells o_thrown_filled o_nets_cells o_nets_filled)) (QI dC dI (W_X4_X6_X3 a0 a1 a2 a3 a4 a5 a6 a7 a8 cI cJ c_numbers c_next o_bytes o_length o_stand o_home o_priceStart o_priceStep o_thrown_cells o_thrown_filled o_nets_cells o_nets_filled) (W_X4_X6_X3 a0 a1 a2 a3 a4 a5 a6 a7 a8 cI cJ n_numbers n_next o_bytes o_length n_stand n_home n_priceStart n_priceStep n_thrown_cells n_thrown_filled n_nets_cells n_nets_filled) res) 0 0 (FA (W_X4_X6_X3 a0 a1 a2 a3 a4 a5 a6 a7 a8 cI cJ c_numbers c_next o_bytes o_length o_stand o_home o_priceStart o_priceStep o_thrown_cells o_thrown_filled o_nets_cells o_nets_filled)) := by
  refine r_metZ (by decide +kernel) (Nat.le_of_ble_eq_true rfl) ?_
  intro p e s m args below meth c A H0 QQ X ret ls hl hG
  have X : Cx p m c cX4_readItem 7 s args RX4 dC dI cI cJ meth (some .boolean) := X
  have hx := X.1.1
  have hb := X.1.2.1
  have hl : lv_has ls 7 [(0, .ref a0), (1, .ref a2), (2, .ref a4)] := hl
  have J51 : ∀ (y0 : Int32) (x3 : Int32) (x4 : Int32) (x5 : Int32) (c_numbers : Nat → Int32) (c_next : Int32) (o_stand : Int32) (o_home : Int32) (o_priceStart : Int32) (o_priceStep : Int32) (o_thrown_cells : Nat → Int32) (o_thrown_filled : Int32) (o_nets_cells : Nat → Int32) (o_nets_filled : Int32), ∀ (w : (Int32 × (Nat → Int32) × Int32) ⊕ (((Nat → Int32) × Int32) ⊕ (Int32 × (Nat → Int32) × Int32 × Int32 × Int32 × Int32 × Int32 × (Nat → Int32) × Int32 × (Nat → Int32) × Int32))), DX4_readItem_J51 c_numbers c_next o_bytes o_length o_stand o_home o_priceStart o_priceStep o_thrown_cells o_thrown_filled o_nets_cells o_nets_filled y0 x5 = some w → (∀ (x5 : Int32) (c_numbers : Nat → Int32) (c_next : Int32), w = .inl (x5, c_numbers, c_next) → ∀ (ls : Array Slot) (H : Heap) (locs : List Loc), lv_has ls 7 [(0, .ref a0), (1, .ref a2), (2, .ref a4), (3, .int x3), (4, .int x4), (5, .int x5)] → G dC dI A H0 (W_X4_X6_X3 a0 a1 a2 a3 a4 a5 a6 a7 a8 cI cJ c_numbers c_next o_bytes o_length o_stand o_home o_priceStart o_priceStep o_thrown_cells o_thrown_filled o_nets_cells o_nets_filled) H locs → W p l e (RM 4 96) s m args below meth c H locs 0 0 QQ (F0 m 28 ls [])) → (∀ (c_numbers : Nat → Int32) (c_next : Int32), w = .inr (.inl (c_numbers, c_next)) → ∀ (ls : Array Slot) (H : Heap) (locs : List Loc), lv_has ls 7 [(0, .ref a0), (2, .ref a4), (3, .int x3)] → G dC dI A H0 (W_X4_X6_X3 a0 a1 a2 a3 a4 a5 a6 a7 a8 cI cJ c_numbers c_next o_bytes o_length o_stand o_home o_priceStart o_priceStep o_thrown_cells o_thrown_filled o_nets_cells o_nets_filled) H locs → W p l e (RM 4 96) s m args below meth c H locs 0 0 QQ (F0 m 94 ls [])) → (∀ (r : Int32 × (Nat → Int32) × Int32 × Int32 × Int32 × Int32 × Int32 × (Nat → Int32) × Int32 × (Nat → Int32) × Int32), w = .inr (.inr r) → r = (res, n_numbers, n_next, n_stand, n_home, n_priceStart, n_priceStep, n_thrown_cells, n_thrown_filled, n_nets_cells, n_nets_filled)) → ∀ (ls : Array Slot) (H : Heap) (locs : List Loc), lv_has ls 7 [(0, .ref a0), (1, .ref a2), (2, .ref a4), (3, .int x3), (4, .int x4), (5, .int x5)] → G dC dI A H0 (W_X4_X6_X3 a0 a1 a2 a3 a4 a5 a6 a7 a8 cI cJ c_numbers c_next o_bytes o_length o_stand o_home o_priceStart o_priceStep o_thrown_cells o_thrown_filled o_nets_cells o_nets_filled) H locs → W p l e (RM 4 96) s m args below meth c H locs 0 0 QQ (F0 m 51 ls [.int y0]) := by
    intro y0 x3 x4 x5 c_numbers c_next o_stand o_home o_priceStart o_priceStep o_thrown_cells o_thrown_filled o_nets_cells o_nets_filled w h KC KX KR ls H locs hl hG
    unfold DX4_readItem_J51 at h
    refine lv_istore (lv' := [(6, .int y0), (0, .ref a0), (1, .ref a2), (2, .ref a4), (3, .int x3), (4, .int x4), (5, .int x5)]) hx hb dX4_readItem_51 hl (by decide) rfl (fun ls hl => ?_)
    refine lv_aload_n hx hb dX4_readItem_53 rfl (lv_at hl 1 rfl) ?_
    refine lv_aload_n hx hb dX4_readItem_54 rfl (lv_at hl 2 rfl) ?_
    refine lv_iload hx hb dX4_readItem_55 (lv_at hl 6 rfl) ?_
    obtain ⟨r_7, k_numbers_8, k_next_9, hz_10, h⟩ := bd3_some h
    refine aft_i (ws' := (W_X4_X6_X3 a0 a1 a2 a3 a4 a5 a6 a7 a8 cI cJ k_numbers_8 k_next_9 o_bytes o_length o_stand o_home o_priceStart o_priceStep o_thrown_cells o_thrown_filled o_nets_cells o_nets_filled)) (run_V (rest := []) X hG hl.1 (mX4_readNumber l dC dI cI cJ a0 a1 a2 a3 c_numbers c_next o_bytes o_length x5 hz_10) gi_V_X4_40 hd_V_yX4_readNumber ⟨rfl, rfl⟩ rfl ⟨Nat.le_of_ble_eq_true rfl, Nat.le_of_ble_eq_true rfl⟩ [0, 1, 2, 3] (by decide) rfl 0 rfl rfl rfl rfl (Nat.le_of_ble_eq_true rfl) ⟨Nat.le_of_ble_eq_true rfl, Nat.le_of_ble_eq_true rfl⟩ dX4_readItem_57) hG [0, 1, 2, 3] rfl rfl rfl (fun H locs hG => ?_)
    clear hz_10
    refine lv_if_eq (tgt := 76) hx hb dX4_readItem_60 (by decide) (fun c_11 => ?_) (fun c_11 => ?_)
    · have h := ite_t h c_11
      refine lv_iconst (v := (0 : Int32)) hx hb dX4_readItem_76 (by decide) ?_
      cases KR _ (Option.some.inj h).symm
      exact ret _ _ _ _ dX4_readItem_77 (by decide) hG
    · have h := ite_f h c_11
      refine lv_aload_n hx hb dX4_readItem_63 rfl (lv_at hl 2 rfl) ?_
      refine lv_aload_n hx hb dX4_readItem_64 rfl (lv_at hl 1 rfl) ?_
      refine r_get X hG in_X4 rfl 1 (by decide) w_85 0 rfl rfl dX4_readItem_65 ?_
      obtain ⟨r_12, hz_13, h⟩ := bd1_some h
      refine aft_i (ws' := (W_X4_X6_X3 a0 a1 a2 a3 a4 a5 a6 a7 a8 cI cJ k_numbers_8 k_next_9 o_bytes o_length o_stand o_home o_priceStart o_priceStep o_thrown_cells o_thrown_filled o_nets_cells o_nets_filled)) (run_V (rest := []) X hG hl.1 (mX6_signAt l dC dI cI cJ a2 a3 o_bytes o_length k_next_9 hz_13) gi_V_X4_33 hd_V_yX6_signAt ⟨rfl, rfl⟩ rfl ⟨Nat.le_of_ble_eq_true rfl, Nat.le_of_ble_eq_true rfl⟩ [2, 3] (by decide) rfl 2 rfl rfl rfl rfl (Nat.le_of_ble_eq_true rfl) ⟨Nat.le_of_ble_eq_true rfl, Nat.le_of_ble_eq_true rfl⟩ dX4_readItem_68) hG [2, 3] rfl rfl rfl (fun H locs hG => ?_)
      clear hz_13
      refine lv_iload hx hb dX4_readItem_71 (lv_at hl 0 rfl) ?_
      refine lv_icmp_eq (tgt := 78) hx hb dX4_readItem_73 (by decide) (fun c_14 => ?_) (fun c_14 => ?_)
      · have h := ite_t h c_14
        refine lv_aload_n hx hb dX4_readItem_78 rfl (lv_at hl 1 rfl) ?_
        refine lv_dup hx hb dX4_readItem_79 rfl ?_
        refine r_get X hG in_X4 rfl 1 (by decide) w_85 0 rfl rfl dX4_readItem_80 ?_
        refine lv_iconst (v := (1 : Int32)) hx hb dX4_readItem_83 (by decide) ?_
        refine lv_iadd hx hb dX4_readItem_84 ?_
        refine r_put X hG in_X4 rfl tyX4 tyX4_ok nmX4 1 (by decide) rfl (by decide +kernel) w_85 0 (ws' := (W_X4_X6_X3 a0 a1 a2 a3 a4 a5 a6 a7 a8 cI cJ k_numbers_8 (k_next_9 + (1 : Int32)) o_bytes o_length o_stand o_home o_priceStart o_priceStep o_thrown_cells o_thrown_filled o_nets_cells o_nets_filled)) rfl (Nat.le_of_ble_eq_true rfl) rfl dX4_readItem_85 (fun H locs hG => ?_)
        refine lv_iinc (v := (x5 + (1 : Int32))) (lv' := [(5, .int (x5 + (1 : Int32))), (6, .int y0), (0, .ref a0), (1, .ref a2), (2, .ref a4), (3, .int x3), (4, .int x4)]) hx hb dX4_readItem_88 hl (k := 6) rfl rfl (by decide) rfl (fun ls hl => ?_)
        refine lv_goto (tgt := 28) hx hb dX4_readItem_91 (by decide) ?_
        exact KC _ _ _ (Option.some.inj h).symm _ _ _ (lv_sub hl [2, 3, 4, 5, 6, 0] rfl) hG
      · have h := ite_f h c_14
        refine lv_iconst (v := (0 : Int32)) hx hb dX4_readItem_76 (by decide) ?_
        cases KR _ (Option.some.inj h).symm
        exact ret _ _ _ _ dX4_readItem_77 (by decide) hG
  have L28 : ∀ (x3 : Int32) (x4 : Int32) (o_stand : Int32) (o_home : Int32) (o_priceStart : Int32) (o_priceStep : Int32) (o_thrown_cells : Nat → Int32) (o_thrown_filled : Int32) (o_nets_cells : Nat → Int32) (o_nets_filled : Int32), ∀ (n : Nat) (x5 : Int32) (c_numbers : Nat → Int32) (c_next : Int32) (v : ((Nat → Int32) × Int32) ⊕ (Int32 × (Nat → Int32) × Int32 × Int32 × Int32 × Int32 × Int32 × (Nat → Int32) × Int32 × (Nat → Int32) × Int32)), DX4_readItem_L28 o_bytes o_length o_stand o_home o_priceStart o_priceStep o_thrown_cells o_thrown_filled o_nets_cells o_nets_filled x4 n x5 c_numbers c_next = some v → (∀ (ec_numbers : Nat → Int32) (ec_next : Int32), v = .inl (ec_numbers, ec_next) → ∀ (ls : Array Slot) (H : Heap) (locs : List Loc), lv_has ls 7 [(0, .ref a0), (2, .ref a4), (3, .int x3)] → G dC dI A H0 (W_X4_X6_X3 a0 a1 a2 a3 a4 a5 a6 a7 a8 cI cJ ec_numbers ec_next o_bytes o_length o_stand o_home o_priceStart o_priceStep o_thrown_cells o_thrown_filled o_nets_cells o_nets_filled) H locs → W p l e (RM 4 96) s m args below meth c H locs 0 0 QQ (F0 m 94 ls [])) → (∀ (r : Int32 × (Nat → Int32) × Int32 × Int32 × Int32 × Int32 × Int32 × (Nat → Int32) × Int32 × (Nat → Int32) × Int32), v = .inr r → r = (res, n_numbers, n_next, n_stand, n_home, n_priceStart, n_priceStep, n_thrown_cells, n_thrown_filled, n_nets_cells, n_nets_filled)) → ∀ (ls : Array Slot) (H : Heap) (locs : List Loc), lv_has ls 7 [(0, .ref a0), (1, .ref a2), (2, .ref a4), (3, .int x3), (4, .int x4), (5, .int x5)] → G dC dI A H0 (W_X4_X6_X3 a0 a1 a2 a3 a4 a5 a6 a7 a8 cI cJ c_numbers c_next o_bytes o_length o_stand o_home o_priceStart o_priceStep o_thrown_cells o_thrown_filled o_nets_cells o_nets_filled) H locs → W p l e (RM 4 96) s m args below meth c H locs 0 0 QQ (F0 m 28 ls []) := by
    intro x3 x4 o_stand o_home o_priceStart o_priceStep o_thrown_cells o_thrown_filled o_nets_cells o_nets_filled n
    induction n with
    | zero => intro x5 c_numbers c_next v h; exact it_zero h
    | succ n ih =>
      intro x5 c_numbers c_next v h0 K0 KR0 ls H locs hl hG
      obtain ⟨w, h, hi, hr⟩ := it_succ h0
      have h : DX4_readItem_L28s o_bytes o_length o_stand o_home o_priceStart o_priceStep o_thrown_cells o_thrown_filled o_nets_cells o_nets_filled x4 x5 c_numbers c_next = some w := h
      have KC : ∀ (x5 : Int32) (c_numbers : Nat → Int32) (c_next : Int32), w = .inl (x5, c_numbers, c_next) → ∀ (ls : Array Slot) (H : Heap) (locs : List Loc), lv_has ls 7 [(0, .ref a0), (1, .ref a2), (2, .ref a4), (3, .int x3), (4, .int x4), (5, .int x5)] → G dC dI A H0 (W_X4_X6_X3 a0 a1 a2 a3 a4 a5 a6 a7 a8 cI cJ c_numbers c_next o_bytes o_length o_stand o_home o_priceStart o_priceStep o_thrown_cells o_thrown_filled o_nets_cells o_nets_filled) H locs → W p l e (RM 4 96) s m args below meth c H locs 0 0 QQ (F0 m 28 ls []) := fun b0 b1 b2 e ls H locs hl hG => ih b0 b1 b2 v (hi _ e) K0 KR0 ls H locs hl hG
      have KX : ∀ (c_numbers : Nat → Int32) (c_next : Int32), w = .inr (.inl (c_numbers, c_next)) → ∀ (ls : Array Slot) (H : Heap) (locs : List Loc), lv_has ls 7 [(0, .ref a0), (2, .ref a4), (3, .int x3)] → G dC dI A H0 (W_X4_X6_X3 a0 a1 a2 a3 a4 a5 a6 a7 a8 cI cJ c_numbers c_next o_bytes o_length o_stand o_home o_priceStart o_priceStep o_thrown_cells o_thrown_filled o_nets_cells o_nets_filled) H locs → W p l e (RM 4 96) s m args below meth c H locs 0 0 QQ (F0 m 94 ls []) := fun b0 b1 e ls H locs hl hG => K0 b0 b1 (hr _ e) ls H locs hl hG
      have KR : ∀ (r : Int32 × (Nat → Int32) × Int32 × Int32 × Int32 × Int32 × Int32 × (Nat → Int32) × Int32 × (Nat → Int32) × Int32), w = .inr (.inr r) → r = (res, n_numbers, n_next, n_stand, n_home, n_priceStart, n_priceStep, n_thrown_cells, n_thrown_filled, n_nets_cells, n_nets_filled) := fun r e => KR0 r (hr _ e)
      clear h0 hi hr K0 ih KR0
      unfold DX4_readItem_L28s at h
      refine lv_iload hx hb dX4_readItem_28 (lv_at hl 5 rfl) ?_
      refine lv_iload hx hb dX4_readItem_30 (lv_at hl 4 rfl) ?_
      refine lv_icmp_ge (tgt := 94) hx hb dX4_readItem_32 (by decide) (fun c_5 => ?_) (fun c_5 => ?_)
      · have h := ite_t h c_5
        exact KX _ _ (Option.some.inj h).symm _ _ _ (lv_sub hl [0, 2, 3] rfl) hG
      · have h := ite_f h c_5
        refine lv_iload hx hb dX4_readItem_35 (lv_at hl 5 rfl) ?_
        refine lv_iload hx hb dX4_readItem_37 (lv_at hl 4 rfl) ?_
        refine lv_iconst (v := (1 : Int32)) hx hb dX4_readItem_39 (by decide) ?_
        refine lv_isub hx hb dX4_readItem_40 ?_
        refine lv_icmp_ne (tgt := 49) hx hb dX4_readItem_41 (by decide) (fun c_6 => ?_) (fun c_6 => ?_)
        · have h := ite_f h c_6
          refine lv_bipush (v := (44 : Int32)) hx hb dX4_readItem_49 (by decide) ?_
          exact J51 (44 : Int32) x3 x4 x5 c_numbers c_next o_stand o_home o_priceStart o_priceStep o_thrown_cells o_thrown_filled o_nets_cells o_nets_filled _ h KC KX KR _ _ _ (lv_sub hl [0, 1, 2, 3, 4, 5] rfl) hG
        · have h := ite_t h c_6
          refine lv_bipush (v := (59 : Int32)) hx hb dX4_readItem_44 (by decide) ?_
          refine lv_goto (tgt := 51) hx hb dX4_readItem_46 (by decide) ?_
          exact J51 (59 : Int32) x3 x4 x5 c_numbers c_next o_stand o_home o_priceStart o_priceStep o_thrown_cells o_thrown_filled o_nets_cells o_nets_filled _ h KC KX KR _ _ _ (lv_sub hl [0, 1, 2, 3, 4, 5] rfl) hG
  have h := hD
  unfold DX4_readItem at h
  clear hD
  refine lv_aload_n hx hb dX4_readItem_0 rfl (lv_at hl 1 rfl) ?_
  refine lv_aload_n hx hb dX4_readItem_1 rfl (lv_at hl 0 rfl) ?_
  refine r_get X hG in_X4 rfl 1 (by decide) w_85 0 rfl rfl dX4_readItem_2 ?_
  obtain ⟨r_1, hz_2, h⟩ := bd1_some h
  refine aft_i (ws' := (W_X4_X6_X3 a0 a1 a2 a3 a4 a5 a6 a7 a8 cI cJ c_numbers c_next o_bytes o_length o_stand o_home o_priceStart o_priceStep o_thrown_cells o_thrown_filled o_nets_cells o_nets_filled)) (run_V (rest := []) X hG hl.1 (mX6_signAt l dC dI cI cJ a2 a3 o_bytes o_length c_next hz_2) gi_V_X4_33 hd_V_yX6_signAt ⟨rfl, rfl⟩ rfl ⟨Nat.le_of_ble_eq_true rfl, Nat.le_of_ble_eq_true rfl⟩ [2, 3] (by decide) rfl 2 rfl rfl rfl rfl (Nat.le_of_ble_eq_true rfl) ⟨Nat.le_of_ble_eq_true rfl, Nat.le_of_ble_eq_true rfl⟩ dX4_readItem_5) hG [2, 3] rfl rfl rfl (fun H locs hG => ?_)
  clear hz_2
  refine lv_istore_n (lv' := [(3, .int r_1), (0, .ref a0), (1, .ref a2), (2, .ref a4)]) hx hb dX4_readItem_8 rfl hl (by decide) rfl (fun ls hl => ?_)
  refine lv_iload_n hx hb dX4_readItem_9 rfl (lv_at hl 0 rfl) ?_
  obtain ⟨r_3, hz_4, h⟩ := bd1_some h
  refine aft_i (ws' := (W_X4_X6_X3 a0 a1 a2 a3 a4 a5 a6 a7 a8 cI cJ c_numbers c_next o_bytes o_length o_stand o_home o_priceStart o_priceStep o_thrown_cells o_thrown_filled o_nets_cells o_nets_filled)) (run_S (rest := []) X hG hl.1 (mX4_numbersBehind l dC dI cI cJ r_1 hz_4) gi_S_X4_37 hd_S_yX4_numbersBehind ⟨rfl, rfl⟩ rfl ⟨Nat.le_of_ble_eq_true rfl, Nat.le_of_ble_eq_true rfl⟩ [] (by decide) rfl rfl (Nat.le_of_ble_eq_true rfl) ⟨Nat.le_of_ble_eq_true rfl, Nat.le_of_ble_eq_true rfl⟩ dX4_readItem_10) hG [] rfl rfl rfl (fun H locs hG => ?_)
  clear hz_4
  refine lv_istore (lv' := [(4, .int r_3), (3, .int r_1), (0, .ref a0), (1, .ref a2), (2, .ref a4)]) hx hb dX4_readItem_13 hl (by decide) rfl (fun ls hl => ?_)
  refine lv_aload_n hx hb dX4_readItem_15 rfl (lv_at hl 2 rfl) ?_
  refine lv_dup hx hb dX4_readItem_16 rfl ?_
  refine r_get X hG in_X4 rfl 1 (by decide) w_85 0 rfl rfl dX4_readItem_17 ?_
  refine lv_iconst (v := (1 : Int32)) hx hb dX4_readItem_20 (by decide) ?_
  refine lv_iadd hx hb dX4_readItem_21 ?_
  refine r_put X hG in_X4 rfl tyX4 tyX4_ok nmX4 1 (by decide) rfl (by decide +kernel) w_85 0 (ws' := (W_X4_X6_X3 a0 a1 a2 a3 a4 a5 a6 a7 a8 cI cJ c_numbers (c_next + (1 : Int32)) o_bytes o_length o_stand o_home o_priceStart o_priceStep o_thrown_cells o_thrown_filled o_nets_cells o_nets_filled)) rfl (Nat.le_of_ble_eq_true rfl) rfl dX4_readItem_22 (fun H locs hG => ?_)
  refine lv_iconst (v := (0 : Int32)) hx hb dX4_readItem_25 (by decide) ?_
  refine lv_istore (lv' := [(5, .int (0 : Int32)), (4, .int r_3), (3, .int r_1), (0, .ref a0), (1, .ref a2), (2, .ref a4)]) hx hb dX4_readItem_26 hl (by decide) rfl (fun ls hl => ?_)
  rcases el2_some h with ⟨k_numbers_15, k_next_16, hz, h⟩ | ⟨r, hz, h⟩
  · refine L28 r_1 r_3 o_stand o_home o_priceStart o_priceStep o_thrown_cells o_thrown_filled o_nets_cells o_nets_filled FU (0 : Int32) c_numbers (c_next + (1 : Int32)) _ hz ?_ (fun r e => by cases e) _ _ _ (lv_sub hl [3, 4, 5, 2, 1, 0] rfl) hG
    rintro _ _ ⟨⟩ ls H locs hl hG
    clear hz
    refine lv_aload_n hx hb dX4_readItem_94 rfl (lv_at hl 1 rfl) ?_
    refine lv_iload_n hx hb dX4_readItem_95 rfl (lv_at hl 2 rfl) ?_
    refine lv_aload_n hx hb dX4_readItem_96 rfl (lv_at hl 0 rfl) ?_
    refine r_get X hG in_X4 rfl 0 (by decide) w_84 0 rfl rfl dX4_readItem_97 ?_
    refine lv_iconst (v := (0 : Int32)) hx hb dX4_readItem_100 (by decide) ?_
    obtain ⟨r_17, hz_18, h⟩ := bd1_some h
    refine aft_i (ws' := (W_X4_X6_X3 a0 a1 a2 a3 a4 a5 a6 a7 a8 cI cJ k_numbers_15 k_next_16 o_bytes o_length o_stand o_home o_priceStart o_priceStep o_thrown_cells o_thrown_filled o_nets_cells o_nets_filled)) (run_SN (rest := [.int r_1, .ref a4]) X hG hl.1 (mX8_at l dC dI cI cJ a1 4 k_numbers_15 (0 : Int32) hz_18) gi_N_yX8_at w_309 w_296 w_41 hd_S_yX8_at ⟨rfl, rfl⟩ rfl ⟨Nat.le_of_ble_eq_true rfl, Nat.le_of_ble_eq_true rfl⟩ [1] (by decide) rfl rfl (Nat.le_of_ble_eq_true rfl) ⟨Nat.le_of_ble_eq_true rfl, Nat.le_of_ble_eq_true rfl⟩ dX4_readItem_101) hG [1] rfl rfl rfl (fun H locs hG => ?_)
    clear hz_18
    refine lv_aload_n hx hb dX4_readItem_104 rfl (lv_at hl 0 rfl) ?_
    refine r_get X hG in_X4 rfl 0 (by decide) w_84 0 rfl rfl dX4_readItem_105 ?_
    refine lv_iconst (v := (1 : Int32)) hx hb dX4_readItem_108 (by decide) ?_
    obtain ⟨r_19, hz_20, h⟩ := bd1_some h
    refine aft_i (ws' := (W_X4_X6_X3 a0 a1 a2 a3 a4 a5 a6 a7 a8 cI cJ k_numbers_15 k_next_16 o_bytes o_length o_stand o_home o_priceStart o_priceStep o_thrown_cells o_thrown_filled o_nets_cells o_nets_filled)) (run_SN (rest := [.int r_17, .int r_1, .ref a4]) X hG hl.1 (mX8_at l dC dI cI cJ a1 4 k_numbers_15 (1 : Int32) hz_20) gi_N_yX8_at w_309 w_296 w_41 hd_S_yX8_at ⟨rfl, rfl⟩ rfl ⟨Nat.le_of_ble_eq_true rfl, Nat.le_of_ble_eq_true rfl⟩ [1] (by decide) rfl rfl (Nat.le_of_ble_eq_true rfl) ⟨Nat.le_of_ble_eq_true rfl, Nat.le_of_ble_eq_true rfl⟩ dX4_readItem_109) hG [1] rfl rfl rfl (fun H locs hG => ?_)
    clear hz_20
    refine lv_aload_n hx hb dX4_readItem_112 rfl (lv_at hl 0 rfl) ?_
    refine r_get X hG in_X4 rfl 0 (by decide) w_84 0 rfl rfl dX4_readItem_113 ?_
    refine lv_iconst (v := (2 : Int32)) hx hb dX4_readItem_116 (by decide) ?_
    obtain ⟨r_21, hz_22, h⟩ := bd1_some h
    refine aft_i (ws' := (W_X4_X6_X3 a0 a1 a2 a3 a4 a5 a6 a7 a8 cI cJ k_numbers_15 k_next_16 o_bytes o_length o_stand o_home o_priceStart o_priceStep o_thrown_cells o_thrown_filled o_nets_cells o_nets_filled)) (run_SN (rest := [.int r_19, .int r_17, .int r_1, .ref a4]) X hG hl.1 (mX8_at l dC dI cI cJ a1 4 k_numbers_15 (2 : Int32) hz_22) gi_N_yX8_at w_309 w_296 w_41 hd_S_yX8_at ⟨rfl, rfl⟩ rfl ⟨Nat.le_of_ble_eq_true rfl, Nat.le_of_ble_eq_true rfl⟩ [1] (by decide) rfl rfl (Nat.le_of_ble_eq_true rfl) ⟨Nat.le_of_ble_eq_true rfl, Nat.le_of_ble_eq_true rfl⟩ dX4_readItem_117) hG [1] rfl rfl rfl (fun H locs hG => ?_)
    clear hz_22
    refine lv_aload_n hx hb dX4_readItem_120 rfl (lv_at hl 0 rfl) ?_
    refine r_get X hG in_X4 rfl 0 (by decide) w_84 0 rfl rfl dX4_readItem_121 ?_
    refine lv_iconst (v := (3 : Int32)) hx hb dX4_readItem_124 (by decide) ?_
    obtain ⟨r_23, hz_24, h⟩ := bd1_some h
    refine aft_i (ws' := (W_X4_X6_X3 a0 a1 a2 a3 a4 a5 a6 a7 a8 cI cJ k_numbers_15 k_next_16 o_bytes o_length o_stand o_home o_priceStart o_priceStep o_thrown_cells o_thrown_filled o_nets_cells o_nets_filled)) (run_SN (rest := [.int r_21, .int r_19, .int r_17, .int r_1, .ref a4]) X hG hl.1 (mX8_at l dC dI cI cJ a1 4 k_numbers_15 (3 : Int32) hz_24) gi_N_yX8_at w_309 w_296 w_41 hd_S_yX8_at ⟨rfl, rfl⟩ rfl ⟨Nat.le_of_ble_eq_true rfl, Nat.le_of_ble_eq_true rfl⟩ [1] (by decide) rfl rfl (Nat.le_of_ble_eq_true rfl) ⟨Nat.le_of_ble_eq_true rfl, Nat.le_of_ble_eq_true rfl⟩ dX4_readItem_125) hG [1] rfl rfl rfl (fun H locs hG => ?_)
    clear hz_24
    obtain ⟨r_25, k_stand_26, k_home_27, k_priceStart_28, k_priceStep_29, k_thrown_cells_30, k_thrown_filled_31, k_nets_cells_32, k_nets_filled_33, hz_34, h⟩ := bd9_some h
    refine aft_i (ws' := (W_X4_X6_X3 a0 a1 a2 a3 a4 a5 a6 a7 a8 cI cJ k_numbers_15 k_next_16 o_bytes o_length k_stand_26 k_home_27 k_priceStart_28 k_priceStep_29 k_thrown_cells_30 k_thrown_filled_31 k_nets_cells_32 k_nets_filled_33)) (run_V (rest := []) X hG hl.1 (mX3_tell l dC dI cI cJ a4 a5 a6 a7 a8 o_stand o_home o_priceStart o_priceStep o_thrown_cells o_thrown_filled o_nets_cells o_nets_filled r_1 r_17 r_19 r_21 r_23 hz_34) gi_V_X4_48 hd_V_yX3_tell ⟨rfl, rfl⟩ rfl ⟨Nat.le_of_ble_eq_true rfl, Nat.le_of_ble_eq_true rfl⟩ [4, 5, 6, 7, 8] (by decide) rfl 4 rfl rfl rfl rfl (Nat.le_of_ble_eq_true rfl) ⟨Nat.le_of_ble_eq_true rfl, Nat.le_of_ble_eq_true rfl⟩ dX4_readItem_128) hG [4, 5, 6, 7, 8] rfl rfl rfl (fun H locs hG => ?_)
    clear hz_34
    obtain ⟨g_35, h⟩ := gd h
    cases h
    exact ret _ _ _ _ dX4_readItem_131 (Decidable.not_not.mp g_35) hG
  · refine L28 r_1 r_3 o_stand o_home o_priceStart o_priceStep o_thrown_cells o_thrown_filled o_nets_cells o_nets_filled FU (0 : Int32) c_numbers (c_next + (1 : Int32)) _ hz (fun _ _ e => by cases e) (fun r2 e => ?_) _ _ _ (lv_sub hl [3, 4, 5, 2, 1, 0] rfl) hG
    cases e; cases h; rfl
set_option maxRecDepth 100000 in
set_option maxHeartbeats 4000000 in
theorem mX4_firstFault (l : Launch) (dC : Nat → ClassId) (dI : Nat → Nat → Nat) (cI cJ : ClassId) (a0 a1 a2 a3 a4 a5 a6 a7 a8 : Nat) (c_numbers : Nat → Int32) (c_next : Int32) (o_bytes : Nat → Int32) (o_length : Int32) (o_stand : Int32) (o_home : Int32) (o_priceStart : Int32) (o_priceStep : Int32) (o_thrown_cells : Nat → Int32) (o_thrown_filled : Int32) (o_nets_cells : Nat → Int32) (o_nets_filled : Int32) {res : Int32} {n_numbers : Nat → Int32} {n_next : Int32} {n_stand : Int32} {n_home : Int32} {n_priceStart : Int32} {n_priceStep : Int32} {n_thrown_cells : Nat → Int32} {n_thrown_filled : Int32} {n_nets_cells : Nat → Int32} {n_nets_filled : Int32} (hD : DX4_firstFault c_numbers o_bytes o_length o_thrown_cells o_nets_cells = some (res, n_numbers, n_next, n_stand, n_home, n_priceStart, n_priceStep, n_thrown_cells, n_thrown_filled, n_nets_cells, n_nets_filled)) : Met l yX4_firstFault (WZ yX4_firstFault cX4_firstFault 5 (some .int)) (RM 5 122) (PC dC dI cI cJ [.ref a0, .ref a2, .ref a4] (W_X4_X6_X3 a0 a1 a2 a3 a4 a5 a6 a7 a8 cI cJ c_numbers c_next o_bytes o_length o_stand o_home o_priceStart o_priceStep o_thrown_cells o_thrown_filled o_nets_cells o_nets_filled)) (QI dC dI (W_X4_X6_X3 a0 a1 a2 a3 a4 a5 a6 a7 a8 cI cJ c_numbers c_next o_bytes o_length o_stand o_home o_priceStart o_priceStep o_thrown_cells o_thrown_filled o_nets_cells o_nets_filled) (W_X4_X6_X3 a0 a1 a2 a3 a4 a5 a6 a7 a8 cI cJ n_numbers n_next o_bytes o_length n_stand n_home n_priceStart n_priceStep n_thrown_cells n_thrown_filled n_nets_cells n_nets_filled) res) 0 0 (FA (W_X4_X6_X3 a0 a1 a2 a3 a4 a5 a6 a7 a8 cI cJ c_numbers c_next o_bytes o_length o_stand o_home o_priceStart o_priceStep o_thrown_cells o_thrown_filled o_nets_cells o_nets_filled)) := by
  refine r_metI (by decide +kernel) (Nat.le_of_ble_eq_true rfl) ?_
  intro p e s m args below meth c A H0 QQ X ret ls hl hG
  have X : Cx p m c cX4_firstFault 5 s args RX4 dC dI cI cJ meth (some .int) := X
  have hx := X.1.1
  have hb := X.1.2.1
  have hl : lv_has ls 5 [(0, .ref a0), (1, .ref a2), (2, .ref a4)] := hl
  have L11 : ∀ (n : Nat) (x3 : Int32) (c_numbers : Nat → Int32) (c_next : Int32) (o_stand : Int32) (o_home : Int32) (o_priceStart : Int32) (o_priceStep : Int32) (o_thrown_cells : Nat → Int32) (o_thrown_filled : Int32) (o_nets_cells : Nat → Int32) (o_nets_filled : Int32) (v : ((Nat → Int32) × Int32 × Int32 × Int32 × Int32 × Int32 × (Nat → Int32) × Int32 × (Nat → Int32) × Int32) ⊕ (Int32 × (Nat → Int32) × Int32 × Int32 × Int32 × Int32 × Int32 × (Nat → Int32) × Int32 × (Nat → Int32) × Int32)), DX4_firstFault_L11 o_bytes o_length n x3 c_numbers c_next o_stand o_home o_priceStart o_priceStep o_thrown_cells o_thrown_filled o_nets_cells o_nets_filled = some v → (∀ (ec_numbers : Nat → Int32) (ec_next : Int32) (eo_stand : Int32) (eo_home : Int32) (eo_priceStart : Int32) (eo_priceStep : Int32) (eo_thrown_cells : Nat → Int32) (eo_thrown_filled : Int32) (eo_nets_cells : Nat → Int32) (eo_nets_filled : Int32), v = .inl (ec_numbers, ec_next, eo_stand, eo_home, eo_priceStart, eo_priceStep, eo_thrown_cells, eo_thrown_filled, eo_nets_cells, eo_nets_filled) → ∀ (ls : Array Slot) (H : Heap) (locs : List Loc), lv_has ls 5 [] → G dC dI A H0 (W_X4_X6_X3 a0 a1 a2 a3 a4 a5 a6 a7 a8 cI cJ ec_numbers ec_next o_bytes o_length eo_stand eo_home eo_priceStart eo_priceStep eo_thrown_cells eo_thrown_filled eo_nets_cells eo_nets_filled) H locs → W p l e (RM 5 122) s m args below meth c H locs 0 0 QQ (F0 m 53 ls [])) → (∀ (r : Int32 × (Nat → Int32) × Int32 × Int32 × Int32 × Int32 × Int32 × (Nat → Int32) × Int32 × (Nat → Int32) × Int32), v = .inr r → r = (res, n_numbers, n_next, n_stand, n_home, n_priceStart, n_priceStep, n_thrown_cells, n_thrown_filled, n_nets_cells, n_nets_filled)) → ∀ (ls : Array Slot) (H : Heap) (locs : List Loc), lv_has ls 5 [(0, .ref a0), (1, .ref a2), (2, .ref a4), (3, .int x3)] → G dC dI A H0 (W_X4_X6_X3 a0 a1 a2 a3 a4 a5 a6 a7 a8 cI cJ c_numbers c_next o_bytes o_length o_stand o_home o_priceStart o_priceStep o_thrown_cells o_thrown_filled o_nets_cells o_nets_filled) H locs → W p l e (RM 5 122) s m args below meth c H locs 0 0 QQ (F0 m 11 ls []) := by
    intro  n
    induction n with
    | zero => intro x3 c_numbers c_next o_stand o_home o_priceStart o_priceStep o_thrown_cells o_thrown_filled o_nets_cells o_nets_filled v h; exact it_zero h
    | succ n ih =>
      intro x3 c_numbers c_next o_stand o_home o_priceStart o_priceStep o_thrown_cells o_thrown_filled o_nets_cells o_nets_filled v h0 K0 KR0 ls H locs hl hG
      obtain ⟨w, h, hi, hr⟩ := it_succ h0
      have h : DX4_firstFault_L11s o_bytes o_length x3 c_numbers c_next o_stand o_home o_priceStart o_priceStep o_thrown_cells o_thrown_filled o_nets_cells o_nets_filled = some w := h
      have KC : ∀ (x3 : Int32) (c_numbers : Nat → Int32) (c_next : Int32) (o_stand : Int32) (o_home : Int32) (o_priceStart : Int32) (o_priceStep : Int32) (o_thrown_cells : Nat → Int32) (o_thrown_filled : Int32) (o_nets_cells : Nat → Int32) (o_nets_filled : Int32), w = .inl (x3, c_numbers, c_next, o_stand, o_home, o_priceStart, o_priceStep, o_thrown_cells, o_thrown_filled, o_nets_cells, o_nets_filled) → ∀ (ls : Array Slot) (H : Heap) (locs : List Loc), lv_has ls 5 [(0, .ref a0), (1, .ref a2), (2, .ref a4), (3, .int x3)] → G dC dI A H0 (W_X4_X6_X3 a0 a1 a2 a3 a4 a5 a6 a7 a8 cI cJ c_numbers c_next o_bytes o_length o_stand o_home o_priceStart o_priceStep o_thrown_cells o_thrown_filled o_nets_cells o_nets_filled) H locs → W p l e (RM 5 122) s m args below meth c H locs 0 0 QQ (F0 m 11 ls []) := fun b0 b1 b2 b3 b4 b5 b6 b7 b8 b9 b10 e ls H locs hl hG => ih b0 b1 b2 b3 b4 b5 b6 b7 b8 b9 b10 v (hi _ e) K0 KR0 ls H locs hl hG
      have KX : ∀ (c_numbers : Nat → Int32) (c_next : Int32) (o_stand : Int32) (o_home : Int32) (o_priceStart : Int32) (o_priceStep : Int32) (o_thrown_cells : Nat → Int32) (o_thrown_filled : Int32) (o_nets_cells : Nat → Int32) (o_nets_filled : Int32), w = .inr (.inl (c_numbers, c_next, o_stand, o_home, o_priceStart, o_priceStep, o_thrown_cells, o_thrown_filled, o_nets_cells, o_nets_filled)) → ∀ (ls : Array Slot) (H : Heap) (locs : List Loc), lv_has ls 5 [] → G dC dI A H0 (W_X4_X6_X3 a0 a1 a2 a3 a4 a5 a6 a7 a8 cI cJ c_numbers c_next o_bytes o_length o_stand o_home o_priceStart o_priceStep o_thrown_cells o_thrown_filled o_nets_cells o_nets_filled) H locs → W p l e (RM 5 122) s m args below meth c H locs 0 0 QQ (F0 m 53 ls []) := fun b0 b1 b2 b3 b4 b5 b6 b7 b8 b9 e ls H locs hl hG => K0 b0 b1 b2 b3 b4 b5 b6 b7 b8 b9 (hr _ e) ls H locs hl hG
      have KR : ∀ (r : Int32 × (Nat → Int32) × Int32 × Int32 × Int32 × Int32 × Int32 × (Nat → Int32) × Int32 × (Nat → Int32) × Int32), w = .inr (.inr r) → r = (res, n_numbers, n_next, n_stand, n_home, n_priceStart, n_priceStep, n_thrown_cells, n_thrown_filled, n_nets_cells, n_nets_filled) := fun r e => KR0 r (hr _ e)
      clear h0 hi hr K0 ih KR0
      unfold DX4_firstFault_L11s at h
      refine lv_iload_n hx hb dX4_firstFault_11 rfl (lv_at hl 3 rfl) ?_
      refine lv_sipush (v := (300 : Int32)) hx hb dX4_firstFault_12 (by decide) ?_
      refine lv_icmp_ge (tgt := 53) hx hb dX4_firstFault_15 (by decide) (fun c_8 => ?_) (fun c_8 => ?_)
      · have h := ite_t h c_8
        exact KX _ _ _ _ _ _ _ _ _ _ (Option.some.inj h).symm _ _ _ (lv_sub hl [] rfl) hG
      · have h := ite_f h c_8
        refine lv_aload_n hx hb dX4_firstFault_18 rfl (lv_at hl 0 rfl) ?_
        refine r_get X hG in_X4 rfl 1 (by decide) w_85 0 rfl rfl dX4_firstFault_19 ?_
        refine lv_aload_n hx hb dX4_firstFault_22 rfl (lv_at hl 1 rfl) ?_
        refine r_getN X hG in_X6 rfl 1 (by decide) w_71 2 rfl rfl dX4_firstFault_23 ?_
        refine lv_icmp_ge (tgt := 53) hx hb dX4_firstFault_26 (by decide) (fun c_9 => ?_) (fun c_9 => ?_)
        · have h := ite_t h c_9
          exact KX _ _ _ _ _ _ _ _ _ _ (Option.some.inj h).symm _ _ _ (lv_sub hl [] rfl) hG
        · have h := ite_f h c_9
          refine lv_aload_n hx hb dX4_firstFault_29 rfl (lv_at hl 0 rfl) ?_
          refine r_get X hG in_X4 rfl 1 (by decide) w_85 0 rfl rfl dX4_firstFault_30 ?_
          refine lv_istore (lv' := [(4, .int c_next), (0, .ref a0), (1, .ref a2), (2, .ref a4), (3, .int x3)]) hx hb dX4_firstFault_33 hl (by decide) rfl (fun ls hl => ?_)
          refine lv_aload_n hx hb dX4_firstFault_35 rfl (lv_at hl 1 rfl) ?_
          refine lv_aload_n hx hb dX4_firstFault_36 rfl (lv_at hl 2 rfl) ?_
          refine lv_aload_n hx hb dX4_firstFault_37 rfl (lv_at hl 3 rfl) ?_
          obtain ⟨r_10, k_numbers_11, k_next_12, k_stand_13, k_home_14, k_priceStart_15, k_priceStep_16, k_thrown_cells_17, k_thrown_filled_18, k_nets_cells_19, k_nets_filled_20, hz_21, h⟩ := bd11_some h
          refine aft_i1 (run_V1 (rest := []) X hG hl.1 (mX4_readItem l dC dI cI cJ a0 a1 a2 a3 a4 a5 a6 a7 a8 c_numbers c_next o_bytes o_length o_stand o_home o_priceStart o_priceStep o_thrown_cells o_thrown_filled o_nets_cells o_nets_filled hz_21) gi_V_X4_29 hd_V_yX4_readItem ⟨rfl, rfl⟩ rfl ⟨Nat.le_of_ble_eq_true rfl, Nat.le_of_ble_eq_true rfl⟩ 0 rfl rfl rfl rfl (Nat.le_of_ble_eq_true rfl) ⟨Nat.le_of_ble_eq_true rfl, Nat.le_of_ble_eq_true rfl⟩ dX4_firstFault_38) hG rfl (fun H locs hG => ?_)
          clear hz_21
          refine lv_if_ne (tgt := 47) hx hb dX4_firstFault_41 (by decide) (fun c_22 => ?_) (fun c_22 => ?_)
          · have h := ite_f h c_22
            refine lv_iinc (v := (x3 + (1 : Int32))) (lv' := [(3, .int (x3 + (1 : Int32))), (4, .int c_next), (0, .ref a0), (1, .ref a2), (2, .ref a4)]) hx hb dX4_firstFault_47 hl (k := 4) rfl rfl (by decide) rfl (fun ls hl => ?_)
            refine lv_goto (tgt := 11) hx hb dX4_firstFault_50 (by decide) ?_
            exact KC _ _ _ _ _ _ _ _ _ _ _ (Option.some.inj h).symm _ _ _ (lv_sub hl [2, 3, 4, 0] rfl) hG
          · have h := ite_t h c_22
            refine lv_iload hx hb dX4_firstFault_44 (lv_at hl 0 rfl) ?_
            cases KR _ (Option.some.inj h).symm
            exact ret _ _ _ _ dX4_firstFault_46 hG
  have h := hD
  unfold DX4_firstFault at h
  clear hD
  refine lv_aload_n hx hb dX4_firstFault_0 rfl (lv_at hl 2 rfl) ?_
  obtain ⟨k_stand_1, k_home_2, k_priceStart_3, k_priceStep_4, k_thrown_filled_5, k_nets_filled_6, hz_7, h⟩ := bd6_some h
  refine aft_v (ws' := (W_X4_X6_X3 a0 a1 a2 a3 a4 a5 a6 a7 a8 cI cJ c_numbers c_next o_bytes o_length k_stand_1 k_home_2 k_priceStart_3 k_priceStep_4 o_thrown_cells k_thrown_filled_5 o_nets_cells k_nets_filled_6)) (run_V (rest := []) X hG hl.1 (mX3_makeBare l dC dI cI cJ a4 a5 a6 a7 a8 o_stand o_home o_priceStart o_priceStep o_thrown_cells o_thrown_filled o_nets_cells o_nets_filled hz_7) gi_V_X4_19 hd_V_yX3_makeBare ⟨rfl, rfl⟩ rfl ⟨Nat.le_of_ble_eq_true rfl, Nat.le_of_ble_eq_true rfl⟩ [4, 5, 6, 7, 8] (by decide) rfl 4 rfl rfl rfl rfl (Nat.le_of_ble_eq_true rfl) ⟨Nat.le_of_ble_eq_true rfl, Nat.le_of_ble_eq_true rfl⟩ dX4_firstFault_1) hG [4, 5, 6, 7, 8] rfl rfl rfl (fun H locs hG => ?_)
  clear hz_7
  refine lv_aload_n hx hb dX4_firstFault_4 rfl (lv_at hl 0 rfl) ?_
  refine lv_iconst (v := (0 : Int32)) hx hb dX4_firstFault_5 (by decide) ?_
  refine r_put X hG in_X4 rfl tyX4 tyX4_ok nmX4 1 (by decide) rfl (by decide +kernel) w_85 0 (ws' := (W_X4_X6_X3 a0 a1 a2 a3 a4 a5 a6 a7 a8 cI cJ c_numbers (0 : Int32) o_bytes o_length k_stand_1 k_home_2 k_priceStart_3 k_priceStep_4 o_thrown_cells k_thrown_filled_5 o_nets_cells k_nets_filled_6)) rfl (Nat.le_of_ble_eq_true rfl) rfl dX4_firstFault_6 (fun H locs hG => ?_)
  refine lv_iconst (v := (0 : Int32)) hx hb dX4_firstFault_9 (by decide) ?_
  refine lv_istore_n (lv' := [(3, .int (0 : Int32)), (0, .ref a0), (1, .ref a2), (2, .ref a4)]) hx hb dX4_firstFault_10 rfl hl (by decide) rfl (fun ls hl => ?_)
  rcases el10_some h with ⟨k_numbers_23, k_next_24, k_stand_25, k_home_26, k_priceStart_27, k_priceStep_28, k_thrown_cells_29, k_thrown_filled_30, k_nets_cells_31, k_nets_filled_32, hz, h⟩ | ⟨r, hz, h⟩
  · refine L11  FU (0 : Int32) c_numbers (0 : Int32) k_stand_1 k_home_2 k_priceStart_3 k_priceStep_4 o_thrown_cells k_thrown_filled_5 o_nets_cells k_nets_filled_6 _ hz ?_ (fun r e => by cases e) _ _ _ (lv_sub hl [1, 2, 3, 0] rfl) hG
    rintro _ _ _ _ _ _ _ _ _ _ ⟨⟩ ls H locs hl hG
    clear hz
    refine lv_bipush (v := (-4 : Int32)) hx hb dX4_firstFault_53 (by decide) ?_
    cases h
    exact ret _ _ _ _ dX4_firstFault_55 hG
  · refine L11  FU (0 : Int32) c_numbers (0 : Int32) k_stand_1 k_home_2 k_priceStart_3 k_priceStep_4 o_thrown_cells k_thrown_filled_5 o_nets_cells k_nets_filled_6 _ hz (fun _ _ _ _ _ _ _ _ _ _ e => by cases e) (fun r2 e => ?_) _ _ _ (lv_sub hl [1, 2, 3, 0] rfl) hG
    cases e; cases h; rfl
