/-! CONTRACTS, laid by wip/gen/lay.py: yX5_add, yX3_tellThrow, yX3_tellRock, yX3_tellPrice, yX3_tellNet, yX3_tell, yX6_signAt, yX4_numbersBehind, yX4_isFigure, yX4_readNumber, yX4_readItem, yX4_firstFault, yX5_has, yX6_append, yX7_isIn, yX7_goOn, yX7_reach, yX7_fewest, yX7_firstSpeed, yX8_write, yX8_wipe, yX8_fault, yX8_lay, yX8_load, yX8_far, yX8_rock, yX8_price, yX8_all, yX8_change, yX8_aim, yX8_move, yX8_speed, yX8_undo, yX8_bestAim, yX8_bestDay, yX8_net, yJ6_bitCount_0f7a4, yX8_clear -/
set_option maxRecDepth 100000 in
set_option maxHeartbeats 4000000 in
theorem mX5_add (l : Launch) (dC : Nat → ClassId) (dI : Nat → Nat → Nat) (cI cJ : ClassId) (a0 a1 : Nat) (pm : Int32) (pw : Int32) (pn : Nat) (c_cells : Nat → Int32) (c_filled : Int32) (x1 : Int32) (x2 : Int32) (x3 : Int32) (x4 : Int32) {res : Int32} {n_cells : Nat → Int32} {n_filled : Int32} (hD : DX5_add x1 x2 x3 x4 pm pw pn c_cells c_filled = some (res, n_cells, n_filled)) : Met l yX5_add (WZ yX5_add cX5_add 5 (some .boolean)) (RM 1 23) (PC dC dI cI cJ [.ref a0, .int x1, .int x2, .int x3, .int x4] (W_X5 a0 a1 cI cJ pm pw pn c_cells c_filled)) (QI dC dI (W_X5 a0 a1 cI cJ pm pw pn c_cells c_filled) (W_X5 a0 a1 cI cJ pm pw pn n_cells n_filled) res) 0 0 (FA (W_X5 a0 a1 cI cJ pm pw pn c_cells c_filled)) := by
  refine r_metZ (by decide +kernel) (Nat.le_of_ble_eq_true rfl) ?_
  intro p e s m args below meth c A H0 QQ X ret ls hl hG
  have X : Cx p m c cX5_add 5 s args RX5 dC dI cI cJ meth (some .boolean) := X
  have hx := X.1.1
  have hb := X.1.2.1
  have hl : lv_has ls 5 [(0, .ref a0), (1, .int x1), (2, .int x2), (3, .int x3), (4, .int x4)] := hl
  have h := hD
  unfold DX5_add at h
  clear hD
  refine lv_aload_n hx hb dX5_add_0 rfl (lv_at hl 0 rfl) ?_
  refine r_get X hG in_X5 rfl 3 (by decide) w_109 0 rfl rfl dX5_add_1 ?_
  refine lv_aload_n hx hb dX5_add_4 rfl (lv_at hl 0 rfl) ?_
  refine r_get X hG in_X5 rfl 1 (by decide) w_107 0 rfl rfl dX5_add_5 ?_
  refine lv_icmp_lt (tgt := 13) hx hb dX5_add_8 (by decide) (fun c_1 => ?_) (fun c_1 => ?_)
  · have h := ite_t h c_1
    refine lv_aload_n hx hb dX5_add_13 rfl (lv_at hl 0 rfl) ?_
    refine lv_aload_n hx hb dX5_add_14 rfl (lv_at hl 0 rfl) ?_
    refine r_get X hG in_X5 rfl 3 (by decide) w_109 0 rfl rfl dX5_add_15 ?_
    refine lv_iconst (v := (0 : Int32)) hx hb dX5_add_18 (by decide) ?_
    refine lv_iload_n hx hb dX5_add_19 rfl (lv_at hl 1 rfl) ?_
    obtain ⟨k_cells_2, hz_3, h⟩ := bd1_some h
    refine aft_v (ws' := (W_X5 a0 a1 cI cJ pm pw pn k_cells_2 c_filled)) (run_V (rest := []) X hG hl.1 (mX5_set l dC dI cI cJ a0 a1 pm pw pn c_cells c_filled c_filled (0 : Int32) x1 hz_3) gi_V_X5_29 hd_V_yX5_set ⟨rfl, rfl⟩ rfl ⟨Nat.le_of_ble_eq_true rfl, Nat.le_of_ble_eq_true rfl⟩ [0, 1] (by decide) rfl 0 rfl rfl rfl rfl (Nat.le_of_ble_eq_true rfl) ⟨Nat.le_of_ble_eq_true rfl, Nat.le_of_ble_eq_true rfl⟩ dX5_add_20) hG [0, 1] rfl rfl rfl (fun H locs hG => ?_)
    clear hz_3
    refine lv_aload_n hx hb dX5_add_23 rfl (lv_at hl 0 rfl) ?_
    refine lv_aload_n hx hb dX5_add_24 rfl (lv_at hl 0 rfl) ?_
    refine r_get X hG in_X5 rfl 3 (by decide) w_109 0 rfl rfl dX5_add_25 ?_
    refine lv_iconst (v := (1 : Int32)) hx hb dX5_add_28 (by decide) ?_
    refine lv_iload_n hx hb dX5_add_29 rfl (lv_at hl 2 rfl) ?_
    obtain ⟨k_cells_4, hz_5, h⟩ := bd1_some h
    refine aft_v (ws' := (W_X5 a0 a1 cI cJ pm pw pn k_cells_4 c_filled)) (run_V (rest := []) X hG hl.1 (mX5_set l dC dI cI cJ a0 a1 pm pw pn k_cells_2 c_filled c_filled (1 : Int32) x2 hz_5) gi_V_X5_29 hd_V_yX5_set ⟨rfl, rfl⟩ rfl ⟨Nat.le_of_ble_eq_true rfl, Nat.le_of_ble_eq_true rfl⟩ [0, 1] (by decide) rfl 0 rfl rfl rfl rfl (Nat.le_of_ble_eq_true rfl) ⟨Nat.le_of_ble_eq_true rfl, Nat.le_of_ble_eq_true rfl⟩ dX5_add_30) hG [0, 1] rfl rfl rfl (fun H locs hG => ?_)
    clear hz_5
    refine lv_aload_n hx hb dX5_add_33 rfl (lv_at hl 0 rfl) ?_
    refine lv_aload_n hx hb dX5_add_34 rfl (lv_at hl 0 rfl) ?_
    refine r_get X hG in_X5 rfl 3 (by decide) w_109 0 rfl rfl dX5_add_35 ?_
    refine lv_iconst (v := (2 : Int32)) hx hb dX5_add_38 (by decide) ?_
    refine lv_iload_n hx hb dX5_add_39 rfl (lv_at hl 3 rfl) ?_
    obtain ⟨k_cells_6, hz_7, h⟩ := bd1_some h
    refine aft_v (ws' := (W_X5 a0 a1 cI cJ pm pw pn k_cells_6 c_filled)) (run_V (rest := []) X hG hl.1 (mX5_set l dC dI cI cJ a0 a1 pm pw pn k_cells_4 c_filled c_filled (2 : Int32) x3 hz_7) gi_V_X5_29 hd_V_yX5_set ⟨rfl, rfl⟩ rfl ⟨Nat.le_of_ble_eq_true rfl, Nat.le_of_ble_eq_true rfl⟩ [0, 1] (by decide) rfl 0 rfl rfl rfl rfl (Nat.le_of_ble_eq_true rfl) ⟨Nat.le_of_ble_eq_true rfl, Nat.le_of_ble_eq_true rfl⟩ dX5_add_40) hG [0, 1] rfl rfl rfl (fun H locs hG => ?_)
    clear hz_7
    refine lv_aload_n hx hb dX5_add_43 rfl (lv_at hl 0 rfl) ?_
    refine lv_aload_n hx hb dX5_add_44 rfl (lv_at hl 0 rfl) ?_
    refine r_get X hG in_X5 rfl 3 (by decide) w_109 0 rfl rfl dX5_add_45 ?_
    refine lv_iconst (v := (3 : Int32)) hx hb dX5_add_48 (by decide) ?_
    refine lv_iload hx hb dX5_add_49 (lv_at hl 4 rfl) ?_
    obtain ⟨k_cells_8, hz_9, h⟩ := bd1_some h
    refine aft_v (ws' := (W_X5 a0 a1 cI cJ pm pw pn k_cells_8 c_filled)) (run_V (rest := []) X hG hl.1 (mX5_set l dC dI cI cJ a0 a1 pm pw pn k_cells_6 c_filled c_filled (3 : Int32) x4 hz_9) gi_V_X5_29 hd_V_yX5_set ⟨rfl, rfl⟩ rfl ⟨Nat.le_of_ble_eq_true rfl, Nat.le_of_ble_eq_true rfl⟩ [0, 1] (by decide) rfl 0 rfl rfl rfl rfl (Nat.le_of_ble_eq_true rfl) ⟨Nat.le_of_ble_eq_true rfl, Nat.le_of_ble_eq_true rfl⟩ dX5_add_51) hG [0, 1] rfl rfl rfl (fun H locs hG => ?_)
    clear hz_9
    refine lv_aload_n hx hb dX5_add_54 rfl (lv_at hl 0 rfl) ?_
    refine lv_dup hx hb dX5_add_55 rfl ?_
    refine r_get X hG in_X5 rfl 3 (by decide) w_109 0 rfl rfl dX5_add_56 ?_
    refine lv_iconst (v := (1 : Int32)) hx hb dX5_add_59 (by decide) ?_
    refine lv_iadd hx hb dX5_add_60 ?_
    refine r_put X hG in_X5 rfl tyX5 tyX5_ok nmX5 3 (by decide) rfl (by decide +kernel) w_109 0 (ws' := (W_X5 a0 a1 cI cJ pm pw pn k_cells_8 (c_filled + (1 : Int32)))) rfl (Nat.le_of_ble_eq_true rfl) rfl dX5_add_61 (fun H locs hG => ?_)
    refine lv_iconst (v := (1 : Int32)) hx hb dX5_add_64 (by decide) ?_
    cases h
    exact ret _ _ _ _ dX5_add_65 (by decide) hG
  · have h := ite_f h c_1
    refine lv_iconst (v := (0 : Int32)) hx hb dX5_add_11 (by decide) ?_
    cases h
    exact ret _ _ _ _ dX5_add_12 (by decide) hG
set_option maxRecDepth 100000 in
set_option maxHeartbeats 4000000 in
theorem mX3_tellThrow (l : Launch) (dC : Nat → ClassId) (dI : Nat → Nat → Nat) (cI cJ : ClassId) (a0 a1 a2 a3 a4 : Nat) (c_stand : Int32) (c_home : Int32) (c_priceStart : Int32) (c_priceStep : Int32) (c_thrown_cells : Nat → Int32) (c_thrown_filled : Int32) (c_nets_cells : Nat → Int32) (c_nets_filled : Int32) (x1 : Int32) (x2 : Int32) (x3 : Int32) (x4 : Int32) {res : Int32} {n_thrown_cells : Nat → Int32} {n_thrown_filled : Int32} (hD : DX3_tellThrow x1 x2 x3 x4 c_thrown_cells c_thrown_filled = some (res, n_thrown_cells, n_thrown_filled)) : Met l yX3_tellThrow (WZ yX3_tellThrow cX3_tellThrow 5 (some .boolean)) (RM 2 47) (PC dC dI cI cJ [.ref a0, .int x1, .int x2, .int x3, .int x4] (W_X3 a0 a1 a2 a3 a4 cI cJ c_stand c_home c_priceStart c_priceStep c_thrown_cells c_thrown_filled c_nets_cells c_nets_filled)) (QI dC dI (W_X3 a0 a1 a2 a3 a4 cI cJ c_stand c_home c_priceStart c_priceStep c_thrown_cells c_thrown_filled c_nets_cells c_nets_filled) (W_X3 a0 a1 a2 a3 a4 cI cJ c_stand c_home c_priceStart c_priceStep n_thrown_cells n_thrown_filled c_nets_cells c_nets_filled) res) 0 0 (FA (W_X3 a0 a1 a2 a3 a4 cI cJ c_stand c_home c_priceStart c_priceStep c_thrown_cells c_thrown_filled c_nets_cells c_nets_filled)) := by
  refine r_metZ (by decide +kernel) (Nat.le_of_ble_eq_true rfl) ?_
  intro p e s m args below meth c A H0 QQ X ret ls hl hG
  have X : Cx p m c cX3_tellThrow 5 s args RX3 dC dI cI cJ meth (some .boolean) := X
  have hx := X.1.1
  have hb := X.1.2.1
  have hl : lv_has ls 5 [(0, .ref a0), (1, .int x1), (2, .int x2), (3, .int x3), (4, .int x4)] := hl
  have h := hD
  unfold DX3_tellThrow at h
  clear hD
  refine lv_iload_n hx hb dX3_tellThrow_0 rfl (lv_at hl 1 rfl) ?_
  refine lv_iconst (v := (0 : Int32)) hx hb dX3_tellThrow_1 (by decide) ?_
  refine lv_bipush (v := (40 : Int32)) hx hb dX3_tellThrow_2 (by decide) ?_
  obtain ⟨r_1, hz_2, h⟩ := bd1_some h
  refine aft_i (ws' := (W_X3 a0 a1 a2 a3 a4 cI cJ c_stand c_home c_priceStart c_priceStep c_thrown_cells c_thrown_filled c_nets_cells c_nets_filled)) (run_SN (rest := []) X hG hl.1 (mX8_within l dC dI cI cJ x1 (0 : Int32) (40 : Int32) hz_2) gi_N_yX8_within w_318 w_265 w_41 hd_S_yX8_within ⟨rfl, rfl⟩ rfl ⟨Nat.le_of_ble_eq_true rfl, Nat.le_of_ble_eq_true rfl⟩ [] (by decide) rfl rfl (Nat.le_of_ble_eq_true rfl) ⟨Nat.le_of_ble_eq_true rfl, Nat.le_of_ble_eq_true rfl⟩ dX3_tellThrow_4) hG [] rfl rfl rfl (fun H locs hG => ?_)
  clear hz_2
  refine lv_if_eq (tgt := 59) hx hb dX3_tellThrow_7 (by decide) (fun c_3 => ?_) (fun c_3 => ?_)
  · have h := ite_t h c_3
    refine lv_iconst (v := (0 : Int32)) hx hb dX3_tellThrow_59 (by decide) ?_
    cases h
    exact ret _ _ _ _ dX3_tellThrow_60 (by decide) hG
  · have h := ite_f h c_3
    refine lv_iload_n hx hb dX3_tellThrow_10 rfl (lv_at hl 2 rfl) ?_
    refine lv_iconst (v := (0 : Int32)) hx hb dX3_tellThrow_11 (by decide) ?_
    refine lv_bipush (v := (23 : Int32)) hx hb dX3_tellThrow_12 (by decide) ?_
    obtain ⟨r_4, hz_5, h⟩ := bd1_some h
    refine aft_i (ws' := (W_X3 a0 a1 a2 a3 a4 cI cJ c_stand c_home c_priceStart c_priceStep c_thrown_cells c_thrown_filled c_nets_cells c_nets_filled)) (run_SN (rest := []) X hG hl.1 (mX8_within l dC dI cI cJ x2 (0 : Int32) (23 : Int32) hz_5) gi_N_yX8_within w_318 w_265 w_41 hd_S_yX8_within ⟨rfl, rfl⟩ rfl ⟨Nat.le_of_ble_eq_true rfl, Nat.le_of_ble_eq_true rfl⟩ [] (by decide) rfl rfl (Nat.le_of_ble_eq_true rfl) ⟨Nat.le_of_ble_eq_true rfl, Nat.le_of_ble_eq_true rfl⟩ dX3_tellThrow_14) hG [] rfl rfl rfl (fun H locs hG => ?_)
    clear hz_5
    refine lv_if_eq (tgt := 59) hx hb dX3_tellThrow_17 (by decide) (fun c_6 => ?_) (fun c_6 => ?_)
    · have h := ite_t h c_6
      refine lv_iconst (v := (0 : Int32)) hx hb dX3_tellThrow_59 (by decide) ?_
      cases h
      exact ret _ _ _ _ dX3_tellThrow_60 (by decide) hG
    · have h := ite_f h c_6
      refine lv_iload_n hx hb dX3_tellThrow_20 rfl (lv_at hl 3 rfl) ?_
      refine lv_iconst (v := (1 : Int32)) hx hb dX3_tellThrow_21 (by decide) ?_
      refine lv_bipush (v := (6 : Int32)) hx hb dX3_tellThrow_22 (by decide) ?_
      obtain ⟨r_7, hz_8, h⟩ := bd1_some h
      refine aft_i (ws' := (W_X3 a0 a1 a2 a3 a4 cI cJ c_stand c_home c_priceStart c_priceStep c_thrown_cells c_thrown_filled c_nets_cells c_nets_filled)) (run_SN (rest := []) X hG hl.1 (mX8_within l dC dI cI cJ x3 (1 : Int32) (6 : Int32) hz_8) gi_N_yX8_within w_318 w_265 w_41 hd_S_yX8_within ⟨rfl, rfl⟩ rfl ⟨Nat.le_of_ble_eq_true rfl, Nat.le_of_ble_eq_true rfl⟩ [] (by decide) rfl rfl (Nat.le_of_ble_eq_true rfl) ⟨Nat.le_of_ble_eq_true rfl, Nat.le_of_ble_eq_true rfl⟩ dX3_tellThrow_24) hG [] rfl rfl rfl (fun H locs hG => ?_)
      clear hz_8
      refine lv_if_eq (tgt := 59) hx hb dX3_tellThrow_27 (by decide) (fun c_9 => ?_) (fun c_9 => ?_)
      · have h := ite_t h c_9
        refine lv_iconst (v := (0 : Int32)) hx hb dX3_tellThrow_59 (by decide) ?_
        cases h
        exact ret _ _ _ _ dX3_tellThrow_60 (by decide) hG
      · have h := ite_f h c_9
        refine lv_iload hx hb dX3_tellThrow_30 (lv_at hl 4 rfl) ?_
        refine lv_iconst (v := (0 : Int32)) hx hb dX3_tellThrow_32 (by decide) ?_
        refine lv_iconst (v := (3 : Int32)) hx hb dX3_tellThrow_33 (by decide) ?_
        obtain ⟨r_10, hz_11, h⟩ := bd1_some h
        refine aft_i (ws' := (W_X3 a0 a1 a2 a3 a4 cI cJ c_stand c_home c_priceStart c_priceStep c_thrown_cells c_thrown_filled c_nets_cells c_nets_filled)) (run_SN (rest := []) X hG hl.1 (mX8_within l dC dI cI cJ x4 (0 : Int32) (3 : Int32) hz_11) gi_N_yX8_within w_318 w_265 w_41 hd_S_yX8_within ⟨rfl, rfl⟩ rfl ⟨Nat.le_of_ble_eq_true rfl, Nat.le_of_ble_eq_true rfl⟩ [] (by decide) rfl rfl (Nat.le_of_ble_eq_true rfl) ⟨Nat.le_of_ble_eq_true rfl, Nat.le_of_ble_eq_true rfl⟩ dX3_tellThrow_34) hG [] rfl rfl rfl (fun H locs hG => ?_)
        clear hz_11
        refine lv_if_eq (tgt := 59) hx hb dX3_tellThrow_37 (by decide) (fun c_12 => ?_) (fun c_12 => ?_)
        · have h := ite_t h c_12
          refine lv_iconst (v := (0 : Int32)) hx hb dX3_tellThrow_59 (by decide) ?_
          cases h
          exact ret _ _ _ _ dX3_tellThrow_60 (by decide) hG
        · have h := ite_f h c_12
          refine lv_aload_n hx hb dX3_tellThrow_40 rfl (lv_at hl 0 rfl) ?_
          refine r_get X hG in_X3 rfl 4 (by decide) w_135 0 rfl rfl dX3_tellThrow_41 ?_
          refine lv_iload_n hx hb dX3_tellThrow_44 rfl (lv_at hl 1 rfl) ?_
          refine lv_iload_n hx hb dX3_tellThrow_45 rfl (lv_at hl 2 rfl) ?_
          refine lv_iload_n hx hb dX3_tellThrow_46 rfl (lv_at hl 3 rfl) ?_
          refine lv_iload hx hb dX3_tellThrow_47 (lv_at hl 4 rfl) ?_
          obtain ⟨r_13, k_thrown_cells_14, k_thrown_filled_15, hz_16, h⟩ := bd3_some h
          refine aft_i (ws' := (W_X3 a0 a1 a2 a3 a4 cI cJ c_stand c_home c_priceStart c_priceStep k_thrown_cells_14 k_thrown_filled_15 c_nets_cells c_nets_filled)) (run_V (rest := []) X hG hl.1 (mX5_add l dC dI cI cJ a1 a2 (7 : Int32) (4 : Int32) 28 c_thrown_cells c_thrown_filled x1 x2 x3 x4 hz_16) gi_V_X3_64 hd_V_yX5_add ⟨rfl, rfl⟩ rfl ⟨Nat.le_of_ble_eq_true rfl, Nat.le_of_ble_eq_true rfl⟩ [1, 2] (by decide) rfl 1 rfl rfl rfl rfl (Nat.le_of_ble_eq_true rfl) ⟨Nat.le_of_ble_eq_true rfl, Nat.le_of_ble_eq_true rfl⟩ dX3_tellThrow_49) hG [1, 2] rfl rfl rfl (fun H locs hG => ?_)
          clear hz_16
          refine lv_if_eq (tgt := 59) hx hb dX3_tellThrow_52 (by decide) (fun c_17 => ?_) (fun c_17 => ?_)
          · have h := ite_t h c_17
            refine lv_iconst (v := (0 : Int32)) hx hb dX3_tellThrow_59 (by decide) ?_
            cases h
            exact ret _ _ _ _ dX3_tellThrow_60 (by decide) hG
          · have h := ite_f h c_17
            refine lv_iconst (v := (1 : Int32)) hx hb dX3_tellThrow_55 (by decide) ?_
            refine lv_goto (tgt := 60) hx hb dX3_tellThrow_56 (by decide) ?_
            cases h
            exact ret _ _ _ _ dX3_tellThrow_60 (by decide) hG
set_option maxRecDepth 100000 in
set_option maxHeartbeats 4000000 in
theorem mX3_tellRock (l : Launch) (dC : Nat → ClassId) (dI : Nat → Nat → Nat) (cI cJ : ClassId) (a0 a1 a2 a3 a4 : Nat) (c_stand : Int32) (c_home : Int32) (c_priceStart : Int32) (c_priceStep : Int32) (c_thrown_cells : Nat → Int32) (c_thrown_filled : Int32) (c_nets_cells : Nat → Int32) (c_nets_filled : Int32) (x1 : Int32) (x2 : Int32) {res : Int32} {n_stand : Int32} {n_home : Int32} (hD : DX3_tellRock x1 x2 c_stand c_home = some (res, n_stand, n_home)) : Met l yX3_tellRock (WZ yX3_tellRock cX3_tellRock 3 (some .boolean)) (RM 1 22) (PC dC dI cI cJ [.ref a0, .int x1, .int x2] (W_X3 a0 a1 a2 a3 a4 cI cJ c_stand c_home c_priceStart c_priceStep c_thrown_cells c_thrown_filled c_nets_cells c_nets_filled)) (QI dC dI (W_X3 a0 a1 a2 a3 a4 cI cJ c_stand c_home c_priceStart c_priceStep c_thrown_cells c_thrown_filled c_nets_cells c_nets_filled) (W_X3 a0 a1 a2 a3 a4 cI cJ n_stand n_home c_priceStart c_priceStep c_thrown_cells c_thrown_filled c_nets_cells c_nets_filled) res) 0 0 (FA (W_X3 a0 a1 a2 a3 a4 cI cJ c_stand c_home c_priceStart c_priceStep c_thrown_cells c_thrown_filled c_nets_cells c_nets_filled)) := by
  refine r_metZ (by decide +kernel) (Nat.le_of_ble_eq_true rfl) ?_
  intro p e s m args below meth c A H0 QQ X ret ls hl hG
  have X : Cx p m c cX3_tellRock 3 s args RX3 dC dI cI cJ meth (some .boolean) := X
  have hx := X.1.1
  have hb := X.1.2.1
  have hl : lv_has ls 3 [(0, .ref a0), (1, .int x1), (2, .int x2)] := hl
  have h := hD
  unfold DX3_tellRock at h
  clear hD
  refine lv_iload_n hx hb dX3_tellRock_0 rfl (lv_at hl 1 rfl) ?_
  refine lv_iconst (v := (0 : Int32)) hx hb dX3_tellRock_1 (by decide) ?_
  refine lv_bipush (v := (23 : Int32)) hx hb dX3_tellRock_2 (by decide) ?_
  obtain ⟨r_1, hz_2, h⟩ := bd1_some h
  refine aft_i (ws' := (W_X3 a0 a1 a2 a3 a4 cI cJ c_stand c_home c_priceStart c_priceStep c_thrown_cells c_thrown_filled c_nets_cells c_nets_filled)) (run_SN (rest := []) X hG hl.1 (mX8_within l dC dI cI cJ x1 (0 : Int32) (23 : Int32) hz_2) gi_N_yX8_within w_318 w_265 w_41 hd_S_yX8_within ⟨rfl, rfl⟩ rfl ⟨Nat.le_of_ble_eq_true rfl, Nat.le_of_ble_eq_true rfl⟩ [] (by decide) rfl rfl (Nat.le_of_ble_eq_true rfl) ⟨Nat.le_of_ble_eq_true rfl, Nat.le_of_ble_eq_true rfl⟩ dX3_tellRock_4) hG [] rfl rfl rfl (fun H locs hG => ?_)
  clear hz_2
  refine lv_if_eq (tgt := 20) hx hb dX3_tellRock_7 (by decide) (fun c_3 => ?_) (fun c_3 => ?_)
  · have h := ite_t h c_3
    refine lv_iconst (v := (0 : Int32)) hx hb dX3_tellRock_20 (by decide) ?_
    cases h
    exact ret _ _ _ _ dX3_tellRock_21 (by decide) hG
  · have h := ite_f h c_3
    refine lv_iload_n hx hb dX3_tellRock_10 rfl (lv_at hl 2 rfl) ?_
    refine lv_iconst (v := (1 : Int32)) hx hb dX3_tellRock_11 (by decide) ?_
    refine lv_bipush (v := (60 : Int32)) hx hb dX3_tellRock_12 (by decide) ?_
    obtain ⟨r_4, hz_5, h⟩ := bd1_some h
    refine aft_i (ws' := (W_X3 a0 a1 a2 a3 a4 cI cJ c_stand c_home c_priceStart c_priceStep c_thrown_cells c_thrown_filled c_nets_cells c_nets_filled)) (run_SN (rest := []) X hG hl.1 (mX8_within l dC dI cI cJ x2 (1 : Int32) (60 : Int32) hz_5) gi_N_yX8_within w_318 w_265 w_41 hd_S_yX8_within ⟨rfl, rfl⟩ rfl ⟨Nat.le_of_ble_eq_true rfl, Nat.le_of_ble_eq_true rfl⟩ [] (by decide) rfl rfl (Nat.le_of_ble_eq_true rfl) ⟨Nat.le_of_ble_eq_true rfl, Nat.le_of_ble_eq_true rfl⟩ dX3_tellRock_14) hG [] rfl rfl rfl (fun H locs hG => ?_)
    clear hz_5
    refine lv_if_ne (tgt := 22) hx hb dX3_tellRock_17 (by decide) (fun c_6 => ?_) (fun c_6 => ?_)
    · have h := ite_f h c_6
      refine lv_aload_n hx hb dX3_tellRock_22 rfl (lv_at hl 0 rfl) ?_
      refine lv_iload_n hx hb dX3_tellRock_23 rfl (lv_at hl 1 rfl) ?_
      refine r_put X hG in_X3 rfl tyX3 tyX3_ok nmX3 0 (by decide) rfl (by decide +kernel) w_127 0 (ws' := (W_X3 a0 a1 a2 a3 a4 cI cJ x1 c_home c_priceStart c_priceStep c_thrown_cells c_thrown_filled c_nets_cells c_nets_filled)) rfl (Nat.le_of_ble_eq_true rfl) rfl dX3_tellRock_24 (fun H locs hG => ?_)
      refine lv_aload_n hx hb dX3_tellRock_27 rfl (lv_at hl 0 rfl) ?_
      refine lv_iload_n hx hb dX3_tellRock_28 rfl (lv_at hl 2 rfl) ?_
      refine r_put X hG in_X3 rfl tyX3 tyX3_ok nmX3 1 (by decide) rfl (by decide +kernel) w_130 0 (ws' := (W_X3 a0 a1 a2 a3 a4 cI cJ x1 x2 c_priceStart c_priceStep c_thrown_cells c_thrown_filled c_nets_cells c_nets_filled)) rfl (Nat.le_of_ble_eq_true rfl) rfl dX3_tellRock_29 (fun H locs hG => ?_)
      refine lv_iconst (v := (1 : Int32)) hx hb dX3_tellRock_32 (by decide) ?_
      cases h
      exact ret _ _ _ _ dX3_tellRock_33 (by decide) hG
    · have h := ite_t h c_6
      refine lv_iconst (v := (0 : Int32)) hx hb dX3_tellRock_20 (by decide) ?_
      cases h
      exact ret _ _ _ _ dX3_tellRock_21 (by decide) hG
set_option maxRecDepth 100000 in
set_option maxHeartbeats 4000000 in
theorem mX3_tellPrice (l : Launch) (dC : Nat → ClassId) (dI : Nat → Nat → Nat) (cI cJ : ClassId) (a0 a1 a2 a3 a4 : Nat) (c_stand : Int32) (c_home : Int32) (c_priceStart : Int32) (c_priceStep : Int32) (c_thrown_cells : Nat → Int32) (c_thrown_filled : Int32) (c_nets_cells : Nat → Int32) (c_nets_filled : Int32) (x1 : Int32) (x2 : Int32) {res : Int32} {n_priceStart : Int32} {n_priceStep : Int32} (hD : DX3_tellPrice x1 x2 c_priceStart c_priceStep = some (res, n_priceStart, n_priceStep)) : Met l yX3_tellPrice (WZ yX3_tellPrice cX3_tellPrice 3 (some .boolean)) (RM 1 22) (PC dC dI cI cJ [.ref a0, .int x1, .int x2] (W_X3 a0 a1 a2 a3 a4 cI cJ c_stand c_home c_priceStart c_priceStep c_thrown_cells c_thrown_filled c_nets_cells c_nets_filled)) (QI dC dI (W_X3 a0 a1 a2 a3 a4 cI cJ c_stand c_home c_priceStart c_priceStep c_thrown_cells c_thrown_filled c_nets_cells c_nets_filled) (W_X3 a0 a1 a2 a3 a4 cI cJ c_stand c_home n_priceStart n_priceStep c_thrown_cells c_thrown_filled c_nets_cells c_nets_filled) res) 0 0 (FA (W_X3 a0 a1 a2 a3 a4 cI cJ c_stand c_home c_priceStart c_priceStep c_thrown_cells c_thrown_filled c_nets_cells c_nets_filled)) := by
  refine r_metZ (by decide +kernel) (Nat.le_of_ble_eq_true rfl) ?_
  intro p e s m args below meth c A H0 QQ X ret ls hl hG
  have X : Cx p m c cX3_tellPrice 3 s args RX3 dC dI cI cJ meth (some .boolean) := X
  have hx := X.1.1
  have hb := X.1.2.1
  have hl : lv_has ls 3 [(0, .ref a0), (1, .int x1), (2, .int x2)] := hl
  have h := hD
  unfold DX3_tellPrice at h
  clear hD
  refine lv_iload_n hx hb dX3_tellPrice_0 rfl (lv_at hl 1 rfl) ?_
  refine lv_iconst (v := (0 : Int32)) hx hb dX3_tellPrice_1 (by decide) ?_
  refine lv_bipush (v := (49 : Int32)) hx hb dX3_tellPrice_2 (by decide) ?_
  obtain ⟨r_1, hz_2, h⟩ := bd1_some h
  refine aft_i (ws' := (W_X3 a0 a1 a2 a3 a4 cI cJ c_stand c_home c_priceStart c_priceStep c_thrown_cells c_thrown_filled c_nets_cells c_nets_filled)) (run_SN (rest := []) X hG hl.1 (mX8_within l dC dI cI cJ x1 (0 : Int32) (49 : Int32) hz_2) gi_N_yX8_within w_318 w_265 w_41 hd_S_yX8_within ⟨rfl, rfl⟩ rfl ⟨Nat.le_of_ble_eq_true rfl, Nat.le_of_ble_eq_true rfl⟩ [] (by decide) rfl rfl (Nat.le_of_ble_eq_true rfl) ⟨Nat.le_of_ble_eq_true rfl, Nat.le_of_ble_eq_true rfl⟩ dX3_tellPrice_4) hG [] rfl rfl rfl (fun H locs hG => ?_)
  clear hz_2
  refine lv_if_eq (tgt := 20) hx hb dX3_tellPrice_7 (by decide) (fun c_3 => ?_) (fun c_3 => ?_)
  · have h := ite_t h c_3
    refine lv_iconst (v := (0 : Int32)) hx hb dX3_tellPrice_20 (by decide) ?_
    cases h
    exact ret _ _ _ _ dX3_tellPrice_21 (by decide) hG
  · have h := ite_f h c_3
    refine lv_iload_n hx hb dX3_tellPrice_10 rfl (lv_at hl 2 rfl) ?_
    refine lv_iconst (v := (0 : Int32)) hx hb dX3_tellPrice_11 (by decide) ?_
    refine lv_bipush (v := (49 : Int32)) hx hb dX3_tellPrice_12 (by decide) ?_
    obtain ⟨r_4, hz_5, h⟩ := bd1_some h
    refine aft_i (ws' := (W_X3 a0 a1 a2 a3 a4 cI cJ c_stand c_home c_priceStart c_priceStep c_thrown_cells c_thrown_filled c_nets_cells c_nets_filled)) (run_SN (rest := []) X hG hl.1 (mX8_within l dC dI cI cJ x2 (0 : Int32) (49 : Int32) hz_5) gi_N_yX8_within w_318 w_265 w_41 hd_S_yX8_within ⟨rfl, rfl⟩ rfl ⟨Nat.le_of_ble_eq_true rfl, Nat.le_of_ble_eq_true rfl⟩ [] (by decide) rfl rfl (Nat.le_of_ble_eq_true rfl) ⟨Nat.le_of_ble_eq_true rfl, Nat.le_of_ble_eq_true rfl⟩ dX3_tellPrice_14) hG [] rfl rfl rfl (fun H locs hG => ?_)
    clear hz_5
    refine lv_if_ne (tgt := 22) hx hb dX3_tellPrice_17 (by decide) (fun c_6 => ?_) (fun c_6 => ?_)
    · have h := ite_f h c_6
      refine lv_aload_n hx hb dX3_tellPrice_22 rfl (lv_at hl 0 rfl) ?_
      refine lv_iload_n hx hb dX3_tellPrice_23 rfl (lv_at hl 1 rfl) ?_
      refine r_put X hG in_X3 rfl tyX3 tyX3_ok nmX3 2 (by decide) rfl (by decide +kernel) w_133 0 (ws' := (W_X3 a0 a1 a2 a3 a4 cI cJ c_stand c_home x1 c_priceStep c_thrown_cells c_thrown_filled c_nets_cells c_nets_filled)) rfl (Nat.le_of_ble_eq_true rfl) rfl dX3_tellPrice_24 (fun H locs hG => ?_)
      refine lv_aload_n hx hb dX3_tellPrice_27 rfl (lv_at hl 0 rfl) ?_
      refine lv_iload_n hx hb dX3_tellPrice_28 rfl (lv_at hl 2 rfl) ?_
      refine r_put X hG in_X3 rfl tyX3 tyX3_ok nmX3 3 (by decide) rfl (by decide +kernel) w_134 0 (ws' := (W_X3 a0 a1 a2 a3 a4 cI cJ c_stand c_home x1 x2 c_thrown_cells c_thrown_filled c_nets_cells c_nets_filled)) rfl (Nat.le_of_ble_eq_true rfl) rfl dX3_tellPrice_29 (fun H locs hG => ?_)
      refine lv_iconst (v := (1 : Int32)) hx hb dX3_tellPrice_32 (by decide) ?_
      cases h
      exact ret _ _ _ _ dX3_tellPrice_33 (by decide) hG
    · have h := ite_t h c_6
      refine lv_iconst (v := (0 : Int32)) hx hb dX3_tellPrice_20 (by decide) ?_
      cases h
      exact ret _ _ _ _ dX3_tellPrice_21 (by decide) hG
set_option maxRecDepth 100000 in
set_option maxHeartbeats 4000000 in
theorem mX3_tellNet (l : Launch) (dC : Nat → ClassId) (dI : Nat → Nat → Nat) (cI cJ : ClassId) (a0 a1 a2 a3 a4 : Nat) (c_stand : Int32) (c_home : Int32) (c_priceStart : Int32) (c_priceStep : Int32) (c_thrown_cells : Nat → Int32) (c_thrown_filled : Int32) (c_nets_cells : Nat → Int32) (c_nets_filled : Int32) (x1 : Int32) (x2 : Int32) (x3 : Int32) (x4 : Int32) {res : Int32} {n_nets_cells : Nat → Int32} {n_nets_filled : Int32} (hD : DX3_tellNet x1 x2 x3 x4 c_nets_cells c_nets_filled = some (res, n_nets_cells, n_nets_filled)) : Met l yX3_tellNet (WZ yX3_tellNet cX3_tellNet 5 (some .boolean)) (RM 2 47) (PC dC dI cI cJ [.ref a0, .int x1, .int x2, .int x3, .int x4] (W_X3 a0 a1 a2 a3 a4 cI cJ c_stand c_home c_priceStart c_priceStep c_thrown_cells c_thrown_filled c_nets_cells c_nets_filled)) (QI dC dI (W_X3 a0 a1 a2 a3 a4 cI cJ c_stand c_home c_priceStart c_priceStep c_thrown_cells c_thrown_filled c_nets_cells c_nets_filled) (W_X3 a0 a1 a2 a3 a4 cI cJ c_stand c_home c_priceStart c_priceStep c_thrown_cells c_thrown_filled n_nets_cells n_nets_filled) res) 0 0 (FA (W_X3 a0 a1 a2 a3 a4 cI cJ c_stand c_home c_priceStart c_priceStep c_thrown_cells c_thrown_filled c_nets_cells c_nets_filled)) := by
  refine r_metZ (by decide +kernel) (Nat.le_of_ble_eq_true rfl) ?_
  intro p e s m args below meth c A H0 QQ X ret ls hl hG
  have X : Cx p m c cX3_tellNet 5 s args RX3 dC dI cI cJ meth (some .boolean) := X
  have hx := X.1.1
  have hb := X.1.2.1
  have hl : lv_has ls 5 [(0, .ref a0), (1, .int x1), (2, .int x2), (3, .int x3), (4, .int x4)] := hl
  have h := hD
  unfold DX3_tellNet at h
  clear hD
  refine lv_iload_n hx hb dX3_tellNet_0 rfl (lv_at hl 1 rfl) ?_
  refine lv_iconst (v := (0 : Int32)) hx hb dX3_tellNet_1 (by decide) ?_
  refine lv_bipush (v := (23 : Int32)) hx hb dX3_tellNet_2 (by decide) ?_
  obtain ⟨r_1, hz_2, h⟩ := bd1_some h
  refine aft_i (ws' := (W_X3 a0 a1 a2 a3 a4 cI cJ c_stand c_home c_priceStart c_priceStep c_thrown_cells c_thrown_filled c_nets_cells c_nets_filled)) (run_SN (rest := []) X hG hl.1 (mX8_within l dC dI cI cJ x1 (0 : Int32) (23 : Int32) hz_2) gi_N_yX8_within w_318 w_265 w_41 hd_S_yX8_within ⟨rfl, rfl⟩ rfl ⟨Nat.le_of_ble_eq_true rfl, Nat.le_of_ble_eq_true rfl⟩ [] (by decide) rfl rfl (Nat.le_of_ble_eq_true rfl) ⟨Nat.le_of_ble_eq_true rfl, Nat.le_of_ble_eq_true rfl⟩ dX3_tellNet_4) hG [] rfl rfl rfl (fun H locs hG => ?_)
  clear hz_2
  refine lv_if_eq (tgt := 59) hx hb dX3_tellNet_7 (by decide) (fun c_3 => ?_) (fun c_3 => ?_)
  · have h := ite_t h c_3
    refine lv_iconst (v := (0 : Int32)) hx hb dX3_tellNet_59 (by decide) ?_
    cases h
    exact ret _ _ _ _ dX3_tellNet_60 (by decide) hG
  · have h := ite_f h c_3
    refine lv_iload_n hx hb dX3_tellNet_10 rfl (lv_at hl 2 rfl) ?_
    refine lv_iconst (v := (0 : Int32)) hx hb dX3_tellNet_11 (by decide) ?_
    refine lv_iconst (v := (3 : Int32)) hx hb dX3_tellNet_12 (by decide) ?_
    obtain ⟨r_4, hz_5, h⟩ := bd1_some h
    refine aft_i (ws' := (W_X3 a0 a1 a2 a3 a4 cI cJ c_stand c_home c_priceStart c_priceStep c_thrown_cells c_thrown_filled c_nets_cells c_nets_filled)) (run_SN (rest := []) X hG hl.1 (mX8_within l dC dI cI cJ x2 (0 : Int32) (3 : Int32) hz_5) gi_N_yX8_within w_318 w_265 w_41 hd_S_yX8_within ⟨rfl, rfl⟩ rfl ⟨Nat.le_of_ble_eq_true rfl, Nat.le_of_ble_eq_true rfl⟩ [] (by decide) rfl rfl (Nat.le_of_ble_eq_true rfl) ⟨Nat.le_of_ble_eq_true rfl, Nat.le_of_ble_eq_true rfl⟩ dX3_tellNet_13) hG [] rfl rfl rfl (fun H locs hG => ?_)
    clear hz_5
    refine lv_if_eq (tgt := 59) hx hb dX3_tellNet_16 (by decide) (fun c_6 => ?_) (fun c_6 => ?_)
    · have h := ite_t h c_6
      refine lv_iconst (v := (0 : Int32)) hx hb dX3_tellNet_59 (by decide) ?_
      cases h
      exact ret _ _ _ _ dX3_tellNet_60 (by decide) hG
    · have h := ite_f h c_6
      refine lv_iload_n hx hb dX3_tellNet_19 rfl (lv_at hl 3 rfl) ?_
      refine lv_iconst (v := (0 : Int32)) hx hb dX3_tellNet_20 (by decide) ?_
      refine lv_bipush (v := (99 : Int32)) hx hb dX3_tellNet_21 (by decide) ?_
      obtain ⟨r_7, hz_8, h⟩ := bd1_some h
      refine aft_i (ws' := (W_X3 a0 a1 a2 a3 a4 cI cJ c_stand c_home c_priceStart c_priceStep c_thrown_cells c_thrown_filled c_nets_cells c_nets_filled)) (run_SN (rest := []) X hG hl.1 (mX8_within l dC dI cI cJ x3 (0 : Int32) (99 : Int32) hz_8) gi_N_yX8_within w_318 w_265 w_41 hd_S_yX8_within ⟨rfl, rfl⟩ rfl ⟨Nat.le_of_ble_eq_true rfl, Nat.le_of_ble_eq_true rfl⟩ [] (by decide) rfl rfl (Nat.le_of_ble_eq_true rfl) ⟨Nat.le_of_ble_eq_true rfl, Nat.le_of_ble_eq_true rfl⟩ dX3_tellNet_23) hG [] rfl rfl rfl (fun H locs hG => ?_)
      clear hz_8
      refine lv_if_eq (tgt := 59) hx hb dX3_tellNet_26 (by decide) (fun c_9 => ?_) (fun c_9 => ?_)
      · have h := ite_t h c_9
        refine lv_iconst (v := (0 : Int32)) hx hb dX3_tellNet_59 (by decide) ?_
        cases h
        exact ret _ _ _ _ dX3_tellNet_60 (by decide) hG
      · have h := ite_f h c_9
        refine lv_iload hx hb dX3_tellNet_29 (lv_at hl 4 rfl) ?_
        refine lv_iconst (v := (0 : Int32)) hx hb dX3_tellNet_31 (by decide) ?_
        refine lv_bipush (v := (99 : Int32)) hx hb dX3_tellNet_32 (by decide) ?_
        obtain ⟨r_10, hz_11, h⟩ := bd1_some h
        refine aft_i (ws' := (W_X3 a0 a1 a2 a3 a4 cI cJ c_stand c_home c_priceStart c_priceStep c_thrown_cells c_thrown_filled c_nets_cells c_nets_filled)) (run_SN (rest := []) X hG hl.1 (mX8_within l dC dI cI cJ x4 (0 : Int32) (99 : Int32) hz_11) gi_N_yX8_within w_318 w_265 w_41 hd_S_yX8_within ⟨rfl, rfl⟩ rfl ⟨Nat.le_of_ble_eq_true rfl, Nat.le_of_ble_eq_true rfl⟩ [] (by decide) rfl rfl (Nat.le_of_ble_eq_true rfl) ⟨Nat.le_of_ble_eq_true rfl, Nat.le_of_ble_eq_true rfl⟩ dX3_tellNet_34) hG [] rfl rfl rfl (fun H locs hG => ?_)
        clear hz_11
        refine lv_if_eq (tgt := 59) hx hb dX3_tellNet_37 (by decide) (fun c_12 => ?_) (fun c_12 => ?_)
        · have h := ite_t h c_12
          refine lv_iconst (v := (0 : Int32)) hx hb dX3_tellNet_59 (by decide) ?_
          cases h
          exact ret _ _ _ _ dX3_tellNet_60 (by decide) hG
        · have h := ite_f h c_12
          refine lv_aload_n hx hb dX3_tellNet_40 rfl (lv_at hl 0 rfl) ?_
          refine r_get X hG in_X3 rfl 5 (by decide) w_138 0 rfl rfl dX3_tellNet_41 ?_
          refine lv_iload_n hx hb dX3_tellNet_44 rfl (lv_at hl 1 rfl) ?_
          refine lv_iload_n hx hb dX3_tellNet_45 rfl (lv_at hl 2 rfl) ?_
          refine lv_iload_n hx hb dX3_tellNet_46 rfl (lv_at hl 3 rfl) ?_
          refine lv_iload hx hb dX3_tellNet_47 (lv_at hl 4 rfl) ?_
          obtain ⟨r_13, k_nets_cells_14, k_nets_filled_15, hz_16, h⟩ := bd3_some h
          refine aft_i (ws' := (W_X3 a0 a1 a2 a3 a4 cI cJ c_stand c_home c_priceStart c_priceStep c_thrown_cells c_thrown_filled k_nets_cells_14 k_nets_filled_15)) (run_V (rest := []) X hG hl.1 (mX5_add l dC dI cI cJ a3 a4 (5 : Int32) (4 : Int32) 20 c_nets_cells c_nets_filled x1 x2 x3 x4 hz_16) gi_V_X3_64 hd_V_yX5_add ⟨rfl, rfl⟩ rfl ⟨Nat.le_of_ble_eq_true rfl, Nat.le_of_ble_eq_true rfl⟩ [3, 4] (by decide) rfl 3 rfl rfl rfl rfl (Nat.le_of_ble_eq_true rfl) ⟨Nat.le_of_ble_eq_true rfl, Nat.le_of_ble_eq_true rfl⟩ dX3_tellNet_49) hG [3, 4] rfl rfl rfl (fun H locs hG => ?_)
          clear hz_16
          refine lv_if_eq (tgt := 59) hx hb dX3_tellNet_52 (by decide) (fun c_17 => ?_) (fun c_17 => ?_)
          · have h := ite_t h c_17
            refine lv_iconst (v := (0 : Int32)) hx hb dX3_tellNet_59 (by decide) ?_
            cases h
            exact ret _ _ _ _ dX3_tellNet_60 (by decide) hG
          · have h := ite_f h c_17
            refine lv_iconst (v := (1 : Int32)) hx hb dX3_tellNet_55 (by decide) ?_
            refine lv_goto (tgt := 60) hx hb dX3_tellNet_56 (by decide) ?_
            cases h
            exact ret _ _ _ _ dX3_tellNet_60 (by decide) hG
set_option maxRecDepth 100000 in
set_option maxHeartbeats 4000000 in
theorem mX3_tell (l : Launch) (dC : Nat → ClassId) (dI : Nat → Nat → Nat) (cI cJ : ClassId) (a0 a1 a2 a3 a4 : Nat) (c_stand : Int32) (c_home : Int32) (c_priceStart : Int32) (c_priceStep : Int32) (c_thrown_cells : Nat → Int32) (c_thrown_filled : Int32) (c_nets_cells : Nat → Int32) (c_nets_filled : Int32) (x1 : Int32) (x2 : Int32) (x3 : Int32) (x4 : Int32) (x5 : Int32) {res : Int32} {n_stand : Int32} {n_home : Int32} {n_priceStart : Int32} {n_priceStep : Int32} {n_thrown_cells : Nat → Int32} {n_thrown_filled : Int32} {n_nets_cells : Nat → Int32} {n_nets_filled : Int32} (hD : DX3_tell x1 x2 x3 x4 x5 c_stand c_home c_priceStart c_priceStep c_thrown_cells c_thrown_filled c_nets_cells c_nets_filled = some (res, n_stand, n_home, n_priceStart, n_priceStep, n_thrown_cells, n_thrown_filled, n_nets_cells, n_nets_filled)) : Met l yX3_tell (WZ yX3_tell cX3_tell 6 (some .boolean)) (RM 3 71) (PC dC dI cI cJ [.ref a0, .int x1, .int x2, .int x3, .int x4, .int x5] (W_X3 a0 a1 a2 a3 a4 cI cJ c_stand c_home c_priceStart c_priceStep c_thrown_cells c_thrown_filled c_nets_cells c_nets_filled)) (QI dC dI (W_X3 a0 a1 a2 a3 a4 cI cJ c_stand c_home c_priceStart c_priceStep c_thrown_cells c_thrown_filled c_nets_cells c_nets_filled) (W_X3 a0 a1 a2 a3 a4 cI cJ n_stand n_home n_priceStart n_priceStep n_thrown_cells n_thrown_filled n_nets_cells n_nets_filled) res) 0 0 (FA (W_X3 a0 a1 a2 a3 a4 cI cJ c_stand c_home c_priceStart c_priceStep c_thrown_cells c_thrown_filled c_nets_cells c_nets_filled)) := by
  refine r_metZ (by decide +kernel) (Nat.le_of_ble_eq_true rfl) ?_
  intro p e s m args below meth c A H0 QQ X ret ls hl hG
  have X : Cx p m c cX3_tell 6 s args RX3 dC dI cI cJ meth (some .boolean) := X
  have hx := X.1.1
  have hb := X.1.2.1
  have hl : lv_has ls 6 [(0, .ref a0), (1, .int x1), (2, .int x2), (3, .int x3), (4, .int x4), (5, .int x5)] := hl
  have h := hD
  unfold DX3_tell at h
  clear hD
  refine lv_iload_n hx hb dX3_tell_0 rfl (lv_at hl 1 rfl) ?_
  rcases Decidable.em (x1 = (110 : Int32)) with c_1 | c_1
  · have h := ite_t h c_1
    refine lv_tableIn (off := 61) (tgt := 62) hx hb dX3_tell_1 (by rw [c_1] <;> decide) (by rw [c_1] <;> decide) (by rw [c_1] <;> rfl) (by decide) ?_
    refine lv_aload_n hx hb dX3_tell_62 rfl (lv_at hl 0 rfl) ?_
    refine lv_iload_n hx hb dX3_tell_63 rfl (lv_at hl 2 rfl) ?_
    refine lv_iload_n hx hb dX3_tell_64 rfl (lv_at hl 3 rfl) ?_
    refine lv_iload hx hb dX3_tell_65 (lv_at hl 4 rfl) ?_
    refine lv_iload hx hb dX3_tell_67 (lv_at hl 5 rfl) ?_
    obtain ⟨r_2, k_nets_cells_3, k_nets_filled_4, hz_5, h⟩ := bd3_some h
    refine aft_i (ws' := (W_X3 a0 a1 a2 a3 a4 cI cJ c_stand c_home c_priceStart c_priceStep c_thrown_cells c_thrown_filled k_nets_cells_3 k_nets_filled_4)) (run_V (rest := []) X hG hl.1 (mX3_tellNet l dC dI cI cJ a0 a1 a2 a3 a4 c_stand c_home c_priceStart c_priceStep c_thrown_cells c_thrown_filled c_nets_cells c_nets_filled x2 x3 x4 x5 hz_5) gi_V_X3_54 hd_V_yX3_tellNet ⟨rfl, rfl⟩ rfl ⟨Nat.le_of_ble_eq_true rfl, Nat.le_of_ble_eq_true rfl⟩ [0, 1, 2, 3, 4] (by decide) rfl 0 rfl rfl rfl rfl (Nat.le_of_ble_eq_true rfl) ⟨Nat.le_of_ble_eq_true rfl, Nat.le_of_ble_eq_true rfl⟩ dX3_tell_69) hG [0, 1, 2, 3, 4] rfl rfl rfl (fun H locs hG => ?_)
    clear hz_5
    obtain ⟨g_6, h⟩ := gd h
    cases h
    exact ret _ _ _ _ dX3_tell_72 (Decidable.not_not.mp g_6) hG
  · have h := ite_f h c_1
    rcases Decidable.em (x1 = (111 : Int32)) with c_7 | c_7
    · have h := ite_t h c_7
      refine lv_tableIn (off := 79) (tgt := 80) hx hb dX3_tell_1 (by rw [c_7] <;> decide) (by rw [c_7] <;> decide) (by rw [c_7] <;> rfl) (by decide) ?_
      refine lv_iconst (v := (0 : Int32)) hx hb dX3_tell_80 (by decide) ?_
      cases h
      exact ret _ _ _ _ dX3_tell_81 (by decide) hG
    · have h := ite_f h c_7
      rcases Decidable.em (x1 = (112 : Int32)) with c_8 | c_8
      · have h := ite_t h c_8
        refine lv_tableIn (off := 72) (tgt := 73) hx hb dX3_tell_1 (by rw [c_8] <;> decide) (by rw [c_8] <;> decide) (by rw [c_8] <;> rfl) (by decide) ?_
        refine lv_aload_n hx hb dX3_tell_73 rfl (lv_at hl 0 rfl) ?_
        refine lv_iload_n hx hb dX3_tell_74 rfl (lv_at hl 2 rfl) ?_
        refine lv_iload_n hx hb dX3_tell_75 rfl (lv_at hl 3 rfl) ?_
        obtain ⟨r_9, k_priceStart_10, k_priceStep_11, hz_12, h⟩ := bd3_some h
        refine aft_i (ws' := (W_X3 a0 a1 a2 a3 a4 cI cJ c_stand c_home k_priceStart_10 k_priceStep_11 c_thrown_cells c_thrown_filled c_nets_cells c_nets_filled)) (run_V (rest := []) X hG hl.1 (mX3_tellPrice l dC dI cI cJ a0 a1 a2 a3 a4 c_stand c_home c_priceStart c_priceStep c_thrown_cells c_thrown_filled c_nets_cells c_nets_filled x2 x3 hz_12) gi_V_X3_57 hd_V_yX3_tellPrice ⟨rfl, rfl⟩ rfl ⟨Nat.le_of_ble_eq_true rfl, Nat.le_of_ble_eq_true rfl⟩ [0, 1, 2, 3, 4] (by decide) rfl 0 rfl rfl rfl rfl (Nat.le_of_ble_eq_true rfl) ⟨Nat.le_of_ble_eq_true rfl, Nat.le_of_ble_eq_true rfl⟩ dX3_tell_76) hG [0, 1, 2, 3, 4] rfl rfl rfl (fun H locs hG => ?_)
        clear hz_12
        obtain ⟨g_13, h⟩ := gd h
        cases h
        exact ret _ _ _ _ dX3_tell_79 (Decidable.not_not.mp g_13) hG
      · have h := ite_f h c_8
        rcases Decidable.em (x1 = (113 : Int32)) with c_14 | c_14
        · have h := ite_t h c_14
          refine lv_tableIn (off := 79) (tgt := 80) hx hb dX3_tell_1 (by rw [c_14] <;> decide) (by rw [c_14] <;> decide) (by rw [c_14] <;> rfl) (by decide) ?_
          refine lv_iconst (v := (0 : Int32)) hx hb dX3_tell_80 (by decide) ?_
          cases h
          exact ret _ _ _ _ dX3_tell_81 (by decide) hG
        · have h := ite_f h c_14
          rcases Decidable.em (x1 = (114 : Int32)) with c_15 | c_15
          · have h := ite_t h c_15
            refine lv_tableIn (off := 43) (tgt := 44) hx hb dX3_tell_1 (by rw [c_15] <;> decide) (by rw [c_15] <;> decide) (by rw [c_15] <;> rfl) (by decide) ?_
            refine lv_aload_n hx hb dX3_tell_44 rfl (lv_at hl 0 rfl) ?_
            refine lv_iload_n hx hb dX3_tell_45 rfl (lv_at hl 2 rfl) ?_
            refine lv_iload_n hx hb dX3_tell_46 rfl (lv_at hl 3 rfl) ?_
            obtain ⟨r_16, k_stand_17, k_home_18, hz_19, h⟩ := bd3_some h
            refine aft_i (ws' := (W_X3 a0 a1 a2 a3 a4 cI cJ k_stand_17 k_home_18 c_priceStart c_priceStep c_thrown_cells c_thrown_filled c_nets_cells c_nets_filled)) (run_V (rest := []) X hG hl.1 (mX3_tellRock l dC dI cI cJ a0 a1 a2 a3 a4 c_stand c_home c_priceStart c_priceStep c_thrown_cells c_thrown_filled c_nets_cells c_nets_filled x2 x3 hz_19) gi_V_X3_46 hd_V_yX3_tellRock ⟨rfl, rfl⟩ rfl ⟨Nat.le_of_ble_eq_true rfl, Nat.le_of_ble_eq_true rfl⟩ [0, 1, 2, 3, 4] (by decide) rfl 0 rfl rfl rfl rfl (Nat.le_of_ble_eq_true rfl) ⟨Nat.le_of_ble_eq_true rfl, Nat.le_of_ble_eq_true rfl⟩ dX3_tell_47) hG [0, 1, 2, 3, 4] rfl rfl rfl (fun H locs hG => ?_)
            clear hz_19
            obtain ⟨g_20, h⟩ := gd h
            cases h
            exact ret _ _ _ _ dX3_tell_50 (Decidable.not_not.mp g_20) hG
          · have h := ite_f h c_15
            rcases Decidable.em (x1 = (115 : Int32)) with c_21 | c_21
            · have h := ite_t h c_21
              refine lv_tableIn (off := 79) (tgt := 80) hx hb dX3_tell_1 (by rw [c_21] <;> decide) (by rw [c_21] <;> decide) (by rw [c_21] <;> rfl) (by decide) ?_
              refine lv_iconst (v := (0 : Int32)) hx hb dX3_tell_80 (by decide) ?_
              cases h
              exact ret _ _ _ _ dX3_tell_81 (by decide) hG
            · have h := ite_f h c_21
              rcases Decidable.em (x1 = (116 : Int32)) with c_22 | c_22
              · have h := ite_t h c_22
                refine lv_tableIn (off := 50) (tgt := 51) hx hb dX3_tell_1 (by rw [c_22] <;> decide) (by rw [c_22] <;> decide) (by rw [c_22] <;> rfl) (by decide) ?_
                refine lv_aload_n hx hb dX3_tell_51 rfl (lv_at hl 0 rfl) ?_
                refine lv_iload_n hx hb dX3_tell_52 rfl (lv_at hl 2 rfl) ?_
                refine lv_iload_n hx hb dX3_tell_53 rfl (lv_at hl 3 rfl) ?_
                refine lv_iload hx hb dX3_tell_54 (lv_at hl 4 rfl) ?_
                refine lv_iload hx hb dX3_tell_56 (lv_at hl 5 rfl) ?_
                obtain ⟨r_23, k_thrown_cells_24, k_thrown_filled_25, hz_26, h⟩ := bd3_some h
                refine aft_i (ws' := (W_X3 a0 a1 a2 a3 a4 cI cJ c_stand c_home c_priceStart c_priceStep k_thrown_cells_24 k_thrown_filled_25 c_nets_cells c_nets_filled)) (run_V (rest := []) X hG hl.1 (mX3_tellThrow l dC dI cI cJ a0 a1 a2 a3 a4 c_stand c_home c_priceStart c_priceStep c_thrown_cells c_thrown_filled c_nets_cells c_nets_filled x2 x3 x4 x5 hz_26) gi_V_X3_50 hd_V_yX3_tellThrow ⟨rfl, rfl⟩ rfl ⟨Nat.le_of_ble_eq_true rfl, Nat.le_of_ble_eq_true rfl⟩ [0, 1, 2, 3, 4] (by decide) rfl 0 rfl rfl rfl rfl (Nat.le_of_ble_eq_true rfl) ⟨Nat.le_of_ble_eq_true rfl, Nat.le_of_ble_eq_true rfl⟩ dX3_tell_58) hG [0, 1, 2, 3, 4] rfl rfl rfl (fun H locs hG => ?_)
                clear hz_26
                obtain ⟨g_27, h⟩ := gd h
                cases h
                exact ret _ _ _ _ dX3_tell_61 (Decidable.not_not.mp g_27) hG
              · have h := ite_f h c_22
                refine lv_tableOut (tgt := 80) hx hb dX3_tell_1 (by have := lv_neT c_1 (a := 110) rfl; have := lv_neT c_7 (a := 111) rfl; have := lv_neT c_8 (a := 112) rfl; have := lv_neT c_14 (a := 113) rfl; have := lv_neT c_15 (a := 114) rfl; have := lv_neT c_21 (a := 115) rfl; have := lv_neT c_22 (a := 116) rfl; omega) (by decide) ?_
                refine lv_iconst (v := (0 : Int32)) hx hb dX3_tell_80 (by decide) ?_
                cases h
                exact ret _ _ _ _ dX3_tell_81 (by decide) hG
set_option maxRecDepth 100000 in
set_option maxHeartbeats 4000000 in
theorem mX6_signAt (l : Launch) (dC : Nat → ClassId) (dI : Nat → Nat → Nat) (cI cJ : ClassId) (a0 a1 : Nat) (c_bytes : Nat → Int32) (c_length : Int32) (x1 : Int32) {res : Int32} (hD : DX6_signAt x1 c_bytes c_length = some res) : Met l yX6_signAt (WZ yX6_signAt cX6_signAt 2 (some .int)) (RM 1 21) (PC dC dI cI cJ [.ref a0, .int x1] (W_X6 a0 a1 cI cJ c_bytes c_length)) (QI dC dI (W_X6 a0 a1 cI cJ c_bytes c_length) (W_X6 a0 a1 cI cJ c_bytes c_length) res) 0 0 (FA (W_X6 a0 a1 cI cJ c_bytes c_length)) := by
  refine r_metI (by decide +kernel) (Nat.le_of_ble_eq_true rfl) ?_
  intro p e s m args below meth c A H0 QQ X ret ls hl hG
  have X : Cx p m c cX6_signAt 2 s args RX6 dC dI cI cJ meth (some .int) := X
  have hx := X.1.1
  have hb := X.1.2.1
  have hl : lv_has ls 2 [(0, .ref a0), (1, .int x1)] := hl
  have h := hD
  unfold DX6_signAt at h
  clear hD
  refine lv_iload_n hx hb dX6_signAt_0 rfl (lv_at hl 1 rfl) ?_
  refine lv_if_lt (tgt := 23) hx hb dX6_signAt_1 (by decide) (fun c_1 => ?_) (fun c_1 => ?_)
  · have h := ite_t h c_1
    refine lv_iconst (v := (-1 : Int32)) hx hb dX6_signAt_23 (by decide) ?_
    cases h
    exact ret _ _ _ _ dX6_signAt_24 hG
  · have h := ite_f h c_1
    refine lv_iload_n hx hb dX6_signAt_4 rfl (lv_at hl 1 rfl) ?_
    refine lv_aload_n hx hb dX6_signAt_5 rfl (lv_at hl 0 rfl) ?_
    refine r_get X hG in_X6 rfl 1 (by decide) w_69 0 rfl rfl dX6_signAt_6 ?_
    refine lv_icmp_ge (tgt := 23) hx hb dX6_signAt_9 (by decide) (fun c_2 => ?_) (fun c_2 => ?_)
    · have h := ite_t h c_2
      refine lv_iconst (v := (-1 : Int32)) hx hb dX6_signAt_23 (by decide) ?_
      cases h
      exact ret _ _ _ _ dX6_signAt_24 hG
    · have h := ite_f h c_2
      refine lv_aload_n hx hb dX6_signAt_12 rfl (lv_at hl 0 rfl) ?_
      refine r_get X hG in_X6 rfl 0 (by decide) w_68 0 rfl rfl dX6_signAt_13 ?_
      refine lv_iload_n hx hb dX6_signAt_16 rfl (lv_at hl 1 rfl) ?_
      obtain ⟨r_3, hz_4, h⟩ := bd1_some h
      refine aft_i (ws' := (W_X6 a0 a1 cI cJ c_bytes c_length)) (run_SN (rest := []) X hG hl.1 (mX8_at l dC dI cI cJ a1 300 c_bytes x1 hz_4) gi_N_yX8_at w_295 w_296 w_41 hd_S_yX8_at ⟨rfl, rfl⟩ rfl ⟨Nat.le_of_ble_eq_true rfl, Nat.le_of_ble_eq_true rfl⟩ [1] (by decide) rfl rfl (Nat.le_of_ble_eq_true rfl) ⟨Nat.le_of_ble_eq_true rfl, Nat.le_of_ble_eq_true rfl⟩ dX6_signAt_17) hG [1] rfl rfl rfl (fun H locs hG => ?_)
      clear hz_4
      refine lv_goto (tgt := 24) hx hb dX6_signAt_20 (by decide) ?_
      cases h
      exact ret _ _ _ _ dX6_signAt_24 hG
set_option maxRecDepth 100000 in
set_option maxHeartbeats 4000000 in
theorem mX4_numbersBehind (l : Launch) (dC : Nat → ClassId) (dI : Nat → Nat → Nat) (cI cJ : ClassId) (x0 : Int32) {res : Int32} (hD : DX4_numbersBehind x0 = some res) : Met l yX4_numbersBehind (WZ yX4_numbersBehind cX4_numbersBehind 1 (some .int)) (RM 0 0) (PC dC dI cI cJ [.int x0] []) (QI dC dI [] [] res) 0 0 (FA []) := by
  refine r_metI (by decide +kernel) (Nat.le_of_ble_eq_true rfl) ?_
  intro p e s m args below meth c A H0 QQ X ret ls hl hG
  have X : Cx p m c cX4_numbersBehind 1 s args RX4 dC dI cI cJ meth (some .int) := X
  have hx := X.1.1
  have hb := X.1.2.1
  have hl : lv_has ls 1 [(0, .int x0)] := hl
  have h := hD
  unfold DX4_numbersBehind at h
  clear hD
  refine lv_iload_n hx hb dX4_numbersBehind_0 rfl (lv_at hl 0 rfl) ?_
  rcases Decidable.em (x0 = (110 : Int32)) with c_1 | c_1
  · have h := ite_t h c_1
    refine lv_tableIn (off := 45) (tgt := 46) hx hb dX4_numbersBehind_1 (by rw [c_1] <;> decide) (by rw [c_1] <;> decide) (by rw [c_1] <;> rfl) (by decide) ?_
    refine lv_iconst (v := (4 : Int32)) hx hb dX4_numbersBehind_46 (by decide) ?_
    cases h
    exact ret _ _ _ _ dX4_numbersBehind_47 hG
  · have h := ite_f h c_1
    rcases Decidable.em (x0 = (111 : Int32)) with c_2 | c_2
    · have h := ite_t h c_2
      refine lv_tableIn (off := 47) (tgt := 48) hx hb dX4_numbersBehind_1 (by rw [c_2] <;> decide) (by rw [c_2] <;> decide) (by rw [c_2] <;> rfl) (by decide) ?_
      refine lv_iconst (v := (0 : Int32)) hx hb dX4_numbersBehind_48 (by decide) ?_
      cases h
      exact ret _ _ _ _ dX4_numbersBehind_49 hG
    · have h := ite_f h c_2
      rcases Decidable.em (x0 = (112 : Int32)) with c_3 | c_3
      · have h := ite_t h c_3
        refine lv_tableIn (off := 43) (tgt := 44) hx hb dX4_numbersBehind_1 (by rw [c_3] <;> decide) (by rw [c_3] <;> decide) (by rw [c_3] <;> rfl) (by decide) ?_
        refine lv_iconst (v := (2 : Int32)) hx hb dX4_numbersBehind_44 (by decide) ?_
        cases h
        exact ret _ _ _ _ dX4_numbersBehind_45 hG
      · have h := ite_f h c_3
        rcases Decidable.em (x0 = (113 : Int32)) with c_4 | c_4
        · have h := ite_t h c_4
          refine lv_tableIn (off := 47) (tgt := 48) hx hb dX4_numbersBehind_1 (by rw [c_4] <;> decide) (by rw [c_4] <;> decide) (by rw [c_4] <;> rfl) (by decide) ?_
          refine lv_iconst (v := (0 : Int32)) hx hb dX4_numbersBehind_48 (by decide) ?_
          cases h
          exact ret _ _ _ _ dX4_numbersBehind_49 hG
        · have h := ite_f h c_4
          rcases Decidable.em (x0 = (114 : Int32)) with c_5 | c_5
          · have h := ite_t h c_5
            refine lv_tableIn (off := 43) (tgt := 44) hx hb dX4_numbersBehind_1 (by rw [c_5] <;> decide) (by rw [c_5] <;> decide) (by rw [c_5] <;> rfl) (by decide) ?_
            refine lv_iconst (v := (2 : Int32)) hx hb dX4_numbersBehind_44 (by decide) ?_
            cases h
            exact ret _ _ _ _ dX4_numbersBehind_45 hG
          · have h := ite_f h c_5
            rcases Decidable.em (x0 = (115 : Int32)) with c_6 | c_6
            · have h := ite_t h c_6
              refine lv_tableIn (off := 47) (tgt := 48) hx hb dX4_numbersBehind_1 (by rw [c_6] <;> decide) (by rw [c_6] <;> decide) (by rw [c_6] <;> rfl) (by decide) ?_
              refine lv_iconst (v := (0 : Int32)) hx hb dX4_numbersBehind_48 (by decide) ?_
              cases h
              exact ret _ _ _ _ dX4_numbersBehind_49 hG
            · have h := ite_f h c_6
              rcases Decidable.em (x0 = (116 : Int32)) with c_7 | c_7
              · have h := ite_t h c_7
                refine lv_tableIn (off := 45) (tgt := 46) hx hb dX4_numbersBehind_1 (by rw [c_7] <;> decide) (by rw [c_7] <;> decide) (by rw [c_7] <;> rfl) (by decide) ?_
                refine lv_iconst (v := (4 : Int32)) hx hb dX4_numbersBehind_46 (by decide) ?_
                cases h
                exact ret _ _ _ _ dX4_numbersBehind_47 hG
              · have h := ite_f h c_7
                refine lv_tableOut (tgt := 48) hx hb dX4_numbersBehind_1 (by have := lv_neT c_1 (a := 110) rfl; have := lv_neT c_2 (a := 111) rfl; have := lv_neT c_3 (a := 112) rfl; have := lv_neT c_4 (a := 113) rfl; have := lv_neT c_5 (a := 114) rfl; have := lv_neT c_6 (a := 115) rfl; have := lv_neT c_7 (a := 116) rfl; omega) (by decide) ?_
                refine lv_iconst (v := (0 : Int32)) hx hb dX4_numbersBehind_48 (by decide) ?_
                cases h
                exact ret _ _ _ _ dX4_numbersBehind_49 hG
set_option maxRecDepth 100000 in
set_option maxHeartbeats 4000000 in
theorem mX4_isFigure (l : Launch) (dC : Nat → ClassId) (dI : Nat → Nat → Nat) (cI cJ : ClassId) (x0 : Int32) {res : Int32} (hD : DX4_isFigure x0 = some res) : Met l yX4_isFigure (WZ yX4_isFigure cX4_isFigure 1 (some .boolean)) (RM 0 0) (PC dC dI cI cJ [.int x0] []) (QI dC dI [] [] res) 0 0 (FA []) := by
  refine r_metZ (by decide +kernel) (Nat.le_of_ble_eq_true rfl) ?_
  intro p e s m args below meth c A H0 QQ X ret ls hl hG
  have X : Cx p m c cX4_isFigure 1 s args RX4 dC dI cI cJ meth (some .boolean) := X
  have hx := X.1.1
  have hb := X.1.2.1
  have hl : lv_has ls 1 [(0, .int x0)] := hl
  have h := hD
  unfold DX4_isFigure at h
  clear hD
  refine lv_iload_n hx hb dX4_isFigure_0 rfl (lv_at hl 0 rfl) ?_
  refine lv_bipush (v := (48 : Int32)) hx hb dX4_isFigure_1 (by decide) ?_
  refine lv_icmp_lt (tgt := 16) hx hb dX4_isFigure_3 (by decide) (fun c_1 => ?_) (fun c_1 => ?_)
  · have h := ite_t h c_1
    refine lv_iconst (v := (0 : Int32)) hx hb dX4_isFigure_16 (by decide) ?_
    cases h
    exact ret _ _ _ _ dX4_isFigure_17 (by decide) hG
  · have h := ite_f h c_1
    refine lv_iload_n hx hb dX4_isFigure_6 rfl (lv_at hl 0 rfl) ?_
    refine lv_bipush (v := (57 : Int32)) hx hb dX4_isFigure_7 (by decide) ?_
    refine lv_icmp_gt (tgt := 16) hx hb dX4_isFigure_9 (by decide) (fun c_2 => ?_) (fun c_2 => ?_)
    · have h := ite_t h c_2
      refine lv_iconst (v := (0 : Int32)) hx hb dX4_isFigure_16 (by decide) ?_
      cases h
      exact ret _ _ _ _ dX4_isFigure_17 (by decide) hG
    · have h := ite_f h c_2
      refine lv_iconst (v := (1 : Int32)) hx hb dX4_isFigure_12 (by decide) ?_
      refine lv_goto (tgt := 17) hx hb dX4_isFigure_13 (by decide) ?_
      cases h
      exact ret _ _ _ _ dX4_isFigure_17 (by decide) hG
set_option maxRecDepth 100000 in
set_option maxHeartbeats 4000000 in
theorem mX4_readNumber (l : Launch) (dC : Nat → ClassId) (dI : Nat → Nat → Nat) (cI cJ : ClassId) (a0 a1 a2 a3 : Nat) (c_numbers : Nat → Int32) (c_next : Int32) (o_bytes : Nat → Int32) (o_length : Int32) (x2 : Int32) {res : Int32} {n_numbers : Nat → Int32} {n_next : Int32} (hD : DX4_readNumber x2 c_numbers c_next o_bytes o_length = some (res, n_numbers, n_next)) : Met l yX4_readNumber (WZ yX4_readNumber cX4_readNumber 4 (some .boolean)) (RM 2 42) (PC dC dI cI cJ [.ref a0, .ref a2, .int x2] (W_X4_X6 a0 a1 a2 a3 cI cJ c_numbers c_next o_bytes o_length)) (QI dC dI (W_X4_X6 a0 a1 a2 a3 cI cJ c_numbers c_next o_bytes o_length) (W_X4_X6 a0 a1 a2 a3 cI cJ n_numbers n_next o_bytes o_length) res) 0 0 (FA (W_X4_X6 a0 a1 a2 a3 cI cJ c_numbers c_next o_bytes o_length)) := by
  refine r_metZ (by decide +kernel) (Nat.le_of_ble_eq_true rfl) ?_
  intro p e s m args below meth c A H0 QQ X ret ls hl hG
  have X : Cx p m c cX4_readNumber 4 s args RX4 dC dI cI cJ meth (some .boolean) := X
  have hx := X.1.1
  have hb := X.1.2.1
  have hl : lv_has ls 4 [(0, .ref a0), (1, .ref a2), (2, .int x2)] := hl
  have h := hD
  unfold DX4_readNumber at h
  clear hD
  refine lv_aload_n hx hb dX4_readNumber_0 rfl (lv_at hl 1 rfl) ?_
  refine lv_aload_n hx hb dX4_readNumber_1 rfl (lv_at hl 0 rfl) ?_
  refine r_get X hG in_X4 rfl 1 (by decide) w_85 0 rfl rfl dX4_readNumber_2 ?_
  obtain ⟨r_1, hz_2, h⟩ := bd1_some h
  refine aft_i (ws' := (W_X4_X6 a0 a1 a2 a3 cI cJ c_numbers c_next o_bytes o_length)) (run_V (rest := []) X hG hl.1 (mX6_signAt l dC dI cI cJ a2 a3 o_bytes o_length c_next hz_2) gi_V_X4_33 hd_V_yX6_signAt ⟨rfl, rfl⟩ rfl ⟨Nat.le_of_ble_eq_true rfl, Nat.le_of_ble_eq_true rfl⟩ [2, 3] (by decide) rfl 2 rfl rfl rfl rfl (Nat.le_of_ble_eq_true rfl) ⟨Nat.le_of_ble_eq_true rfl, Nat.le_of_ble_eq_true rfl⟩ dX4_readNumber_5) hG [2, 3] rfl rfl rfl (fun H locs hG => ?_)
  clear hz_2
  obtain ⟨r_3, hz_4, h⟩ := bd1_some h
  refine aft_i (ws' := (W_X4_X6 a0 a1 a2 a3 cI cJ c_numbers c_next o_bytes o_length)) (run_S (rest := []) X hG hl.1 (mX4_isFigure l dC dI cI cJ r_1 hz_4) gi_S_X4_52 hd_S_yX4_isFigure ⟨rfl, rfl⟩ rfl ⟨Nat.le_of_ble_eq_true rfl, Nat.le_of_ble_eq_true rfl⟩ [] (by decide) rfl rfl (Nat.le_of_ble_eq_true rfl) ⟨Nat.le_of_ble_eq_true rfl, Nat.le_of_ble_eq_true rfl⟩ dX4_readNumber_8) hG [] rfl rfl rfl (fun H locs hG => ?_)
  clear hz_4
  refine lv_if_ne (tgt := 16) hx hb dX4_readNumber_11 (by decide) (fun c_5 => ?_) (fun c_5 => ?_)
  · have h := ite_f h c_5
    refine lv_aload_n hx hb dX4_readNumber_16 rfl (lv_at hl 1 rfl) ?_
    refine lv_aload_n hx hb dX4_readNumber_17 rfl (lv_at hl 0 rfl) ?_
    refine r_get X hG in_X4 rfl 1 (by decide) w_85 0 rfl rfl dX4_readNumber_18 ?_
    obtain ⟨r_6, hz_7, h⟩ := bd1_some h
    refine aft_i (ws' := (W_X4_X6 a0 a1 a2 a3 cI cJ c_numbers c_next o_bytes o_length)) (run_V (rest := []) X hG hl.1 (mX6_signAt l dC dI cI cJ a2 a3 o_bytes o_length c_next hz_7) gi_V_X4_33 hd_V_yX6_signAt ⟨rfl, rfl⟩ rfl ⟨Nat.le_of_ble_eq_true rfl, Nat.le_of_ble_eq_true rfl⟩ [2, 3] (by decide) rfl 2 rfl rfl rfl rfl (Nat.le_of_ble_eq_true rfl) ⟨Nat.le_of_ble_eq_true rfl, Nat.le_of_ble_eq_true rfl⟩ dX4_readNumber_21) hG [2, 3] rfl rfl rfl (fun H locs hG => ?_)
    clear hz_7
    refine lv_bipush (v := (48 : Int32)) hx hb dX4_readNumber_24 (by decide) ?_
    refine lv_isub hx hb dX4_readNumber_26 ?_
    refine lv_istore_n (lv' := [(3, .int (r_6 - (48 : Int32))), (0, .ref a0), (1, .ref a2), (2, .int x2)]) hx hb dX4_readNumber_27 rfl hl (by decide) rfl (fun ls hl => ?_)
    refine lv_aload_n hx hb dX4_readNumber_28 rfl (lv_at hl 1 rfl) ?_
    refine lv_dup hx hb dX4_readNumber_29 rfl ?_
    refine r_get X hG in_X4 rfl 1 (by decide) w_85 0 rfl rfl dX4_readNumber_30 ?_
    refine lv_iconst (v := (1 : Int32)) hx hb dX4_readNumber_33 (by decide) ?_
    refine lv_iadd hx hb dX4_readNumber_34 ?_
    refine r_put X hG in_X4 rfl tyX4 tyX4_ok nmX4 1 (by decide) rfl (by decide +kernel) w_85 0 (ws' := (W_X4_X6 a0 a1 a2 a3 cI cJ c_numbers (c_next + (1 : Int32)) o_bytes o_length)) rfl (Nat.le_of_ble_eq_true rfl) rfl dX4_readNumber_35 (fun H locs hG => ?_)
    refine lv_aload_n hx hb dX4_readNumber_38 rfl (lv_at hl 2 rfl) ?_
    refine lv_aload_n hx hb dX4_readNumber_39 rfl (lv_at hl 1 rfl) ?_
    refine r_get X hG in_X4 rfl 1 (by decide) w_85 0 rfl rfl dX4_readNumber_40 ?_
    obtain ⟨r_8, hz_9, h⟩ := bd1_some h
    refine aft_i (ws' := (W_X4_X6 a0 a1 a2 a3 cI cJ c_numbers (c_next + (1 : Int32)) o_bytes o_length)) (run_V (rest := []) X hG hl.1 (mX6_signAt l dC dI cI cJ a2 a3 o_bytes o_length (c_next + (1 : Int32)) hz_9) gi_V_X4_33 hd_V_yX6_signAt ⟨rfl, rfl⟩ rfl ⟨Nat.le_of_ble_eq_true rfl, Nat.le_of_ble_eq_true rfl⟩ [2, 3] (by decide) rfl 2 rfl rfl rfl rfl (Nat.le_of_ble_eq_true rfl) ⟨Nat.le_of_ble_eq_true rfl, Nat.le_of_ble_eq_true rfl⟩ dX4_readNumber_43) hG [2, 3] rfl rfl rfl (fun H locs hG => ?_)
    clear hz_9
    obtain ⟨r_10, hz_11, h⟩ := bd1_some h
    refine aft_i (ws' := (W_X4_X6 a0 a1 a2 a3 cI cJ c_numbers (c_next + (1 : Int32)) o_bytes o_length)) (run_S (rest := []) X hG hl.1 (mX4_isFigure l dC dI cI cJ r_8 hz_11) gi_S_X4_52 hd_S_yX4_isFigure ⟨rfl, rfl⟩ rfl ⟨Nat.le_of_ble_eq_true rfl, Nat.le_of_ble_eq_true rfl⟩ [] (by decide) rfl rfl (Nat.le_of_ble_eq_true rfl) ⟨Nat.le_of_ble_eq_true rfl, Nat.le_of_ble_eq_true rfl⟩ dX4_readNumber_46) hG [] rfl rfl rfl (fun H locs hG => ?_)
    clear hz_11
    refine lv_if_eq (tgt := 79) hx hb dX4_readNumber_49 (by decide) (fun c_12 => ?_) (fun c_12 => ?_)
    · have h := ite_t h c_12
      refine lv_aload_n hx hb dX4_readNumber_79 rfl (lv_at hl 1 rfl) ?_
      refine r_get X hG in_X4 rfl 0 (by decide) w_84 0 rfl rfl dX4_readNumber_80 ?_
      refine lv_iload_n hx hb dX4_readNumber_83 rfl (lv_at hl 3 rfl) ?_
      refine lv_iload_n hx hb dX4_readNumber_84 rfl (lv_at hl 0 rfl) ?_
      obtain ⟨k_numbers_13, hz_14, h⟩ := bd1_some h
      refine aft_v (ws' := (W_X4_X6 a0 a1 a2 a3 cI cJ k_numbers_13 (c_next + (1 : Int32)) o_bytes o_length)) (run_SN (rest := []) X hG hl.1 (mX8_put l dC dI cI cJ a1 4 c_numbers x2 (r_6 - (48 : Int32)) hz_14) gi_N_yX8_put w_308 w_272 w_41 hd_S_yX8_put ⟨rfl, rfl⟩ rfl ⟨Nat.le_of_ble_eq_true rfl, Nat.le_of_ble_eq_true rfl⟩ [1] (by decide) rfl rfl (Nat.le_of_ble_eq_true rfl) ⟨Nat.le_of_ble_eq_true rfl, Nat.le_of_ble_eq_true rfl⟩ dX4_readNumber_85) hG [1] rfl rfl rfl (fun H locs hG => ?_)
      clear hz_14
      refine lv_iconst (v := (1 : Int32)) hx hb dX4_readNumber_88 (by decide) ?_
      cases h
      exact ret _ _ _ _ dX4_readNumber_89 (by decide) hG
    · have h := ite_f h c_12
      refine lv_bipush (v := (10 : Int32)) hx hb dX4_readNumber_52 (by decide) ?_
      refine lv_iload_n hx hb dX4_readNumber_54 rfl (lv_at hl 0 rfl) ?_
      refine lv_imul hx hb dX4_readNumber_55 ?_
      refine lv_aload_n hx hb dX4_readNumber_56 rfl (lv_at hl 2 rfl) ?_
      refine lv_aload_n hx hb dX4_readNumber_57 rfl (lv_at hl 1 rfl) ?_
      refine r_get X hG in_X4 rfl 1 (by decide) w_85 0 rfl rfl dX4_readNumber_58 ?_
      obtain ⟨r_15, hz_16, h⟩ := bd1_some h
      refine aft_i (ws' := (W_X4_X6 a0 a1 a2 a3 cI cJ c_numbers (c_next + (1 : Int32)) o_bytes o_length)) (run_V (rest := [.int ((10 : Int32) * (r_6 - (48 : Int32)))]) X hG hl.1 (mX6_signAt l dC dI cI cJ a2 a3 o_bytes o_length (c_next + (1 : Int32)) hz_16) gi_V_X4_33 hd_V_yX6_signAt ⟨rfl, rfl⟩ rfl ⟨Nat.le_of_ble_eq_true rfl, Nat.le_of_ble_eq_true rfl⟩ [2, 3] (by decide) rfl 2 rfl rfl rfl rfl (Nat.le_of_ble_eq_true rfl) ⟨Nat.le_of_ble_eq_true rfl, Nat.le_of_ble_eq_true rfl⟩ dX4_readNumber_61) hG [2, 3] rfl rfl rfl (fun H locs hG => ?_)
      clear hz_16
      refine lv_iadd hx hb dX4_readNumber_64 ?_
      refine lv_bipush (v := (48 : Int32)) hx hb dX4_readNumber_65 (by decide) ?_
      refine lv_isub hx hb dX4_readNumber_67 ?_
      refine lv_istore_n (lv' := [(3, .int ((((10 : Int32) * (r_6 - (48 : Int32))) + r_15) - (48 : Int32))), (0, .ref a0), (1, .ref a2), (2, .int x2)]) hx hb dX4_readNumber_68 rfl hl (by decide) rfl (fun ls hl => ?_)
      refine lv_aload_n hx hb dX4_readNumber_69 rfl (lv_at hl 1 rfl) ?_
      refine lv_dup hx hb dX4_readNumber_70 rfl ?_
      refine r_get X hG in_X4 rfl 1 (by decide) w_85 0 rfl rfl dX4_readNumber_71 ?_
      refine lv_iconst (v := (1 : Int32)) hx hb dX4_readNumber_74 (by decide) ?_
      refine lv_iadd hx hb dX4_readNumber_75 ?_
      refine r_put X hG in_X4 rfl tyX4 tyX4_ok nmX4 1 (by decide) rfl (by decide +kernel) w_85 0 (ws' := (W_X4_X6 a0 a1 a2 a3 cI cJ c_numbers ((c_next + (1 : Int32)) + (1 : Int32)) o_bytes o_length)) rfl (Nat.le_of_ble_eq_true rfl) rfl dX4_readNumber_76 (fun H locs hG => ?_)
      refine lv_aload_n hx hb dX4_readNumber_79 rfl (lv_at hl 1 rfl) ?_
      refine r_get X hG in_X4 rfl 0 (by decide) w_84 0 rfl rfl dX4_readNumber_80 ?_
      refine lv_iload_n hx hb dX4_readNumber_83 rfl (lv_at hl 3 rfl) ?_
      refine lv_iload_n hx hb dX4_readNumber_84 rfl (lv_at hl 0 rfl) ?_
      obtain ⟨k_numbers_17, hz_18, h⟩ := bd1_some h
      refine aft_v (ws' := (W_X4_X6 a0 a1 a2 a3 cI cJ k_numbers_17 ((c_next + (1 : Int32)) + (1 : Int32)) o_bytes o_length)) (run_SN (rest := []) X hG hl.1 (mX8_put l dC dI cI cJ a1 4 c_numbers x2 ((((10 : Int32) * (r_6 - (48 : Int32))) + r_15) - (48 : Int32)) hz_18) gi_N_yX8_put w_308 w_272 w_41 hd_S_yX8_put ⟨rfl, rfl⟩ rfl ⟨Nat.le_of_ble_eq_true rfl, Nat.le_of_ble_eq_true rfl⟩ [1] (by decide) rfl rfl (Nat.le_of_ble_eq_true rfl) ⟨Nat.le_of_ble_eq_true rfl, Nat.le_of_ble_eq_true rfl⟩ dX4_readNumber_85) hG [1] rfl rfl rfl (fun H locs hG => ?_)
      clear hz_18
      refine lv_iconst (v := (1 : Int32)) hx hb dX4_readNumber_88 (by decide) ?_
      cases h
      exact ret _ _ _ _ dX4_readNumber_89 (by decide) hG
  · have h := ite_t h c_5
    refine lv_iconst (v := (0 : Int32)) hx hb dX4_readNumber_14 (by decide) ?_
    cases h
    exact ret _ _ _ _ dX4_readNumber_15 (by decide) hG
set_option maxRecDepth 100000 in
set_option maxHeartbeats 4000000 in
theorem mX4_readItem (l : Launch) (dC : Nat → ClassId) (dI : Nat → Nat → Nat) (cI cJ : ClassId) (a0 a1 a2 a3 a4 a5 a6 a7 a8 : Nat) (c_numbers : Nat → Int32) (c_next : Int32) (o_bytes : Nat → Int32) (o_length : Int32) (o_stand : Int32) (o_home : Int32) (o_priceStart : Int32) (o_priceStep : Int32) (o_thrown_cells : Nat → Int32) (o_thrown_filled : Int32) (o_nets_cells : Nat → Int32) (o_nets_filled : Int32) {res : Int32} {n_numbers : Nat → Int32} {n_next : Int32} {n_stand : Int32} {n_home : Int32} {n_priceStart : Int32} {n_priceStep : Int32} {n_thrown_cells : Nat → Int32} {n_thrown_filled : Int32} {n_nets_cells : Nat → Int32} {n_nets_filled : Int32} (hD : DX4_readItem c_numbers c_next o_bytes o_length o_stand o_home o_priceStart o_priceStep o_thrown_cells o_thrown_filled o_nets_cells o_nets_filled = some (res, n_numbers, n_next, n_stand, n_home, n_priceStart, n_priceStep, n_thrown_cells, n_thrown_filled, n_nets_cells, n_nets_filled)) : Met l yX4_readItem (WZ yX4_readItem cX4_readItem 7 (some .boolean)) (RM 4 96) (PC dC dI cI cJ [.ref a0, .ref a2, .ref a4] (W_X4_X6_X3 a0 a1 a2 a3 a4 a5 a6 a7 a8 cI cJ c_numbers c_next o_bytes o_length o_stand o_home o_priceStart o_priceStep o_thrown_cells o_thrown_filled o_nets_cells o_nets_filled)) (QI dC dI (W_X4_X6_X3 a0 a1 a2 a3 a4 a5 a6 a7 a8 cI cJ c_numbers c_next o_bytes o_length o_stand o_home o_priceStart o_priceStep o_thrown_cells o_thrown_filled o_nets_cells o_nets_filled) (W_X4_X6_X3 a0 a1 a2 a3 a4 a5 a6 a7 a8 cI cJ n_numbers n_next o_bytes o_length n_stand n_home n_priceStart n_priceStep n_thrown_cells n_thrown_filled n_nets_cells n_nets_filled) res) 0 0 (FA (W_X4_X6_X3 a0 a1 a2 a3 a4 a5 a6 a7 a8 cI cJ c_numbers c_next o_bytes o_length o_stand o_home o_priceStart o_priceStep o_thrown_cells o_thrown_filled o_nets_cells o_nets_filled)) := by
  refine r_metZ (by decide +kernel) (Nat.le_of_ble_eq_true rfl) ?_
  intro p e s m args below meth c A H0 QQ X ret ls hl hG
  have X : Cx p m c cX4_readItem 7 s args RX4 dC dI cI cJ meth (some .boolean) := X
  have hx := X.1.1
  have hb := X.1.2.1
  have hl : lv_has ls 7 [(0, .ref a0), (1, .ref a2), (2, .ref a4)] := hl
  have J51 : ∀ (y0 : Int32) (x3 : Int32) (x4 : Int32) (x5 : Int32) (c_numbers : Nat → Int32) (c_next : Int32) (o_stand : Int32) (o_home : Int32) (o_priceStart : Int32) (o_priceStep : Int32) (o_thrown_cells : Nat → Int32) (o_thrown_filled : Int32) (o_nets_cells : Nat → Int32) (o_nets_filled : Int32), ∀ (w : (Int32 × (Nat → Int32) × Int32) ⊕ (((Nat → Int32) × Int32) ⊕ (Int32 × (Nat → Int32) × Int32 × Int32 × Int32 × Int32 × Int32 × (Nat → Int32) × Int32 × (Nat → Int32) × Int32))), DX4_readItem_J51 c_numbers c_next o_bytes o_length o_stand o_home o_priceStart o_priceStep o_thrown_cells o_thrown_filled o_nets_cells o_nets_filled y0 x5 = some w → (∀ (x5 : Int32) (c_numbers : Nat → Int32) (c_next : Int32), w = .inl (x5, c_numbers, c_next) → ∀ (ls : Array Slot) (H : Heap) (locs : List Loc), lv_has ls 7 [(0, .ref a0), (1, .ref a2), (2, .ref a4), (3, .int x3), (4, .int x4), (5, .int x5)] → G dC dI A H0 (W_X4_X6_X3 a0 a1 a2 a3 a4 a5 a6 a7 a8 cI cJ c_numbers c_next o_bytes o_length o_stand o_home o_priceStart o_priceStep o_thrown_cells o_thrown_filled o_nets_cells o_nets_filled) H locs → W p l e (RM 4 96) s m args below meth c H locs 0 0 QQ (F0 m 28 ls [])) → (∀ (c_numbers : Nat → Int32) (c_next : Int32), w = .inr (.inl (c_numbers, c_next)) → ∀ (ls : Array Slot) (H : Heap) (locs : List Loc), lv_has ls 7 [(0, .ref a0), (2, .ref a4), (3, .int x3)] → G dC dI A H0 (W_X4_X6_X3 a0 a1 a2 a3 a4 a5 a6 a7 a8 cI cJ c_numbers c_next o_bytes o_length o_stand o_home o_priceStart o_priceStep o_thrown_cells o_thrown_filled o_nets_cells o_nets_filled) H locs → W p l e (RM 4 96) s m args below meth c H locs 0 0 QQ (F0 m 94 ls [])) → (∀ (r : Int32 × (Nat → Int32) × Int32 × Int32 × Int32 × Int32 × Int32 × (Nat → Int32) × Int32 × (Nat → Int32) × Int32), w = .inr (.inr r) → r = (res, n_numbers, n_next, n_stand, n_home, n_priceStart, n_priceStep, n_thrown_cells, n_thrown_filled, n_nets_cells, n_nets_filled)) → ∀ (ls : Array Slot) (H : Heap) (locs : List Loc), lv_has ls 7 [(0, .ref a0), (1, .ref a2), (2, .ref a4), (3, .int x3), (4, .int x4), (5, .int x5)] → G dC dI A H0 (W_X4_X6_X3 a0 a1 a2 a3 a4 a5 a6 a7 a8 cI cJ c_numbers c_next o_bytes o_length o_stand o_home o_priceStart o_priceStep o_thrown_cells o_thrown_filled o_nets_cells o_nets_filled) H locs → W p l e (RM 4 96) s m args below meth c H locs 0 0 QQ (F0 m 51 ls [.int y0]) := by
    intro y0 x3 x4 x5 c_numbers c_next o_stand o_home o_priceStart o_priceStep o_thrown_cells o_thrown_filled o_nets_cells o_nets_filled w h KC KX KR ls H locs hl hG
    unfold DX4_readItem_J51 at h
    refine lv_istore (lv' := [(6, .int y0), (0, .ref a0), (1, .ref a2), (2, .ref a4), (3, .int x3), (4, .int x4), (5, .int x5)]) hx hb dX4_readItem_51 hl (by decide) rfl (fun ls hl => ?_)
    refine lv_aload_n hx hb dX4_readItem_53 rfl (lv_at hl 1 rfl) ?_
    refine lv_aload_n hx hb dX4_readItem_54 rfl (lv_at hl 2 rfl) ?_
    refine lv_iload hx hb dX4_readItem_55 (lv_at hl 6 rfl) ?_
    obtain ⟨r_7, k_numbers_8, k_next_9, hz_10, h⟩ := bd3_some h
    refine aft_i (ws' := (W_X4_X6_X3 a0 a1 a2 a3 a4 a5 a6 a7 a8 cI cJ k_numbers_8 k_next_9 o_bytes o_length o_stand o_home o_priceStart o_priceStep o_thrown_cells o_thrown_filled o_nets_cells o_nets_filled)) (run_V (rest := []) X hG hl.1 (mX4_readNumber l dC dI cI cJ a0 a1 a2 a3 c_numbers c_next o_bytes o_length x5 hz_10) gi_V_X4_40 hd_V_yX4_readNumber ⟨rfl, rfl⟩ rfl ⟨Nat.le_of_ble_eq_true rfl, Nat.le_of_ble_eq_true rfl⟩ [0, 1, 2, 3] (by decide) rfl 0 rfl rfl rfl rfl (Nat.le_of_ble_eq_true rfl) ⟨Nat.le_of_ble_eq_true rfl, Nat.le_of_ble_eq_true rfl⟩ dX4_readItem_57) hG [0, 1, 2, 3] rfl rfl rfl (fun H locs hG => ?_)
    clear hz_10
    refine lv_if_eq (tgt := 76) hx hb dX4_readItem_60 (by decide) (fun c_11 => ?_) (fun c_11 => ?_)
    · have h := ite_t h c_11
      refine lv_iconst (v := (0 : Int32)) hx hb dX4_readItem_76 (by decide) ?_
      cases KR _ (Option.some.inj h).symm
      exact ret _ _ _ _ dX4_readItem_77 (by decide) hG
    · have h := ite_f h c_11
      refine lv_aload_n hx hb dX4_readItem_63 rfl (lv_at hl 2 rfl) ?_
      refine lv_aload_n hx hb dX4_readItem_64 rfl (lv_at hl 1 rfl) ?_
      refine r_get X hG in_X4 rfl 1 (by decide) w_85 0 rfl rfl dX4_readItem_65 ?_
      obtain ⟨r_12, hz_13, h⟩ := bd1_some h
      refine aft_i (ws' := (W_X4_X6_X3 a0 a1 a2 a3 a4 a5 a6 a7 a8 cI cJ k_numbers_8 k_next_9 o_bytes o_length o_stand o_home o_priceStart o_priceStep o_thrown_cells o_thrown_filled o_nets_cells o_nets_filled)) (run_V (rest := []) X hG hl.1 (mX6_signAt l dC dI cI cJ a2 a3 o_bytes o_length k_next_9 hz_13) gi_V_X4_33 hd_V_yX6_signAt ⟨rfl, rfl⟩ rfl ⟨Nat.le_of_ble_eq_true rfl, Nat.le_of_ble_eq_true rfl⟩ [2, 3] (by decide) rfl 2 rfl rfl rfl rfl (Nat.le_of_ble_eq_true rfl) ⟨Nat.le_of_ble_eq_true rfl, Nat.le_of_ble_eq_true rfl⟩ dX4_readItem_68) hG [2, 3] rfl rfl rfl (fun H locs hG => ?_)
      clear hz_13
      refine lv_iload hx hb dX4_readItem_71 (lv_at hl 0 rfl) ?_
      refine lv_icmp_eq (tgt := 78) hx hb dX4_readItem_73 (by decide) (fun c_14 => ?_) (fun c_14 => ?_)
      · have h := ite_t h c_14
        refine lv_aload_n hx hb dX4_readItem_78 rfl (lv_at hl 1 rfl) ?_
        refine lv_dup hx hb dX4_readItem_79 rfl ?_
        refine r_get X hG in_X4 rfl 1 (by decide) w_85 0 rfl rfl dX4_readItem_80 ?_
        refine lv_iconst (v := (1 : Int32)) hx hb dX4_readItem_83 (by decide) ?_
        refine lv_iadd hx hb dX4_readItem_84 ?_
        refine r_put X hG in_X4 rfl tyX4 tyX4_ok nmX4 1 (by decide) rfl (by decide +kernel) w_85 0 (ws' := (W_X4_X6_X3 a0 a1 a2 a3 a4 a5 a6 a7 a8 cI cJ k_numbers_8 (k_next_9 + (1 : Int32)) o_bytes o_length o_stand o_home o_priceStart o_priceStep o_thrown_cells o_thrown_filled o_nets_cells o_nets_filled)) rfl (Nat.le_of_ble_eq_true rfl) rfl dX4_readItem_85 (fun H locs hG => ?_)
        refine lv_iinc (v := (x5 + (1 : Int32))) (lv' := [(5, .int (x5 + (1 : Int32))), (6, .int y0), (0, .ref a0), (1, .ref a2), (2, .ref a4), (3, .int x3), (4, .int x4)]) hx hb dX4_readItem_88 hl (k := 6) rfl rfl (by decide) rfl (fun ls hl => ?_)
        refine lv_goto (tgt := 28) hx hb dX4_readItem_91 (by decide) ?_
        exact KC _ _ _ (Option.some.inj h).symm _ _ _ (lv_sub hl [2, 3, 4, 5, 6, 0] rfl) hG
      · have h := ite_f h c_14
        refine lv_iconst (v := (0 : Int32)) hx hb dX4_readItem_76 (by decide) ?_
        cases KR _ (Option.some.inj h).symm
        exact ret _ _ _ _ dX4_readItem_77 (by decide) hG
  have L28 : ∀ (x3 : Int32) (x4 : Int32) (o_stand : Int32) (o_home : Int32) (o_priceStart : Int32) (o_priceStep : Int32) (o_thrown_cells : Nat → Int32) (o_thrown_filled : Int32) (o_nets_cells : Nat → Int32) (o_nets_filled : Int32), ∀ (n : Nat) (x5 : Int32) (c_numbers : Nat → Int32) (c_next : Int32) (v : ((Nat → Int32) × Int32) ⊕ (Int32 × (Nat → Int32) × Int32 × Int32 × Int32 × Int32 × Int32 × (Nat → Int32) × Int32 × (Nat → Int32) × Int32)), DX4_readItem_L28 o_bytes o_length o_stand o_home o_priceStart o_priceStep o_thrown_cells o_thrown_filled o_nets_cells o_nets_filled x4 n x5 c_numbers c_next = some v → (∀ (ec_numbers : Nat → Int32) (ec_next : Int32), v = .inl (ec_numbers, ec_next) → ∀ (ls : Array Slot) (H : Heap) (locs : List Loc), lv_has ls 7 [(0, .ref a0), (2, .ref a4), (3, .int x3)] → G dC dI A H0 (W_X4_X6_X3 a0 a1 a2 a3 a4 a5 a6 a7 a8 cI cJ ec_numbers ec_next o_bytes o_length o_stand o_home o_priceStart o_priceStep o_thrown_cells o_thrown_filled o_nets_cells o_nets_filled) H locs → W p l e (RM 4 96) s m args below meth c H locs 0 0 QQ (F0 m 94 ls [])) → (∀ (r : Int32 × (Nat → Int32) × Int32 × Int32 × Int32 × Int32 × Int32 × (Nat → Int32) × Int32 × (Nat → Int32) × Int32), v = .inr r → r = (res, n_numbers, n_next, n_stand, n_home, n_priceStart, n_priceStep, n_thrown_cells, n_thrown_filled, n_nets_cells, n_nets_filled)) → ∀ (ls : Array Slot) (H : Heap) (locs : List Loc), lv_has ls 7 [(0, .ref a0), (1, .ref a2), (2, .ref a4), (3, .int x3), (4, .int x4), (5, .int x5)] → G dC dI A H0 (W_X4_X6_X3 a0 a1 a2 a3 a4 a5 a6 a7 a8 cI cJ c_numbers c_next o_bytes o_length o_stand o_home o_priceStart o_priceStep o_thrown_cells o_thrown_filled o_nets_cells o_nets_filled) H locs → W p l e (RM 4 96) s m args below meth c H locs 0 0 QQ (F0 m 28 ls []) := by
    intro x3 x4 o_stand o_home o_priceStart o_priceStep o_thrown_cells o_thrown_filled o_nets_cells o_nets_filled n
    induction n with
    | zero => intro x5 c_numbers c_next v h; exact it_zero h
    | succ n ih =>
      intro x5 c_numbers c_next v h0 K0 KR0 ls H locs hl hG
      obtain ⟨w, h, hi, hr⟩ := it_succ h0
      have h : DX4_readItem_L28s o_bytes o_length o_stand o_home o_priceStart o_priceStep o_thrown_cells o_thrown_filled o_nets_cells o_nets_filled x4 x5 c_numbers c_next = some w := h
      have KC : ∀ (x5 : Int32) (c_numbers : Nat → Int32) (c_next : Int32), w = .inl (x5, c_numbers, c_next) → ∀ (ls : Array Slot) (H : Heap) (locs : List Loc), lv_has ls 7 [(0, .ref a0), (1, .ref a2), (2, .ref a4), (3, .int x3), (4, .int x4), (5, .int x5)] → G dC dI A H0 (W_X4_X6_X3 a0 a1 a2 a3 a4 a5 a6 a7 a8 cI cJ c_numbers c_next o_bytes o_length o_stand o_home o_priceStart o_priceStep o_thrown_cells o_thrown_filled o_nets_cells o_nets_filled) H locs → W p l e (RM 4 96) s m args below meth c H locs 0 0 QQ (F0 m 28 ls []) := fun b0 b1 b2 e ls H locs hl hG => ih b0 b1 b2 v (hi _ e) K0 KR0 ls H locs hl hG
      have KX : ∀ (c_numbers : Nat → Int32) (c_next : Int32), w = .inr (.inl (c_numbers, c_next)) → ∀ (ls : Array Slot) (H : Heap) (locs : List Loc), lv_has ls 7 [(0, .ref a0), (2, .ref a4), (3, .int x3)] → G dC dI A H0 (W_X4_X6_X3 a0 a1 a2 a3 a4 a5 a6 a7 a8 cI cJ c_numbers c_next o_bytes o_length o_stand o_home o_priceStart o_priceStep o_thrown_cells o_thrown_filled o_nets_cells o_nets_filled) H locs → W p l e (RM 4 96) s m args below meth c H locs 0 0 QQ (F0 m 94 ls []) := fun b0 b1 e ls H locs hl hG => K0 b0 b1 (hr _ e) ls H locs hl hG
      have KR : ∀ (r : Int32 × (Nat → Int32) × Int32 × Int32 × Int32 × Int32 × Int32 × (Nat → Int32) × Int32 × (Nat → Int32) × Int32), w = .inr (.inr r) → r = (res, n_numbers, n_next, n_stand, n_home, n_priceStart, n_priceStep, n_thrown_cells, n_thrown_filled, n_nets_cells, n_nets_filled) := fun r e => KR0 r (hr _ e)
      clear h0 hi hr K0 ih KR0
      unfold DX4_readItem_L28s at h
      refine lv_iload hx hb dX4_readItem_28 (lv_at hl 5 rfl) ?_
      refine lv_iload hx hb dX4_readItem_30 (lv_at hl 4 rfl) ?_
      refine lv_icmp_ge (tgt := 94) hx hb dX4_readItem_32 (by decide) (fun c_5 => ?_) (fun c_5 => ?_)
      · have h := ite_t h c_5
        exact KX _ _ (Option.some.inj h).symm _ _ _ (lv_sub hl [0, 2, 3] rfl) hG
      · have h := ite_f h c_5
        refine lv_iload hx hb dX4_readItem_35 (lv_at hl 5 rfl) ?_
        refine lv_iload hx hb dX4_readItem_37 (lv_at hl 4 rfl) ?_
        refine lv_iconst (v := (1 : Int32)) hx hb dX4_readItem_39 (by decide) ?_
        refine lv_isub hx hb dX4_readItem_40 ?_
        refine lv_icmp_ne (tgt := 49) hx hb dX4_readItem_41 (by decide) (fun c_6 => ?_) (fun c_6 => ?_)
        · have h := ite_f h c_6
          refine lv_bipush (v := (44 : Int32)) hx hb dX4_readItem_49 (by decide) ?_
          exact J51 (44 : Int32) x3 x4 x5 c_numbers c_next o_stand o_home o_priceStart o_priceStep o_thrown_cells o_thrown_filled o_nets_cells o_nets_filled _ h KC KX KR _ _ _ (lv_sub hl [0, 1, 2, 3, 4, 5] rfl) hG
        · have h := ite_t h c_6
          refine lv_bipush (v := (59 : Int32)) hx hb dX4_readItem_44 (by decide) ?_
          refine lv_goto (tgt := 51) hx hb dX4_readItem_46 (by decide) ?_
          exact J51 (59 : Int32) x3 x4 x5 c_numbers c_next o_stand o_home o_priceStart o_priceStep o_thrown_cells o_thrown_filled o_nets_cells o_nets_filled _ h KC KX KR _ _ _ (lv_sub hl [0, 1, 2, 3, 4, 5] rfl) hG
  have h := hD
  unfold DX4_readItem at h
  clear hD
  refine lv_aload_n hx hb dX4_readItem_0 rfl (lv_at hl 1 rfl) ?_
  refine lv_aload_n hx hb dX4_readItem_1 rfl (lv_at hl 0 rfl) ?_
  refine r_get X hG in_X4 rfl 1 (by decide) w_85 0 rfl rfl dX4_readItem_2 ?_
  obtain ⟨r_1, hz_2, h⟩ := bd1_some h
  refine aft_i (ws' := (W_X4_X6_X3 a0 a1 a2 a3 a4 a5 a6 a7 a8 cI cJ c_numbers c_next o_bytes o_length o_stand o_home o_priceStart o_priceStep o_thrown_cells o_thrown_filled o_nets_cells o_nets_filled)) (run_V (rest := []) X hG hl.1 (mX6_signAt l dC dI cI cJ a2 a3 o_bytes o_length c_next hz_2) gi_V_X4_33 hd_V_yX6_signAt ⟨rfl, rfl⟩ rfl ⟨Nat.le_of_ble_eq_true rfl, Nat.le_of_ble_eq_true rfl⟩ [2, 3] (by decide) rfl 2 rfl rfl rfl rfl (Nat.le_of_ble_eq_true rfl) ⟨Nat.le_of_ble_eq_true rfl, Nat.le_of_ble_eq_true rfl⟩ dX4_readItem_5) hG [2, 3] rfl rfl rfl (fun H locs hG => ?_)
  clear hz_2
  refine lv_istore_n (lv' := [(3, .int r_1), (0, .ref a0), (1, .ref a2), (2, .ref a4)]) hx hb dX4_readItem_8 rfl hl (by decide) rfl (fun ls hl => ?_)
  refine lv_iload_n hx hb dX4_readItem_9 rfl (lv_at hl 0 rfl) ?_
  obtain ⟨r_3, hz_4, h⟩ := bd1_some h
  refine aft_i (ws' := (W_X4_X6_X3 a0 a1 a2 a3 a4 a5 a6 a7 a8 cI cJ c_numbers c_next o_bytes o_length o_stand o_home o_priceStart o_priceStep o_thrown_cells o_thrown_filled o_nets_cells o_nets_filled)) (run_S (rest := []) X hG hl.1 (mX4_numbersBehind l dC dI cI cJ r_1 hz_4) gi_S_X4_37 hd_S_yX4_numbersBehind ⟨rfl, rfl⟩ rfl ⟨Nat.le_of_ble_eq_true rfl, Nat.le_of_ble_eq_true rfl⟩ [] (by decide) rfl rfl (Nat.le_of_ble_eq_true rfl) ⟨Nat.le_of_ble_eq_true rfl, Nat.le_of_ble_eq_true rfl⟩ dX4_readItem_10) hG [] rfl rfl rfl (fun H locs hG => ?_)
  clear hz_4
  refine lv_istore (lv' := [(4, .int r_3), (3, .int r_1), (0, .ref a0), (1, .ref a2), (2, .ref a4)]) hx hb dX4_readItem_13 hl (by decide) rfl (fun ls hl => ?_)
  refine lv_aload_n hx hb dX4_readItem_15 rfl (lv_at hl 2 rfl) ?_
  refine lv_dup hx hb dX4_readItem_16 rfl ?_
  refine r_get X hG in_X4 rfl 1 (by decide) w_85 0 rfl rfl dX4_readItem_17 ?_
  refine lv_iconst (v := (1 : Int32)) hx hb dX4_readItem_20 (by decide) ?_
  refine lv_iadd hx hb dX4_readItem_21 ?_
  refine r_put X hG in_X4 rfl tyX4 tyX4_ok nmX4 1 (by decide) rfl (by decide +kernel) w_85 0 (ws' := (W_X4_X6_X3 a0 a1 a2 a3 a4 a5 a6 a7 a8 cI cJ c_numbers (c_next + (1 : Int32)) o_bytes o_length o_stand o_home o_priceStart o_priceStep o_thrown_cells o_thrown_filled o_nets_cells o_nets_filled)) rfl (Nat.le_of_ble_eq_true rfl) rfl dX4_readItem_22 (fun H locs hG => ?_)
  refine lv_iconst (v := (0 : Int32)) hx hb dX4_readItem_25 (by decide) ?_
  refine lv_istore (lv' := [(5, .int (0 : Int32)), (4, .int r_3), (3, .int r_1), (0, .ref a0), (1, .ref a2), (2, .ref a4)]) hx hb dX4_readItem_26 hl (by decide) rfl (fun ls hl => ?_)
  rcases el2_some h with ⟨k_numbers_15, k_next_16, hz, h⟩ | ⟨r, hz, h⟩
  · refine L28 r_1 r_3 o_stand o_home o_priceStart o_priceStep o_thrown_cells o_thrown_filled o_nets_cells o_nets_filled FU (0 : Int32) c_numbers (c_next + (1 : Int32)) _ hz ?_ (fun r e => by cases e) _ _ _ (lv_sub hl [3, 4, 5, 2, 1, 0] rfl) hG
    rintro _ _ ⟨⟩ ls H locs hl hG
    clear hz
    refine lv_aload_n hx hb dX4_readItem_94 rfl (lv_at hl 1 rfl) ?_
    refine lv_iload_n hx hb dX4_readItem_95 rfl (lv_at hl 2 rfl) ?_
    refine lv_aload_n hx hb dX4_readItem_96 rfl (lv_at hl 0 rfl) ?_
    refine r_get X hG in_X4 rfl 0 (by decide) w_84 0 rfl rfl dX4_readItem_97 ?_
    refine lv_iconst (v := (0 : Int32)) hx hb dX4_readItem_100 (by decide) ?_
    obtain ⟨r_17, hz_18, h⟩ := bd1_some h
    refine aft_i (ws' := (W_X4_X6_X3 a0 a1 a2 a3 a4 a5 a6 a7 a8 cI cJ k_numbers_15 k_next_16 o_bytes o_length o_stand o_home o_priceStart o_priceStep o_thrown_cells o_thrown_filled o_nets_cells o_nets_filled)) (run_SN (rest := [.int r_1, .ref a4]) X hG hl.1 (mX8_at l dC dI cI cJ a1 4 k_numbers_15 (0 : Int32) hz_18) gi_N_yX8_at w_309 w_296 w_41 hd_S_yX8_at ⟨rfl, rfl⟩ rfl ⟨Nat.le_of_ble_eq_true rfl, Nat.le_of_ble_eq_true rfl⟩ [1] (by decide) rfl rfl (Nat.le_of_ble_eq_true rfl) ⟨Nat.le_of_ble_eq_true rfl, Nat.le_of_ble_eq_true rfl⟩ dX4_readItem_101) hG [1] rfl rfl rfl (fun H locs hG => ?_)
    clear hz_18
    refine lv_aload_n hx hb dX4_readItem_104 rfl (lv_at hl 0 rfl) ?_
    refine r_get X hG in_X4 rfl 0 (by decide) w_84 0 rfl rfl dX4_readItem_105 ?_
    refine lv_iconst (v := (1 : Int32)) hx hb dX4_readItem_108 (by decide) ?_
    obtain ⟨r_19, hz_20, h⟩ := bd1_some h
    refine aft_i (ws' := (W_X4_X6_X3 a0 a1 a2 a3 a4 a5 a6 a7 a8 cI cJ k_numbers_15 k_next_16 o_bytes o_length o_stand o_home o_priceStart o_priceStep o_thrown_cells o_thrown_filled o_nets_cells o_nets_filled)) (run_SN (rest := [.int r_17, .int r_1, .ref a4]) X hG hl.1 (mX8_at l dC dI cI cJ a1 4 k_numbers_15 (1 : Int32) hz_20) gi_N_yX8_at w_309 w_296 w_41 hd_S_yX8_at ⟨rfl, rfl⟩ rfl ⟨Nat.le_of_ble_eq_true rfl, Nat.le_of_ble_eq_true rfl⟩ [1] (by decide) rfl rfl (Nat.le_of_ble_eq_true rfl) ⟨Nat.le_of_ble_eq_true rfl, Nat.le_of_ble_eq_true rfl⟩ dX4_readItem_109) hG [1] rfl rfl rfl (fun H locs hG => ?_)
    clear hz_20
    refine lv_aload_n hx hb dX4_readItem_112 rfl (lv_at hl 0 rfl) ?_
    refine r_get X hG in_X4 rfl 0 (by decide) w_84 0 rfl rfl dX4_readItem_113 ?_
    refine lv_iconst (v := (2 : Int32)) hx hb dX4_readItem_116 (by decide) ?_
    obtain ⟨r_21, hz_22, h⟩ := bd1_some h
    refine aft_i (ws' := (W_X4_X6_X3 a0 a1 a2 a3 a4 a5 a6 a7 a8 cI cJ k_numbers_15 k_next_16 o_bytes o_length o_stand o_home o_priceStart o_priceStep o_thrown_cells o_thrown_filled o_nets_cells o_nets_filled)) (run_SN (rest := [.int r_19, .int r_17, .int r_1, .ref a4]) X hG hl.1 (mX8_at l dC dI cI cJ a1 4 k_numbers_15 (2 : Int32) hz_22) gi_N_yX8_at w_309 w_296 w_41 hd_S_yX8_at ⟨rfl, rfl⟩ rfl ⟨Nat.le_of_ble_eq_true rfl, Nat.le_of_ble_eq_true rfl⟩ [1] (by decide) rfl rfl (Nat.le_of_ble_eq_true rfl) ⟨Nat.le_of_ble_eq_true rfl, Nat.le_of_ble_eq_true rfl⟩ dX4_readItem_117) hG [1] rfl rfl rfl (fun H locs hG => ?_)
    clear hz_22
    refine lv_aload_n hx hb dX4_readItem_120 rfl (lv_at hl 0 rfl) ?_
    refine r_get X hG in_X4 rfl 0 (by decide) w_84 0 rfl rfl dX4_readItem_121 ?_
    refine lv_iconst (v := (3 : Int32)) hx hb dX4_readItem_124 (by decide) ?_
    obtain ⟨r_23, hz_24, h⟩ := bd1_some h
    refine aft_i (ws' := (W_X4_X6_X3 a0 a1 a2 a3 a4 a5 a6 a7 a8 cI cJ k_numbers_15 k_next_16 o_bytes o_length o_stand o_home o_priceStart o_priceStep o_thrown_cells o_thrown_filled o_nets_cells o_nets_filled)) (run_SN (rest := [.int r_21, .int r_19, .int r_17, .int r_1, .ref a4]) X hG hl.1 (mX8_at l dC dI cI cJ a1 4 k_numbers_15 (3 : Int32) hz_24) gi_N_yX8_at w_309 w_296 w_41 hd_S_yX8_at ⟨rfl, rfl⟩ rfl ⟨Nat.le_of_ble_eq_true rfl, Nat.le_of_ble_eq_true rfl⟩ [1] (by decide) rfl rfl (Nat.le_of_ble_eq_true rfl) ⟨Nat.le_of_ble_eq_true rfl, Nat.le_of_ble_eq_true rfl⟩ dX4_readItem_125) hG [1] rfl rfl rfl (fun H locs hG => ?_)
    clear hz_24
    obtain ⟨r_25, k_stand_26, k_home_27, k_priceStart_28, k_priceStep_29, k_thrown_cells_30, k_thrown_filled_31, k_nets_cells_32, k_nets_filled_33, hz_34, h⟩ := bd9_some h
    refine aft_i (ws' := (W_X4_X6_X3 a0 a1 a2 a3 a4 a5 a6 a7 a8 cI cJ k_numbers_15 k_next_16 o_bytes o_length k_stand_26 k_home_27 k_priceStart_28 k_priceStep_29 k_thrown_cells_30 k_thrown_filled_31 k_nets_cells_32 k_nets_filled_33)) (run_V (rest := []) X hG hl.1 (mX3_tell l dC dI cI cJ a4 a5 a6 a7 a8 o_stand o_home o_priceStart o_priceStep o_thrown_cells o_thrown_filled o_nets_cells o_nets_filled r_1 r_17 r_19 r_21 r_23 hz_34) gi_V_X4_48 hd_V_yX3_tell ⟨rfl, rfl⟩ rfl ⟨Nat.le_of_ble_eq_true rfl, Nat.le_of_ble_eq_true rfl⟩ [4, 5, 6, 7, 8] (by decide) rfl 4 rfl rfl rfl rfl (Nat.le_of_ble_eq_true rfl) ⟨Nat.le_of_ble_eq_true rfl, Nat.le_of_ble_eq_true rfl⟩ dX4_readItem_128) hG [4, 5, 6, 7, 8] rfl rfl rfl (fun H locs hG => ?_)
    clear hz_34
    obtain ⟨g_35, h⟩ := gd h
    cases h
    exact ret _ _ _ _ dX4_readItem_131 (Decidable.not_not.mp g_35) hG
  · refine L28 r_1 r_3 o_stand o_home o_priceStart o_priceStep o_thrown_cells o_thrown_filled o_nets_cells o_nets_filled FU (0 : Int32) c_numbers (c_next + (1 : Int32)) _ hz (fun _ _ e => by cases e) (fun r2 e => ?_) _ _ _ (lv_sub hl [3, 4, 5, 2, 1, 0] rfl) hG
    cases e; cases h; rfl
set_option maxRecDepth 100000 in
set_option maxHeartbeats 4000000 in
theorem mX4_firstFault (l : Launch) (dC : Nat → ClassId) (dI : Nat → Nat → Nat) (cI cJ : ClassId) (a0 a1 a2 a3 a4 a5 a6 a7 a8 : Nat) (c_numbers : Nat → Int32) (c_next : Int32) (o_bytes : Nat → Int32) (o_length : Int32) (o_stand : Int32) (o_home : Int32) (o_priceStart : Int32) (o_priceStep : Int32) (o_thrown_cells : Nat → Int32) (o_thrown_filled : Int32) (o_nets_cells : Nat → Int32) (o_nets_filled : Int32) {res : Int32} {n_numbers : Nat → Int32} {n_next : Int32} {n_stand : Int32} {n_home : Int32} {n_priceStart : Int32} {n_priceStep : Int32} {n_thrown_cells : Nat → Int32} {n_thrown_filled : Int32} {n_nets_cells : Nat → Int32} {n_nets_filled : Int32} (hD : DX4_firstFault c_numbers o_bytes o_length o_thrown_cells o_nets_cells = some (res, n_numbers, n_next, n_stand, n_home, n_priceStart, n_priceStep, n_thrown_cells, n_thrown_filled, n_nets_cells, n_nets_filled)) : Met l yX4_firstFault (WZ yX4_firstFault cX4_firstFault 5 (some .int)) (RM 5 122) (PC dC dI cI cJ [.ref a0, .ref a2, .ref a4] (W_X4_X6_X3 a0 a1 a2 a3 a4 a5 a6 a7 a8 cI cJ c_numbers c_next o_bytes o_length o_stand o_home o_priceStart o_priceStep o_thrown_cells o_thrown_filled o_nets_cells o_nets_filled)) (QI dC dI (W_X4_X6_X3 a0 a1 a2 a3 a4 a5 a6 a7 a8 cI cJ c_numbers c_next o_bytes o_length o_stand o_home o_priceStart o_priceStep o_thrown_cells o_thrown_filled o_nets_cells o_nets_filled) (W_X4_X6_X3 a0 a1 a2 a3 a4 a5 a6 a7 a8 cI cJ n_numbers n_next o_bytes o_length n_stand n_home n_priceStart n_priceStep n_thrown_cells n_thrown_filled n_nets_cells n_nets_filled) res) 0 0 (FA (W_X4_X6_X3 a0 a1 a2 a3 a4 a5 a6 a7 a8 cI cJ c_numbers c_next o_bytes o_length o_stand o_home o_priceStart o_priceStep o_thrown_cells o_thrown_filled o_nets_cells o_nets_filled)) := by
  refine r_metI (by decide +kernel) (Nat.le_of_ble_eq_true rfl) ?_
  intro p e s m args below meth c A H0 QQ X ret ls hl hG
  have X : Cx p m c cX4_firstFault 5 s args RX4 dC dI cI cJ meth (some .int) := X
  have hx := X.1.1
  have hb := X.1.2.1
  have hl : lv_has ls 5 [(0, .ref a0), (1, .ref a2), (2, .ref a4)] := hl
  have L11 : ∀ (n : Nat) (x3 : Int32) (c_numbers : Nat → Int32) (c_next : Int32) (o_stand : Int32) (o_home : Int32) (o_priceStart : Int32) (o_priceStep : Int32) (o_thrown_cells : Nat → Int32) (o_thrown_filled : Int32) (o_nets_cells : Nat → Int32) (o_nets_filled : Int32) (v : ((Nat → Int32) × Int32 × Int32 × Int32 × Int32 × Int32 × (Nat → Int32) × Int32 × (Nat → Int32) × Int32) ⊕ (Int32 × (Nat → Int32) × Int32 × Int32 × Int32 × Int32 × Int32 × (Nat → Int32) × Int32 × (Nat → Int32) × Int32)), DX4_firstFault_L11 o_bytes o_length n x3 c_numbers c_next o_stand o_home o_priceStart o_priceStep o_thrown_cells o_thrown_filled o_nets_cells o_nets_filled = some v → (∀ (ec_numbers : Nat → Int32) (ec_next : Int32) (eo_stand : Int32) (eo_home : Int32) (eo_priceStart : Int32) (eo_priceStep : Int32) (eo_thrown_cells : Nat → Int32) (eo_thrown_filled : Int32) (eo_nets_cells : Nat → Int32) (eo_nets_filled : Int32), v = .inl (ec_numbers, ec_next, eo_stand, eo_home, eo_priceStart, eo_priceStep, eo_thrown_cells, eo_thrown_filled, eo_nets_cells, eo_nets_filled) → ∀ (ls : Array Slot) (H : Heap) (locs : List Loc), lv_has ls 5 [] → G dC dI A H0 (W_X4_X6_X3 a0 a1 a2 a3 a4 a5 a6 a7 a8 cI cJ ec_numbers ec_next o_bytes o_length eo_stand eo_home eo_priceStart eo_priceStep eo_thrown_cells eo_thrown_filled eo_nets_cells eo_nets_filled) H locs → W p l e (RM 5 122) s m args below meth c H locs 0 0 QQ (F0 m 53 ls [])) → (∀ (r : Int32 × (Nat → Int32) × Int32 × Int32 × Int32 × Int32 × Int32 × (Nat → Int32) × Int32 × (Nat → Int32) × Int32), v = .inr r → r = (res, n_numbers, n_next, n_stand, n_home, n_priceStart, n_priceStep, n_thrown_cells, n_thrown_filled, n_nets_cells, n_nets_filled)) → ∀ (ls : Array Slot) (H : Heap) (locs : List Loc), lv_has ls 5 [(0, .ref a0), (1, .ref a2), (2, .ref a4), (3, .int x3)] → G dC dI A H0 (W_X4_X6_X3 a0 a1 a2 a3 a4 a5 a6 a7 a8 cI cJ c_numbers c_next o_bytes o_length o_stand o_home o_priceStart o_priceStep o_thrown_cells o_thrown_filled o_nets_cells o_nets_filled) H locs → W p l e (RM 5 122) s m args below meth c H locs 0 0 QQ (F0 m 11 ls []) := by
    intro  n
    induction n with
    | zero => intro x3 c_numbers c_next o_stand o_home o_priceStart o_priceStep o_thrown_cells o_thrown_filled o_nets_cells o_nets_filled v h; exact it_zero h
    | succ n ih =>
      intro x3 c_numbers c_next o_stand o_home o_priceStart o_priceStep o_thrown_cells o_thrown_filled o_nets_cells o_nets_filled v h0 K0 KR0 ls H locs hl hG
      obtain ⟨w, h, hi, hr⟩ := it_succ h0
      have h : DX4_firstFault_L11s o_bytes o_length x3 c_numbers c_next o_stand o_home o_priceStart o_priceStep o_thrown_cells o_thrown_filled o_nets_cells o_nets_filled = some w := h
      have KC : ∀ (x3 : Int32) (c_numbers : Nat → Int32) (c_next : Int32) (o_stand : Int32) (o_home : Int32) (o_priceStart : Int32) (o_priceStep : Int32) (o_thrown_cells : Nat → Int32) (o_thrown_filled : Int32) (o_nets_cells : Nat → Int32) (o_nets_filled : Int32), w = .inl (x3, c_numbers, c_next, o_stand, o_home, o_priceStart, o_priceStep, o_thrown_cells, o_thrown_filled, o_nets_cells, o_nets_filled) → ∀ (ls : Array Slot) (H : Heap) (locs : List Loc), lv_has ls 5 [(0, .ref a0), (1, .ref a2), (2, .ref a4), (3, .int x3)] → G dC dI A H0 (W_X4_X6_X3 a0 a1 a2 a3 a4 a5 a6 a7 a8 cI cJ c_numbers c_next o_bytes o_length o_stand o_home o_priceStart o_priceStep o_thrown_cells o_thrown_filled o_nets_cells o_nets_filled) H locs → W p l e (RM 5 122) s m args below meth c H locs 0 0 QQ (F0 m 11 ls []) := fun b0 b1 b2 b3 b4 b5 b6 b7 b8 b9 b10 e ls H locs hl hG => ih b0 b1 b2 b3 b4 b5 b6 b7 b8 b9 b10 v (hi _ e) K0 KR0 ls H locs hl hG
      have KX : ∀ (c_numbers : Nat → Int32) (c_next : Int32) (o_stand : Int32) (o_home : Int32) (o_priceStart : Int32) (o_priceStep : Int32) (o_thrown_cells : Nat → Int32) (o_thrown_filled : Int32) (o_nets_cells : Nat → Int32) (o_nets_filled : Int32), w = .inr (.inl (c_numbers, c_next, o_stand, o_home, o_priceStart, o_priceStep, o_thrown_cells, o_thrown_filled, o_nets_cells, o_nets_filled)) → ∀ (ls : Array Slot) (H : Heap) (locs : List Loc), lv_has ls 5 [] → G dC dI A H0 (W_X4_X6_X3 a0 a1 a2 a3 a4 a5 a6 a7 a8 cI cJ c_numbers c_next o_bytes o_length o_stand o_home o_priceStart o_priceStep o_thrown_cells o_thrown_filled o_nets_cells o_nets_filled) H locs → W p l e (RM 5 122) s m args below meth c H locs 0 0 QQ (F0 m 53 ls []) := fun b0 b1 b2 b3 b4 b5 b6 b7 b8 b9 e ls H locs hl hG => K0 b0 b1 b2 b3 b4 b5 b6 b7 b8 b9 (hr _ e) ls H locs hl hG
      have KR : ∀ (r : Int32 × (Nat → Int32) × Int32 × Int32 × Int32 × Int32 × Int32 × (Nat → Int32) × Int32 × (Nat → Int32) × Int32), w = .inr (.inr r) → r = (res, n_numbers, n_next, n_stand, n_home, n_priceStart, n_priceStep, n_thrown_cells, n_thrown_filled, n_nets_cells, n_nets_filled) := fun r e => KR0 r (hr _ e)
      clear h0 hi hr K0 ih KR0
      unfold DX4_firstFault_L11s at h
      refine lv_iload_n hx hb dX4_firstFault_11 rfl (lv_at hl 3 rfl) ?_
      refine lv_sipush (v := (300 : Int32)) hx hb dX4_firstFault_12 (by decide) ?_
      refine lv_icmp_ge (tgt := 53) hx hb dX4_firstFault_15 (by decide) (fun c_8 => ?_) (fun c_8 => ?_)
      · have h := ite_t h c_8
        exact KX _ _ _ _ _ _ _ _ _ _ (Option.some.inj h).symm _ _ _ (lv_sub hl [] rfl) hG
      · have h := ite_f h c_8
        refine lv_aload_n hx hb dX4_firstFault_18 rfl (lv_at hl 0 rfl) ?_
        refine r_get X hG in_X4 rfl 1 (by decide) w_85 0 rfl rfl dX4_firstFault_19 ?_
        refine lv_aload_n hx hb dX4_firstFault_22 rfl (lv_at hl 1 rfl) ?_
        refine r_getN X hG in_X6 rfl 1 (by decide) w_71 2 rfl rfl dX4_firstFault_23 ?_
        refine lv_icmp_ge (tgt := 53) hx hb dX4_firstFault_26 (by decide) (fun c_9 => ?_) (fun c_9 => ?_)
        · have h := ite_t h c_9
          exact KX _ _ _ _ _ _ _ _ _ _ (Option.some.inj h).symm _ _ _ (lv_sub hl [] rfl) hG
        · have h := ite_f h c_9
          refine lv_aload_n hx hb dX4_firstFault_29 rfl (lv_at hl 0 rfl) ?_
          refine r_get X hG in_X4 rfl 1 (by decide) w_85 0 rfl rfl dX4_firstFault_30 ?_
          refine lv_istore (lv' := [(4, .int c_next), (0, .ref a0), (1, .ref a2), (2, .ref a4), (3, .int x3)]) hx hb dX4_firstFault_33 hl (by decide) rfl (fun ls hl => ?_)
          refine lv_aload_n hx hb dX4_firstFault_35 rfl (lv_at hl 1 rfl) ?_
          refine lv_aload_n hx hb dX4_firstFault_36 rfl (lv_at hl 2 rfl) ?_
          refine lv_aload_n hx hb dX4_firstFault_37 rfl (lv_at hl 3 rfl) ?_
          obtain ⟨r_10, k_numbers_11, k_next_12, k_stand_13, k_home_14, k_priceStart_15, k_priceStep_16, k_thrown_cells_17, k_thrown_filled_18, k_nets_cells_19, k_nets_filled_20, hz_21, h⟩ := bd11_some h
          refine aft_i (ws' := (W_X4_X6_X3 a0 a1 a2 a3 a4 a5 a6 a7 a8 cI cJ k_numbers_11 k_next_12 o_bytes o_length k_stand_13 k_home_14 k_priceStart_15 k_priceStep_16 k_thrown_cells_17 k_thrown_filled_18 k_nets_cells_19 k_nets_filled_20)) (run_V (rest := []) X hG hl.1 (mX4_readItem l dC dI cI cJ a0 a1 a2 a3 a4 a5 a6 a7 a8 c_numbers c_next o_bytes o_length o_stand o_home o_priceStart o_priceStep o_thrown_cells o_thrown_filled o_nets_cells o_nets_filled hz_21) gi_V_X4_29 hd_V_yX4_readItem ⟨rfl, rfl⟩ rfl ⟨Nat.le_of_ble_eq_true rfl, Nat.le_of_ble_eq_true rfl⟩ [0, 1, 2, 3, 4, 5, 6, 7, 8] (by decide) rfl 0 rfl rfl rfl rfl (Nat.le_of_ble_eq_true rfl) ⟨Nat.le_of_ble_eq_true rfl, Nat.le_of_ble_eq_true rfl⟩ dX4_firstFault_38) hG [0, 1, 2, 3, 4, 5, 6, 7, 8] rfl rfl rfl (fun H locs hG => ?_)
          clear hz_21
          refine lv_if_ne (tgt := 47) hx hb dX4_firstFault_41 (by decide) (fun c_22 => ?_) (fun c_22 => ?_)
          · have h := ite_f h c_22
            refine lv_iinc (v := (x3 + (1 : Int32))) (lv' := [(3, .int (x3 + (1 : Int32))), (4, .int c_next), (0, .ref a0), (1, .ref a2), (2, .ref a4)]) hx hb dX4_firstFault_47 hl (k := 4) rfl rfl (by decide) rfl (fun ls hl => ?_)
            refine lv_goto (tgt := 11) hx hb dX4_firstFault_50 (by decide) ?_
            exact KC _ _ _ _ _ _ _ _ _ _ _ (Option.some.inj h).symm _ _ _ (lv_sub hl [2, 3, 4, 0] rfl) hG
          · have h := ite_t h c_22
            refine lv_iload hx hb dX4_firstFault_44 (lv_at hl 0 rfl) ?_
            cases KR _ (Option.some.inj h).symm
            exact ret _ _ _ _ dX4_firstFault_46 hG
  have h := hD
  unfold DX4_firstFault at h
  clear hD
  refine lv_aload_n hx hb dX4_firstFault_0 rfl (lv_at hl 2 rfl) ?_
  obtain ⟨k_stand_1, k_home_2, k_priceStart_3, k_priceStep_4, k_thrown_filled_5, k_nets_filled_6, hz_7, h⟩ := bd6_some h
  refine aft_v (ws' := (W_X4_X6_X3 a0 a1 a2 a3 a4 a5 a6 a7 a8 cI cJ c_numbers c_next o_bytes o_length k_stand_1 k_home_2 k_priceStart_3 k_priceStep_4 o_thrown_cells k_thrown_filled_5 o_nets_cells k_nets_filled_6)) (run_V (rest := []) X hG hl.1 (mX3_makeBare l dC dI cI cJ a4 a5 a6 a7 a8 o_stand o_home o_priceStart o_priceStep o_thrown_cells o_thrown_filled o_nets_cells o_nets_filled hz_7) gi_V_X4_19 hd_V_yX3_makeBare ⟨rfl, rfl⟩ rfl ⟨Nat.le_of_ble_eq_true rfl, Nat.le_of_ble_eq_true rfl⟩ [4, 5, 6, 7, 8] (by decide) rfl 4 rfl rfl rfl rfl (Nat.le_of_ble_eq_true rfl) ⟨Nat.le_of_ble_eq_true rfl, Nat.le_of_ble_eq_true rfl⟩ dX4_firstFault_1) hG [4, 5, 6, 7, 8] rfl rfl rfl (fun H locs hG => ?_)
  clear hz_7
  refine lv_aload_n hx hb dX4_firstFault_4 rfl (lv_at hl 0 rfl) ?_
  refine lv_iconst (v := (0 : Int32)) hx hb dX4_firstFault_5 (by decide) ?_
  refine r_put X hG in_X4 rfl tyX4 tyX4_ok nmX4 1 (by decide) rfl (by decide +kernel) w_85 0 (ws' := (W_X4_X6_X3 a0 a1 a2 a3 a4 a5 a6 a7 a8 cI cJ c_numbers (0 : Int32) o_bytes o_length k_stand_1 k_home_2 k_priceStart_3 k_priceStep_4 o_thrown_cells k_thrown_filled_5 o_nets_cells k_nets_filled_6)) rfl (Nat.le_of_ble_eq_true rfl) rfl dX4_firstFault_6 (fun H locs hG => ?_)
  refine lv_iconst (v := (0 : Int32)) hx hb dX4_firstFault_9 (by decide) ?_
  refine lv_istore_n (lv' := [(3, .int (0 : Int32)), (0, .ref a0), (1, .ref a2), (2, .ref a4)]) hx hb dX4_firstFault_10 rfl hl (by decide) rfl (fun ls hl => ?_)
  rcases el10_some h with ⟨k_numbers_23, k_next_24, k_stand_25, k_home_26, k_priceStart_27, k_priceStep_28, k_thrown_cells_29, k_thrown_filled_30, k_nets_cells_31, k_nets_filled_32, hz, h⟩ | ⟨r, hz, h⟩
  · refine L11  FU (0 : Int32) c_numbers (0 : Int32) k_stand_1 k_home_2 k_priceStart_3 k_priceStep_4 o_thrown_cells k_thrown_filled_5 o_nets_cells k_nets_filled_6 _ hz ?_ (fun r e => by cases e) _ _ _ (lv_sub hl [1, 2, 3, 0] rfl) hG
    rintro _ _ _ _ _ _ _ _ _ _ ⟨⟩ ls H locs hl hG
    clear hz
    refine lv_bipush (v := (-4 : Int32)) hx hb dX4_firstFault_53 (by decide) ?_
    cases h
    exact ret _ _ _ _ dX4_firstFault_55 hG
  · refine L11  FU (0 : Int32) c_numbers (0 : Int32) k_stand_1 k_home_2 k_priceStart_3 k_priceStep_4 o_thrown_cells k_thrown_filled_5 o_nets_cells k_nets_filled_6 _ hz (fun _ _ _ _ _ _ _ _ _ _ e => by cases e) (fun r2 e => ?_) _ _ _ (lv_sub hl [1, 2, 3, 0] rfl) hG
    cases e; cases h; rfl
set_option maxRecDepth 100000 in
set_option maxHeartbeats 4000000 in
theorem mX5_has (l : Launch) (dC : Nat → ClassId) (dI : Nat → Nat → Nat) (cI cJ : ClassId) (a0 a1 : Nat) (pm : Int32) (pw : Int32) (pn : Nat) (c_cells : Nat → Int32) (c_filled : Int32) (x1 : Int32) {res : Int32} (hD : DX5_has x1 c_filled = some res) : Met l yX5_has (WZ yX5_has cX5_has 2 (some .boolean)) (RM 0 0) (PC dC dI cI cJ [.ref a0, .int x1] (W_X5 a0 a1 cI cJ pm pw pn c_cells c_filled)) (QI dC dI (W_X5 a0 a1 cI cJ pm pw pn c_cells c_filled) (W_X5 a0 a1 cI cJ pm pw pn c_cells c_filled) res) 0 0 (FA (W_X5 a0 a1 cI cJ pm pw pn c_cells c_filled)) := by
  refine r_metZ (by decide +kernel) (Nat.le_of_ble_eq_true rfl) ?_
  intro p e s m args below meth c A H0 QQ X ret ls hl hG
  have X : Cx p m c cX5_has 2 s args RX5 dC dI cI cJ meth (some .boolean) := X
  have hx := X.1.1
  have hb := X.1.2.1
  have hl : lv_has ls 2 [(0, .ref a0), (1, .int x1)] := hl
  have h := hD
  unfold DX5_has at h
  clear hD
  refine lv_iload_n hx hb dX5_has_0 rfl (lv_at hl 1 rfl) ?_
  refine lv_if_lt (tgt := 16) hx hb dX5_has_1 (by decide) (fun c_1 => ?_) (fun c_1 => ?_)
  · have h := ite_t h c_1
    refine lv_iconst (v := (0 : Int32)) hx hb dX5_has_16 (by decide) ?_
    cases h
    exact ret _ _ _ _ dX5_has_17 (by decide) hG
  · have h := ite_f h c_1
    refine lv_iload_n hx hb dX5_has_4 rfl (lv_at hl 1 rfl) ?_
    refine lv_aload_n hx hb dX5_has_5 rfl (lv_at hl 0 rfl) ?_
    refine r_get X hG in_X5 rfl 3 (by decide) w_109 0 rfl rfl dX5_has_6 ?_
    refine lv_icmp_ge (tgt := 16) hx hb dX5_has_9 (by decide) (fun c_2 => ?_) (fun c_2 => ?_)
    · have h := ite_t h c_2
      refine lv_iconst (v := (0 : Int32)) hx hb dX5_has_16 (by decide) ?_
      cases h
      exact ret _ _ _ _ dX5_has_17 (by decide) hG
    · have h := ite_f h c_2
      refine lv_iconst (v := (1 : Int32)) hx hb dX5_has_12 (by decide) ?_
      refine lv_goto (tgt := 17) hx hb dX5_has_13 (by decide) ?_
      cases h
      exact ret _ _ _ _ dX5_has_17 (by decide) hG
set_option maxRecDepth 100000 in
set_option maxHeartbeats 4000000 in
theorem mX6_append (l : Launch) (dC : Nat → ClassId) (dI : Nat → Nat → Nat) (cI cJ : ClassId) (a0 a1 : Nat) (c_bytes : Nat → Int32) (c_length : Int32) (x1 : Int32) {n_bytes : Nat → Int32} {n_length : Int32} (hD : DX6_append x1 c_bytes c_length = some (n_bytes, n_length)) : Met l yX6_append (WZ yX6_append cX6_append 2 none) (RM 1 22) (PC dC dI cI cJ [.ref a0, .int x1] (W_X6 a0 a1 cI cJ c_bytes c_length)) (QV dC dI (W_X6 a0 a1 cI cJ c_bytes c_length) (W_X6 a0 a1 cI cJ n_bytes n_length)) 0 0 (FA (W_X6 a0 a1 cI cJ c_bytes c_length)) := by
  refine r_metV (by decide +kernel) (Nat.le_of_ble_eq_true rfl) ?_
  intro p e s m args below meth c A H0 QQ X ret ls hl hG
  have X : Cx p m c cX6_append 2 s args RX6 dC dI cI cJ meth none := X
  have hx := X.1.1
  have hb := X.1.2.1
  have hl : lv_has ls 2 [(0, .ref a0), (1, .int x1)] := hl
  have h := hD
  unfold DX6_append at h
  clear hD
  refine lv_aload_n hx hb dX6_append_0 rfl (lv_at hl 0 rfl) ?_
  refine r_get X hG in_X6 rfl 1 (by decide) w_69 0 rfl rfl dX6_append_1 ?_
  refine lv_sipush (v := (300 : Int32)) hx hb dX6_append_4 (by decide) ?_
  refine lv_icmp_ge (tgt := 32) hx hb dX6_append_7 (by decide) (fun c_1 => ?_) (fun c_1 => ?_)
  · have h := ite_t h c_1
    cases h
    exact ret _ _ _ _ dX6_append_32 hG
  · have h := ite_f h c_1
    refine lv_aload_n hx hb dX6_append_10 rfl (lv_at hl 0 rfl) ?_
    refine r_get X hG in_X6 rfl 0 (by decide) w_68 0 rfl rfl dX6_append_11 ?_
    refine lv_aload_n hx hb dX6_append_14 rfl (lv_at hl 0 rfl) ?_
    refine r_get X hG in_X6 rfl 1 (by decide) w_69 0 rfl rfl dX6_append_15 ?_
    refine lv_iload_n hx hb dX6_append_18 rfl (lv_at hl 1 rfl) ?_
    obtain ⟨k_bytes_2, hz_3, h⟩ := bd1_some h
    refine aft_v (ws' := (W_X6 a0 a1 cI cJ k_bytes_2 c_length)) (run_SN (rest := []) X hG hl.1 (mX8_put l dC dI cI cJ a1 300 c_bytes c_length x1 hz_3) gi_N_yX8_put w_271 w_272 w_41 hd_S_yX8_put ⟨rfl, rfl⟩ rfl ⟨Nat.le_of_ble_eq_true rfl, Nat.le_of_ble_eq_true rfl⟩ [1] (by decide) rfl rfl (Nat.le_of_ble_eq_true rfl) ⟨Nat.le_of_ble_eq_true rfl, Nat.le_of_ble_eq_true rfl⟩ dX6_append_19) hG [1] rfl rfl rfl (fun H locs hG => ?_)
    clear hz_3
    refine lv_aload_n hx hb dX6_append_22 rfl (lv_at hl 0 rfl) ?_
    refine lv_dup hx hb dX6_append_23 rfl ?_
    refine r_get X hG in_X6 rfl 1 (by decide) w_69 0 rfl rfl dX6_append_24 ?_
    refine lv_iconst (v := (1 : Int32)) hx hb dX6_append_27 (by decide) ?_
    refine lv_iadd hx hb dX6_append_28 ?_
    refine r_put X hG in_X6 rfl tyX6 tyX6_ok nmX6 1 (by decide) rfl (by decide +kernel) w_69 0 (ws' := (W_X6 a0 a1 cI cJ k_bytes_2 (c_length + (1 : Int32)))) rfl (Nat.le_of_ble_eq_true rfl) rfl dX6_append_29 (fun H locs hG => ?_)
    cases h
    exact ret _ _ _ _ dX6_append_32 hG
set_option maxRecDepth 100000 in
set_option maxHeartbeats 4000000 in
theorem mX7_isIn (l : Launch) (dC : Nat → ClassId) (dI : Nat → Nat → Nat) (cI cJ : ClassId) (x0 : Int32) (x1 : Int32) {res : Int32} (hD : DX7_isIn x0 x1 = some res) : Met l yX7_isIn (WZ yX7_isIn cX7_isIn 2 (some .boolean)) (RM 0 0) (PC dC dI cI cJ [.int x0, .int x1] []) (QI dC dI [] [] res) 0 0 (FA []) := by
  refine r_metZ (by decide +kernel) (Nat.le_of_ble_eq_true rfl) ?_
  intro p e s m args below meth c A H0 QQ X ret ls hl hG
  have X : Cx p m c cX7_isIn 2 s args RX7 dC dI cI cJ meth (some .boolean) := X
  have hx := X.1.1
  have hb := X.1.2.1
  have hl : lv_has ls 2 [(0, .int x0), (1, .int x1)] := hl
  have h := hD
  unfold DX7_isIn at h
  clear hD
  refine lv_iload_n hx hb dX7_isIn_0 rfl (lv_at hl 1 rfl) ?_
  refine lv_iload_n hx hb dX7_isIn_1 rfl (lv_at hl 0 rfl) ?_
  refine lv_iconst (v := (1 : Int32)) hx hb dX7_isIn_2 (by decide) ?_
  refine lv_isub hx hb dX7_isIn_3 ?_
  refine lv_ishr hx hb dX7_isIn_4 ?_
  refine lv_iconst (v := (1 : Int32)) hx hb dX7_isIn_5 (by decide) ?_
  refine lv_iand hx hb dX7_isIn_6 ?_
  refine lv_iconst (v := (1 : Int32)) hx hb dX7_isIn_7 (by decide) ?_
  refine lv_icmp_ne (tgt := 15) hx hb dX7_isIn_8 (by decide) (fun c_1 => ?_) (fun c_1 => ?_)
  · have h := ite_f h c_1
    refine lv_iconst (v := (0 : Int32)) hx hb dX7_isIn_15 (by decide) ?_
    cases h
    exact ret _ _ _ _ dX7_isIn_16 (by decide) hG
  · have h := ite_t h c_1
    refine lv_iconst (v := (1 : Int32)) hx hb dX7_isIn_11 (by decide) ?_
    refine lv_goto (tgt := 16) hx hb dX7_isIn_12 (by decide) ?_
    cases h
    exact ret _ _ _ _ dX7_isIn_16 (by decide) hG
set_option maxRecDepth 100000 in
set_option maxHeartbeats 4000000 in
theorem mX7_goOn (l : Launch) (dC : Nat → ClassId) (dI : Nat → Nat → Nat) (cI cJ : ClassId) (a0 a1 : Nat) (c_need : Nat → Int32) (x1 : Int32) (x2 : Int32) (x3 : Int32) {n_need : Nat → Int32} (hD : DX7_goOn x1 x2 x3 c_need = some n_need) : Met l yX7_goOn (WZ yX7_goOn cX7_goOn 6 none) (RM 1 22) (PC dC dI cI cJ [.ref a0, .int x1, .int x2, .int x3] (W_X7 a0 a1 cI cJ c_need)) (QV dC dI (W_X7 a0 a1 cI cJ c_need) (W_X7 a0 a1 cI cJ n_need)) 0 0 (FA (W_X7 a0 a1 cI cJ c_need)) := by
  refine r_metV (by decide +kernel) (Nat.le_of_ble_eq_true rfl) ?_
  intro p e s m args below meth c A H0 QQ X ret ls hl hG
  have X : Cx p m c cX7_goOn 6 s args RX7 dC dI cI cJ meth none := X
  have hx := X.1.1
  have hb := X.1.2.1
  have hl : lv_has ls 6 [(0, .ref a0), (1, .int x1), (2, .int x2), (3, .int x3)] := hl
  have L3 : ∀ (n : Nat) (x4 : Int32) (c_need : Nat → Int32) (ec_need : Nat → Int32), DX7_goOn_L3 x1 x2 x3 n x4 c_need = some ec_need → (∀ (ls : Array Slot) (H : Heap) (locs : List Loc), lv_has ls 6 [] → G dC dI A H0 (W_X7 a0 a1 cI cJ ec_need) H locs → W p l e (RM 1 22) s m args below meth c H locs 0 0 QQ (F0 m 59 ls [])) → ∀ (ls : Array Slot) (H : Heap) (locs : List Loc), lv_has ls 6 [(0, .ref a0), (1, .int x1), (2, .int x2), (3, .int x3), (4, .int x4)] → G dC dI A H0 (W_X7 a0 a1 cI cJ c_need) H locs → W p l e (RM 1 22) s m args below meth c H locs 0 0 QQ (F0 m 3 ls []) := by
    intro  n
    induction n with
    | zero => intro x4 c_need ec_need h; exact it_zero h
    | succ n ih =>
      intro x4 c_need ec_need h0 K0 ls H locs hl hG
      obtain ⟨w, h, hi, hr⟩ := it_succ h0
      have h : DX7_goOn_L3s x1 x2 x3 x4 c_need = some w := h
      have KC : ∀ (x4 : Int32) (c_need : Nat → Int32), w = .inl (x4, c_need) → ∀ (ls : Array Slot) (H : Heap) (locs : List Loc), lv_has ls 6 [(0, .ref a0), (1, .int x1), (2, .int x2), (3, .int x3), (4, .int x4)] → G dC dI A H0 (W_X7 a0 a1 cI cJ c_need) H locs → W p l e (RM 1 22) s m args below meth c H locs 0 0 QQ (F0 m 3 ls []) := fun b0 b1 e ls H locs hl hG => ih b0 b1 ec_need (hi _ e) K0 ls H locs hl hG
      have KX : ∀ (c_need : Nat → Int32), w = .inr c_need → ∀ (ls : Array Slot) (H : Heap) (locs : List Loc), lv_has ls 6 [] → G dC dI A H0 (W_X7 a0 a1 cI cJ c_need) H locs → W p l e (RM 1 22) s m args below meth c H locs 0 0 QQ (F0 m 59 ls []) := fun b0 e ls H locs hl hG => by cases hr _ e; exact K0 ls H locs hl hG
      clear h0 hi hr K0 ih
      unfold DX7_goOn_L3s at h
      refine lv_iload hx hb dX7_goOn_3 (lv_at hl 4 rfl) ?_
      refine lv_bipush (v := (6 : Int32)) hx hb dX7_goOn_5 (by decide) ?_
      refine lv_icmp_gt (tgt := 59) hx hb dX7_goOn_7 (by decide) (fun c_1 => ?_) (fun c_1 => ?_)
      · have h := ite_t h c_1
        exact KX _ (Option.some.inj h).symm _ _ _ (lv_sub hl [] rfl) hG
      · have h := ite_f h c_1
        refine lv_iload_n hx hb dX7_goOn_10 rfl (lv_at hl 1 rfl) ?_
        refine lv_iload hx hb dX7_goOn_11 (lv_at hl 4 rfl) ?_
        refine lv_iadd hx hb dX7_goOn_13 ?_
        refine lv_bipush (v := (24 : Int32)) hx hb dX7_goOn_14 (by decide) ?_
        refine lv_irem hx hb dX7_goOn_16 (by decide) ?_
        refine lv_istore (lv' := [(5, .int ((x1 + x4) - (x1 + x4) / (24 : Int32) * (24 : Int32))), (0, .ref a0), (1, .int x1), (2, .int x2), (3, .int x3), (4, .int x4)]) hx hb dX7_goOn_17 hl (by decide) rfl (fun ls hl => ?_)
        refine lv_iload hx hb dX7_goOn_19 (lv_at hl 5 rfl) ?_
        refine lv_iload_n hx hb dX7_goOn_21 rfl (lv_at hl 3 rfl) ?_
        obtain ⟨r_2, hz_3, h⟩ := bd1_some h
        refine aft_i (ws' := (W_X7 a0 a1 cI cJ c_need)) (run_S (rest := []) X hG hl.1 (mX7_isIn l dC dI cI cJ x4 x2 hz_3) gi_S_X7_27 hd_S_yX7_isIn ⟨rfl, rfl⟩ rfl ⟨Nat.le_of_ble_eq_true rfl, Nat.le_of_ble_eq_true rfl⟩ [] (by decide) rfl rfl (Nat.le_of_ble_eq_true rfl) ⟨Nat.le_of_ble_eq_true rfl, Nat.le_of_ble_eq_true rfl⟩ dX7_goOn_22) hG [] rfl rfl rfl (fun H locs hG => ?_)
        clear hz_3
        refine lv_if_eq (tgt := 53) hx hb dX7_goOn_25 (by decide) (fun c_4 => ?_) (fun c_4 => ?_)
        · have h := ite_t h c_4
          refine lv_iinc (v := (x4 + (1 : Int32))) (lv' := [(4, .int (x4 + (1 : Int32))), (5, .int ((x1 + x4) - (x1 + x4) / (24 : Int32) * (24 : Int32))), (0, .ref a0), (1, .int x1), (2, .int x2), (3, .int x3)]) hx hb dX7_goOn_53 hl (k := 5) rfl rfl (by decide) rfl (fun ls hl => ?_)
          refine lv_goto (tgt := 3) hx hb dX7_goOn_56 (by decide) ?_
          exact KC _ _ (Option.some.inj h).symm _ _ _ (lv_sub hl [2, 3, 4, 5, 0] rfl) hG
        · have h := ite_f h c_4
          refine lv_aload_n hx hb dX7_goOn_28 rfl (lv_at hl 1 rfl) ?_
          refine r_get X hG in_X7 rfl 0 (by decide) w_223 0 rfl rfl dX7_goOn_29 ?_
          refine lv_iload hx hb dX7_goOn_32 (lv_at hl 0 rfl) ?_
          obtain ⟨r_5, hz_6, h⟩ := bd1_some h
          refine aft_i (ws' := (W_X7 a0 a1 cI cJ c_need)) (run_SN (rest := []) X hG hl.1 (mX8_at l dC dI cI cJ a1 24 c_need ((x1 + x4) - (x1 + x4) / (24 : Int32) * (24 : Int32)) hz_6) gi_N_yX8_at w_560 w_296 w_41 hd_S_yX8_at ⟨rfl, rfl⟩ rfl ⟨Nat.le_of_ble_eq_true rfl, Nat.le_of_ble_eq_true rfl⟩ [1] (by decide) rfl rfl (Nat.le_of_ble_eq_true rfl) ⟨Nat.le_of_ble_eq_true rfl, Nat.le_of_ble_eq_true rfl⟩ dX7_goOn_34) hG [1] rfl rfl rfl (fun H locs hG => ?_)
          clear hz_6
          refine lv_sipush (v := (1000 : Int32)) hx hb dX7_goOn_37 (by decide) ?_
          refine lv_icmp_ne (tgt := 53) hx hb dX7_goOn_40 (by decide) (fun c_7 => ?_) (fun c_7 => ?_)
          · have h := ite_f h c_7
            refine lv_iinc (v := (x4 + (1 : Int32))) (lv' := [(4, .int (x4 + (1 : Int32))), (5, .int ((x1 + x4) - (x1 + x4) / (24 : Int32) * (24 : Int32))), (0, .ref a0), (1, .int x1), (2, .int x2), (3, .int x3)]) hx hb dX7_goOn_53 hl (k := 5) rfl rfl (by decide) rfl (fun ls hl => ?_)
            refine lv_goto (tgt := 3) hx hb dX7_goOn_56 (by decide) ?_
            exact KC _ _ (Option.some.inj h).symm _ _ _ (lv_sub hl [2, 3, 4, 5, 0] rfl) hG
          · have h := ite_t h c_7
            refine lv_aload_n hx hb dX7_goOn_43 rfl (lv_at hl 1 rfl) ?_
            refine r_get X hG in_X7 rfl 0 (by decide) w_223 0 rfl rfl dX7_goOn_44 ?_
            refine lv_iload hx hb dX7_goOn_47 (lv_at hl 0 rfl) ?_
            refine lv_iload_n hx hb dX7_goOn_49 rfl (lv_at hl 4 rfl) ?_
            obtain ⟨k_need_8, hz_9, h⟩ := bd1_some h
            refine aft_v (ws' := (W_X7 a0 a1 cI cJ k_need_8)) (run_SN (rest := []) X hG hl.1 (mX8_put l dC dI cI cJ a1 24 c_need ((x1 + x4) - (x1 + x4) / (24 : Int32) * (24 : Int32)) x3 hz_9) gi_N_yX8_put w_559 w_272 w_41 hd_S_yX8_put ⟨rfl, rfl⟩ rfl ⟨Nat.le_of_ble_eq_true rfl, Nat.le_of_ble_eq_true rfl⟩ [1] (by decide) rfl rfl (Nat.le_of_ble_eq_true rfl) ⟨Nat.le_of_ble_eq_true rfl, Nat.le_of_ble_eq_true rfl⟩ dX7_goOn_50) hG [1] rfl rfl rfl (fun H locs hG => ?_)
            clear hz_9
            refine lv_iinc (v := (x4 + (1 : Int32))) (lv' := [(4, .int (x4 + (1 : Int32))), (5, .int ((x1 + x4) - (x1 + x4) / (24 : Int32) * (24 : Int32))), (0, .ref a0), (1, .int x1), (2, .int x2), (3, .int x3)]) hx hb dX7_goOn_53 hl (k := 5) rfl rfl (by decide) rfl (fun ls hl => ?_)
            refine lv_goto (tgt := 3) hx hb dX7_goOn_56 (by decide) ?_
            exact KC _ _ (Option.some.inj h).symm _ _ _ (lv_sub hl [2, 3, 4, 5, 0] rfl) hG
  have h := hD
  unfold DX7_goOn at h
  clear hD
  refine lv_iconst (v := (1 : Int32)) hx hb dX7_goOn_0 (by decide) ?_
  refine lv_istore (lv' := [(4, .int (1 : Int32)), (0, .ref a0), (1, .int x1), (2, .int x2), (3, .int x3)]) hx hb dX7_goOn_1 hl (by decide) rfl (fun ls hl => ?_)
  obtain ⟨k_need_10, hz, h⟩ := bd1_some h
  refine L3  FU (1 : Int32) c_need _ hz (fun ls H locs hl hG => ?_) _ _ _ (lv_sub hl [1, 2, 3, 4, 0] rfl) hG
  clear hz
  cases h
  exact ret _ _ _ _ dX7_goOn_59 hG
set_option maxRecDepth 100000 in
set_option maxHeartbeats 4000000 in
theorem mX7_reach (l : Launch) (dC : Nat → ClassId) (dI : Nat → Nat → Nat) (cI cJ : ClassId) (a0 a1 : Nat) (c_need : Nat → Int32) (x1 : Int32) {n_need : Nat → Int32} (hD : DX7_reach x1 c_need = some n_need) : Met l yX7_reach (WZ yX7_reach cX7_reach 4 none) (RM 2 47) (PC dC dI cI cJ [.ref a0, .int x1] (W_X7 a0 a1 cI cJ c_need)) (QV dC dI (W_X7 a0 a1 cI cJ c_need) (W_X7 a0 a1 cI cJ n_need)) 0 0 (FA (W_X7 a0 a1 cI cJ c_need)) := by
  refine r_metV (by decide +kernel) (Nat.le_of_ble_eq_true rfl) ?_
  intro p e s m args below meth c A H0 QQ X ret ls hl hG
  have X : Cx p m c cX7_reach 4 s args RX7 dC dI cI cJ meth none := X
  have hx := X.1.1
  have hb := X.1.2.1
  have hl : lv_has ls 4 [(0, .ref a0), (1, .int x1)] := hl
  have L2 : ∀ (n : Nat) (x2 : Int32) (c_need : Nat → Int32) (ec_need : Nat → Int32), DX7_reach_L2 n x2 c_need = some ec_need → (∀ (ls : Array Slot) (H : Heap) (locs : List Loc), lv_has ls 4 [(0, .ref a0), (1, .int x1)] → G dC dI A H0 (W_X7 a0 a1 cI cJ ec_need) H locs → W p l e (RM 2 47) s m args below meth c H locs 0 0 QQ (F0 m 33 ls [])) → ∀ (ls : Array Slot) (H : Heap) (locs : List Loc), lv_has ls 4 [(0, .ref a0), (1, .int x1), (2, .int x2)] → G dC dI A H0 (W_X7 a0 a1 cI cJ c_need) H locs → W p l e (RM 2 47) s m args below meth c H locs 0 0 QQ (F0 m 2 ls []) := by
    intro  n
    induction n with
    | zero => intro x2 c_need ec_need h; exact it_zero h
    | succ n ih =>
      intro x2 c_need ec_need h0 K0 ls H locs hl hG
      obtain ⟨w, h, hi, hr⟩ := it_succ h0
      have h : DX7_reach_L2s x2 c_need = some w := h
      have KC : ∀ (x2 : Int32) (c_need : Nat → Int32), w = .inl (x2, c_need) → ∀ (ls : Array Slot) (H : Heap) (locs : List Loc), lv_has ls 4 [(0, .ref a0), (1, .int x1), (2, .int x2)] → G dC dI A H0 (W_X7 a0 a1 cI cJ c_need) H locs → W p l e (RM 2 47) s m args below meth c H locs 0 0 QQ (F0 m 2 ls []) := fun b0 b1 e ls H locs hl hG => ih b0 b1 ec_need (hi _ e) K0 ls H locs hl hG
      have KX : ∀ (c_need : Nat → Int32), w = .inr c_need → ∀ (ls : Array Slot) (H : Heap) (locs : List Loc), lv_has ls 4 [(0, .ref a0), (1, .int x1)] → G dC dI A H0 (W_X7 a0 a1 cI cJ c_need) H locs → W p l e (RM 2 47) s m args below meth c H locs 0 0 QQ (F0 m 33 ls []) := fun b0 e ls H locs hl hG => by cases hr _ e; exact K0 ls H locs hl hG
      clear h0 hi hr K0 ih
      unfold DX7_reach_L2s at h
      refine lv_iload_n hx hb dX7_reach_2 rfl (lv_at hl 2 rfl) ?_
      refine lv_bipush (v := (24 : Int32)) hx hb dX7_reach_3 (by decide) ?_
      refine lv_icmp_ge (tgt := 33) hx hb dX7_reach_5 (by decide) (fun c_1 => ?_) (fun c_1 => ?_)
      · have h := ite_t h c_1
        exact KX _ (Option.some.inj h).symm _ _ _ (lv_sub hl [0, 1] rfl) hG
      · have h := ite_f h c_1
        refine lv_aload_n hx hb dX7_reach_8 rfl (lv_at hl 0 rfl) ?_
        refine r_get X hG in_X7 rfl 0 (by decide) w_223 0 rfl rfl dX7_reach_9 ?_
        refine lv_iload_n hx hb dX7_reach_12 rfl (lv_at hl 2 rfl) ?_
        refine lv_iload_n hx hb dX7_reach_13 rfl (lv_at hl 2 rfl) ?_
        refine lv_if_ne (tgt := 21) hx hb dX7_reach_14 (by decide) (fun c_2 => ?_) (fun c_2 => ?_)
        · have h := ite_f h c_2
          refine lv_sipush (v := (1000 : Int32)) hx hb dX7_reach_21 (by decide) ?_
          obtain ⟨k_need_3, hz_4, h⟩ := bd1_some h
          refine aft_v (ws' := (W_X7 a0 a1 cI cJ k_need_3)) (run_SN (rest := []) X hG hl.1 (mX8_put l dC dI cI cJ a1 24 c_need x2 (1000 : Int32) hz_4) gi_N_yX8_put w_559 w_272 w_41 hd_S_yX8_put ⟨rfl, rfl⟩ rfl ⟨Nat.le_of_ble_eq_true rfl, Nat.le_of_ble_eq_true rfl⟩ [1] (by decide) rfl rfl (Nat.le_of_ble_eq_true rfl) ⟨Nat.le_of_ble_eq_true rfl, Nat.le_of_ble_eq_true rfl⟩ dX7_reach_24) hG [1] rfl rfl rfl (fun H locs hG => ?_)
          clear hz_4
          refine lv_iinc (v := (x2 + (1 : Int32))) (lv' := [(2, .int (x2 + (1 : Int32))), (0, .ref a0), (1, .int x1)]) hx hb dX7_reach_27 hl (k := 2) rfl rfl (by decide) rfl (fun ls hl => ?_)
          refine lv_goto (tgt := 2) hx hb dX7_reach_30 (by decide) ?_
          exact KC _ _ (Option.some.inj h).symm _ _ _ (lv_sub hl [1, 2, 0] rfl) hG
        · have h := ite_t h c_2
          refine lv_iconst (v := (0 : Int32)) hx hb dX7_reach_17 (by decide) ?_
          refine lv_goto (tgt := 24) hx hb dX7_reach_18 (by decide) ?_
          obtain ⟨k_need_5, hz_6, h⟩ := bd1_some h
          refine aft_v (ws' := (W_X7 a0 a1 cI cJ k_need_5)) (run_SN (rest := []) X hG hl.1 (mX8_put l dC dI cI cJ a1 24 c_need x2 (0 : Int32) hz_6) gi_N_yX8_put w_559 w_272 w_41 hd_S_yX8_put ⟨rfl, rfl⟩ rfl ⟨Nat.le_of_ble_eq_true rfl, Nat.le_of_ble_eq_true rfl⟩ [1] (by decide) rfl rfl (Nat.le_of_ble_eq_true rfl) ⟨Nat.le_of_ble_eq_true rfl, Nat.le_of_ble_eq_true rfl⟩ dX7_reach_24) hG [1] rfl rfl rfl (fun H locs hG => ?_)
          clear hz_6
          refine lv_iinc (v := (x2 + (1 : Int32))) (lv' := [(2, .int (x2 + (1 : Int32))), (0, .ref a0), (1, .int x1)]) hx hb dX7_reach_27 hl (k := 2) rfl rfl (by decide) rfl (fun ls hl => ?_)
          refine lv_goto (tgt := 2) hx hb dX7_reach_30 (by decide) ?_
          exact KC _ _ (Option.some.inj h).symm _ _ _ (lv_sub hl [1, 2, 0] rfl) hG
  have L43 : ∀ (x2 : Int32), ∀ (n : Nat) (x3 : Int32) (c_need : Nat → Int32) (ec_need : Nat → Int32), DX7_reach_L43 x1 x2 n x3 c_need = some ec_need → (∀ (ls : Array Slot) (H : Heap) (locs : List Loc), lv_has ls 4 [(0, .ref a0), (1, .int x1), (2, .int x2)] → G dC dI A H0 (W_X7 a0 a1 cI cJ ec_need) H locs → W p l e (RM 2 47) s m args below meth c H locs 0 0 QQ (F0 m 76 ls [])) → ∀ (ls : Array Slot) (H : Heap) (locs : List Loc), lv_has ls 4 [(0, .ref a0), (1, .int x1), (2, .int x2), (3, .int x3)] → G dC dI A H0 (W_X7 a0 a1 cI cJ c_need) H locs → W p l e (RM 2 47) s m args below meth c H locs 0 0 QQ (F0 m 43 ls []) := by
    intro x2 n
    induction n with
    | zero => intro x3 c_need ec_need h; exact it_zero h
    | succ n ih =>
      intro x3 c_need ec_need h0 K0 ls H locs hl hG
      obtain ⟨w, h, hi, hr⟩ := it_succ h0
      have h : DX7_reach_L43s x1 x2 x3 c_need = some w := h
      have KC : ∀ (x3 : Int32) (c_need : Nat → Int32), w = .inl (x3, c_need) → ∀ (ls : Array Slot) (H : Heap) (locs : List Loc), lv_has ls 4 [(0, .ref a0), (1, .int x1), (2, .int x2), (3, .int x3)] → G dC dI A H0 (W_X7 a0 a1 cI cJ c_need) H locs → W p l e (RM 2 47) s m args below meth c H locs 0 0 QQ (F0 m 43 ls []) := fun b0 b1 e ls H locs hl hG => ih b0 b1 ec_need (hi _ e) K0 ls H locs hl hG
      have KX : ∀ (c_need : Nat → Int32), w = .inr c_need → ∀ (ls : Array Slot) (H : Heap) (locs : List Loc), lv_has ls 4 [(0, .ref a0), (1, .int x1), (2, .int x2)] → G dC dI A H0 (W_X7 a0 a1 cI cJ c_need) H locs → W p l e (RM 2 47) s m args below meth c H locs 0 0 QQ (F0 m 76 ls []) := fun b0 e ls H locs hl hG => by cases hr _ e; exact K0 ls H locs hl hG
      clear h0 hi hr K0 ih
      unfold DX7_reach_L43s at h
      refine lv_iload_n hx hb dX7_reach_43 rfl (lv_at hl 3 rfl) ?_
      refine lv_bipush (v := (24 : Int32)) hx hb dX7_reach_44 (by decide) ?_
      refine lv_icmp_ge (tgt := 76) hx hb dX7_reach_46 (by decide) (fun c_9 => ?_) (fun c_9 => ?_)
      · have h := ite_t h c_9
        exact KX _ (Option.some.inj h).symm _ _ _ (lv_sub hl [0, 1, 2] rfl) hG
      · have h := ite_f h c_9
        refine lv_aload_n hx hb dX7_reach_49 rfl (lv_at hl 0 rfl) ?_
        refine r_get X hG in_X7 rfl 0 (by decide) w_223 0 rfl rfl dX7_reach_50 ?_
        refine lv_iload_n hx hb dX7_reach_53 rfl (lv_at hl 3 rfl) ?_
        obtain ⟨r_10, hz_11, h⟩ := bd1_some h
        refine aft_i (ws' := (W_X7 a0 a1 cI cJ c_need)) (run_SN (rest := []) X hG hl.1 (mX8_at l dC dI cI cJ a1 24 c_need x3 hz_11) gi_N_yX8_at w_560 w_296 w_41 hd_S_yX8_at ⟨rfl, rfl⟩ rfl ⟨Nat.le_of_ble_eq_true rfl, Nat.le_of_ble_eq_true rfl⟩ [1] (by decide) rfl rfl (Nat.le_of_ble_eq_true rfl) ⟨Nat.le_of_ble_eq_true rfl, Nat.le_of_ble_eq_true rfl⟩ dX7_reach_54) hG [1] rfl rfl rfl (fun H locs hG => ?_)
        clear hz_11
        refine lv_iload_n hx hb dX7_reach_57 rfl (lv_at hl 2 rfl) ?_
        refine lv_icmp_ne (tgt := 70) hx hb dX7_reach_58 (by decide) (fun c_12 => ?_) (fun c_12 => ?_)
        · have h := ite_f h c_12
          refine lv_iinc (v := (x3 + (1 : Int32))) (lv' := [(3, .int (x3 + (1 : Int32))), (0, .ref a0), (1, .int x1), (2, .int x2)]) hx hb dX7_reach_70 hl (k := 3) rfl rfl (by decide) rfl (fun ls hl => ?_)
          refine lv_goto (tgt := 43) hx hb dX7_reach_73 (by decide) ?_
          exact KC _ _ (Option.some.inj h).symm _ _ _ (lv_sub hl [1, 2, 3, 0] rfl) hG
        · have h := ite_t h c_12
          refine lv_aload_n hx hb dX7_reach_61 rfl (lv_at hl 0 rfl) ?_
          refine lv_iload_n hx hb dX7_reach_62 rfl (lv_at hl 3 rfl) ?_
          refine lv_iload_n hx hb dX7_reach_63 rfl (lv_at hl 1 rfl) ?_
          refine lv_iload_n hx hb dX7_reach_64 rfl (lv_at hl 2 rfl) ?_
          refine lv_iconst (v := (1 : Int32)) hx hb dX7_reach_65 (by decide) ?_
          refine lv_iadd hx hb dX7_reach_66 ?_
          obtain ⟨k_need_13, hz_14, h⟩ := bd1_some h
          refine aft_v (ws' := (W_X7 a0 a1 cI cJ k_need_13)) (run_V (rest := []) X hG hl.1 (mX7_goOn l dC dI cI cJ a0 a1 c_need x3 x1 (x2 + (1 : Int32)) hz_14) gi_V_X7_23 hd_V_yX7_goOn ⟨rfl, rfl⟩ rfl ⟨Nat.le_of_ble_eq_true rfl, Nat.le_of_ble_eq_true rfl⟩ [0, 1] (by decide) rfl 0 rfl rfl rfl rfl (Nat.le_of_ble_eq_true rfl) ⟨Nat.le_of_ble_eq_true rfl, Nat.le_of_ble_eq_true rfl⟩ dX7_reach_67) hG [0, 1] rfl rfl rfl (fun H locs hG => ?_)
          clear hz_14
          refine lv_iinc (v := (x3 + (1 : Int32))) (lv' := [(3, .int (x3 + (1 : Int32))), (0, .ref a0), (1, .int x1), (2, .int x2)]) hx hb dX7_reach_70 hl (k := 3) rfl rfl (by decide) rfl (fun ls hl => ?_)
          refine lv_goto (tgt := 43) hx hb dX7_reach_73 (by decide) ?_
          exact KC _ _ (Option.some.inj h).symm _ _ _ (lv_sub hl [1, 2, 3, 0] rfl) hG
  have L35 : ∀ (n : Nat) (x2 : Int32) (c_need : Nat → Int32) (ec_need : Nat → Int32), DX7_reach_L35 x1 n x2 c_need = some ec_need → (∀ (ls : Array Slot) (H : Heap) (locs : List Loc), lv_has ls 4 [] → G dC dI A H0 (W_X7 a0 a1 cI cJ ec_need) H locs → W p l e (RM 2 47) s m args below meth c H locs 0 0 QQ (F0 m 82 ls [])) → ∀ (ls : Array Slot) (H : Heap) (locs : List Loc), lv_has ls 4 [(0, .ref a0), (1, .int x1), (2, .int x2)] → G dC dI A H0 (W_X7 a0 a1 cI cJ c_need) H locs → W p l e (RM 2 47) s m args below meth c H locs 0 0 QQ (F0 m 35 ls []) := by
    intro  n
    induction n with
    | zero => intro x2 c_need ec_need h; exact it_zero h
    | succ n ih =>
      intro x2 c_need ec_need h0 K0 ls H locs hl hG
      obtain ⟨w, h, hi, hr⟩ := it_succ h0
      have h : DX7_reach_L35s x1 x2 c_need = some w := h
      have KC : ∀ (x2 : Int32) (c_need : Nat → Int32), w = .inl (x2, c_need) → ∀ (ls : Array Slot) (H : Heap) (locs : List Loc), lv_has ls 4 [(0, .ref a0), (1, .int x1), (2, .int x2)] → G dC dI A H0 (W_X7 a0 a1 cI cJ c_need) H locs → W p l e (RM 2 47) s m args below meth c H locs 0 0 QQ (F0 m 35 ls []) := fun b0 b1 e ls H locs hl hG => ih b0 b1 ec_need (hi _ e) K0 ls H locs hl hG
      have KX : ∀ (c_need : Nat → Int32), w = .inr c_need → ∀ (ls : Array Slot) (H : Heap) (locs : List Loc), lv_has ls 4 [] → G dC dI A H0 (W_X7 a0 a1 cI cJ c_need) H locs → W p l e (RM 2 47) s m args below meth c H locs 0 0 QQ (F0 m 82 ls []) := fun b0 e ls H locs hl hG => by cases hr _ e; exact K0 ls H locs hl hG
      clear h0 hi hr K0 ih
      unfold DX7_reach_L35s at h
      refine lv_iload_n hx hb dX7_reach_35 rfl (lv_at hl 2 rfl) ?_
      refine lv_bipush (v := (24 : Int32)) hx hb dX7_reach_36 (by decide) ?_
      refine lv_icmp_ge (tgt := 82) hx hb dX7_reach_38 (by decide) (fun c_8 => ?_) (fun c_8 => ?_)
      · have h := ite_t h c_8
        exact KX _ (Option.some.inj h).symm _ _ _ (lv_sub hl [] rfl) hG
      · have h := ite_f h c_8
        refine lv_iconst (v := (0 : Int32)) hx hb dX7_reach_41 (by decide) ?_
        refine lv_istore_n (lv' := [(3, .int (0 : Int32)), (0, .ref a0), (1, .int x1), (2, .int x2)]) hx hb dX7_reach_42 rfl hl (by decide) rfl (fun ls hl => ?_)
        obtain ⟨k_need_15, hz, h⟩ := bd1_some h
        refine L43 x2 FU (0 : Int32) c_need _ hz (fun ls H locs hl hG => ?_) _ _ _ (lv_sub hl [1, 2, 3, 0] rfl) hG
        clear hz
        refine lv_iinc (v := (x2 + (1 : Int32))) (lv' := [(2, .int (x2 + (1 : Int32))), (0, .ref a0), (1, .int x1)]) hx hb dX7_reach_76 hl (k := 2) rfl rfl (by decide) rfl (fun ls hl => ?_)
        refine lv_goto (tgt := 35) hx hb dX7_reach_79 (by decide) ?_
        exact KC _ _ (Option.some.inj h).symm _ _ _ (lv_sub hl [1, 2, 0] rfl) hG
  have h := hD
  unfold DX7_reach at h
  clear hD
  refine lv_iconst (v := (0 : Int32)) hx hb dX7_reach_0 (by decide) ?_
  refine lv_istore_n (lv' := [(2, .int (0 : Int32)), (0, .ref a0), (1, .int x1)]) hx hb dX7_reach_1 rfl hl (by decide) rfl (fun ls hl => ?_)
  obtain ⟨k_need_7, hz, h⟩ := bd1_some h
  refine L2  FU (0 : Int32) c_need _ hz (fun ls H locs hl hG => ?_) _ _ _ (lv_sub hl [1, 2, 0] rfl) hG
  clear hz
  refine lv_iconst (v := (0 : Int32)) hx hb dX7_reach_33 (by decide) ?_
  refine lv_istore_n (lv' := [(2, .int (0 : Int32)), (0, .ref a0), (1, .int x1)]) hx hb dX7_reach_34 rfl hl (by decide) rfl (fun ls hl => ?_)
  obtain ⟨k_need_16, hz, h⟩ := bd1_some h
  refine L35  FU (0 : Int32) k_need_7 _ hz (fun ls H locs hl hG => ?_) _ _ _ (lv_sub hl [1, 2, 0] rfl) hG
  clear hz
  cases h
  exact ret _ _ _ _ dX7_reach_82 hG
set_option maxRecDepth 100000 in
set_option maxHeartbeats 4000000 in
theorem mX7_fewest (l : Launch) (dC : Nat → ClassId) (dI : Nat → Nat → Nat) (cI cJ : ClassId) (a0 a1 : Nat) (c_need : Nat → Int32) (x1 : Int32) {res : Int32} (hD : DX7_fewest x1 c_need = some res) : Met l yX7_fewest (WZ yX7_fewest cX7_fewest 2 (some .int)) (RM 1 21) (PC dC dI cI cJ [.ref a0, .int x1] (W_X7 a0 a1 cI cJ c_need)) (QI dC dI (W_X7 a0 a1 cI cJ c_need) (W_X7 a0 a1 cI cJ c_need) res) 0 0 (FA (W_X7 a0 a1 cI cJ c_need)) := by
  refine r_metI (by decide +kernel) (Nat.le_of_ble_eq_true rfl) ?_
  intro p e s m args below meth c A H0 QQ X ret ls hl hG
  have X : Cx p m c cX7_fewest 2 s args RX7 dC dI cI cJ meth (some .int) := X
  have hx := X.1.1
  have hb := X.1.2.1
  have hl : lv_has ls 2 [(0, .ref a0), (1, .int x1)] := hl
  have h := hD
  unfold DX7_fewest at h
  clear hD
  refine lv_aload_n hx hb dX7_fewest_0 rfl (lv_at hl 0 rfl) ?_
  refine r_get X hG in_X7 rfl 0 (by decide) w_223 0 rfl rfl dX7_fewest_1 ?_
  refine lv_iload_n hx hb dX7_fewest_4 rfl (lv_at hl 1 rfl) ?_
  obtain ⟨r_1, hz_2, h⟩ := bd1_some h
  refine aft_i (ws' := (W_X7 a0 a1 cI cJ c_need)) (run_SN (rest := []) X hG hl.1 (mX8_at l dC dI cI cJ a1 24 c_need x1 hz_2) gi_N_yX8_at w_560 w_296 w_41 hd_S_yX8_at ⟨rfl, rfl⟩ rfl ⟨Nat.le_of_ble_eq_true rfl, Nat.le_of_ble_eq_true rfl⟩ [1] (by decide) rfl rfl (Nat.le_of_ble_eq_true rfl) ⟨Nat.le_of_ble_eq_true rfl, Nat.le_of_ble_eq_true rfl⟩ dX7_fewest_5) hG [1] rfl rfl rfl (fun H locs hG => ?_)
  clear hz_2
  refine lv_sipush (v := (1000 : Int32)) hx hb dX7_fewest_8 (by decide) ?_
  refine lv_icmp_ne (tgt := 19) hx hb dX7_fewest_11 (by decide) (fun c_3 => ?_) (fun c_3 => ?_)
  · have h := ite_f h c_3
    refine lv_aload_n hx hb dX7_fewest_19 rfl (lv_at hl 0 rfl) ?_
    refine r_get X hG in_X7 rfl 0 (by decide) w_223 0 rfl rfl dX7_fewest_20 ?_
    refine lv_iload_n hx hb dX7_fewest_23 rfl (lv_at hl 1 rfl) ?_
    obtain ⟨r_4, hz_5, h⟩ := bd1_some h
    refine aft_i (ws' := (W_X7 a0 a1 cI cJ c_need)) (run_SN (rest := []) X hG hl.1 (mX8_at l dC dI cI cJ a1 24 c_need x1 hz_5) gi_N_yX8_at w_560 w_296 w_41 hd_S_yX8_at ⟨rfl, rfl⟩ rfl ⟨Nat.le_of_ble_eq_true rfl, Nat.le_of_ble_eq_true rfl⟩ [1] (by decide) rfl rfl (Nat.le_of_ble_eq_true rfl) ⟨Nat.le_of_ble_eq_true rfl, Nat.le_of_ble_eq_true rfl⟩ dX7_fewest_24) hG [1] rfl rfl rfl (fun H locs hG => ?_)
    clear hz_5
    cases h
    exact ret _ _ _ _ dX7_fewest_27 hG
  · have h := ite_t h c_3
    refine lv_bipush (v := (-4 : Int32)) hx hb dX7_fewest_14 (by decide) ?_
    refine lv_goto (tgt := 27) hx hb dX7_fewest_16 (by decide) ?_
    cases h
    exact ret _ _ _ _ dX7_fewest_27 hG
set_option maxRecDepth 100000 in
set_option maxHeartbeats 4000000 in
theorem mX7_firstSpeed (l : Launch) (dC : Nat → ClassId) (dI : Nat → Nat → Nat) (cI cJ : ClassId) (a0 a1 : Nat) (c_need : Nat → Int32) (x1 : Int32) (x2 : Int32) {res : Int32} (hD : DX7_firstSpeed x1 x2 c_need = some res) : Met l yX7_firstSpeed (WZ yX7_firstSpeed cX7_firstSpeed 5 (some .int)) (RM 1 22) (PC dC dI cI cJ [.ref a0, .int x1, .int x2] (W_X7 a0 a1 cI cJ c_need)) (QI dC dI (W_X7 a0 a1 cI cJ c_need) (W_X7 a0 a1 cI cJ c_need) res) 0 0 (FA (W_X7 a0 a1 cI cJ c_need)) := by
  refine r_metI (by decide +kernel) (Nat.le_of_ble_eq_true rfl) ?_
  intro p e s m args below meth c A H0 QQ X ret ls hl hG
  have X : Cx p m c cX7_firstSpeed 5 s args RX7 dC dI cI cJ meth (some .int) := X
  have hx := X.1.1
  have hb := X.1.2.1
  have hl : lv_has ls 5 [(0, .ref a0), (1, .int x1), (2, .int x2)] := hl
  have L19 : ∀ (n : Nat) (x3 : Int32) (v : (Unit) ⊕ (Int32)), DX7_firstSpeed_L19 x1 x2 c_need n x3 = some v → (v = .inl () → ∀ (ls : Array Slot) (H : Heap) (locs : List Loc), lv_has ls 5 [] → G dC dI A H0 (W_X7 a0 a1 cI cJ c_need) H locs → W p l e (RM 1 22) s m args below meth c H locs 0 0 QQ (F0 m 73 ls [])) → (∀ (r : Int32), v = .inr r → r = res) → ∀ (ls : Array Slot) (H : Heap) (locs : List Loc), lv_has ls 5 [(0, .ref a0), (1, .int x1), (2, .int x2), (3, .int x3)] → G dC dI A H0 (W_X7 a0 a1 cI cJ c_need) H locs → W p l e (RM 1 22) s m args below meth c H locs 0 0 QQ (F0 m 19 ls []) := by
    intro  n
    induction n with
    | zero => intro x3 v h; exact it_zero h
    | succ n ih =>
      intro x3 v h0 K0 KR0 ls H locs hl hG
      obtain ⟨w, h, hi, hr⟩ := it_succ h0
      have h : DX7_firstSpeed_L19s x1 x2 c_need x3 = some w := h
      have KC : ∀ (x3 : Int32), w = .inl x3 → ∀ (ls : Array Slot) (H : Heap) (locs : List Loc), lv_has ls 5 [(0, .ref a0), (1, .int x1), (2, .int x2), (3, .int x3)] → G dC dI A H0 (W_X7 a0 a1 cI cJ c_need) H locs → W p l e (RM 1 22) s m args below meth c H locs 0 0 QQ (F0 m 19 ls []) := fun b0 e ls H locs hl hG => ih b0 v (hi _ e) K0 KR0 ls H locs hl hG
      have KX : w = .inr (.inl ()) → ∀ (ls : Array Slot) (H : Heap) (locs : List Loc), lv_has ls 5 [] → G dC dI A H0 (W_X7 a0 a1 cI cJ c_need) H locs → W p l e (RM 1 22) s m args below meth c H locs 0 0 QQ (F0 m 73 ls []) := fun  e ls H locs hl hG => K0  (hr _ e) ls H locs hl hG
      have KR : ∀ (r : Int32), w = .inr (.inr r) → r = res := fun r e => KR0 r (hr _ e)
      clear h0 hi hr K0 ih KR0
      unfold DX7_firstSpeed_L19s at h
      refine lv_iload_n hx hb dX7_firstSpeed_19 rfl (lv_at hl 3 rfl) ?_
      refine lv_bipush (v := (6 : Int32)) hx hb dX7_firstSpeed_20 (by decide) ?_
      refine lv_icmp_gt (tgt := 73) hx hb dX7_firstSpeed_22 (by decide) (fun c_4 => ?_) (fun c_4 => ?_)
      · have h := ite_t h c_4
        exact KX  (Option.some.inj h).symm _ _ _ (lv_sub hl [] rfl) hG
      · have h := ite_f h c_4
        refine lv_iload_n hx hb dX7_firstSpeed_25 rfl (lv_at hl 1 rfl) ?_
        refine lv_iload_n hx hb dX7_firstSpeed_26 rfl (lv_at hl 3 rfl) ?_
        refine lv_isub hx hb dX7_firstSpeed_27 ?_
        refine lv_bipush (v := (24 : Int32)) hx hb dX7_firstSpeed_28 (by decide) ?_
        obtain ⟨r_5, hz_6, h⟩ := bd1_some h
        refine aft_i (ws' := (W_X7 a0 a1 cI cJ c_need)) (run_S (rest := []) X hG hl.1 (mJ9_floorMod_7cf53 l dC dI cI cJ (x1 - x3) (24 : Int32) hz_6) gi_S_X7_31 hd_S_yJ9_floorMod_7cf53 ⟨rfl, rfl⟩ rfl ⟨Nat.le_of_ble_eq_true rfl, Nat.le_of_ble_eq_true rfl⟩ [] (by decide) rfl rfl (Nat.le_of_ble_eq_true rfl) ⟨Nat.le_of_ble_eq_true rfl, Nat.le_of_ble_eq_true rfl⟩ dX7_firstSpeed_30) hG [] rfl rfl rfl (fun H locs hG => ?_)
        clear hz_6
        refine lv_istore (lv' := [(4, .int r_5), (0, .ref a0), (1, .int x1), (2, .int x2), (3, .int x3)]) hx hb dX7_firstSpeed_33 hl (by decide) rfl (fun ls hl => ?_)
        refine lv_iload_n hx hb dX7_firstSpeed_35 rfl (lv_at hl 4 rfl) ?_
        refine lv_iload_n hx hb dX7_firstSpeed_36 rfl (lv_at hl 3 rfl) ?_
        obtain ⟨r_7, hz_8, h⟩ := bd1_some h
        refine aft_i (ws' := (W_X7 a0 a1 cI cJ c_need)) (run_S (rest := []) X hG hl.1 (mX7_isIn l dC dI cI cJ x3 x2 hz_8) gi_S_X7_27 hd_S_yX7_isIn ⟨rfl, rfl⟩ rfl ⟨Nat.le_of_ble_eq_true rfl, Nat.le_of_ble_eq_true rfl⟩ [] (by decide) rfl rfl (Nat.le_of_ble_eq_true rfl) ⟨Nat.le_of_ble_eq_true rfl, Nat.le_of_ble_eq_true rfl⟩ dX7_firstSpeed_37) hG [] rfl rfl rfl (fun H locs hG => ?_)
        clear hz_8
        refine lv_if_eq (tgt := 67) hx hb dX7_firstSpeed_40 (by decide) (fun c_9 => ?_) (fun c_9 => ?_)
        · have h := ite_t h c_9
          refine lv_iinc (v := (x3 + (1 : Int32))) (lv' := [(3, .int (x3 + (1 : Int32))), (4, .int r_5), (0, .ref a0), (1, .int x1), (2, .int x2)]) hx hb dX7_firstSpeed_67 hl (k := 4) rfl rfl (by decide) rfl (fun ls hl => ?_)
          refine lv_goto (tgt := 19) hx hb dX7_firstSpeed_70 (by decide) ?_
          exact KC _ (Option.some.inj h).symm _ _ _ (lv_sub hl [2, 3, 4, 0] rfl) hG
        · have h := ite_f h c_9
          refine lv_aload_n hx hb dX7_firstSpeed_43 rfl (lv_at hl 1 rfl) ?_
          refine r_get X hG in_X7 rfl 0 (by decide) w_223 0 rfl rfl dX7_firstSpeed_44 ?_
          refine lv_iload hx hb dX7_firstSpeed_47 (lv_at hl 0 rfl) ?_
          obtain ⟨r_10, hz_11, h⟩ := bd1_some h
          refine aft_i (ws' := (W_X7 a0 a1 cI cJ c_need)) (run_SN (rest := []) X hG hl.1 (mX8_at l dC dI cI cJ a1 24 c_need r_5 hz_11) gi_N_yX8_at w_560 w_296 w_41 hd_S_yX8_at ⟨rfl, rfl⟩ rfl ⟨Nat.le_of_ble_eq_true rfl, Nat.le_of_ble_eq_true rfl⟩ [1] (by decide) rfl rfl (Nat.le_of_ble_eq_true rfl) ⟨Nat.le_of_ble_eq_true rfl, Nat.le_of_ble_eq_true rfl⟩ dX7_firstSpeed_49) hG [1] rfl rfl rfl (fun H locs hG => ?_)
          clear hz_11
          refine lv_aload_n hx hb dX7_firstSpeed_52 rfl (lv_at hl 1 rfl) ?_
          refine r_get X hG in_X7 rfl 0 (by decide) w_223 0 rfl rfl dX7_firstSpeed_53 ?_
          refine lv_iload_n hx hb dX7_firstSpeed_56 rfl (lv_at hl 2 rfl) ?_
          obtain ⟨r_12, hz_13, h⟩ := bd1_some h
          refine aft_i (ws' := (W_X7 a0 a1 cI cJ c_need)) (run_SN (rest := [.int r_10]) X hG hl.1 (mX8_at l dC dI cI cJ a1 24 c_need x1 hz_13) gi_N_yX8_at w_560 w_296 w_41 hd_S_yX8_at ⟨rfl, rfl⟩ rfl ⟨Nat.le_of_ble_eq_true rfl, Nat.le_of_ble_eq_true rfl⟩ [1] (by decide) rfl rfl (Nat.le_of_ble_eq_true rfl) ⟨Nat.le_of_ble_eq_true rfl, Nat.le_of_ble_eq_true rfl⟩ dX7_firstSpeed_57) hG [1] rfl rfl rfl (fun H locs hG => ?_)
          clear hz_13
          refine lv_iconst (v := (1 : Int32)) hx hb dX7_firstSpeed_60 (by decide) ?_
          refine lv_isub hx hb dX7_firstSpeed_61 ?_
          refine lv_icmp_ne (tgt := 67) hx hb dX7_firstSpeed_62 (by decide) (fun c_14 => ?_) (fun c_14 => ?_)
          · have h := ite_f h c_14
            refine lv_iinc (v := (x3 + (1 : Int32))) (lv' := [(3, .int (x3 + (1 : Int32))), (4, .int r_5), (0, .ref a0), (1, .int x1), (2, .int x2)]) hx hb dX7_firstSpeed_67 hl (k := 4) rfl rfl (by decide) rfl (fun ls hl => ?_)
            refine lv_goto (tgt := 19) hx hb dX7_firstSpeed_70 (by decide) ?_
            exact KC _ (Option.some.inj h).symm _ _ _ (lv_sub hl [2, 3, 4, 0] rfl) hG
          · have h := ite_t h c_14
            refine lv_iload_n hx hb dX7_firstSpeed_65 rfl (lv_at hl 4 rfl) ?_
            cases KR _ (Option.some.inj h).symm
            exact ret _ _ _ _ dX7_firstSpeed_66 hG
  have h := hD
  unfold DX7_firstSpeed at h
  clear hD
  refine lv_aload_n hx hb dX7_firstSpeed_0 rfl (lv_at hl 0 rfl) ?_
  refine r_get X hG in_X7 rfl 0 (by decide) w_223 0 rfl rfl dX7_firstSpeed_1 ?_
  refine lv_iload_n hx hb dX7_firstSpeed_4 rfl (lv_at hl 1 rfl) ?_
  obtain ⟨r_1, hz_2, h⟩ := bd1_some h
  refine aft_i (ws' := (W_X7 a0 a1 cI cJ c_need)) (run_SN (rest := []) X hG hl.1 (mX8_at l dC dI cI cJ a1 24 c_need x1 hz_2) gi_N_yX8_at w_560 w_296 w_41 hd_S_yX8_at ⟨rfl, rfl⟩ rfl ⟨Nat.le_of_ble_eq_true rfl, Nat.le_of_ble_eq_true rfl⟩ [1] (by decide) rfl rfl (Nat.le_of_ble_eq_true rfl) ⟨Nat.le_of_ble_eq_true rfl, Nat.le_of_ble_eq_true rfl⟩ dX7_firstSpeed_5) hG [1] rfl rfl rfl (fun H locs hG => ?_)
  clear hz_2
  refine lv_sipush (v := (1000 : Int32)) hx hb dX7_firstSpeed_8 (by decide) ?_
  refine lv_icmp_ne (tgt := 17) hx hb dX7_firstSpeed_11 (by decide) (fun c_3 => ?_) (fun c_3 => ?_)
  · have h := ite_f h c_3
    refine lv_iconst (v := (1 : Int32)) hx hb dX7_firstSpeed_17 (by decide) ?_
    refine lv_istore_n (lv' := [(3, .int (1 : Int32)), (0, .ref a0), (1, .int x1), (2, .int x2)]) hx hb dX7_firstSpeed_18 rfl hl (by decide) rfl (fun ls hl => ?_)
    rcases el0_some h with ⟨hz, h⟩ | ⟨r, hz, h⟩
    · refine L19  FU (1 : Int32) _ hz ?_ (fun r e => by cases e) _ _ _ (lv_sub hl [1, 2, 3, 0] rfl) hG
      rintro  ⟨⟩ ls H locs hl hG
      clear hz
      refine lv_bipush (v := (-4 : Int32)) hx hb dX7_firstSpeed_73 (by decide) ?_
      cases h
      exact ret _ _ _ _ dX7_firstSpeed_75 hG
    · refine L19  FU (1 : Int32) _ hz (fun  e => by cases e) (fun r2 e => ?_) _ _ _ (lv_sub hl [1, 2, 3, 0] rfl) hG
      cases e; cases h; rfl
  · have h := ite_t h c_3
    refine lv_bipush (v := (-4 : Int32)) hx hb dX7_firstSpeed_14 (by decide) ?_
    cases h
    exact ret _ _ _ _ dX7_firstSpeed_16 hG
set_option maxRecDepth 100000 in
set_option maxHeartbeats 4000000 in
theorem mX8_write (l : Launch) (dC : Nat → ClassId) (dI : Nat → Nat → Nat) (cI cJ : ClassId) (a0 a1 a2 a3 a4 a5 a6 a7 a8 a9 a10 a11 a12 a13 a14 a15 a16 a17 a18 a19 a20 a21 a22 a23 a24 a25 a26 a27 a28 a29 : Nat) (c_text_bytes : Nat → Int32) (c_text_length : Int32) (c_reader_numbers : Nat → Int32) (c_reader_next : Int32) (c_laid_stand : Int32) (c_laid_home : Int32) (c_laid_priceStart : Int32) (c_laid_priceStep : Int32) (c_laid_thrown_cells : Nat → Int32) (c_laid_thrown_filled : Int32) (c_laid_nets_cells : Nat → Int32) (c_laid_nets_filled : Int32) (c_trial_stand : Int32) (c_trial_home : Int32) (c_trial_priceStart : Int32) (c_trial_priceStep : Int32) (c_trial_thrown_cells : Nat → Int32) (c_trial_thrown_filled : Int32) (c_trial_nets_cells : Nat → Int32) (c_trial_nets_filled : Int32) (c_flight_loads_cells : Nat → Int32) (c_flight_loads_filled : Int32) (c_flight_order : Nat → Int32) (c_flight_done : Int32) (c_flight_start : Int32) (c_flight_end : Int32) (c_changes_who : Nat → Int32) (c_changes_column : Nat → Int32) (c_changes_was : Nat → Int32) (c_changes_held : Int32) (c_kept_older_cells : Nat → Int32) (c_kept_older_filled : Int32) (c_kept_newer_cells : Nat → Int32) (c_kept_newer_filled : Int32) (c_kept_held : Int32) (c_turns_need : Nat → Int32) (x1 : Int32) (x2 : Int64) {res : Int32} {n_text_bytes : Nat → Int32} {n_text_length : Int32} (hD : DX8_write x1 x2 c_text_bytes c_text_length = some (res, n_text_bytes, n_text_length)) : Met l yX8_write (WZ yX8_write cX8_write 5 (some .int)) (RM 2 43) (PC dC dI cI cJ [.ref a0, .int x1, .long x2] (W_X8 a0 a1 a2 a3 a4 a5 a6 a7 a8 a9 a10 a11 a12 a13 a14 a15 a16 a17 a18 a19 a20 a21 a22 a23 a24 a25 a26 a27 a28 a29 cI cJ c_text_bytes c_text_length c_reader_numbers c_reader_next c_laid_stand c_laid_home c_laid_priceStart c_laid_priceStep c_laid_thrown_cells c_laid_thrown_filled c_laid_nets_cells c_laid_nets_filled c_trial_stand c_trial_home c_trial_priceStart c_trial_priceStep c_trial_thrown_cells c_trial_thrown_filled c_trial_nets_cells c_trial_nets_filled c_flight_loads_cells c_flight_loads_filled c_flight_order c_flight_done c_flight_start c_flight_end c_changes_who c_changes_column c_changes_was c_changes_held c_kept_older_cells c_kept_older_filled c_kept_newer_cells c_kept_newer_filled c_kept_held c_turns_need)) (QI dC dI (W_X8 a0 a1 a2 a3 a4 a5 a6 a7 a8 a9 a10 a11 a12 a13 a14 a15 a16 a17 a18 a19 a20 a21 a22 a23 a24 a25 a26 a27 a28 a29 cI cJ c_text_bytes c_text_length c_reader_numbers c_reader_next c_laid_stand c_laid_home c_laid_priceStart c_laid_priceStep c_laid_thrown_cells c_laid_thrown_filled c_laid_nets_cells c_laid_nets_filled c_trial_stand c_trial_home c_trial_priceStart c_trial_priceStep c_trial_thrown_cells c_trial_thrown_filled c_trial_nets_cells c_trial_nets_filled c_flight_loads_cells c_flight_loads_filled c_flight_order c_flight_done c_flight_start c_flight_end c_changes_who c_changes_column c_changes_was c_changes_held c_kept_older_cells c_kept_older_filled c_kept_newer_cells c_kept_newer_filled c_kept_held c_turns_need) (W_X8 a0 a1 a2 a3 a4 a5 a6 a7 a8 a9 a10 a11 a12 a13 a14 a15 a16 a17 a18 a19 a20 a21 a22 a23 a24 a25 a26 a27 a28 a29 cI cJ n_text_bytes n_text_length c_reader_numbers c_reader_next c_laid_stand c_laid_home c_laid_priceStart c_laid_priceStep c_laid_thrown_cells c_laid_thrown_filled c_laid_nets_cells c_laid_nets_filled c_trial_stand c_trial_home c_trial_priceStart c_trial_priceStep c_trial_thrown_cells c_trial_thrown_filled c_trial_nets_cells c_trial_nets_filled c_flight_loads_cells c_flight_loads_filled c_flight_order c_flight_done c_flight_start c_flight_end c_changes_who c_changes_column c_changes_was c_changes_held c_kept_older_cells c_kept_older_filled c_kept_newer_cells c_kept_newer_filled c_kept_held c_turns_need) res) 0 0 (FA (W_X8 a0 a1 a2 a3 a4 a5 a6 a7 a8 a9 a10 a11 a12 a13 a14 a15 a16 a17 a18 a19 a20 a21 a22 a23 a24 a25 a26 a27 a28 a29 cI cJ c_text_bytes c_text_length c_reader_numbers c_reader_next c_laid_stand c_laid_home c_laid_priceStart c_laid_priceStep c_laid_thrown_cells c_laid_thrown_filled c_laid_nets_cells c_laid_nets_filled c_trial_stand c_trial_home c_trial_priceStart c_trial_priceStep c_trial_thrown_cells c_trial_thrown_filled c_trial_nets_cells c_trial_nets_filled c_flight_loads_cells c_flight_loads_filled c_flight_order c_flight_done c_flight_start c_flight_end c_changes_who c_changes_column c_changes_was c_changes_held c_kept_older_cells c_kept_older_filled c_kept_newer_cells c_kept_newer_filled c_kept_held c_turns_need)) := by
  refine r_metI (by decide +kernel) (Nat.le_of_ble_eq_true rfl) ?_
  intro p e s m args below meth c A H0 QQ X ret ls hl hG
  have X : Cx p m c cX8_write 5 s args RX8 dC dI cI cJ meth (some .int) := X
  have hx := X.1.1
  have hb := X.1.2.1
  have hl : lv_has ls 5 [(0, .ref a0), (1, .int x1), (2, .long x2)] := hl
  have L35 : ∀ (n : Nat) (x4 : Int32) (c_text_bytes : Nat → Int32) (c_text_length : Int32) (ec_text_bytes : Nat → Int32) (ec_text_length : Int32), DX8_write_L35 x2 n x4 c_text_bytes c_text_length = some (ec_text_bytes, ec_text_length) → (∀ (ls : Array Slot) (H : Heap) (locs : List Loc), lv_has ls 5 [(0, .ref a0)] → G dC dI A H0 (W_X8 a0 a1 a2 a3 a4 a5 a6 a7 a8 a9 a10 a11 a12 a13 a14 a15 a16 a17 a18 a19 a20 a21 a22 a23 a24 a25 a26 a27 a28 a29 cI cJ ec_text_bytes ec_text_length c_reader_numbers c_reader_next c_laid_stand c_laid_home c_laid_priceStart c_laid_priceStep c_laid_thrown_cells c_laid_thrown_filled c_laid_nets_cells c_laid_nets_filled c_trial_stand c_trial_home c_trial_priceStart c_trial_priceStep c_trial_thrown_cells c_trial_thrown_filled c_trial_nets_cells c_trial_nets_filled c_flight_loads_cells c_flight_loads_filled c_flight_order c_flight_done c_flight_start c_flight_end c_changes_who c_changes_column c_changes_was c_changes_held c_kept_older_cells c_kept_older_filled c_kept_newer_cells c_kept_newer_filled c_kept_held c_turns_need) H locs → W p l e (RM 2 43) s m args below meth c H locs 0 0 QQ (F0 m 65 ls [])) → ∀ (ls : Array Slot) (H : Heap) (locs : List Loc), lv_has ls 5 [(0, .ref a0), (2, .long x2), (4, .int x4)] → G dC dI A H0 (W_X8 a0 a1 a2 a3 a4 a5 a6 a7 a8 a9 a10 a11 a12 a13 a14 a15 a16 a17 a18 a19 a20 a21 a22 a23 a24 a25 a26 a27 a28 a29 cI cJ c_text_bytes c_text_length c_reader_numbers c_reader_next c_laid_stand c_laid_home c_laid_priceStart c_laid_priceStep c_laid_thrown_cells c_laid_thrown_filled c_laid_nets_cells c_laid_nets_filled c_trial_stand c_trial_home c_trial_priceStart c_trial_priceStep c_trial_thrown_cells c_trial_thrown_filled c_trial_nets_cells c_trial_nets_filled c_flight_loads_cells c_flight_loads_filled c_flight_order c_flight_done c_flight_start c_flight_end c_changes_who c_changes_column c_changes_was c_changes_held c_kept_older_cells c_kept_older_filled c_kept_newer_cells c_kept_newer_filled c_kept_held c_turns_need) H locs → W p l e (RM 2 43) s m args below meth c H locs 0 0 QQ (F0 m 35 ls []) := by
    intro  n
    induction n with
    | zero => intro x4 c_text_bytes c_text_length ec_text_bytes ec_text_length h; exact it_zero h
    | succ n ih =>
      intro x4 c_text_bytes c_text_length ec_text_bytes ec_text_length h0 K0 ls H locs hl hG
      obtain ⟨w, h, hi, hr⟩ := it_succ h0
      have h : DX8_write_L35s x2 x4 c_text_bytes c_text_length = some w := h
      have KC : ∀ (x4 : Int32) (c_text_bytes : Nat → Int32) (c_text_length : Int32), w = .inl (x4, c_text_bytes, c_text_length) → ∀ (ls : Array Slot) (H : Heap) (locs : List Loc), lv_has ls 5 [(0, .ref a0), (2, .long x2), (4, .int x4)] → G dC dI A H0 (W_X8 a0 a1 a2 a3 a4 a5 a6 a7 a8 a9 a10 a11 a12 a13 a14 a15 a16 a17 a18 a19 a20 a21 a22 a23 a24 a25 a26 a27 a28 a29 cI cJ c_text_bytes c_text_length c_reader_numbers c_reader_next c_laid_stand c_laid_home c_laid_priceStart c_laid_priceStep c_laid_thrown_cells c_laid_thrown_filled c_laid_nets_cells c_laid_nets_filled c_trial_stand c_trial_home c_trial_priceStart c_trial_priceStep c_trial_thrown_cells c_trial_thrown_filled c_trial_nets_cells c_trial_nets_filled c_flight_loads_cells c_flight_loads_filled c_flight_order c_flight_done c_flight_start c_flight_end c_changes_who c_changes_column c_changes_was c_changes_held c_kept_older_cells c_kept_older_filled c_kept_newer_cells c_kept_newer_filled c_kept_held c_turns_need) H locs → W p l e (RM 2 43) s m args below meth c H locs 0 0 QQ (F0 m 35 ls []) := fun b0 b1 b2 e ls H locs hl hG => ih b0 b1 b2 ec_text_bytes ec_text_length (hi _ e) K0 ls H locs hl hG
      have KX : ∀ (c_text_bytes : Nat → Int32) (c_text_length : Int32), w = .inr (c_text_bytes, c_text_length) → ∀ (ls : Array Slot) (H : Heap) (locs : List Loc), lv_has ls 5 [(0, .ref a0)] → G dC dI A H0 (W_X8 a0 a1 a2 a3 a4 a5 a6 a7 a8 a9 a10 a11 a12 a13 a14 a15 a16 a17 a18 a19 a20 a21 a22 a23 a24 a25 a26 a27 a28 a29 cI cJ c_text_bytes c_text_length c_reader_numbers c_reader_next c_laid_stand c_laid_home c_laid_priceStart c_laid_priceStep c_laid_thrown_cells c_laid_thrown_filled c_laid_nets_cells c_laid_nets_filled c_trial_stand c_trial_home c_trial_priceStart c_trial_priceStep c_trial_thrown_cells c_trial_thrown_filled c_trial_nets_cells c_trial_nets_filled c_flight_loads_cells c_flight_loads_filled c_flight_order c_flight_done c_flight_start c_flight_end c_changes_who c_changes_column c_changes_was c_changes_held c_kept_older_cells c_kept_older_filled c_kept_newer_cells c_kept_newer_filled c_kept_held c_turns_need) H locs → W p l e (RM 2 43) s m args below meth c H locs 0 0 QQ (F0 m 65 ls []) := fun b0 b1 e ls H locs hl hG => by cases hr _ e; exact K0 ls H locs hl hG
      clear h0 hi hr K0 ih
      unfold DX8_write_L35s at h
      refine lv_iload hx hb dX8_write_35 (lv_at hl 2 rfl) ?_
      refine lv_if_lt (tgt := 65) hx hb dX8_write_37 (by decide) (fun c_5 => ?_) (fun c_5 => ?_)
      · have h := ite_t h c_5
        exact KX _ _ (Option.some.inj h).symm _ _ _ (lv_sub hl [0] rfl) hG
      · have h := ite_f h c_5
        refine lv_aload_n hx hb dX8_write_40 rfl (lv_at hl 0 rfl) ?_
        refine r_get X hG in_X8 rfl 0 (by decide) w_235 0 rfl rfl dX8_write_41 ?_
        refine lv_lload_n hx hb dX8_write_44 rfl (lv_at hl 1 rfl) ?_
        refine lv_bipush (v := (8 : Int32)) hx hb dX8_write_45 (by decide) ?_
        refine lv_iload hx hb dX8_write_47 (lv_at hl 2 rfl) ?_
        refine lv_imul hx hb dX8_write_49 ?_
        refine lv_lushr (v := ((x2.toUInt64 >>> (((8 : Int32) * x4).toInt64.toUInt64 &&& Int64.toUInt64 63)).toInt64)) hx hb dX8_write_50 rfl ?_
        refine lv_l2i (v := (((x2.toUInt64 >>> (((8 : Int32) * x4).toInt64.toUInt64 &&& Int64.toUInt64 63)).toInt64).toInt32)) hx hb dX8_write_51 rfl ?_
        refine lv_sipush (v := (255 : Int32)) hx hb dX8_write_52 (by decide) ?_
        refine lv_iand hx hb dX8_write_55 ?_
        obtain ⟨k_text_bytes_6, k_text_length_7, hz_8, h⟩ := bd2_some h
        refine aft_v (ws' := (W_X8 a0 a1 a2 a3 a4 a5 a6 a7 a8 a9 a10 a11 a12 a13 a14 a15 a16 a17 a18 a19 a20 a21 a22 a23 a24 a25 a26 a27 a28 a29 cI cJ k_text_bytes_6 k_text_length_7 c_reader_numbers c_reader_next c_laid_stand c_laid_home c_laid_priceStart c_laid_priceStep c_laid_thrown_cells c_laid_thrown_filled c_laid_nets_cells c_laid_nets_filled c_trial_stand c_trial_home c_trial_priceStart c_trial_priceStep c_trial_thrown_cells c_trial_thrown_filled c_trial_nets_cells c_trial_nets_filled c_flight_loads_cells c_flight_loads_filled c_flight_order c_flight_done c_flight_start c_flight_end c_changes_who c_changes_column c_changes_was c_changes_held c_kept_older_cells c_kept_older_filled c_kept_newer_cells c_kept_newer_filled c_kept_held c_turns_need)) (run_V (rest := []) X hG hl.1 (mX6_append l dC dI cI cJ a1 a2 c_text_bytes c_text_length ((((x2.toUInt64 >>> (((8 : Int32) * x4).toInt64.toUInt64 &&& Int64.toUInt64 63)).toInt64).toInt32) &&& (255 : Int32)) hz_8) gi_V_X8_82 hd_V_yX6_append ⟨rfl, rfl⟩ rfl ⟨Nat.le_of_ble_eq_true rfl, Nat.le_of_ble_eq_true rfl⟩ [1, 2] (by decide) rfl 1 rfl rfl rfl rfl (Nat.le_of_ble_eq_true rfl) ⟨Nat.le_of_ble_eq_true rfl, Nat.le_of_ble_eq_true rfl⟩ dX8_write_56) hG [1, 2] rfl rfl rfl (fun H locs hG => ?_)
        clear hz_8
        refine lv_iinc (v := (x4 + (-1 : Int32))) (lv' := [(4, .int (x4 + (-1 : Int32))), (0, .ref a0), (2, .long x2)]) hx hb dX8_write_59 hl (k := 2) rfl rfl (by decide) rfl (fun ls hl => ?_)
        refine lv_goto (tgt := 35) hx hb dX8_write_62 (by decide) ?_
        exact KC _ _ _ (Option.some.inj h).symm _ _ _ (lv_sub hl [1, 2, 0] rfl) hG
  have h := hD
  unfold DX8_write at h
  clear hD
  refine lv_iload_n hx hb dX8_write_0 rfl (lv_at hl 1 rfl) ?_
  refine lv_iconst (v := (1 : Int32)) hx hb dX8_write_1 (by decide) ?_
  refine lv_bipush (v := (8 : Int32)) hx hb dX8_write_2 (by decide) ?_
  obtain ⟨r_1, hz_2, h⟩ := bd1_some h
  refine aft_i (ws' := (W_X8 a0 a1 a2 a3 a4 a5 a6 a7 a8 a9 a10 a11 a12 a13 a14 a15 a16 a17 a18 a19 a20 a21 a22 a23 a24 a25 a26 a27 a28 a29 cI cJ c_text_bytes c_text_length c_reader_numbers c_reader_next c_laid_stand c_laid_home c_laid_priceStart c_laid_priceStep c_laid_thrown_cells c_laid_thrown_filled c_laid_nets_cells c_laid_nets_filled c_trial_stand c_trial_home c_trial_priceStart c_trial_priceStep c_trial_thrown_cells c_trial_thrown_filled c_trial_nets_cells c_trial_nets_filled c_flight_loads_cells c_flight_loads_filled c_flight_order c_flight_done c_flight_start c_flight_end c_changes_who c_changes_column c_changes_was c_changes_held c_kept_older_cells c_kept_older_filled c_kept_newer_cells c_kept_newer_filled c_kept_held c_turns_need)) (run_S (rest := []) X hG hl.1 (mX8_within l dC dI cI cJ x1 (1 : Int32) (8 : Int32) hz_2) gi_S_X8_74 hd_S_yX8_within ⟨rfl, rfl⟩ rfl ⟨Nat.le_of_ble_eq_true rfl, Nat.le_of_ble_eq_true rfl⟩ [] (by decide) rfl rfl (Nat.le_of_ble_eq_true rfl) ⟨Nat.le_of_ble_eq_true rfl, Nat.le_of_ble_eq_true rfl⟩ dX8_write_4) hG [] rfl rfl rfl (fun H locs hG => ?_)
  clear hz_2
  refine lv_if_ne (tgt := 12) hx hb dX8_write_7 (by decide) (fun c_3 => ?_) (fun c_3 => ?_)
  · have h := ite_f h c_3
    refine lv_aload_n hx hb dX8_write_12 rfl (lv_at hl 0 rfl) ?_
    refine r_get X hG in_X8 rfl 0 (by decide) w_235 0 rfl rfl dX8_write_13 ?_
    refine r_getN X hG in_X6 rfl 1 (by decide) w_70 1 rfl rfl dX8_write_16 ?_
    refine lv_iload_n hx hb dX8_write_19 rfl (lv_at hl 1 rfl) ?_
    refine lv_iadd hx hb dX8_write_20 ?_
    refine lv_sipush (v := (300 : Int32)) hx hb dX8_write_21 (by decide) ?_
    refine lv_icmp_le (tgt := 30) hx hb dX8_write_24 (by decide) (fun c_4 => ?_) (fun c_4 => ?_)
    · have h := ite_t h c_4
      refine lv_iload_n hx hb dX8_write_30 rfl (lv_at hl 1 rfl) ?_
      refine lv_iconst (v := (1 : Int32)) hx hb dX8_write_31 (by decide) ?_
      refine lv_isub hx hb dX8_write_32 ?_
      refine lv_istore (lv' := [(4, .int (x1 - (1 : Int32))), (0, .ref a0), (1, .int x1), (2, .long x2)]) hx hb dX8_write_33 hl (by decide) rfl (fun ls hl => ?_)
      obtain ⟨k_text_bytes_9, k_text_length_10, hz, h⟩ := bd2_some h
      refine L35  FU (x1 - (1 : Int32)) c_text_bytes c_text_length _ _ hz (fun ls H locs hl hG => ?_) _ _ _ (lv_sub hl [1, 3, 0] rfl) hG
      clear hz
      refine lv_aload_n hx hb dX8_write_65 rfl (lv_at hl 0 rfl) ?_
      refine r_get X hG in_X8 rfl 0 (by decide) w_235 0 rfl rfl dX8_write_66 ?_
      refine r_getN X hG in_X6 rfl 1 (by decide) w_70 1 rfl rfl dX8_write_69 ?_
      cases h
      exact ret _ _ _ _ dX8_write_72 hG
    · have h := ite_f h c_4
      refine lv_bipush (v := (-3 : Int32)) hx hb dX8_write_27 (by decide) ?_
      cases h
      exact ret _ _ _ _ dX8_write_29 hG
  · have h := ite_t h c_3
    refine lv_iconst (v := (-1 : Int32)) hx hb dX8_write_10 (by decide) ?_
    cases h
    exact ret _ _ _ _ dX8_write_11 hG
set_option maxRecDepth 100000 in
set_option maxHeartbeats 4000000 in
theorem mX8_wipe (l : Launch) (dC : Nat → ClassId) (dI : Nat → Nat → Nat) (cI cJ : ClassId) (a0 a1 a2 a3 a4 a5 a6 a7 a8 a9 a10 a11 a12 a13 a14 a15 a16 a17 a18 a19 a20 a21 a22 a23 a24 a25 a26 a27 a28 a29 : Nat) (c_text_bytes : Nat → Int32) (c_text_length : Int32) (c_reader_numbers : Nat → Int32) (c_reader_next : Int32) (c_laid_stand : Int32) (c_laid_home : Int32) (c_laid_priceStart : Int32) (c_laid_priceStep : Int32) (c_laid_thrown_cells : Nat → Int32) (c_laid_thrown_filled : Int32) (c_laid_nets_cells : Nat → Int32) (c_laid_nets_filled : Int32) (c_trial_stand : Int32) (c_trial_home : Int32) (c_trial_priceStart : Int32) (c_trial_priceStep : Int32) (c_trial_thrown_cells : Nat → Int32) (c_trial_thrown_filled : Int32) (c_trial_nets_cells : Nat → Int32) (c_trial_nets_filled : Int32) (c_flight_loads_cells : Nat → Int32) (c_flight_loads_filled : Int32) (c_flight_order : Nat → Int32) (c_flight_done : Int32) (c_flight_start : Int32) (c_flight_end : Int32) (c_changes_who : Nat → Int32) (c_changes_column : Nat → Int32) (c_changes_was : Nat → Int32) (c_changes_held : Int32) (c_kept_older_cells : Nat → Int32) (c_kept_older_filled : Int32) (c_kept_newer_cells : Nat → Int32) (c_kept_newer_filled : Int32) (c_kept_held : Int32) (c_turns_need : Nat → Int32) {res : Int32} {n_text_length : Int32} (hD : DX8_wipe c_text_length = some (res, n_text_length)) : Met l yX8_wipe (WZ yX8_wipe cX8_wipe 2 (some .int)) (RM 0 0) (PC dC dI cI cJ [.ref a0] (W_X8 a0 a1 a2 a3 a4 a5 a6 a7 a8 a9 a10 a11 a12 a13 a14 a15 a16 a17 a18 a19 a20 a21 a22 a23 a24 a25 a26 a27 a28 a29 cI cJ c_text_bytes c_text_length c_reader_numbers c_reader_next c_laid_stand c_laid_home c_laid_priceStart c_laid_priceStep c_laid_thrown_cells c_laid_thrown_filled c_laid_nets_cells c_laid_nets_filled c_trial_stand c_trial_home c_trial_priceStart c_trial_priceStep c_trial_thrown_cells c_trial_thrown_filled c_trial_nets_cells c_trial_nets_filled c_flight_loads_cells c_flight_loads_filled c_flight_order c_flight_done c_flight_start c_flight_end c_changes_who c_changes_column c_changes_was c_changes_held c_kept_older_cells c_kept_older_filled c_kept_newer_cells c_kept_newer_filled c_kept_held c_turns_need)) (QI dC dI (W_X8 a0 a1 a2 a3 a4 a5 a6 a7 a8 a9 a10 a11 a12 a13 a14 a15 a16 a17 a18 a19 a20 a21 a22 a23 a24 a25 a26 a27 a28 a29 cI cJ c_text_bytes c_text_length c_reader_numbers c_reader_next c_laid_stand c_laid_home c_laid_priceStart c_laid_priceStep c_laid_thrown_cells c_laid_thrown_filled c_laid_nets_cells c_laid_nets_filled c_trial_stand c_trial_home c_trial_priceStart c_trial_priceStep c_trial_thrown_cells c_trial_thrown_filled c_trial_nets_cells c_trial_nets_filled c_flight_loads_cells c_flight_loads_filled c_flight_order c_flight_done c_flight_start c_flight_end c_changes_who c_changes_column c_changes_was c_changes_held c_kept_older_cells c_kept_older_filled c_kept_newer_cells c_kept_newer_filled c_kept_held c_turns_need) (W_X8 a0 a1 a2 a3 a4 a5 a6 a7 a8 a9 a10 a11 a12 a13 a14 a15 a16 a17 a18 a19 a20 a21 a22 a23 a24 a25 a26 a27 a28 a29 cI cJ c_text_bytes n_text_length c_reader_numbers c_reader_next c_laid_stand c_laid_home c_laid_priceStart c_laid_priceStep c_laid_thrown_cells c_laid_thrown_filled c_laid_nets_cells c_laid_nets_filled c_trial_stand c_trial_home c_trial_priceStart c_trial_priceStep c_trial_thrown_cells c_trial_thrown_filled c_trial_nets_cells c_trial_nets_filled c_flight_loads_cells c_flight_loads_filled c_flight_order c_flight_done c_flight_start c_flight_end c_changes_who c_changes_column c_changes_was c_changes_held c_kept_older_cells c_kept_older_filled c_kept_newer_cells c_kept_newer_filled c_kept_held c_turns_need) res) 0 0 (FA (W_X8 a0 a1 a2 a3 a4 a5 a6 a7 a8 a9 a10 a11 a12 a13 a14 a15 a16 a17 a18 a19 a20 a21 a22 a23 a24 a25 a26 a27 a28 a29 cI cJ c_text_bytes c_text_length c_reader_numbers c_reader_next c_laid_stand c_laid_home c_laid_priceStart c_laid_priceStep c_laid_thrown_cells c_laid_thrown_filled c_laid_nets_cells c_laid_nets_filled c_trial_stand c_trial_home c_trial_priceStart c_trial_priceStep c_trial_thrown_cells c_trial_thrown_filled c_trial_nets_cells c_trial_nets_filled c_flight_loads_cells c_flight_loads_filled c_flight_order c_flight_done c_flight_start c_flight_end c_changes_who c_changes_column c_changes_was c_changes_held c_kept_older_cells c_kept_older_filled c_kept_newer_cells c_kept_newer_filled c_kept_held c_turns_need)) := by
  refine r_metI (by decide +kernel) (Nat.le_of_ble_eq_true rfl) ?_
  intro p e s m args below meth c A H0 QQ X ret ls hl hG
  have X : Cx p m c cX8_wipe 2 s args RX8 dC dI cI cJ meth (some .int) := X
  have hx := X.1.1
  have hb := X.1.2.1
  have hl : lv_has ls 2 [(0, .ref a0)] := hl
  have h := hD
  unfold DX8_wipe at h
  clear hD
  refine lv_aload_n hx hb dX8_wipe_0 rfl (lv_at hl 0 rfl) ?_
  refine r_get X hG in_X8 rfl 0 (by decide) w_235 0 rfl rfl dX8_wipe_1 ?_
  refine r_getN X hG in_X6 rfl 1 (by decide) w_70 1 rfl rfl dX8_wipe_4 ?_
  refine lv_istore_n (lv' := [(1, .int c_text_length), (0, .ref a0)]) hx hb dX8_wipe_7 rfl hl (by decide) rfl (fun ls hl => ?_)
  refine lv_aload_n hx hb dX8_wipe_8 rfl (lv_at hl 1 rfl) ?_
  refine r_get X hG in_X8 rfl 0 (by decide) w_235 0 rfl rfl dX8_wipe_9 ?_
  refine lv_iconst (v := (0 : Int32)) hx hb dX8_wipe_12 (by decide) ?_
  refine r_putN X hG in_X6 rfl tyX6 tyX6_ok nmX6 1 (by decide) rfl (by decide +kernel) w_70 1 (ws' := (W_X8 a0 a1 a2 a3 a4 a5 a6 a7 a8 a9 a10 a11 a12 a13 a14 a15 a16 a17 a18 a19 a20 a21 a22 a23 a24 a25 a26 a27 a28 a29 cI cJ c_text_bytes (0 : Int32) c_reader_numbers c_reader_next c_laid_stand c_laid_home c_laid_priceStart c_laid_priceStep c_laid_thrown_cells c_laid_thrown_filled c_laid_nets_cells c_laid_nets_filled c_trial_stand c_trial_home c_trial_priceStart c_trial_priceStep c_trial_thrown_cells c_trial_thrown_filled c_trial_nets_cells c_trial_nets_filled c_flight_loads_cells c_flight_loads_filled c_flight_order c_flight_done c_flight_start c_flight_end c_changes_who c_changes_column c_changes_was c_changes_held c_kept_older_cells c_kept_older_filled c_kept_newer_cells c_kept_newer_filled c_kept_held c_turns_need)) rfl (Nat.le_of_ble_eq_true rfl) rfl dX8_wipe_13 (fun H locs hG => ?_)
  refine lv_iload_n hx hb dX8_wipe_16 rfl (lv_at hl 0 rfl) ?_
  cases h
  exact ret _ _ _ _ dX8_wipe_17 hG
set_option maxRecDepth 100000 in
set_option maxHeartbeats 4000000 in
theorem mX8_fault (l : Launch) (dC : Nat → ClassId) (dI : Nat → Nat → Nat) (cI cJ : ClassId) (a0 a1 a2 a3 a4 a5 a6 a7 a8 a9 a10 a11 a12 a13 a14 a15 a16 a17 a18 a19 a20 a21 a22 a23 a24 a25 a26 a27 a28 a29 : Nat) (c_text_bytes : Nat → Int32) (c_text_length : Int32) (c_reader_numbers : Nat → Int32) (c_reader_next : Int32) (c_laid_stand : Int32) (c_laid_home : Int32) (c_laid_priceStart : Int32) (c_laid_priceStep : Int32) (c_laid_thrown_cells : Nat → Int32) (c_laid_thrown_filled : Int32) (c_laid_nets_cells : Nat → Int32) (c_laid_nets_filled : Int32) (c_trial_stand : Int32) (c_trial_home : Int32) (c_trial_priceStart : Int32) (c_trial_priceStep : Int32) (c_trial_thrown_cells : Nat → Int32) (c_trial_thrown_filled : Int32) (c_trial_nets_cells : Nat → Int32) (c_trial_nets_filled : Int32) (c_flight_loads_cells : Nat → Int32) (c_flight_loads_filled : Int32) (c_flight_order : Nat → Int32) (c_flight_done : Int32) (c_flight_start : Int32) (c_flight_end : Int32) (c_changes_who : Nat → Int32) (c_changes_column : Nat → Int32) (c_changes_was : Nat → Int32) (c_changes_held : Int32) (c_kept_older_cells : Nat → Int32) (c_kept_older_filled : Int32) (c_kept_newer_cells : Nat → Int32) (c_kept_newer_filled : Int32) (c_kept_held : Int32) (c_turns_need : Nat → Int32) {res : Int32} {n_reader_numbers : Nat → Int32} {n_reader_next : Int32} {n_trial_stand : Int32} {n_trial_home : Int32} {n_trial_priceStart : Int32} {n_trial_priceStep : Int32} {n_trial_thrown_cells : Nat → Int32} {n_trial_thrown_filled : Int32} {n_trial_nets_cells : Nat → Int32} {n_trial_nets_filled : Int32} (hD : DX8_fault c_text_bytes c_text_length c_reader_numbers c_trial_thrown_cells c_trial_nets_cells = some (res, n_reader_numbers, n_reader_next, n_trial_stand, n_trial_home, n_trial_priceStart, n_trial_priceStep, n_trial_thrown_cells, n_trial_thrown_filled, n_trial_nets_cells, n_trial_nets_filled)) : Met l yX8_fault (WZ yX8_fault cX8_fault 1 (some .int)) (RM 6 146) (PC dC dI cI cJ [.ref a0] (W_X8 a0 a1 a2 a3 a4 a5 a6 a7 a8 a9 a10 a11 a12 a13 a14 a15 a16 a17 a18 a19 a20 a21 a22 a23 a24 a25 a26 a27 a28 a29 cI cJ c_text_bytes c_text_length c_reader_numbers c_reader_next c_laid_stand c_laid_home c_laid_priceStart c_laid_priceStep c_laid_thrown_cells c_laid_thrown_filled c_laid_nets_cells c_laid_nets_filled c_trial_stand c_trial_home c_trial_priceStart c_trial_priceStep c_trial_thrown_cells c_trial_thrown_filled c_trial_nets_cells c_trial_nets_filled c_flight_loads_cells c_flight_loads_filled c_flight_order c_flight_done c_flight_start c_flight_end c_changes_who c_changes_column c_changes_was c_changes_held c_kept_older_cells c_kept_older_filled c_kept_newer_cells c_kept_newer_filled c_kept_held c_turns_need)) (QI dC dI (W_X8 a0 a1 a2 a3 a4 a5 a6 a7 a8 a9 a10 a11 a12 a13 a14 a15 a16 a17 a18 a19 a20 a21 a22 a23 a24 a25 a26 a27 a28 a29 cI cJ c_text_bytes c_text_length c_reader_numbers c_reader_next c_laid_stand c_laid_home c_laid_priceStart c_laid_priceStep c_laid_thrown_cells c_laid_thrown_filled c_laid_nets_cells c_laid_nets_filled c_trial_stand c_trial_home c_trial_priceStart c_trial_priceStep c_trial_thrown_cells c_trial_thrown_filled c_trial_nets_cells c_trial_nets_filled c_flight_loads_cells c_flight_loads_filled c_flight_order c_flight_done c_flight_start c_flight_end c_changes_who c_changes_column c_changes_was c_changes_held c_kept_older_cells c_kept_older_filled c_kept_newer_cells c_kept_newer_filled c_kept_held c_turns_need) (W_X8 a0 a1 a2 a3 a4 a5 a6 a7 a8 a9 a10 a11 a12 a13 a14 a15 a16 a17 a18 a19 a20 a21 a22 a23 a24 a25 a26 a27 a28 a29 cI cJ c_text_bytes c_text_length n_reader_numbers n_reader_next c_laid_stand c_laid_home c_laid_priceStart c_laid_priceStep c_laid_thrown_cells c_laid_thrown_filled c_laid_nets_cells c_laid_nets_filled n_trial_stand n_trial_home n_trial_priceStart n_trial_priceStep n_trial_thrown_cells n_trial_thrown_filled n_trial_nets_cells n_trial_nets_filled c_flight_loads_cells c_flight_loads_filled c_flight_order c_flight_done c_flight_start c_flight_end c_changes_who c_changes_column c_changes_was c_changes_held c_kept_older_cells c_kept_older_filled c_kept_newer_cells c_kept_newer_filled c_kept_held c_turns_need) res) 0 0 (FA (W_X8 a0 a1 a2 a3 a4 a5 a6 a7 a8 a9 a10 a11 a12 a13 a14 a15 a16 a17 a18 a19 a20 a21 a22 a23 a24 a25 a26 a27 a28 a29 cI cJ c_text_bytes c_text_length c_reader_numbers c_reader_next c_laid_stand c_laid_home c_laid_priceStart c_laid_priceStep c_laid_thrown_cells c_laid_thrown_filled c_laid_nets_cells c_laid_nets_filled c_trial_stand c_trial_home c_trial_priceStart c_trial_priceStep c_trial_thrown_cells c_trial_thrown_filled c_trial_nets_cells c_trial_nets_filled c_flight_loads_cells c_flight_loads_filled c_flight_order c_flight_done c_flight_start c_flight_end c_changes_who c_changes_column c_changes_was c_changes_held c_kept_older_cells c_kept_older_filled c_kept_newer_cells c_kept_newer_filled c_kept_held c_turns_need)) := by
  refine r_metI (by decide +kernel) (Nat.le_of_ble_eq_true rfl) ?_
  intro p e s m args below meth c A H0 QQ X ret ls hl hG
  have X : Cx p m c cX8_fault 1 s args RX8 dC dI cI cJ meth (some .int) := X
  have hx := X.1.1
  have hb := X.1.2.1
  have hl : lv_has ls 1 [(0, .ref a0)] := hl
  have h := hD
  unfold DX8_fault at h
  clear hD
  refine lv_aload_n hx hb dX8_fault_0 rfl (lv_at hl 0 rfl) ?_
  refine r_get X hG in_X8 rfl 1 (by decide) w_236 0 rfl rfl dX8_fault_1 ?_
  refine lv_aload_n hx hb dX8_fault_4 rfl (lv_at hl 0 rfl) ?_
  refine r_get X hG in_X8 rfl 0 (by decide) w_235 0 rfl rfl dX8_fault_5 ?_
  refine lv_aload_n hx hb dX8_fault_8 rfl (lv_at hl 0 rfl) ?_
  refine r_get X hG in_X8 rfl 3 (by decide) w_238 0 rfl rfl dX8_fault_9 ?_
  obtain ⟨r_1, k_reader_numbers_2, k_reader_next_3, k_trial_stand_4, k_trial_home_5, k_trial_priceStart_6, k_trial_priceStep_7, k_trial_thrown_cells_8, k_trial_thrown_filled_9, k_trial_nets_cells_10, k_trial_nets_filled_11, hz_12, h⟩ := bd11_some h
  refine aft_i (ws' := (W_X8 a0 a1 a2 a3 a4 a5 a6 a7 a8 a9 a10 a11 a12 a13 a14 a15 a16 a17 a18 a19 a20 a21 a22 a23 a24 a25 a26 a27 a28 a29 cI cJ c_text_bytes c_text_length k_reader_numbers_2 k_reader_next_3 c_laid_stand c_laid_home c_laid_priceStart c_laid_priceStep c_laid_thrown_cells c_laid_thrown_filled c_laid_nets_cells c_laid_nets_filled k_trial_stand_4 k_trial_home_5 k_trial_priceStart_6 k_trial_priceStep_7 k_trial_thrown_cells_8 k_trial_thrown_filled_9 k_trial_nets_cells_10 k_trial_nets_filled_11 c_flight_loads_cells c_flight_loads_filled c_flight_order c_flight_done c_flight_start c_flight_end c_changes_who c_changes_column c_changes_was c_changes_held c_kept_older_cells c_kept_older_filled c_kept_newer_cells c_kept_newer_filled c_kept_held c_turns_need)) (run_V (rest := []) X hG hl.1 (mX4_firstFault l dC dI cI cJ a3 a4 a1 a2 a10 a11 a12 a13 a14 c_reader_numbers c_reader_next c_text_bytes c_text_length c_trial_stand c_trial_home c_trial_priceStart c_trial_priceStep c_trial_thrown_cells c_trial_thrown_filled c_trial_nets_cells c_trial_nets_filled hz_12) gi_V_X8_86 hd_V_yX4_firstFault ⟨rfl, rfl⟩ rfl ⟨Nat.le_of_ble_eq_true rfl, Nat.le_of_ble_eq_true rfl⟩ [3, 4, 1, 2, 10, 11, 12, 13, 14] (by decide) rfl 3 rfl rfl rfl rfl (Nat.le_of_ble_eq_true rfl) ⟨Nat.le_of_ble_eq_true rfl, Nat.le_of_ble_eq_true rfl⟩ dX8_fault_12) hG [3, 4, 1, 2, 10, 11, 12, 13, 14] rfl rfl rfl (fun H locs hG => ?_)
  clear hz_12
  cases h
  exact ret _ _ _ _ dX8_fault_15 hG
set_option maxRecDepth 100000 in
set_option maxHeartbeats 4000000 in
theorem mX8_lay (l : Launch) (dC : Nat → ClassId) (dI : Nat → Nat → Nat) (cI cJ : ClassId) (a0 a1 a2 a3 a4 a5 a6 a7 a8 a9 a10 a11 a12 a13 a14 a15 a16 a17 a18 a19 a20 a21 a22 a23 a24 a25 a26 a27 a28 a29 : Nat) (c_text_bytes : Nat → Int32) (c_text_length : Int32) (c_reader_numbers : Nat → Int32) (c_reader_next : Int32) (c_laid_stand : Int32) (c_laid_home : Int32) (c_laid_priceStart : Int32) (c_laid_priceStep : Int32) (c_laid_thrown_cells : Nat → Int32) (c_laid_thrown_filled : Int32) (c_laid_nets_cells : Nat → Int32) (c_laid_nets_filled : Int32) (c_trial_stand : Int32) (c_trial_home : Int32) (c_trial_priceStart : Int32) (c_trial_priceStep : Int32) (c_trial_thrown_cells : Nat → Int32) (c_trial_thrown_filled : Int32) (c_trial_nets_cells : Nat → Int32) (c_trial_nets_filled : Int32) (c_flight_loads_cells : Nat → Int32) (c_flight_loads_filled : Int32) (c_flight_order : Nat → Int32) (c_flight_done : Int32) (c_flight_start : Int32) (c_flight_end : Int32) (c_changes_who : Nat → Int32) (c_changes_column : Nat → Int32) (c_changes_was : Nat → Int32) (c_changes_held : Int32) (c_kept_older_cells : Nat → Int32) (c_kept_older_filled : Int32) (c_kept_newer_cells : Nat → Int32) (c_kept_newer_filled : Int32) (c_kept_held : Int32) (c_turns_need : Nat → Int32) {res : Int32} {n_reader_numbers : Nat → Int32} {n_reader_next : Int32} {n_laid_stand : Int32} {n_laid_home : Int32} {n_laid_priceStart : Int32} {n_laid_priceStep : Int32} {n_laid_thrown_cells : Nat → Int32} {n_laid_thrown_filled : Int32} {n_laid_nets_cells : Nat → Int32} {n_laid_nets_filled : Int32} {n_trial_stand : Int32} {n_trial_home : Int32} {n_trial_priceStart : Int32} {n_trial_priceStep : Int32} {n_trial_thrown_cells : Nat → Int32} {n_trial_thrown_filled : Int32} {n_trial_nets_cells : Nat → Int32} {n_trial_nets_filled : Int32} {n_changes_held : Int32} {n_kept_held : Int32} (hD : DX8_lay c_text_bytes c_text_length c_reader_numbers c_laid_stand c_laid_home c_laid_priceStart c_laid_priceStep c_laid_thrown_cells c_laid_thrown_filled c_laid_nets_cells c_laid_nets_filled c_trial_thrown_cells c_trial_nets_cells c_changes_held c_kept_held = some (res, n_reader_numbers, n_reader_next, n_laid_stand, n_laid_home, n_laid_priceStart, n_laid_priceStep, n_laid_thrown_cells, n_laid_thrown_filled, n_laid_nets_cells, n_laid_nets_filled, n_trial_stand, n_trial_home, n_trial_priceStart, n_trial_priceStep, n_trial_thrown_cells, n_trial_thrown_filled, n_trial_nets_cells, n_trial_nets_filled, n_changes_held, n_kept_held)) : Met l yX8_lay (WZ yX8_lay cX8_lay 1 (some .int)) (RM 6 146) (PC dC dI cI cJ [.ref a0] (W_X8 a0 a1 a2 a3 a4 a5 a6 a7 a8 a9 a10 a11 a12 a13 a14 a15 a16 a17 a18 a19 a20 a21 a22 a23 a24 a25 a26 a27 a28 a29 cI cJ c_text_bytes c_text_length c_reader_numbers c_reader_next c_laid_stand c_laid_home c_laid_priceStart c_laid_priceStep c_laid_thrown_cells c_laid_thrown_filled c_laid_nets_cells c_laid_nets_filled c_trial_stand c_trial_home c_trial_priceStart c_trial_priceStep c_trial_thrown_cells c_trial_thrown_filled c_trial_nets_cells c_trial_nets_filled c_flight_loads_cells c_flight_loads_filled c_flight_order c_flight_done c_flight_start c_flight_end c_changes_who c_changes_column c_changes_was c_changes_held c_kept_older_cells c_kept_older_filled c_kept_newer_cells c_kept_newer_filled c_kept_held c_turns_need)) (QI dC dI (W_X8 a0 a1 a2 a3 a4 a5 a6 a7 a8 a9 a10 a11 a12 a13 a14 a15 a16 a17 a18 a19 a20 a21 a22 a23 a24 a25 a26 a27 a28 a29 cI cJ c_text_bytes c_text_length c_reader_numbers c_reader_next c_laid_stand c_laid_home c_laid_priceStart c_laid_priceStep c_laid_thrown_cells c_laid_thrown_filled c_laid_nets_cells c_laid_nets_filled c_trial_stand c_trial_home c_trial_priceStart c_trial_priceStep c_trial_thrown_cells c_trial_thrown_filled c_trial_nets_cells c_trial_nets_filled c_flight_loads_cells c_flight_loads_filled c_flight_order c_flight_done c_flight_start c_flight_end c_changes_who c_changes_column c_changes_was c_changes_held c_kept_older_cells c_kept_older_filled c_kept_newer_cells c_kept_newer_filled c_kept_held c_turns_need) (W_X8 a0 a1 a2 a3 a4 a5 a6 a7 a8 a9 a10 a11 a12 a13 a14 a15 a16 a17 a18 a19 a20 a21 a22 a23 a24 a25 a26 a27 a28 a29 cI cJ c_text_bytes c_text_length n_reader_numbers n_reader_next n_laid_stand n_laid_home n_laid_priceStart n_laid_priceStep n_laid_thrown_cells n_laid_thrown_filled n_laid_nets_cells n_laid_nets_filled n_trial_stand n_trial_home n_trial_priceStart n_trial_priceStep n_trial_thrown_cells n_trial_thrown_filled n_trial_nets_cells n_trial_nets_filled c_flight_loads_cells c_flight_loads_filled c_flight_order c_flight_done c_flight_start c_flight_end c_changes_who c_changes_column c_changes_was n_changes_held c_kept_older_cells c_kept_older_filled c_kept_newer_cells c_kept_newer_filled n_kept_held c_turns_need) res) 0 0 (FA (W_X8 a0 a1 a2 a3 a4 a5 a6 a7 a8 a9 a10 a11 a12 a13 a14 a15 a16 a17 a18 a19 a20 a21 a22 a23 a24 a25 a26 a27 a28 a29 cI cJ c_text_bytes c_text_length c_reader_numbers c_reader_next c_laid_stand c_laid_home c_laid_priceStart c_laid_priceStep c_laid_thrown_cells c_laid_thrown_filled c_laid_nets_cells c_laid_nets_filled c_trial_stand c_trial_home c_trial_priceStart c_trial_priceStep c_trial_thrown_cells c_trial_thrown_filled c_trial_nets_cells c_trial_nets_filled c_flight_loads_cells c_flight_loads_filled c_flight_order c_flight_done c_flight_start c_flight_end c_changes_who c_changes_column c_changes_was c_changes_held c_kept_older_cells c_kept_older_filled c_kept_newer_cells c_kept_newer_filled c_kept_held c_turns_need)) := by
  refine r_metI (by decide +kernel) (Nat.le_of_ble_eq_true rfl) ?_
  intro p e s m args below meth c A H0 QQ X ret ls hl hG
  have X : Cx p m c cX8_lay 1 s args RX8 dC dI cI cJ meth (some .int) := X
  have hx := X.1.1
  have hb := X.1.2.1
  have hl : lv_has ls 1 [(0, .ref a0)] := hl
  have h := hD
  unfold DX8_lay at h
  clear hD
  refine lv_aload_n hx hb dX8_lay_0 rfl (lv_at hl 0 rfl) ?_
  refine r_get X hG in_X8 rfl 1 (by decide) w_236 0 rfl rfl dX8_lay_1 ?_
  refine lv_aload_n hx hb dX8_lay_4 rfl (lv_at hl 0 rfl) ?_
  refine r_get X hG in_X8 rfl 0 (by decide) w_235 0 rfl rfl dX8_lay_5 ?_
  refine lv_aload_n hx hb dX8_lay_8 rfl (lv_at hl 0 rfl) ?_
  refine r_get X hG in_X8 rfl 3 (by decide) w_238 0 rfl rfl dX8_lay_9 ?_
  obtain ⟨r_1, k_reader_numbers_2, k_reader_next_3, k_trial_stand_4, k_trial_home_5, k_trial_priceStart_6, k_trial_priceStep_7, k_trial_thrown_cells_8, k_trial_thrown_filled_9, k_trial_nets_cells_10, k_trial_nets_filled_11, hz_12, h⟩ := bd11_some h
  refine aft_i (ws' := (W_X8 a0 a1 a2 a3 a4 a5 a6 a7 a8 a9 a10 a11 a12 a13 a14 a15 a16 a17 a18 a19 a20 a21 a22 a23 a24 a25 a26 a27 a28 a29 cI cJ c_text_bytes c_text_length k_reader_numbers_2 k_reader_next_3 c_laid_stand c_laid_home c_laid_priceStart c_laid_priceStep c_laid_thrown_cells c_laid_thrown_filled c_laid_nets_cells c_laid_nets_filled k_trial_stand_4 k_trial_home_5 k_trial_priceStart_6 k_trial_priceStep_7 k_trial_thrown_cells_8 k_trial_thrown_filled_9 k_trial_nets_cells_10 k_trial_nets_filled_11 c_flight_loads_cells c_flight_loads_filled c_flight_order c_flight_done c_flight_start c_flight_end c_changes_who c_changes_column c_changes_was c_changes_held c_kept_older_cells c_kept_older_filled c_kept_newer_cells c_kept_newer_filled c_kept_held c_turns_need)) (run_V (rest := []) X hG hl.1 (mX4_firstFault l dC dI cI cJ a3 a4 a1 a2 a10 a11 a12 a13 a14 c_reader_numbers c_reader_next c_text_bytes c_text_length c_trial_stand c_trial_home c_trial_priceStart c_trial_priceStep c_trial_thrown_cells c_trial_thrown_filled c_trial_nets_cells c_trial_nets_filled hz_12) gi_V_X8_86 hd_V_yX4_firstFault ⟨rfl, rfl⟩ rfl ⟨Nat.le_of_ble_eq_true rfl, Nat.le_of_ble_eq_true rfl⟩ [3, 4, 1, 2, 10, 11, 12, 13, 14] (by decide) rfl 3 rfl rfl rfl rfl (Nat.le_of_ble_eq_true rfl) ⟨Nat.le_of_ble_eq_true rfl, Nat.le_of_ble_eq_true rfl⟩ dX8_lay_12) hG [3, 4, 1, 2, 10, 11, 12, 13, 14] rfl rfl rfl (fun H locs hG => ?_)
  clear hz_12
  refine lv_bipush (v := (-4 : Int32)) hx hb dX8_lay_15 (by decide) ?_
  refine lv_icmp_ne (tgt := 33) hx hb dX8_lay_17 (by decide) (fun c_13 => ?_) (fun c_13 => ?_)
  · have h := ite_f h c_13
    refine lv_bipush (v := (-2 : Int32)) hx hb dX8_lay_33 (by decide) ?_
    cases h
    exact ret _ _ _ _ dX8_lay_35 hG
  · have h := ite_t h c_13
    refine lv_aload_n hx hb dX8_lay_20 rfl (lv_at hl 0 rfl) ?_
    refine r_get X hG in_X8 rfl 3 (by decide) w_238 0 rfl rfl dX8_lay_21 ?_
    refine r_getN X hG in_X3 rfl 4 (by decide) w_136 10 rfl rfl dX8_lay_24 ?_
    obtain ⟨r_14, hz_15, h⟩ := bd1_some h
    refine aft_i (ws' := (W_X8 a0 a1 a2 a3 a4 a5 a6 a7 a8 a9 a10 a11 a12 a13 a14 a15 a16 a17 a18 a19 a20 a21 a22 a23 a24 a25 a26 a27 a28 a29 cI cJ c_text_bytes c_text_length k_reader_numbers_2 k_reader_next_3 c_laid_stand c_laid_home c_laid_priceStart c_laid_priceStep c_laid_thrown_cells c_laid_thrown_filled c_laid_nets_cells c_laid_nets_filled k_trial_stand_4 k_trial_home_5 k_trial_priceStart_6 k_trial_priceStep_7 k_trial_thrown_cells_8 k_trial_thrown_filled_9 k_trial_nets_cells_10 k_trial_nets_filled_11 c_flight_loads_cells c_flight_loads_filled c_flight_order c_flight_done c_flight_start c_flight_end c_changes_who c_changes_column c_changes_was c_changes_held c_kept_older_cells c_kept_older_filled c_kept_newer_cells c_kept_newer_filled c_kept_held c_turns_need)) (run_V (rest := []) X hG hl.1 (mX5_rows l dC dI cI cJ a11 a12 (7 : Int32) (4 : Int32) 28 k_trial_thrown_cells_8 k_trial_thrown_filled_9 hz_15) gi_V_X8_90 hd_V_yX5_rows ⟨rfl, rfl⟩ rfl ⟨Nat.le_of_ble_eq_true rfl, Nat.le_of_ble_eq_true rfl⟩ [11, 12] (by decide) rfl 11 rfl rfl rfl rfl (Nat.le_of_ble_eq_true rfl) ⟨Nat.le_of_ble_eq_true rfl, Nat.le_of_ble_eq_true rfl⟩ dX8_lay_27) hG [11, 12] rfl rfl rfl (fun H locs hG => ?_)
    clear hz_15
    refine lv_if_ne (tgt := 36) hx hb dX8_lay_30 (by decide) (fun c_16 => ?_) (fun c_16 => ?_)
    · have h := ite_f h c_16
      refine lv_aload_n hx hb dX8_lay_36 rfl (lv_at hl 0 rfl) ?_
      refine r_get X hG in_X8 rfl 2 (by decide) w_237 0 rfl rfl dX8_lay_37 ?_
      refine lv_aload_n hx hb dX8_lay_40 rfl (lv_at hl 0 rfl) ?_
      refine r_get X hG in_X8 rfl 3 (by decide) w_238 0 rfl rfl dX8_lay_41 ?_
      obtain ⟨k_laid_stand_17, k_laid_home_18, k_laid_priceStart_19, k_laid_priceStep_20, k_laid_thrown_cells_21, k_laid_thrown_filled_22, k_laid_nets_cells_23, k_laid_nets_filled_24, hz_25, h⟩ := bd8_some h
      refine aft_v (ws' := (W_X8 a0 a1 a2 a3 a4 a5 a6 a7 a8 a9 a10 a11 a12 a13 a14 a15 a16 a17 a18 a19 a20 a21 a22 a23 a24 a25 a26 a27 a28 a29 cI cJ c_text_bytes c_text_length k_reader_numbers_2 k_reader_next_3 k_laid_stand_17 k_laid_home_18 k_laid_priceStart_19 k_laid_priceStep_20 k_laid_thrown_cells_21 k_laid_thrown_filled_22 k_laid_nets_cells_23 k_laid_nets_filled_24 k_trial_stand_4 k_trial_home_5 k_trial_priceStart_6 k_trial_priceStep_7 k_trial_thrown_cells_8 k_trial_thrown_filled_9 k_trial_nets_cells_10 k_trial_nets_filled_11 c_flight_loads_cells c_flight_loads_filled c_flight_order c_flight_done c_flight_start c_flight_end c_changes_who c_changes_column c_changes_was c_changes_held c_kept_older_cells c_kept_older_filled c_kept_newer_cells c_kept_newer_filled c_kept_held c_turns_need)) (run_V (rest := []) X hG hl.1 (mX3_takeOver l dC dI cI cJ a5 a6 a7 a8 a9 a10 a11 a12 a13 a14 c_laid_stand c_laid_home c_laid_priceStart c_laid_priceStep c_laid_thrown_cells c_laid_thrown_filled c_laid_nets_cells c_laid_nets_filled k_trial_stand_4 k_trial_home_5 k_trial_priceStart_6 k_trial_priceStep_7 k_trial_thrown_cells_8 k_trial_thrown_filled_9 k_trial_nets_cells_10 k_trial_nets_filled_11 hz_25) gi_V_X8_94 hd_V_yX3_takeOver ⟨rfl, rfl⟩ rfl ⟨Nat.le_of_ble_eq_true rfl, Nat.le_of_ble_eq_true rfl⟩ [5, 6, 7, 8, 9, 10, 11, 12, 13, 14] (by decide) rfl 5 rfl rfl rfl rfl (Nat.le_of_ble_eq_true rfl) ⟨Nat.le_of_ble_eq_true rfl, Nat.le_of_ble_eq_true rfl⟩ dX8_lay_44) hG [5, 6, 7, 8, 9, 10, 11, 12, 13, 14] rfl rfl rfl (fun H locs hG => ?_)
      clear hz_25
      refine lv_aload_n hx hb dX8_lay_47 rfl (lv_at hl 0 rfl) ?_
      refine r_get X hG in_X8 rfl 5 (by decide) w_240 0 rfl rfl dX8_lay_48 ?_
      obtain ⟨k_changes_held_26, hz_27, h⟩ := bd1_some h
      refine aft_v (ws' := (W_X8 a0 a1 a2 a3 a4 a5 a6 a7 a8 a9 a10 a11 a12 a13 a14 a15 a16 a17 a18 a19 a20 a21 a22 a23 a24 a25 a26 a27 a28 a29 cI cJ c_text_bytes c_text_length k_reader_numbers_2 k_reader_next_3 k_laid_stand_17 k_laid_home_18 k_laid_priceStart_19 k_laid_priceStep_20 k_laid_thrown_cells_21 k_laid_thrown_filled_22 k_laid_nets_cells_23 k_laid_nets_filled_24 k_trial_stand_4 k_trial_home_5 k_trial_priceStart_6 k_trial_priceStep_7 k_trial_thrown_cells_8 k_trial_thrown_filled_9 k_trial_nets_cells_10 k_trial_nets_filled_11 c_flight_loads_cells c_flight_loads_filled c_flight_order c_flight_done c_flight_start c_flight_end c_changes_who c_changes_column c_changes_was k_changes_held_26 c_kept_older_cells c_kept_older_filled c_kept_newer_cells c_kept_newer_filled c_kept_held c_turns_need)) (run_V (rest := []) X hG hl.1 (mX0_forget l dC dI cI cJ a19 a20 a21 a22 c_changes_who c_changes_column c_changes_was c_changes_held hz_27) gi_V_X8_98 hd_V_yX0_forget ⟨rfl, rfl⟩ rfl ⟨Nat.le_of_ble_eq_true rfl, Nat.le_of_ble_eq_true rfl⟩ [19, 20, 21, 22] (by decide) rfl 19 rfl rfl rfl rfl (Nat.le_of_ble_eq_true rfl) ⟨Nat.le_of_ble_eq_true rfl, Nat.le_of_ble_eq_true rfl⟩ dX8_lay_51) hG [19, 20, 21, 22] rfl rfl rfl (fun H locs hG => ?_)
      clear hz_27
      refine lv_aload_n hx hb dX8_lay_54 rfl (lv_at hl 0 rfl) ?_
      refine r_get X hG in_X8 rfl 6 (by decide) w_241 0 rfl rfl dX8_lay_55 ?_
      obtain ⟨k_kept_held_28, hz_29, h⟩ := bd1_some h
      refine aft_v (ws' := (W_X8 a0 a1 a2 a3 a4 a5 a6 a7 a8 a9 a10 a11 a12 a13 a14 a15 a16 a17 a18 a19 a20 a21 a22 a23 a24 a25 a26 a27 a28 a29 cI cJ c_text_bytes c_text_length k_reader_numbers_2 k_reader_next_3 k_laid_stand_17 k_laid_home_18 k_laid_priceStart_19 k_laid_priceStep_20 k_laid_thrown_cells_21 k_laid_thrown_filled_22 k_laid_nets_cells_23 k_laid_nets_filled_24 k_trial_stand_4 k_trial_home_5 k_trial_priceStart_6 k_trial_priceStep_7 k_trial_thrown_cells_8 k_trial_thrown_filled_9 k_trial_nets_cells_10 k_trial_nets_filled_11 c_flight_loads_cells c_flight_loads_filled c_flight_order c_flight_done c_flight_start c_flight_end c_changes_who c_changes_column c_changes_was k_changes_held_26 c_kept_older_cells c_kept_older_filled c_kept_newer_cells c_kept_newer_filled k_kept_held_28 c_turns_need)) (run_V (rest := []) X hG hl.1 (mX2_forget l dC dI cI cJ a23 a24 a25 a26 a27 c_kept_older_cells c_kept_older_filled c_kept_newer_cells c_kept_newer_filled c_kept_held hz_29) gi_V_X8_101 hd_V_yX2_forget ⟨rfl, rfl⟩ rfl ⟨Nat.le_of_ble_eq_true rfl, Nat.le_of_ble_eq_true rfl⟩ [23, 24, 25, 26, 27] (by decide) rfl 23 rfl rfl rfl rfl (Nat.le_of_ble_eq_true rfl) ⟨Nat.le_of_ble_eq_true rfl, Nat.le_of_ble_eq_true rfl⟩ dX8_lay_58) hG [23, 24, 25, 26, 27] rfl rfl rfl (fun H locs hG => ?_)
      clear hz_29
      refine lv_aload_n hx hb dX8_lay_61 rfl (lv_at hl 0 rfl) ?_
      refine r_get X hG in_X8 rfl 2 (by decide) w_237 0 rfl rfl dX8_lay_62 ?_
      refine r_getN X hG in_X3 rfl 4 (by decide) w_136 5 rfl rfl dX8_lay_65 ?_
      obtain ⟨r_30, hz_31, h⟩ := bd1_some h
      refine aft_i (ws' := (W_X8 a0 a1 a2 a3 a4 a5 a6 a7 a8 a9 a10 a11 a12 a13 a14 a15 a16 a17 a18 a19 a20 a21 a22 a23 a24 a25 a26 a27 a28 a29 cI cJ c_text_bytes c_text_length k_reader_numbers_2 k_reader_next_3 k_laid_stand_17 k_laid_home_18 k_laid_priceStart_19 k_laid_priceStep_20 k_laid_thrown_cells_21 k_laid_thrown_filled_22 k_laid_nets_cells_23 k_laid_nets_filled_24 k_trial_stand_4 k_trial_home_5 k_trial_priceStart_6 k_trial_priceStep_7 k_trial_thrown_cells_8 k_trial_thrown_filled_9 k_trial_nets_cells_10 k_trial_nets_filled_11 c_flight_loads_cells c_flight_loads_filled c_flight_order c_flight_done c_flight_start c_flight_end c_changes_who c_changes_column c_changes_was k_changes_held_26 c_kept_older_cells c_kept_older_filled c_kept_newer_cells c_kept_newer_filled k_kept_held_28 c_turns_need)) (run_V (rest := []) X hG hl.1 (mX5_rows l dC dI cI cJ a6 a7 (7 : Int32) (4 : Int32) 28 k_laid_thrown_cells_21 k_laid_thrown_filled_22 hz_31) gi_V_X8_90 hd_V_yX5_rows ⟨rfl, rfl⟩ rfl ⟨Nat.le_of_ble_eq_true rfl, Nat.le_of_ble_eq_true rfl⟩ [6, 7] (by decide) rfl 6 rfl rfl rfl rfl (Nat.le_of_ble_eq_true rfl) ⟨Nat.le_of_ble_eq_true rfl, Nat.le_of_ble_eq_true rfl⟩ dX8_lay_68) hG [6, 7] rfl rfl rfl (fun H locs hG => ?_)
      clear hz_31
      cases h
      exact ret _ _ _ _ dX8_lay_71 hG
    · have h := ite_t h c_16
      refine lv_bipush (v := (-2 : Int32)) hx hb dX8_lay_33 (by decide) ?_
      cases h
      exact ret _ _ _ _ dX8_lay_35 hG
set_option maxRecDepth 100000 in
set_option maxHeartbeats 4000000 in
theorem mX8_load (l : Launch) (dC : Nat → ClassId) (dI : Nat → Nat → Nat) (cI cJ : ClassId) (a0 a1 a2 a3 a4 a5 a6 a7 a8 a9 a10 a11 a12 a13 a14 a15 a16 a17 a18 a19 a20 a21 a22 a23 a24 a25 a26 a27 a28 a29 : Nat) (c_text_bytes : Nat → Int32) (c_text_length : Int32) (c_reader_numbers : Nat → Int32) (c_reader_next : Int32) (c_laid_stand : Int32) (c_laid_home : Int32) (c_laid_priceStart : Int32) (c_laid_priceStep : Int32) (c_laid_thrown_cells : Nat → Int32) (c_laid_thrown_filled : Int32) (c_laid_nets_cells : Nat → Int32) (c_laid_nets_filled : Int32) (c_trial_stand : Int32) (c_trial_home : Int32) (c_trial_priceStart : Int32) (c_trial_priceStep : Int32) (c_trial_thrown_cells : Nat → Int32) (c_trial_thrown_filled : Int32) (c_trial_nets_cells : Nat → Int32) (c_trial_nets_filled : Int32) (c_flight_loads_cells : Nat → Int32) (c_flight_loads_filled : Int32) (c_flight_order : Nat → Int32) (c_flight_done : Int32) (c_flight_start : Int32) (c_flight_end : Int32) (c_changes_who : Nat → Int32) (c_changes_column : Nat → Int32) (c_changes_was : Nat → Int32) (c_changes_held : Int32) (c_kept_older_cells : Nat → Int32) (c_kept_older_filled : Int32) (c_kept_newer_cells : Nat → Int32) (c_kept_newer_filled : Int32) (c_kept_held : Int32) (c_turns_need : Nat → Int32) (x1 : Int32) (x2 : Int32) {res : Int32} {n_flight_loads_cells : Nat → Int32} {n_flight_order : Nat → Int32} {n_flight_done : Int32} {n_flight_start : Int32} {n_flight_end : Int32} (hD : DX8_load x1 x2 c_laid_stand c_laid_home c_laid_priceStart c_laid_priceStep c_laid_thrown_cells c_laid_thrown_filled c_laid_nets_cells c_laid_nets_filled c_flight_loads_cells c_flight_order c_flight_done c_flight_start c_flight_end = some (res, n_flight_loads_cells, n_flight_order, n_flight_done, n_flight_start, n_flight_end)) : Met l yX8_load (WZ yX8_load cX8_load 3 (some .int)) (RM 6 143) (PC dC dI cI cJ [.ref a0, .int x1, .int x2] (W_X8 a0 a1 a2 a3 a4 a5 a6 a7 a8 a9 a10 a11 a12 a13 a14 a15 a16 a17 a18 a19 a20 a21 a22 a23 a24 a25 a26 a27 a28 a29 cI cJ c_text_bytes c_text_length c_reader_numbers c_reader_next c_laid_stand c_laid_home c_laid_priceStart c_laid_priceStep c_laid_thrown_cells c_laid_thrown_filled c_laid_nets_cells c_laid_nets_filled c_trial_stand c_trial_home c_trial_priceStart c_trial_priceStep c_trial_thrown_cells c_trial_thrown_filled c_trial_nets_cells c_trial_nets_filled c_flight_loads_cells c_flight_loads_filled c_flight_order c_flight_done c_flight_start c_flight_end c_changes_who c_changes_column c_changes_was c_changes_held c_kept_older_cells c_kept_older_filled c_kept_newer_cells c_kept_newer_filled c_kept_held c_turns_need)) (QI dC dI (W_X8 a0 a1 a2 a3 a4 a5 a6 a7 a8 a9 a10 a11 a12 a13 a14 a15 a16 a17 a18 a19 a20 a21 a22 a23 a24 a25 a26 a27 a28 a29 cI cJ c_text_bytes c_text_length c_reader_numbers c_reader_next c_laid_stand c_laid_home c_laid_priceStart c_laid_priceStep c_laid_thrown_cells c_laid_thrown_filled c_laid_nets_cells c_laid_nets_filled c_trial_stand c_trial_home c_trial_priceStart c_trial_priceStep c_trial_thrown_cells c_trial_thrown_filled c_trial_nets_cells c_trial_nets_filled c_flight_loads_cells c_flight_loads_filled c_flight_order c_flight_done c_flight_start c_flight_end c_changes_who c_changes_column c_changes_was c_changes_held c_kept_older_cells c_kept_older_filled c_kept_newer_cells c_kept_newer_filled c_kept_held c_turns_need) (W_X8 a0 a1 a2 a3 a4 a5 a6 a7 a8 a9 a10 a11 a12 a13 a14 a15 a16 a17 a18 a19 a20 a21 a22 a23 a24 a25 a26 a27 a28 a29 cI cJ c_text_bytes c_text_length c_reader_numbers c_reader_next c_laid_stand c_laid_home c_laid_priceStart c_laid_priceStep c_laid_thrown_cells c_laid_thrown_filled c_laid_nets_cells c_laid_nets_filled c_trial_stand c_trial_home c_trial_priceStart c_trial_priceStep c_trial_thrown_cells c_trial_thrown_filled c_trial_nets_cells c_trial_nets_filled n_flight_loads_cells c_flight_loads_filled n_flight_order n_flight_done n_flight_start n_flight_end c_changes_who c_changes_column c_changes_was c_changes_held c_kept_older_cells c_kept_older_filled c_kept_newer_cells c_kept_newer_filled c_kept_held c_turns_need) res) 0 0 (FA (W_X8 a0 a1 a2 a3 a4 a5 a6 a7 a8 a9 a10 a11 a12 a13 a14 a15 a16 a17 a18 a19 a20 a21 a22 a23 a24 a25 a26 a27 a28 a29 cI cJ c_text_bytes c_text_length c_reader_numbers c_reader_next c_laid_stand c_laid_home c_laid_priceStart c_laid_priceStep c_laid_thrown_cells c_laid_thrown_filled c_laid_nets_cells c_laid_nets_filled c_trial_stand c_trial_home c_trial_priceStart c_trial_priceStep c_trial_thrown_cells c_trial_thrown_filled c_trial_nets_cells c_trial_nets_filled c_flight_loads_cells c_flight_loads_filled c_flight_order c_flight_done c_flight_start c_flight_end c_changes_who c_changes_column c_changes_was c_changes_held c_kept_older_cells c_kept_older_filled c_kept_newer_cells c_kept_newer_filled c_kept_held c_turns_need)) := by
  refine r_metI (by decide +kernel) (Nat.le_of_ble_eq_true rfl) ?_
  intro p e s m args below meth c A H0 QQ X ret ls hl hG
  have X : Cx p m c cX8_load 3 s args RX8 dC dI cI cJ meth (some .int) := X
  have hx := X.1.1
  have hb := X.1.2.1
  have hl : lv_has ls 3 [(0, .ref a0), (1, .int x1), (2, .int x2)] := hl
  have h := hD
  unfold DX8_load at h
  clear hD
  refine lv_aload_n hx hb dX8_load_0 rfl (lv_at hl 0 rfl) ?_
  refine r_get X hG in_X8 rfl 2 (by decide) w_237 0 rfl rfl dX8_load_1 ?_
  refine r_getN X hG in_X3 rfl 4 (by decide) w_136 5 rfl rfl dX8_load_4 ?_
  refine lv_iload_n hx hb dX8_load_7 rfl (lv_at hl 1 rfl) ?_
  obtain ⟨r_1, hz_2, h⟩ := bd1_some h
  refine aft_i (ws' := (W_X8 a0 a1 a2 a3 a4 a5 a6 a7 a8 a9 a10 a11 a12 a13 a14 a15 a16 a17 a18 a19 a20 a21 a22 a23 a24 a25 a26 a27 a28 a29 cI cJ c_text_bytes c_text_length c_reader_numbers c_reader_next c_laid_stand c_laid_home c_laid_priceStart c_laid_priceStep c_laid_thrown_cells c_laid_thrown_filled c_laid_nets_cells c_laid_nets_filled c_trial_stand c_trial_home c_trial_priceStart c_trial_priceStep c_trial_thrown_cells c_trial_thrown_filled c_trial_nets_cells c_trial_nets_filled c_flight_loads_cells c_flight_loads_filled c_flight_order c_flight_done c_flight_start c_flight_end c_changes_who c_changes_column c_changes_was c_changes_held c_kept_older_cells c_kept_older_filled c_kept_newer_cells c_kept_newer_filled c_kept_held c_turns_need)) (run_V (rest := []) X hG hl.1 (mX5_has l dC dI cI cJ a6 a7 (7 : Int32) (4 : Int32) 28 c_laid_thrown_cells c_laid_thrown_filled x1 hz_2) gi_V_X8_102 hd_V_yX5_has ⟨rfl, rfl⟩ rfl ⟨Nat.le_of_ble_eq_true rfl, Nat.le_of_ble_eq_true rfl⟩ [6, 7] (by decide) rfl 6 rfl rfl rfl rfl (Nat.le_of_ble_eq_true rfl) ⟨Nat.le_of_ble_eq_true rfl, Nat.le_of_ble_eq_true rfl⟩ dX8_load_8) hG [6, 7] rfl rfl rfl (fun H locs hG => ?_)
  clear hz_2
  refine lv_if_eq (tgt := 24) hx hb dX8_load_11 (by decide) (fun c_3 => ?_) (fun c_3 => ?_)
  · have h := ite_t h c_3
    refine lv_iconst (v := (-1 : Int32)) hx hb dX8_load_24 (by decide) ?_
    cases h
    exact ret _ _ _ _ dX8_load_25 hG
  · have h := ite_f h c_3
    refine lv_iload_n hx hb dX8_load_14 rfl (lv_at hl 2 rfl) ?_
    refine lv_iconst (v := (0 : Int32)) hx hb dX8_load_15 (by decide) ?_
    refine lv_bipush (v := (8 : Int32)) hx hb dX8_load_16 (by decide) ?_
    obtain ⟨r_4, hz_5, h⟩ := bd1_some h
    refine aft_i (ws' := (W_X8 a0 a1 a2 a3 a4 a5 a6 a7 a8 a9 a10 a11 a12 a13 a14 a15 a16 a17 a18 a19 a20 a21 a22 a23 a24 a25 a26 a27 a28 a29 cI cJ c_text_bytes c_text_length c_reader_numbers c_reader_next c_laid_stand c_laid_home c_laid_priceStart c_laid_priceStep c_laid_thrown_cells c_laid_thrown_filled c_laid_nets_cells c_laid_nets_filled c_trial_stand c_trial_home c_trial_priceStart c_trial_priceStep c_trial_thrown_cells c_trial_thrown_filled c_trial_nets_cells c_trial_nets_filled c_flight_loads_cells c_flight_loads_filled c_flight_order c_flight_done c_flight_start c_flight_end c_changes_who c_changes_column c_changes_was c_changes_held c_kept_older_cells c_kept_older_filled c_kept_newer_cells c_kept_newer_filled c_kept_held c_turns_need)) (run_S (rest := []) X hG hl.1 (mX8_within l dC dI cI cJ x2 (0 : Int32) (8 : Int32) hz_5) gi_S_X8_74 hd_S_yX8_within ⟨rfl, rfl⟩ rfl ⟨Nat.le_of_ble_eq_true rfl, Nat.le_of_ble_eq_true rfl⟩ [] (by decide) rfl rfl (Nat.le_of_ble_eq_true rfl) ⟨Nat.le_of_ble_eq_true rfl, Nat.le_of_ble_eq_true rfl⟩ dX8_load_18) hG [] rfl rfl rfl (fun H locs hG => ?_)
    clear hz_5
    refine lv_if_ne (tgt := 26) hx hb dX8_load_21 (by decide) (fun c_6 => ?_) (fun c_6 => ?_)
    · have h := ite_f h c_6
      refine lv_aload_n hx hb dX8_load_26 rfl (lv_at hl 0 rfl) ?_
      refine r_get X hG in_X8 rfl 4 (by decide) w_239 0 rfl rfl dX8_load_27 ?_
      refine lv_aload_n hx hb dX8_load_30 rfl (lv_at hl 0 rfl) ?_
      refine r_get X hG in_X8 rfl 2 (by decide) w_237 0 rfl rfl dX8_load_31 ?_
      refine lv_iconst (v := (0 : Int32)) hx hb dX8_load_34 (by decide) ?_
      obtain ⟨k_flight_loads_cells_7, k_flight_order_8, k_flight_done_9, k_flight_start_10, k_flight_end_11, hz_12, h⟩ := bd5_some h
      refine aft_v (ws' := (W_X8 a0 a1 a2 a3 a4 a5 a6 a7 a8 a9 a10 a11 a12 a13 a14 a15 a16 a17 a18 a19 a20 a21 a22 a23 a24 a25 a26 a27 a28 a29 cI cJ c_text_bytes c_text_length c_reader_numbers c_reader_next c_laid_stand c_laid_home c_laid_priceStart c_laid_priceStep c_laid_thrown_cells c_laid_thrown_filled c_laid_nets_cells c_laid_nets_filled c_trial_stand c_trial_home c_trial_priceStart c_trial_priceStep c_trial_thrown_cells c_trial_thrown_filled c_trial_nets_cells c_trial_nets_filled k_flight_loads_cells_7 c_flight_loads_filled k_flight_order_8 k_flight_done_9 k_flight_start_10 k_flight_end_11 c_changes_who c_changes_column c_changes_was c_changes_held c_kept_older_cells c_kept_older_filled c_kept_newer_cells c_kept_newer_filled c_kept_held c_turns_need)) (run_V (rest := []) X hG hl.1 (mX1_fly l dC dI cI cJ a15 a16 a17 a18 a5 a6 a7 a8 a9 c_flight_loads_cells c_flight_loads_filled c_flight_order c_flight_done c_flight_start c_flight_end c_laid_stand c_laid_home c_laid_priceStart c_laid_priceStep c_laid_thrown_cells c_laid_thrown_filled c_laid_nets_cells c_laid_nets_filled (0 : Int32) hz_12) gi_V_X8_106 hd_V_yX1_fly ⟨rfl, rfl⟩ rfl ⟨Nat.le_of_ble_eq_true rfl, Nat.le_of_ble_eq_true rfl⟩ [15, 16, 17, 18, 5, 6, 7, 8, 9] (by decide) rfl 15 rfl rfl rfl rfl (Nat.le_of_ble_eq_true rfl) ⟨Nat.le_of_ble_eq_true rfl, Nat.le_of_ble_eq_true rfl⟩ dX8_load_35) hG [15, 16, 17, 18, 5, 6, 7, 8, 9] rfl rfl rfl (fun H locs hG => ?_)
      clear hz_12
      refine lv_aload_n hx hb dX8_load_38 rfl (lv_at hl 0 rfl) ?_
      refine r_get X hG in_X8 rfl 4 (by decide) w_239 0 rfl rfl dX8_load_39 ?_
      refine lv_iload_n hx hb dX8_load_42 rfl (lv_at hl 1 rfl) ?_
      refine lv_iload_n hx hb dX8_load_43 rfl (lv_at hl 2 rfl) ?_
      obtain ⟨r_13, hz_14, h⟩ := bd1_some h
      refine aft_i (ws' := (W_X8 a0 a1 a2 a3 a4 a5 a6 a7 a8 a9 a10 a11 a12 a13 a14 a15 a16 a17 a18 a19 a20 a21 a22 a23 a24 a25 a26 a27 a28 a29 cI cJ c_text_bytes c_text_length c_reader_numbers c_reader_next c_laid_stand c_laid_home c_laid_priceStart c_laid_priceStep c_laid_thrown_cells c_laid_thrown_filled c_laid_nets_cells c_laid_nets_filled c_trial_stand c_trial_home c_trial_priceStart c_trial_priceStep c_trial_thrown_cells c_trial_thrown_filled c_trial_nets_cells c_trial_nets_filled k_flight_loads_cells_7 c_flight_loads_filled k_flight_order_8 k_flight_done_9 k_flight_start_10 k_flight_end_11 c_changes_who c_changes_column c_changes_was c_changes_held c_kept_older_cells c_kept_older_filled c_kept_newer_cells c_kept_newer_filled c_kept_held c_turns_need)) (run_V (rest := []) X hG hl.1 (mX1_known l dC dI cI cJ a15 a16 a17 a18 k_flight_loads_cells_7 c_flight_loads_filled k_flight_order_8 k_flight_done_9 k_flight_start_10 k_flight_end_11 x1 x2 hz_14) gi_V_X8_110 hd_V_yX1_known ⟨rfl, rfl⟩ rfl ⟨Nat.le_of_ble_eq_true rfl, Nat.le_of_ble_eq_true rfl⟩ [15, 16, 17, 18] (by decide) rfl 15 rfl rfl rfl rfl (Nat.le_of_ble_eq_true rfl) ⟨Nat.le_of_ble_eq_true rfl, Nat.le_of_ble_eq_true rfl⟩ dX8_load_44) hG [15, 16, 17, 18] rfl rfl rfl (fun H locs hG => ?_)
      clear hz_14
      cases h
      exact ret _ _ _ _ dX8_load_47 hG
    · have h := ite_t h c_6
      refine lv_iconst (v := (-1 : Int32)) hx hb dX8_load_24 (by decide) ?_
      cases h
      exact ret _ _ _ _ dX8_load_25 hG
set_option maxRecDepth 100000 in
set_option maxHeartbeats 4000000 in
theorem mX8_far (l : Launch) (dC : Nat → ClassId) (dI : Nat → Nat → Nat) (cI cJ : ClassId) (a0 a1 a2 a3 a4 a5 a6 a7 a8 a9 a10 a11 a12 a13 a14 a15 a16 a17 a18 a19 a20 a21 a22 a23 a24 a25 a26 a27 a28 a29 : Nat) (c_text_bytes : Nat → Int32) (c_text_length : Int32) (c_reader_numbers : Nat → Int32) (c_reader_next : Int32) (c_laid_stand : Int32) (c_laid_home : Int32) (c_laid_priceStart : Int32) (c_laid_priceStep : Int32) (c_laid_thrown_cells : Nat → Int32) (c_laid_thrown_filled : Int32) (c_laid_nets_cells : Nat → Int32) (c_laid_nets_filled : Int32) (c_trial_stand : Int32) (c_trial_home : Int32) (c_trial_priceStart : Int32) (c_trial_priceStep : Int32) (c_trial_thrown_cells : Nat → Int32) (c_trial_thrown_filled : Int32) (c_trial_nets_cells : Nat → Int32) (c_trial_nets_filled : Int32) (c_flight_loads_cells : Nat → Int32) (c_flight_loads_filled : Int32) (c_flight_order : Nat → Int32) (c_flight_done : Int32) (c_flight_start : Int32) (c_flight_end : Int32) (c_changes_who : Nat → Int32) (c_changes_column : Nat → Int32) (c_changes_was : Nat → Int32) (c_changes_held : Int32) (c_kept_older_cells : Nat → Int32) (c_kept_older_filled : Int32) (c_kept_newer_cells : Nat → Int32) (c_kept_newer_filled : Int32) (c_kept_held : Int32) (c_turns_need : Nat → Int32) (x1 : Int32) (x2 : Int32) {res : Int32} {n_flight_loads_cells : Nat → Int32} {n_flight_order : Nat → Int32} {n_flight_done : Int32} {n_flight_start : Int32} {n_flight_end : Int32} (hD : DX8_far x1 x2 c_laid_stand c_laid_home c_laid_priceStart c_laid_priceStep c_laid_thrown_cells c_laid_thrown_filled c_laid_nets_cells c_laid_nets_filled c_flight_loads_cells c_flight_order c_flight_done c_flight_start c_flight_end = some (res, n_flight_loads_cells, n_flight_order, n_flight_done, n_flight_start, n_flight_end)) : Met l yX8_far (WZ yX8_far cX8_far 3 (some .int)) (RM 6 143) (PC dC dI cI cJ [.ref a0, .int x1, .int x2] (W_X8 a0 a1 a2 a3 a4 a5 a6 a7 a8 a9 a10 a11 a12 a13 a14 a15 a16 a17 a18 a19 a20 a21 a22 a23 a24 a25 a26 a27 a28 a29 cI cJ c_text_bytes c_text_length c_reader_numbers c_reader_next c_laid_stand c_laid_home c_laid_priceStart c_laid_priceStep c_laid_thrown_cells c_laid_thrown_filled c_laid_nets_cells c_laid_nets_filled c_trial_stand c_trial_home c_trial_priceStart c_trial_priceStep c_trial_thrown_cells c_trial_thrown_filled c_trial_nets_cells c_trial_nets_filled c_flight_loads_cells c_flight_loads_filled c_flight_order c_flight_done c_flight_start c_flight_end c_changes_who c_changes_column c_changes_was c_changes_held c_kept_older_cells c_kept_older_filled c_kept_newer_cells c_kept_newer_filled c_kept_held c_turns_need)) (QI dC dI (W_X8 a0 a1 a2 a3 a4 a5 a6 a7 a8 a9 a10 a11 a12 a13 a14 a15 a16 a17 a18 a19 a20 a21 a22 a23 a24 a25 a26 a27 a28 a29 cI cJ c_text_bytes c_text_length c_reader_numbers c_reader_next c_laid_stand c_laid_home c_laid_priceStart c_laid_priceStep c_laid_thrown_cells c_laid_thrown_filled c_laid_nets_cells c_laid_nets_filled c_trial_stand c_trial_home c_trial_priceStart c_trial_priceStep c_trial_thrown_cells c_trial_thrown_filled c_trial_nets_cells c_trial_nets_filled c_flight_loads_cells c_flight_loads_filled c_flight_order c_flight_done c_flight_start c_flight_end c_changes_who c_changes_column c_changes_was c_changes_held c_kept_older_cells c_kept_older_filled c_kept_newer_cells c_kept_newer_filled c_kept_held c_turns_need) (W_X8 a0 a1 a2 a3 a4 a5 a6 a7 a8 a9 a10 a11 a12 a13 a14 a15 a16 a17 a18 a19 a20 a21 a22 a23 a24 a25 a26 a27 a28 a29 cI cJ c_text_bytes c_text_length c_reader_numbers c_reader_next c_laid_stand c_laid_home c_laid_priceStart c_laid_priceStep c_laid_thrown_cells c_laid_thrown_filled c_laid_nets_cells c_laid_nets_filled c_trial_stand c_trial_home c_trial_priceStart c_trial_priceStep c_trial_thrown_cells c_trial_thrown_filled c_trial_nets_cells c_trial_nets_filled n_flight_loads_cells c_flight_loads_filled n_flight_order n_flight_done n_flight_start n_flight_end c_changes_who c_changes_column c_changes_was c_changes_held c_kept_older_cells c_kept_older_filled c_kept_newer_cells c_kept_newer_filled c_kept_held c_turns_need) res) 0 0 (FA (W_X8 a0 a1 a2 a3 a4 a5 a6 a7 a8 a9 a10 a11 a12 a13 a14 a15 a16 a17 a18 a19 a20 a21 a22 a23 a24 a25 a26 a27 a28 a29 cI cJ c_text_bytes c_text_length c_reader_numbers c_reader_next c_laid_stand c_laid_home c_laid_priceStart c_laid_priceStep c_laid_thrown_cells c_laid_thrown_filled c_laid_nets_cells c_laid_nets_filled c_trial_stand c_trial_home c_trial_priceStart c_trial_priceStep c_trial_thrown_cells c_trial_thrown_filled c_trial_nets_cells c_trial_nets_filled c_flight_loads_cells c_flight_loads_filled c_flight_order c_flight_done c_flight_start c_flight_end c_changes_who c_changes_column c_changes_was c_changes_held c_kept_older_cells c_kept_older_filled c_kept_newer_cells c_kept_newer_filled c_kept_held c_turns_need)) := by
  refine r_metI (by decide +kernel) (Nat.le_of_ble_eq_true rfl) ?_
  intro p e s m args below meth c A H0 QQ X ret ls hl hG
  have X : Cx p m c cX8_far 3 s args RX8 dC dI cI cJ meth (some .int) := X
  have hx := X.1.1
  have hb := X.1.2.1
  have hl : lv_has ls 3 [(0, .ref a0), (1, .int x1), (2, .int x2)] := hl
  have h := hD
  unfold DX8_far at h
  clear hD
  refine lv_aload_n hx hb dX8_far_0 rfl (lv_at hl 0 rfl) ?_
  refine r_get X hG in_X8 rfl 2 (by decide) w_237 0 rfl rfl dX8_far_1 ?_
  refine r_getN X hG in_X3 rfl 4 (by decide) w_136 5 rfl rfl dX8_far_4 ?_
  refine lv_iload_n hx hb dX8_far_7 rfl (lv_at hl 1 rfl) ?_
  obtain ⟨r_1, hz_2, h⟩ := bd1_some h
  refine aft_i (ws' := (W_X8 a0 a1 a2 a3 a4 a5 a6 a7 a8 a9 a10 a11 a12 a13 a14 a15 a16 a17 a18 a19 a20 a21 a22 a23 a24 a25 a26 a27 a28 a29 cI cJ c_text_bytes c_text_length c_reader_numbers c_reader_next c_laid_stand c_laid_home c_laid_priceStart c_laid_priceStep c_laid_thrown_cells c_laid_thrown_filled c_laid_nets_cells c_laid_nets_filled c_trial_stand c_trial_home c_trial_priceStart c_trial_priceStep c_trial_thrown_cells c_trial_thrown_filled c_trial_nets_cells c_trial_nets_filled c_flight_loads_cells c_flight_loads_filled c_flight_order c_flight_done c_flight_start c_flight_end c_changes_who c_changes_column c_changes_was c_changes_held c_kept_older_cells c_kept_older_filled c_kept_newer_cells c_kept_newer_filled c_kept_held c_turns_need)) (run_V (rest := []) X hG hl.1 (mX5_has l dC dI cI cJ a6 a7 (7 : Int32) (4 : Int32) 28 c_laid_thrown_cells c_laid_thrown_filled x1 hz_2) gi_V_X8_102 hd_V_yX5_has ⟨rfl, rfl⟩ rfl ⟨Nat.le_of_ble_eq_true rfl, Nat.le_of_ble_eq_true rfl⟩ [6, 7] (by decide) rfl 6 rfl rfl rfl rfl (Nat.le_of_ble_eq_true rfl) ⟨Nat.le_of_ble_eq_true rfl, Nat.le_of_ble_eq_true rfl⟩ dX8_far_8) hG [6, 7] rfl rfl rfl (fun H locs hG => ?_)
  clear hz_2
  refine lv_if_eq (tgt := 24) hx hb dX8_far_11 (by decide) (fun c_3 => ?_) (fun c_3 => ?_)
  · have h := ite_t h c_3
    refine lv_iconst (v := (-1 : Int32)) hx hb dX8_far_24 (by decide) ?_
    cases h
    exact ret _ _ _ _ dX8_far_25 hG
  · have h := ite_f h c_3
    refine lv_iload_n hx hb dX8_far_14 rfl (lv_at hl 2 rfl) ?_
    refine lv_iconst (v := (0 : Int32)) hx hb dX8_far_15 (by decide) ?_
    refine lv_bipush (v := (99 : Int32)) hx hb dX8_far_16 (by decide) ?_
    obtain ⟨r_4, hz_5, h⟩ := bd1_some h
    refine aft_i (ws' := (W_X8 a0 a1 a2 a3 a4 a5 a6 a7 a8 a9 a10 a11 a12 a13 a14 a15 a16 a17 a18 a19 a20 a21 a22 a23 a24 a25 a26 a27 a28 a29 cI cJ c_text_bytes c_text_length c_reader_numbers c_reader_next c_laid_stand c_laid_home c_laid_priceStart c_laid_priceStep c_laid_thrown_cells c_laid_thrown_filled c_laid_nets_cells c_laid_nets_filled c_trial_stand c_trial_home c_trial_priceStart c_trial_priceStep c_trial_thrown_cells c_trial_thrown_filled c_trial_nets_cells c_trial_nets_filled c_flight_loads_cells c_flight_loads_filled c_flight_order c_flight_done c_flight_start c_flight_end c_changes_who c_changes_column c_changes_was c_changes_held c_kept_older_cells c_kept_older_filled c_kept_newer_cells c_kept_newer_filled c_kept_held c_turns_need)) (run_S (rest := []) X hG hl.1 (mX8_within l dC dI cI cJ x2 (0 : Int32) (99 : Int32) hz_5) gi_S_X8_74 hd_S_yX8_within ⟨rfl, rfl⟩ rfl ⟨Nat.le_of_ble_eq_true rfl, Nat.le_of_ble_eq_true rfl⟩ [] (by decide) rfl rfl (Nat.le_of_ble_eq_true rfl) ⟨Nat.le_of_ble_eq_true rfl, Nat.le_of_ble_eq_true rfl⟩ dX8_far_18) hG [] rfl rfl rfl (fun H locs hG => ?_)
    clear hz_5
    refine lv_if_ne (tgt := 26) hx hb dX8_far_21 (by decide) (fun c_6 => ?_) (fun c_6 => ?_)
    · have h := ite_f h c_6
      refine lv_aload_n hx hb dX8_far_26 rfl (lv_at hl 0 rfl) ?_
      refine r_get X hG in_X8 rfl 4 (by decide) w_239 0 rfl rfl dX8_far_27 ?_
      refine lv_aload_n hx hb dX8_far_30 rfl (lv_at hl 0 rfl) ?_
      refine r_get X hG in_X8 rfl 2 (by decide) w_237 0 rfl rfl dX8_far_31 ?_
      refine lv_iconst (v := (0 : Int32)) hx hb dX8_far_34 (by decide) ?_
      obtain ⟨k_flight_loads_cells_7, k_flight_order_8, k_flight_done_9, k_flight_start_10, k_flight_end_11, hz_12, h⟩ := bd5_some h
      refine aft_v (ws' := (W_X8 a0 a1 a2 a3 a4 a5 a6 a7 a8 a9 a10 a11 a12 a13 a14 a15 a16 a17 a18 a19 a20 a21 a22 a23 a24 a25 a26 a27 a28 a29 cI cJ c_text_bytes c_text_length c_reader_numbers c_reader_next c_laid_stand c_laid_home c_laid_priceStart c_laid_priceStep c_laid_thrown_cells c_laid_thrown_filled c_laid_nets_cells c_laid_nets_filled c_trial_stand c_trial_home c_trial_priceStart c_trial_priceStep c_trial_thrown_cells c_trial_thrown_filled c_trial_nets_cells c_trial_nets_filled k_flight_loads_cells_7 c_flight_loads_filled k_flight_order_8 k_flight_done_9 k_flight_start_10 k_flight_end_11 c_changes_who c_changes_column c_changes_was c_changes_held c_kept_older_cells c_kept_older_filled c_kept_newer_cells c_kept_newer_filled c_kept_held c_turns_need)) (run_V (rest := []) X hG hl.1 (mX1_fly l dC dI cI cJ a15 a16 a17 a18 a5 a6 a7 a8 a9 c_flight_loads_cells c_flight_loads_filled c_flight_order c_flight_done c_flight_start c_flight_end c_laid_stand c_laid_home c_laid_priceStart c_laid_priceStep c_laid_thrown_cells c_laid_thrown_filled c_laid_nets_cells c_laid_nets_filled (0 : Int32) hz_12) gi_V_X8_106 hd_V_yX1_fly ⟨rfl, rfl⟩ rfl ⟨Nat.le_of_ble_eq_true rfl, Nat.le_of_ble_eq_true rfl⟩ [15, 16, 17, 18, 5, 6, 7, 8, 9] (by decide) rfl 15 rfl rfl rfl rfl (Nat.le_of_ble_eq_true rfl) ⟨Nat.le_of_ble_eq_true rfl, Nat.le_of_ble_eq_true rfl⟩ dX8_far_35) hG [15, 16, 17, 18, 5, 6, 7, 8, 9] rfl rfl rfl (fun H locs hG => ?_)
      clear hz_12
      refine lv_aload_n hx hb dX8_far_38 rfl (lv_at hl 0 rfl) ?_
      refine r_get X hG in_X8 rfl 4 (by decide) w_239 0 rfl rfl dX8_far_39 ?_
      refine lv_iload_n hx hb dX8_far_42 rfl (lv_at hl 1 rfl) ?_
      refine lv_iload_n hx hb dX8_far_43 rfl (lv_at hl 2 rfl) ?_
      obtain ⟨r_13, hz_14, h⟩ := bd1_some h
      refine aft_i (ws' := (W_X8 a0 a1 a2 a3 a4 a5 a6 a7 a8 a9 a10 a11 a12 a13 a14 a15 a16 a17 a18 a19 a20 a21 a22 a23 a24 a25 a26 a27 a28 a29 cI cJ c_text_bytes c_text_length c_reader_numbers c_reader_next c_laid_stand c_laid_home c_laid_priceStart c_laid_priceStep c_laid_thrown_cells c_laid_thrown_filled c_laid_nets_cells c_laid_nets_filled c_trial_stand c_trial_home c_trial_priceStart c_trial_priceStep c_trial_thrown_cells c_trial_thrown_filled c_trial_nets_cells c_trial_nets_filled k_flight_loads_cells_7 c_flight_loads_filled k_flight_order_8 k_flight_done_9 k_flight_start_10 k_flight_end_11 c_changes_who c_changes_column c_changes_was c_changes_held c_kept_older_cells c_kept_older_filled c_kept_newer_cells c_kept_newer_filled c_kept_held c_turns_need)) (run_V (rest := []) X hG hl.1 (mX1_farOn l dC dI cI cJ a15 a16 a17 a18 k_flight_loads_cells_7 c_flight_loads_filled k_flight_order_8 k_flight_done_9 k_flight_start_10 k_flight_end_11 x1 x2 hz_14) gi_V_X8_114 hd_V_yX1_farOn ⟨rfl, rfl⟩ rfl ⟨Nat.le_of_ble_eq_true rfl, Nat.le_of_ble_eq_true rfl⟩ [15, 16, 17, 18] (by decide) rfl 15 rfl rfl rfl rfl (Nat.le_of_ble_eq_true rfl) ⟨Nat.le_of_ble_eq_true rfl, Nat.le_of_ble_eq_true rfl⟩ dX8_far_44) hG [15, 16, 17, 18] rfl rfl rfl (fun H locs hG => ?_)
      clear hz_14
      cases h
      exact ret _ _ _ _ dX8_far_47 hG
    · have h := ite_t h c_6
      refine lv_iconst (v := (-1 : Int32)) hx hb dX8_far_24 (by decide) ?_
      cases h
      exact ret _ _ _ _ dX8_far_25 hG
set_option maxRecDepth 100000 in
set_option maxHeartbeats 4000000 in
theorem mX8_rock (l : Launch) (dC : Nat → ClassId) (dI : Nat → Nat → Nat) (cI cJ : ClassId) (a0 a1 a2 a3 a4 a5 a6 a7 a8 a9 a10 a11 a12 a13 a14 a15 a16 a17 a18 a19 a20 a21 a22 a23 a24 a25 a26 a27 a28 a29 : Nat) (c_text_bytes : Nat → Int32) (c_text_length : Int32) (c_reader_numbers : Nat → Int32) (c_reader_next : Int32) (c_laid_stand : Int32) (c_laid_home : Int32) (c_laid_priceStart : Int32) (c_laid_priceStep : Int32) (c_laid_thrown_cells : Nat → Int32) (c_laid_thrown_filled : Int32) (c_laid_nets_cells : Nat → Int32) (c_laid_nets_filled : Int32) (c_trial_stand : Int32) (c_trial_home : Int32) (c_trial_priceStart : Int32) (c_trial_priceStep : Int32) (c_trial_thrown_cells : Nat → Int32) (c_trial_thrown_filled : Int32) (c_trial_nets_cells : Nat → Int32) (c_trial_nets_filled : Int32) (c_flight_loads_cells : Nat → Int32) (c_flight_loads_filled : Int32) (c_flight_order : Nat → Int32) (c_flight_done : Int32) (c_flight_start : Int32) (c_flight_end : Int32) (c_changes_who : Nat → Int32) (c_changes_column : Nat → Int32) (c_changes_was : Nat → Int32) (c_changes_held : Int32) (c_kept_older_cells : Nat → Int32) (c_kept_older_filled : Int32) (c_kept_newer_cells : Nat → Int32) (c_kept_newer_filled : Int32) (c_kept_held : Int32) (c_turns_need : Nat → Int32) (x1 : Int32) {res : Int32} {n_flight_loads_cells : Nat → Int32} {n_flight_order : Nat → Int32} {n_flight_done : Int32} {n_flight_start : Int32} {n_flight_end : Int32} (hD : DX8_rock x1 c_laid_stand c_laid_home c_laid_priceStart c_laid_priceStep c_laid_thrown_cells c_laid_thrown_filled c_laid_nets_cells c_laid_nets_filled c_flight_loads_cells c_flight_order c_flight_done c_flight_start c_flight_end = some (res, n_flight_loads_cells, n_flight_order, n_flight_done, n_flight_start, n_flight_end)) : Met l yX8_rock (WZ yX8_rock cX8_rock 2 (some .int)) (RM 6 143) (PC dC dI cI cJ [.ref a0, .int x1] (W_X8 a0 a1 a2 a3 a4 a5 a6 a7 a8 a9 a10 a11 a12 a13 a14 a15 a16 a17 a18 a19 a20 a21 a22 a23 a24 a25 a26 a27 a28 a29 cI cJ c_text_bytes c_text_length c_reader_numbers c_reader_next c_laid_stand c_laid_home c_laid_priceStart c_laid_priceStep c_laid_thrown_cells c_laid_thrown_filled c_laid_nets_cells c_laid_nets_filled c_trial_stand c_trial_home c_trial_priceStart c_trial_priceStep c_trial_thrown_cells c_trial_thrown_filled c_trial_nets_cells c_trial_nets_filled c_flight_loads_cells c_flight_loads_filled c_flight_order c_flight_done c_flight_start c_flight_end c_changes_who c_changes_column c_changes_was c_changes_held c_kept_older_cells c_kept_older_filled c_kept_newer_cells c_kept_newer_filled c_kept_held c_turns_need)) (QI dC dI (W_X8 a0 a1 a2 a3 a4 a5 a6 a7 a8 a9 a10 a11 a12 a13 a14 a15 a16 a17 a18 a19 a20 a21 a22 a23 a24 a25 a26 a27 a28 a29 cI cJ c_text_bytes c_text_length c_reader_numbers c_reader_next c_laid_stand c_laid_home c_laid_priceStart c_laid_priceStep c_laid_thrown_cells c_laid_thrown_filled c_laid_nets_cells c_laid_nets_filled c_trial_stand c_trial_home c_trial_priceStart c_trial_priceStep c_trial_thrown_cells c_trial_thrown_filled c_trial_nets_cells c_trial_nets_filled c_flight_loads_cells c_flight_loads_filled c_flight_order c_flight_done c_flight_start c_flight_end c_changes_who c_changes_column c_changes_was c_changes_held c_kept_older_cells c_kept_older_filled c_kept_newer_cells c_kept_newer_filled c_kept_held c_turns_need) (W_X8 a0 a1 a2 a3 a4 a5 a6 a7 a8 a9 a10 a11 a12 a13 a14 a15 a16 a17 a18 a19 a20 a21 a22 a23 a24 a25 a26 a27 a28 a29 cI cJ c_text_bytes c_text_length c_reader_numbers c_reader_next c_laid_stand c_laid_home c_laid_priceStart c_laid_priceStep c_laid_thrown_cells c_laid_thrown_filled c_laid_nets_cells c_laid_nets_filled c_trial_stand c_trial_home c_trial_priceStart c_trial_priceStep c_trial_thrown_cells c_trial_thrown_filled c_trial_nets_cells c_trial_nets_filled n_flight_loads_cells c_flight_loads_filled n_flight_order n_flight_done n_flight_start n_flight_end c_changes_who c_changes_column c_changes_was c_changes_held c_kept_older_cells c_kept_older_filled c_kept_newer_cells c_kept_newer_filled c_kept_held c_turns_need) res) 0 0 (FA (W_X8 a0 a1 a2 a3 a4 a5 a6 a7 a8 a9 a10 a11 a12 a13 a14 a15 a16 a17 a18 a19 a20 a21 a22 a23 a24 a25 a26 a27 a28 a29 cI cJ c_text_bytes c_text_length c_reader_numbers c_reader_next c_laid_stand c_laid_home c_laid_priceStart c_laid_priceStep c_laid_thrown_cells c_laid_thrown_filled c_laid_nets_cells c_laid_nets_filled c_trial_stand c_trial_home c_trial_priceStart c_trial_priceStep c_trial_thrown_cells c_trial_thrown_filled c_trial_nets_cells c_trial_nets_filled c_flight_loads_cells c_flight_loads_filled c_flight_order c_flight_done c_flight_start c_flight_end c_changes_who c_changes_column c_changes_was c_changes_held c_kept_older_cells c_kept_older_filled c_kept_newer_cells c_kept_newer_filled c_kept_held c_turns_need)) := by
  refine r_metI (by decide +kernel) (Nat.le_of_ble_eq_true rfl) ?_
  intro p e s m args below meth c A H0 QQ X ret ls hl hG
  have X : Cx p m c cX8_rock 2 s args RX8 dC dI cI cJ meth (some .int) := X
  have hx := X.1.1
  have hb := X.1.2.1
  have hl : lv_has ls 2 [(0, .ref a0), (1, .int x1)] := hl
  have h := hD
  unfold DX8_rock at h
  clear hD
  refine lv_iload_n hx hb dX8_rock_0 rfl (lv_at hl 1 rfl) ?_
  refine lv_iconst (v := (0 : Int32)) hx hb dX8_rock_1 (by decide) ?_
  refine lv_bipush (v := (99 : Int32)) hx hb dX8_rock_2 (by decide) ?_
  obtain ⟨r_1, hz_2, h⟩ := bd1_some h
  refine aft_i (ws' := (W_X8 a0 a1 a2 a3 a4 a5 a6 a7 a8 a9 a10 a11 a12 a13 a14 a15 a16 a17 a18 a19 a20 a21 a22 a23 a24 a25 a26 a27 a28 a29 cI cJ c_text_bytes c_text_length c_reader_numbers c_reader_next c_laid_stand c_laid_home c_laid_priceStart c_laid_priceStep c_laid_thrown_cells c_laid_thrown_filled c_laid_nets_cells c_laid_nets_filled c_trial_stand c_trial_home c_trial_priceStart c_trial_priceStep c_trial_thrown_cells c_trial_thrown_filled c_trial_nets_cells c_trial_nets_filled c_flight_loads_cells c_flight_loads_filled c_flight_order c_flight_done c_flight_start c_flight_end c_changes_who c_changes_column c_changes_was c_changes_held c_kept_older_cells c_kept_older_filled c_kept_newer_cells c_kept_newer_filled c_kept_held c_turns_need)) (run_S (rest := []) X hG hl.1 (mX8_within l dC dI cI cJ x1 (0 : Int32) (99 : Int32) hz_2) gi_S_X8_74 hd_S_yX8_within ⟨rfl, rfl⟩ rfl ⟨Nat.le_of_ble_eq_true rfl, Nat.le_of_ble_eq_true rfl⟩ [] (by decide) rfl rfl (Nat.le_of_ble_eq_true rfl) ⟨Nat.le_of_ble_eq_true rfl, Nat.le_of_ble_eq_true rfl⟩ dX8_rock_4) hG [] rfl rfl rfl (fun H locs hG => ?_)
  clear hz_2
  refine lv_if_ne (tgt := 12) hx hb dX8_rock_7 (by decide) (fun c_3 => ?_) (fun c_3 => ?_)
  · have h := ite_f h c_3
    refine lv_aload_n hx hb dX8_rock_12 rfl (lv_at hl 0 rfl) ?_
    refine r_get X hG in_X8 rfl 4 (by decide) w_239 0 rfl rfl dX8_rock_13 ?_
    refine lv_aload_n hx hb dX8_rock_16 rfl (lv_at hl 0 rfl) ?_
    refine r_get X hG in_X8 rfl 2 (by decide) w_237 0 rfl rfl dX8_rock_17 ?_
    refine lv_iconst (v := (0 : Int32)) hx hb dX8_rock_20 (by decide) ?_
    obtain ⟨k_flight_loads_cells_4, k_flight_order_5, k_flight_done_6, k_flight_start_7, k_flight_end_8, hz_9, h⟩ := bd5_some h
    refine aft_v (ws' := (W_X8 a0 a1 a2 a3 a4 a5 a6 a7 a8 a9 a10 a11 a12 a13 a14 a15 a16 a17 a18 a19 a20 a21 a22 a23 a24 a25 a26 a27 a28 a29 cI cJ c_text_bytes c_text_length c_reader_numbers c_reader_next c_laid_stand c_laid_home c_laid_priceStart c_laid_priceStep c_laid_thrown_cells c_laid_thrown_filled c_laid_nets_cells c_laid_nets_filled c_trial_stand c_trial_home c_trial_priceStart c_trial_priceStep c_trial_thrown_cells c_trial_thrown_filled c_trial_nets_cells c_trial_nets_filled k_flight_loads_cells_4 c_flight_loads_filled k_flight_order_5 k_flight_done_6 k_flight_start_7 k_flight_end_8 c_changes_who c_changes_column c_changes_was c_changes_held c_kept_older_cells c_kept_older_filled c_kept_newer_cells c_kept_newer_filled c_kept_held c_turns_need)) (run_V (rest := []) X hG hl.1 (mX1_fly l dC dI cI cJ a15 a16 a17 a18 a5 a6 a7 a8 a9 c_flight_loads_cells c_flight_loads_filled c_flight_order c_flight_done c_flight_start c_flight_end c_laid_stand c_laid_home c_laid_priceStart c_laid_priceStep c_laid_thrown_cells c_laid_thrown_filled c_laid_nets_cells c_laid_nets_filled (0 : Int32) hz_9) gi_V_X8_106 hd_V_yX1_fly ⟨rfl, rfl⟩ rfl ⟨Nat.le_of_ble_eq_true rfl, Nat.le_of_ble_eq_true rfl⟩ [15, 16, 17, 18, 5, 6, 7, 8, 9] (by decide) rfl 15 rfl rfl rfl rfl (Nat.le_of_ble_eq_true rfl) ⟨Nat.le_of_ble_eq_true rfl, Nat.le_of_ble_eq_true rfl⟩ dX8_rock_21) hG [15, 16, 17, 18, 5, 6, 7, 8, 9] rfl rfl rfl (fun H locs hG => ?_)
    clear hz_9
    refine lv_aload_n hx hb dX8_rock_24 rfl (lv_at hl 0 rfl) ?_
    refine r_get X hG in_X8 rfl 4 (by decide) w_239 0 rfl rfl dX8_rock_25 ?_
    refine lv_iload_n hx hb dX8_rock_28 rfl (lv_at hl 1 rfl) ?_
    obtain ⟨r_10, hz_11, h⟩ := bd1_some h
    refine aft_i (ws' := (W_X8 a0 a1 a2 a3 a4 a5 a6 a7 a8 a9 a10 a11 a12 a13 a14 a15 a16 a17 a18 a19 a20 a21 a22 a23 a24 a25 a26 a27 a28 a29 cI cJ c_text_bytes c_text_length c_reader_numbers c_reader_next c_laid_stand c_laid_home c_laid_priceStart c_laid_priceStep c_laid_thrown_cells c_laid_thrown_filled c_laid_nets_cells c_laid_nets_filled c_trial_stand c_trial_home c_trial_priceStart c_trial_priceStep c_trial_thrown_cells c_trial_thrown_filled c_trial_nets_cells c_trial_nets_filled k_flight_loads_cells_4 c_flight_loads_filled k_flight_order_5 k_flight_done_6 k_flight_start_7 k_flight_end_8 c_changes_who c_changes_column c_changes_was c_changes_held c_kept_older_cells c_kept_older_filled c_kept_newer_cells c_kept_newer_filled c_kept_held c_turns_need)) (run_V (rest := []) X hG hl.1 (mX1_standBehind l dC dI cI cJ a15 a16 a17 a18 k_flight_loads_cells_4 c_flight_loads_filled k_flight_order_5 k_flight_done_6 k_flight_start_7 k_flight_end_8 x1 hz_11) gi_V_X8_117 hd_V_yX1_standBehind ⟨rfl, rfl⟩ rfl ⟨Nat.le_of_ble_eq_true rfl, Nat.le_of_ble_eq_true rfl⟩ [15, 16, 17, 18] (by decide) rfl 15 rfl rfl rfl rfl (Nat.le_of_ble_eq_true rfl) ⟨Nat.le_of_ble_eq_true rfl, Nat.le_of_ble_eq_true rfl⟩ dX8_rock_29) hG [15, 16, 17, 18] rfl rfl rfl (fun H locs hG => ?_)
    clear hz_11
    cases h
    exact ret _ _ _ _ dX8_rock_32 hG
  · have h := ite_t h c_3
    refine lv_iconst (v := (-1 : Int32)) hx hb dX8_rock_10 (by decide) ?_
    cases h
    exact ret _ _ _ _ dX8_rock_11 hG
set_option maxRecDepth 100000 in
set_option maxHeartbeats 4000000 in
theorem mX8_price (l : Launch) (dC : Nat → ClassId) (dI : Nat → Nat → Nat) (cI cJ : ClassId) (a0 a1 a2 a3 a4 a5 a6 a7 a8 a9 a10 a11 a12 a13 a14 a15 a16 a17 a18 a19 a20 a21 a22 a23 a24 a25 a26 a27 a28 a29 : Nat) (c_text_bytes : Nat → Int32) (c_text_length : Int32) (c_reader_numbers : Nat → Int32) (c_reader_next : Int32) (c_laid_stand : Int32) (c_laid_home : Int32) (c_laid_priceStart : Int32) (c_laid_priceStep : Int32) (c_laid_thrown_cells : Nat → Int32) (c_laid_thrown_filled : Int32) (c_laid_nets_cells : Nat → Int32) (c_laid_nets_filled : Int32) (c_trial_stand : Int32) (c_trial_home : Int32) (c_trial_priceStart : Int32) (c_trial_priceStep : Int32) (c_trial_thrown_cells : Nat → Int32) (c_trial_thrown_filled : Int32) (c_trial_nets_cells : Nat → Int32) (c_trial_nets_filled : Int32) (c_flight_loads_cells : Nat → Int32) (c_flight_loads_filled : Int32) (c_flight_order : Nat → Int32) (c_flight_done : Int32) (c_flight_start : Int32) (c_flight_end : Int32) (c_changes_who : Nat → Int32) (c_changes_column : Nat → Int32) (c_changes_was : Nat → Int32) (c_changes_held : Int32) (c_kept_older_cells : Nat → Int32) (c_kept_older_filled : Int32) (c_kept_newer_cells : Nat → Int32) (c_kept_newer_filled : Int32) (c_kept_held : Int32) (c_turns_need : Nat → Int32) (x1 : Int32) {res : Int32} (hD : DX8_price x1 c_laid_priceStart c_laid_priceStep = some res) : Met l yX8_price (WZ yX8_price cX8_price 2 (some .int)) (RM 1 22) (PC dC dI cI cJ [.ref a0, .int x1] (W_X8 a0 a1 a2 a3 a4 a5 a6 a7 a8 a9 a10 a11 a12 a13 a14 a15 a16 a17 a18 a19 a20 a21 a22 a23 a24 a25 a26 a27 a28 a29 cI cJ c_text_bytes c_text_length c_reader_numbers c_reader_next c_laid_stand c_laid_home c_laid_priceStart c_laid_priceStep c_laid_thrown_cells c_laid_thrown_filled c_laid_nets_cells c_laid_nets_filled c_trial_stand c_trial_home c_trial_priceStart c_trial_priceStep c_trial_thrown_cells c_trial_thrown_filled c_trial_nets_cells c_trial_nets_filled c_flight_loads_cells c_flight_loads_filled c_flight_order c_flight_done c_flight_start c_flight_end c_changes_who c_changes_column c_changes_was c_changes_held c_kept_older_cells c_kept_older_filled c_kept_newer_cells c_kept_newer_filled c_kept_held c_turns_need)) (QI dC dI (W_X8 a0 a1 a2 a3 a4 a5 a6 a7 a8 a9 a10 a11 a12 a13 a14 a15 a16 a17 a18 a19 a20 a21 a22 a23 a24 a25 a26 a27 a28 a29 cI cJ c_text_bytes c_text_length c_reader_numbers c_reader_next c_laid_stand c_laid_home c_laid_priceStart c_laid_priceStep c_laid_thrown_cells c_laid_thrown_filled c_laid_nets_cells c_laid_nets_filled c_trial_stand c_trial_home c_trial_priceStart c_trial_priceStep c_trial_thrown_cells c_trial_thrown_filled c_trial_nets_cells c_trial_nets_filled c_flight_loads_cells c_flight_loads_filled c_flight_order c_flight_done c_flight_start c_flight_end c_changes_who c_changes_column c_changes_was c_changes_held c_kept_older_cells c_kept_older_filled c_kept_newer_cells c_kept_newer_filled c_kept_held c_turns_need) (W_X8 a0 a1 a2 a3 a4 a5 a6 a7 a8 a9 a10 a11 a12 a13 a14 a15 a16 a17 a18 a19 a20 a21 a22 a23 a24 a25 a26 a27 a28 a29 cI cJ c_text_bytes c_text_length c_reader_numbers c_reader_next c_laid_stand c_laid_home c_laid_priceStart c_laid_priceStep c_laid_thrown_cells c_laid_thrown_filled c_laid_nets_cells c_laid_nets_filled c_trial_stand c_trial_home c_trial_priceStart c_trial_priceStep c_trial_thrown_cells c_trial_thrown_filled c_trial_nets_cells c_trial_nets_filled c_flight_loads_cells c_flight_loads_filled c_flight_order c_flight_done c_flight_start c_flight_end c_changes_who c_changes_column c_changes_was c_changes_held c_kept_older_cells c_kept_older_filled c_kept_newer_cells c_kept_newer_filled c_kept_held c_turns_need) res) 0 0 (FA (W_X8 a0 a1 a2 a3 a4 a5 a6 a7 a8 a9 a10 a11 a12 a13 a14 a15 a16 a17 a18 a19 a20 a21 a22 a23 a24 a25 a26 a27 a28 a29 cI cJ c_text_bytes c_text_length c_reader_numbers c_reader_next c_laid_stand c_laid_home c_laid_priceStart c_laid_priceStep c_laid_thrown_cells c_laid_thrown_filled c_laid_nets_cells c_laid_nets_filled c_trial_stand c_trial_home c_trial_priceStart c_trial_priceStep c_trial_thrown_cells c_trial_thrown_filled c_trial_nets_cells c_trial_nets_filled c_flight_loads_cells c_flight_loads_filled c_flight_order c_flight_done c_flight_start c_flight_end c_changes_who c_changes_column c_changes_was c_changes_held c_kept_older_cells c_kept_older_filled c_kept_newer_cells c_kept_newer_filled c_kept_held c_turns_need)) := by
  refine r_metI (by decide +kernel) (Nat.le_of_ble_eq_true rfl) ?_
  intro p e s m args below meth c A H0 QQ X ret ls hl hG
  have X : Cx p m c cX8_price 2 s args RX8 dC dI cI cJ meth (some .int) := X
  have hx := X.1.1
  have hb := X.1.2.1
  have hl : lv_has ls 2 [(0, .ref a0), (1, .int x1)] := hl
  have h := hD
  unfold DX8_price at h
  clear hD
  refine lv_iload_n hx hb dX8_price_0 rfl (lv_at hl 1 rfl) ?_
  refine lv_iconst (v := (0 : Int32)) hx hb dX8_price_1 (by decide) ?_
  refine lv_bipush (v := (99 : Int32)) hx hb dX8_price_2 (by decide) ?_
  obtain ⟨r_1, hz_2, h⟩ := bd1_some h
  refine aft_i (ws' := (W_X8 a0 a1 a2 a3 a4 a5 a6 a7 a8 a9 a10 a11 a12 a13 a14 a15 a16 a17 a18 a19 a20 a21 a22 a23 a24 a25 a26 a27 a28 a29 cI cJ c_text_bytes c_text_length c_reader_numbers c_reader_next c_laid_stand c_laid_home c_laid_priceStart c_laid_priceStep c_laid_thrown_cells c_laid_thrown_filled c_laid_nets_cells c_laid_nets_filled c_trial_stand c_trial_home c_trial_priceStart c_trial_priceStep c_trial_thrown_cells c_trial_thrown_filled c_trial_nets_cells c_trial_nets_filled c_flight_loads_cells c_flight_loads_filled c_flight_order c_flight_done c_flight_start c_flight_end c_changes_who c_changes_column c_changes_was c_changes_held c_kept_older_cells c_kept_older_filled c_kept_newer_cells c_kept_newer_filled c_kept_held c_turns_need)) (run_S (rest := []) X hG hl.1 (mX8_within l dC dI cI cJ x1 (0 : Int32) (99 : Int32) hz_2) gi_S_X8_74 hd_S_yX8_within ⟨rfl, rfl⟩ rfl ⟨Nat.le_of_ble_eq_true rfl, Nat.le_of_ble_eq_true rfl⟩ [] (by decide) rfl rfl (Nat.le_of_ble_eq_true rfl) ⟨Nat.le_of_ble_eq_true rfl, Nat.le_of_ble_eq_true rfl⟩ dX8_price_4) hG [] rfl rfl rfl (fun H locs hG => ?_)
  clear hz_2
  refine lv_if_eq (tgt := 21) hx hb dX8_price_7 (by decide) (fun c_3 => ?_) (fun c_3 => ?_)
  · have h := ite_t h c_3
    refine lv_iconst (v := (-1 : Int32)) hx hb dX8_price_21 (by decide) ?_
    cases h
    exact ret _ _ _ _ dX8_price_22 hG
  · have h := ite_f h c_3
    refine lv_aload_n hx hb dX8_price_10 rfl (lv_at hl 0 rfl) ?_
    refine r_get X hG in_X8 rfl 2 (by decide) w_237 0 rfl rfl dX8_price_11 ?_
    refine lv_iload_n hx hb dX8_price_14 rfl (lv_at hl 1 rfl) ?_
    obtain ⟨r_4, hz_5, h⟩ := bd1_some h
    refine aft_i (ws' := (W_X8 a0 a1 a2 a3 a4 a5 a6 a7 a8 a9 a10 a11 a12 a13 a14 a15 a16 a17 a18 a19 a20 a21 a22 a23 a24 a25 a26 a27 a28 a29 cI cJ c_text_bytes c_text_length c_reader_numbers c_reader_next c_laid_stand c_laid_home c_laid_priceStart c_laid_priceStep c_laid_thrown_cells c_laid_thrown_filled c_laid_nets_cells c_laid_nets_filled c_trial_stand c_trial_home c_trial_priceStart c_trial_priceStep c_trial_thrown_cells c_trial_thrown_filled c_trial_nets_cells c_trial_nets_filled c_flight_loads_cells c_flight_loads_filled c_flight_order c_flight_done c_flight_start c_flight_end c_changes_who c_changes_column c_changes_was c_changes_held c_kept_older_cells c_kept_older_filled c_kept_newer_cells c_kept_newer_filled c_kept_held c_turns_need)) (run_V (rest := []) X hG hl.1 (mX3_priceOn l dC dI cI cJ a5 a6 a7 a8 a9 c_laid_stand c_laid_home c_laid_priceStart c_laid_priceStep c_laid_thrown_cells c_laid_thrown_filled c_laid_nets_cells c_laid_nets_filled x1 hz_5) gi_V_X8_121 hd_V_yX3_priceOn ⟨rfl, rfl⟩ rfl ⟨Nat.le_of_ble_eq_true rfl, Nat.le_of_ble_eq_true rfl⟩ [5, 6, 7, 8, 9] (by decide) rfl 5 rfl rfl rfl rfl (Nat.le_of_ble_eq_true rfl) ⟨Nat.le_of_ble_eq_true rfl, Nat.le_of_ble_eq_true rfl⟩ dX8_price_15) hG [5, 6, 7, 8, 9] rfl rfl rfl (fun H locs hG => ?_)
    clear hz_5
    refine lv_goto (tgt := 22) hx hb dX8_price_18 (by decide) ?_
    cases h
    exact ret _ _ _ _ dX8_price_22 hG
set_option maxRecDepth 100000 in
set_option maxHeartbeats 4000000 in
theorem mX8_all (l : Launch) (dC : Nat → ClassId) (dI : Nat → Nat → Nat) (cI cJ : ClassId) (a0 a1 a2 a3 a4 a5 a6 a7 a8 a9 a10 a11 a12 a13 a14 a15 a16 a17 a18 a19 a20 a21 a22 a23 a24 a25 a26 a27 a28 a29 : Nat) (c_text_bytes : Nat → Int32) (c_text_length : Int32) (c_reader_numbers : Nat → Int32) (c_reader_next : Int32) (c_laid_stand : Int32) (c_laid_home : Int32) (c_laid_priceStart : Int32) (c_laid_priceStep : Int32) (c_laid_thrown_cells : Nat → Int32) (c_laid_thrown_filled : Int32) (c_laid_nets_cells : Nat → Int32) (c_laid_nets_filled : Int32) (c_trial_stand : Int32) (c_trial_home : Int32) (c_trial_priceStart : Int32) (c_trial_priceStep : Int32) (c_trial_thrown_cells : Nat → Int32) (c_trial_thrown_filled : Int32) (c_trial_nets_cells : Nat → Int32) (c_trial_nets_filled : Int32) (c_flight_loads_cells : Nat → Int32) (c_flight_loads_filled : Int32) (c_flight_order : Nat → Int32) (c_flight_done : Int32) (c_flight_start : Int32) (c_flight_end : Int32) (c_changes_who : Nat → Int32) (c_changes_column : Nat → Int32) (c_changes_was : Nat → Int32) (c_changes_held : Int32) (c_kept_older_cells : Nat → Int32) (c_kept_older_filled : Int32) (c_kept_newer_cells : Nat → Int32) (c_kept_newer_filled : Int32) (c_kept_held : Int32) (c_turns_need : Nat → Int32) (x1 : Int32) {res : Int32} {n_flight_loads_cells : Nat → Int32} {n_flight_order : Nat → Int32} {n_flight_done : Int32} {n_flight_start : Int32} {n_flight_end : Int32} (hD : DX8_all x1 c_laid_stand c_laid_home c_laid_priceStart c_laid_priceStep c_laid_thrown_cells c_laid_thrown_filled c_laid_nets_cells c_laid_nets_filled c_flight_loads_cells c_flight_order c_flight_done c_flight_start c_flight_end = some (res, n_flight_loads_cells, n_flight_order, n_flight_done, n_flight_start, n_flight_end)) : Met l yX8_all (WZ yX8_all cX8_all 2 (some .int)) (RM 6 143) (PC dC dI cI cJ [.ref a0, .int x1] (W_X8 a0 a1 a2 a3 a4 a5 a6 a7 a8 a9 a10 a11 a12 a13 a14 a15 a16 a17 a18 a19 a20 a21 a22 a23 a24 a25 a26 a27 a28 a29 cI cJ c_text_bytes c_text_length c_reader_numbers c_reader_next c_laid_stand c_laid_home c_laid_priceStart c_laid_priceStep c_laid_thrown_cells c_laid_thrown_filled c_laid_nets_cells c_laid_nets_filled c_trial_stand c_trial_home c_trial_priceStart c_trial_priceStep c_trial_thrown_cells c_trial_thrown_filled c_trial_nets_cells c_trial_nets_filled c_flight_loads_cells c_flight_loads_filled c_flight_order c_flight_done c_flight_start c_flight_end c_changes_who c_changes_column c_changes_was c_changes_held c_kept_older_cells c_kept_older_filled c_kept_newer_cells c_kept_newer_filled c_kept_held c_turns_need)) (QI dC dI (W_X8 a0 a1 a2 a3 a4 a5 a6 a7 a8 a9 a10 a11 a12 a13 a14 a15 a16 a17 a18 a19 a20 a21 a22 a23 a24 a25 a26 a27 a28 a29 cI cJ c_text_bytes c_text_length c_reader_numbers c_reader_next c_laid_stand c_laid_home c_laid_priceStart c_laid_priceStep c_laid_thrown_cells c_laid_thrown_filled c_laid_nets_cells c_laid_nets_filled c_trial_stand c_trial_home c_trial_priceStart c_trial_priceStep c_trial_thrown_cells c_trial_thrown_filled c_trial_nets_cells c_trial_nets_filled c_flight_loads_cells c_flight_loads_filled c_flight_order c_flight_done c_flight_start c_flight_end c_changes_who c_changes_column c_changes_was c_changes_held c_kept_older_cells c_kept_older_filled c_kept_newer_cells c_kept_newer_filled c_kept_held c_turns_need) (W_X8 a0 a1 a2 a3 a4 a5 a6 a7 a8 a9 a10 a11 a12 a13 a14 a15 a16 a17 a18 a19 a20 a21 a22 a23 a24 a25 a26 a27 a28 a29 cI cJ c_text_bytes c_text_length c_reader_numbers c_reader_next c_laid_stand c_laid_home c_laid_priceStart c_laid_priceStep c_laid_thrown_cells c_laid_thrown_filled c_laid_nets_cells c_laid_nets_filled c_trial_stand c_trial_home c_trial_priceStart c_trial_priceStep c_trial_thrown_cells c_trial_thrown_filled c_trial_nets_cells c_trial_nets_filled n_flight_loads_cells c_flight_loads_filled n_flight_order n_flight_done n_flight_start n_flight_end c_changes_who c_changes_column c_changes_was c_changes_held c_kept_older_cells c_kept_older_filled c_kept_newer_cells c_kept_newer_filled c_kept_held c_turns_need) res) 0 0 (FA (W_X8 a0 a1 a2 a3 a4 a5 a6 a7 a8 a9 a10 a11 a12 a13 a14 a15 a16 a17 a18 a19 a20 a21 a22 a23 a24 a25 a26 a27 a28 a29 cI cJ c_text_bytes c_text_length c_reader_numbers c_reader_next c_laid_stand c_laid_home c_laid_priceStart c_laid_priceStep c_laid_thrown_cells c_laid_thrown_filled c_laid_nets_cells c_laid_nets_filled c_trial_stand c_trial_home c_trial_priceStart c_trial_priceStep c_trial_thrown_cells c_trial_thrown_filled c_trial_nets_cells c_trial_nets_filled c_flight_loads_cells c_flight_loads_filled c_flight_order c_flight_done c_flight_start c_flight_end c_changes_who c_changes_column c_changes_was c_changes_held c_kept_older_cells c_kept_older_filled c_kept_newer_cells c_kept_newer_filled c_kept_held c_turns_need)) := by
  refine r_metI (by decide +kernel) (Nat.le_of_ble_eq_true rfl) ?_
  intro p e s m args below meth c A H0 QQ X ret ls hl hG
  have X : Cx p m c cX8_all 2 s args RX8 dC dI cI cJ meth (some .int) := X
  have hx := X.1.1
  have hb := X.1.2.1
  have hl : lv_has ls 2 [(0, .ref a0), (1, .int x1)] := hl
  have h := hD
  unfold DX8_all at h
  clear hD
  refine lv_iload_n hx hb dX8_all_0 rfl (lv_at hl 1 rfl) ?_
  refine lv_iconst (v := (0 : Int32)) hx hb dX8_all_1 (by decide) ?_
  refine lv_iconst (v := (3 : Int32)) hx hb dX8_all_2 (by decide) ?_
  obtain ⟨r_1, hz_2, h⟩ := bd1_some h
  refine aft_i (ws' := (W_X8 a0 a1 a2 a3 a4 a5 a6 a7 a8 a9 a10 a11 a12 a13 a14 a15 a16 a17 a18 a19 a20 a21 a22 a23 a24 a25 a26 a27 a28 a29 cI cJ c_text_bytes c_text_length c_reader_numbers c_reader_next c_laid_stand c_laid_home c_laid_priceStart c_laid_priceStep c_laid_thrown_cells c_laid_thrown_filled c_laid_nets_cells c_laid_nets_filled c_trial_stand c_trial_home c_trial_priceStart c_trial_priceStep c_trial_thrown_cells c_trial_thrown_filled c_trial_nets_cells c_trial_nets_filled c_flight_loads_cells c_flight_loads_filled c_flight_order c_flight_done c_flight_start c_flight_end c_changes_who c_changes_column c_changes_was c_changes_held c_kept_older_cells c_kept_older_filled c_kept_newer_cells c_kept_newer_filled c_kept_held c_turns_need)) (run_S (rest := []) X hG hl.1 (mX8_within l dC dI cI cJ x1 (0 : Int32) (3 : Int32) hz_2) gi_S_X8_74 hd_S_yX8_within ⟨rfl, rfl⟩ rfl ⟨Nat.le_of_ble_eq_true rfl, Nat.le_of_ble_eq_true rfl⟩ [] (by decide) rfl rfl (Nat.le_of_ble_eq_true rfl) ⟨Nat.le_of_ble_eq_true rfl, Nat.le_of_ble_eq_true rfl⟩ dX8_all_3) hG [] rfl rfl rfl (fun H locs hG => ?_)
  clear hz_2
  refine lv_if_ne (tgt := 11) hx hb dX8_all_6 (by decide) (fun c_3 => ?_) (fun c_3 => ?_)
  · have h := ite_f h c_3
    refine lv_aload_n hx hb dX8_all_11 rfl (lv_at hl 0 rfl) ?_
    refine r_get X hG in_X8 rfl 4 (by decide) w_239 0 rfl rfl dX8_all_12 ?_
    refine lv_aload_n hx hb dX8_all_15 rfl (lv_at hl 0 rfl) ?_
    refine r_get X hG in_X8 rfl 2 (by decide) w_237 0 rfl rfl dX8_all_16 ?_
    refine lv_iconst (v := (0 : Int32)) hx hb dX8_all_19 (by decide) ?_
    obtain ⟨k_flight_loads_cells_4, k_flight_order_5, k_flight_done_6, k_flight_start_7, k_flight_end_8, hz_9, h⟩ := bd5_some h
    refine aft_v (ws' := (W_X8 a0 a1 a2 a3 a4 a5 a6 a7 a8 a9 a10 a11 a12 a13 a14 a15 a16 a17 a18 a19 a20 a21 a22 a23 a24 a25 a26 a27 a28 a29 cI cJ c_text_bytes c_text_length c_reader_numbers c_reader_next c_laid_stand c_laid_home c_laid_priceStart c_laid_priceStep c_laid_thrown_cells c_laid_thrown_filled c_laid_nets_cells c_laid_nets_filled c_trial_stand c_trial_home c_trial_priceStart c_trial_priceStep c_trial_thrown_cells c_trial_thrown_filled c_trial_nets_cells c_trial_nets_filled k_flight_loads_cells_4 c_flight_loads_filled k_flight_order_5 k_flight_done_6 k_flight_start_7 k_flight_end_8 c_changes_who c_changes_column c_changes_was c_changes_held c_kept_older_cells c_kept_older_filled c_kept_newer_cells c_kept_newer_filled c_kept_held c_turns_need)) (run_V (rest := []) X hG hl.1 (mX1_fly l dC dI cI cJ a15 a16 a17 a18 a5 a6 a7 a8 a9 c_flight_loads_cells c_flight_loads_filled c_flight_order c_flight_done c_flight_start c_flight_end c_laid_stand c_laid_home c_laid_priceStart c_laid_priceStep c_laid_thrown_cells c_laid_thrown_filled c_laid_nets_cells c_laid_nets_filled (0 : Int32) hz_9) gi_V_X8_106 hd_V_yX1_fly ⟨rfl, rfl⟩ rfl ⟨Nat.le_of_ble_eq_true rfl, Nat.le_of_ble_eq_true rfl⟩ [15, 16, 17, 18, 5, 6, 7, 8, 9] (by decide) rfl 15 rfl rfl rfl rfl (Nat.le_of_ble_eq_true rfl) ⟨Nat.le_of_ble_eq_true rfl, Nat.le_of_ble_eq_true rfl⟩ dX8_all_20) hG [15, 16, 17, 18, 5, 6, 7, 8, 9] rfl rfl rfl (fun H locs hG => ?_)
    clear hz_9
    refine lv_iload_n hx hb dX8_all_23 rfl (lv_at hl 1 rfl) ?_
    refine lv_iconst (v := (3 : Int32)) hx hb dX8_all_24 (by decide) ?_
    refine lv_icmp_ne (tgt := 38) hx hb dX8_all_25 (by decide) (fun c_10 => ?_) (fun c_10 => ?_)
    · have h := ite_f h c_10
      refine lv_aload_n hx hb dX8_all_38 rfl (lv_at hl 0 rfl) ?_
      refine r_get X hG in_X8 rfl 4 (by decide) w_239 0 rfl rfl dX8_all_39 ?_
      refine lv_iload_n hx hb dX8_all_42 rfl (lv_at hl 1 rfl) ?_
      obtain ⟨r_11, hz_12, h⟩ := bd1_some h
      refine aft_i (ws' := (W_X8 a0 a1 a2 a3 a4 a5 a6 a7 a8 a9 a10 a11 a12 a13 a14 a15 a16 a17 a18 a19 a20 a21 a22 a23 a24 a25 a26 a27 a28 a29 cI cJ c_text_bytes c_text_length c_reader_numbers c_reader_next c_laid_stand c_laid_home c_laid_priceStart c_laid_priceStep c_laid_thrown_cells c_laid_thrown_filled c_laid_nets_cells c_laid_nets_filled c_trial_stand c_trial_home c_trial_priceStart c_trial_priceStep c_trial_thrown_cells c_trial_thrown_filled c_trial_nets_cells c_trial_nets_filled k_flight_loads_cells_4 c_flight_loads_filled k_flight_order_5 k_flight_done_6 k_flight_start_7 k_flight_end_8 c_changes_who c_changes_column c_changes_was c_changes_held c_kept_older_cells c_kept_older_filled c_kept_newer_cells c_kept_newer_filled c_kept_held c_turns_need)) (run_V (rest := []) X hG hl.1 (mX1_howMany l dC dI cI cJ a15 a16 a17 a18 k_flight_loads_cells_4 c_flight_loads_filled k_flight_order_5 k_flight_done_6 k_flight_start_7 k_flight_end_8 x1 hz_12) gi_V_X8_127 hd_V_yX1_howMany ⟨rfl, rfl⟩ rfl ⟨Nat.le_of_ble_eq_true rfl, Nat.le_of_ble_eq_true rfl⟩ [15, 16, 17, 18] (by decide) rfl 15 rfl rfl rfl rfl (Nat.le_of_ble_eq_true rfl) ⟨Nat.le_of_ble_eq_true rfl, Nat.le_of_ble_eq_true rfl⟩ dX8_all_43) hG [15, 16, 17, 18] rfl rfl rfl (fun H locs hG => ?_)
      clear hz_12
      cases h
      exact ret _ _ _ _ dX8_all_46 hG
    · have h := ite_t h c_10
      refine lv_aload_n hx hb dX8_all_28 rfl (lv_at hl 0 rfl) ?_
      refine r_get X hG in_X8 rfl 4 (by decide) w_239 0 rfl rfl dX8_all_29 ?_
      obtain ⟨r_13, hz_14, h⟩ := bd1_some h
      refine aft_i (ws' := (W_X8 a0 a1 a2 a3 a4 a5 a6 a7 a8 a9 a10 a11 a12 a13 a14 a15 a16 a17 a18 a19 a20 a21 a22 a23 a24 a25 a26 a27 a28 a29 cI cJ c_text_bytes c_text_length c_reader_numbers c_reader_next c_laid_stand c_laid_home c_laid_priceStart c_laid_priceStep c_laid_thrown_cells c_laid_thrown_filled c_laid_nets_cells c_laid_nets_filled c_trial_stand c_trial_home c_trial_priceStart c_trial_priceStep c_trial_thrown_cells c_trial_thrown_filled c_trial_nets_cells c_trial_nets_filled k_flight_loads_cells_4 c_flight_loads_filled k_flight_order_5 k_flight_done_6 k_flight_start_7 k_flight_end_8 c_changes_who c_changes_column c_changes_was c_changes_held c_kept_older_cells c_kept_older_filled c_kept_newer_cells c_kept_newer_filled c_kept_held c_turns_need)) (run_V (rest := []) X hG hl.1 (mX1_paidInAll l dC dI cI cJ a15 a16 a17 a18 k_flight_loads_cells_4 c_flight_loads_filled k_flight_order_5 k_flight_done_6 k_flight_start_7 k_flight_end_8 hz_14) gi_V_X8_124 hd_V_yX1_paidInAll ⟨rfl, rfl⟩ rfl ⟨Nat.le_of_ble_eq_true rfl, Nat.le_of_ble_eq_true rfl⟩ [15, 16, 17, 18] (by decide) rfl 15 rfl rfl rfl rfl (Nat.le_of_ble_eq_true rfl) ⟨Nat.le_of_ble_eq_true rfl, Nat.le_of_ble_eq_true rfl⟩ dX8_all_32) hG [15, 16, 17, 18] rfl rfl rfl (fun H locs hG => ?_)
      clear hz_14
      refine lv_goto (tgt := 46) hx hb dX8_all_35 (by decide) ?_
      cases h
      exact ret _ _ _ _ dX8_all_46 hG
  · have h := ite_t h c_3
    refine lv_iconst (v := (-1 : Int32)) hx hb dX8_all_9 (by decide) ?_
    cases h
    exact ret _ _ _ _ dX8_all_10 hG
set_option maxRecDepth 100000 in
set_option maxHeartbeats 4000000 in
theorem mX8_change (l : Launch) (dC : Nat → ClassId) (dI : Nat → Nat → Nat) (cI cJ : ClassId) (a0 a1 a2 a3 a4 a5 a6 a7 a8 a9 a10 a11 a12 a13 a14 a15 a16 a17 a18 a19 a20 a21 a22 a23 a24 a25 a26 a27 a28 a29 : Nat) (c_text_bytes : Nat → Int32) (c_text_length : Int32) (c_reader_numbers : Nat → Int32) (c_reader_next : Int32) (c_laid_stand : Int32) (c_laid_home : Int32) (c_laid_priceStart : Int32) (c_laid_priceStep : Int32) (c_laid_thrown_cells : Nat → Int32) (c_laid_thrown_filled : Int32) (c_laid_nets_cells : Nat → Int32) (c_laid_nets_filled : Int32) (c_trial_stand : Int32) (c_trial_home : Int32) (c_trial_priceStart : Int32) (c_trial_priceStep : Int32) (c_trial_thrown_cells : Nat → Int32) (c_trial_thrown_filled : Int32) (c_trial_nets_cells : Nat → Int32) (c_trial_nets_filled : Int32) (c_flight_loads_cells : Nat → Int32) (c_flight_loads_filled : Int32) (c_flight_order : Nat → Int32) (c_flight_done : Int32) (c_flight_start : Int32) (c_flight_end : Int32) (c_changes_who : Nat → Int32) (c_changes_column : Nat → Int32) (c_changes_was : Nat → Int32) (c_changes_held : Int32) (c_kept_older_cells : Nat → Int32) (c_kept_older_filled : Int32) (c_kept_newer_cells : Nat → Int32) (c_kept_newer_filled : Int32) (c_kept_held : Int32) (c_turns_need : Nat → Int32) (x1 : Int32) (x2 : Int32) (x3 : Int32) (x4 : Int32) {res : Int32} {n_laid_thrown_cells : Nat → Int32} {n_changes_who : Nat → Int32} {n_changes_column : Nat → Int32} {n_changes_was : Nat → Int32} {n_changes_held : Int32} (hD : DX8_change x1 x2 x3 x4 c_laid_thrown_cells c_laid_thrown_filled c_changes_who c_changes_column c_changes_was c_changes_held = some (res, n_laid_thrown_cells, n_changes_who, n_changes_column, n_changes_was, n_changes_held)) : Met l yX8_change (WZ yX8_change cX8_change 6 (some .int)) (RM 3 66) (PC dC dI cI cJ [.ref a0, .int x1, .int x2, .int x3, .int x4] (W_X8 a0 a1 a2 a3 a4 a5 a6 a7 a8 a9 a10 a11 a12 a13 a14 a15 a16 a17 a18 a19 a20 a21 a22 a23 a24 a25 a26 a27 a28 a29 cI cJ c_text_bytes c_text_length c_reader_numbers c_reader_next c_laid_stand c_laid_home c_laid_priceStart c_laid_priceStep c_laid_thrown_cells c_laid_thrown_filled c_laid_nets_cells c_laid_nets_filled c_trial_stand c_trial_home c_trial_priceStart c_trial_priceStep c_trial_thrown_cells c_trial_thrown_filled c_trial_nets_cells c_trial_nets_filled c_flight_loads_cells c_flight_loads_filled c_flight_order c_flight_done c_flight_start c_flight_end c_changes_who c_changes_column c_changes_was c_changes_held c_kept_older_cells c_kept_older_filled c_kept_newer_cells c_kept_newer_filled c_kept_held c_turns_need)) (QI dC dI (W_X8 a0 a1 a2 a3 a4 a5 a6 a7 a8 a9 a10 a11 a12 a13 a14 a15 a16 a17 a18 a19 a20 a21 a22 a23 a24 a25 a26 a27 a28 a29 cI cJ c_text_bytes c_text_length c_reader_numbers c_reader_next c_laid_stand c_laid_home c_laid_priceStart c_laid_priceStep c_laid_thrown_cells c_laid_thrown_filled c_laid_nets_cells c_laid_nets_filled c_trial_stand c_trial_home c_trial_priceStart c_trial_priceStep c_trial_thrown_cells c_trial_thrown_filled c_trial_nets_cells c_trial_nets_filled c_flight_loads_cells c_flight_loads_filled c_flight_order c_flight_done c_flight_start c_flight_end c_changes_who c_changes_column c_changes_was c_changes_held c_kept_older_cells c_kept_older_filled c_kept_newer_cells c_kept_newer_filled c_kept_held c_turns_need) (W_X8 a0 a1 a2 a3 a4 a5 a6 a7 a8 a9 a10 a11 a12 a13 a14 a15 a16 a17 a18 a19 a20 a21 a22 a23 a24 a25 a26 a27 a28 a29 cI cJ c_text_bytes c_text_length c_reader_numbers c_reader_next c_laid_stand c_laid_home c_laid_priceStart c_laid_priceStep n_laid_thrown_cells c_laid_thrown_filled c_laid_nets_cells c_laid_nets_filled c_trial_stand c_trial_home c_trial_priceStart c_trial_priceStep c_trial_thrown_cells c_trial_thrown_filled c_trial_nets_cells c_trial_nets_filled c_flight_loads_cells c_flight_loads_filled c_flight_order c_flight_done c_flight_start c_flight_end n_changes_who n_changes_column n_changes_was n_changes_held c_kept_older_cells c_kept_older_filled c_kept_newer_cells c_kept_newer_filled c_kept_held c_turns_need) res) 0 0 (FA (W_X8 a0 a1 a2 a3 a4 a5 a6 a7 a8 a9 a10 a11 a12 a13 a14 a15 a16 a17 a18 a19 a20 a21 a22 a23 a24 a25 a26 a27 a28 a29 cI cJ c_text_bytes c_text_length c_reader_numbers c_reader_next c_laid_stand c_laid_home c_laid_priceStart c_laid_priceStep c_laid_thrown_cells c_laid_thrown_filled c_laid_nets_cells c_laid_nets_filled c_trial_stand c_trial_home c_trial_priceStart c_trial_priceStep c_trial_thrown_cells c_trial_thrown_filled c_trial_nets_cells c_trial_nets_filled c_flight_loads_cells c_flight_loads_filled c_flight_order c_flight_done c_flight_start c_flight_end c_changes_who c_changes_column c_changes_was c_changes_held c_kept_older_cells c_kept_older_filled c_kept_newer_cells c_kept_newer_filled c_kept_held c_turns_need)) := by
  refine r_metI (by decide +kernel) (Nat.le_of_ble_eq_true rfl) ?_
  intro p e s m args below meth c A H0 QQ X ret ls hl hG
  have X : Cx p m c cX8_change 6 s args RX8 dC dI cI cJ meth (some .int) := X
  have hx := X.1.1
  have hb := X.1.2.1
  have hl : lv_has ls 6 [(0, .ref a0), (1, .int x1), (2, .int x2), (3, .int x3), (4, .int x4)] := hl
  have h := hD
  unfold DX8_change at h
  clear hD
  refine lv_aload_n hx hb dX8_change_0 rfl (lv_at hl 0 rfl) ?_
  refine r_get X hG in_X8 rfl 2 (by decide) w_237 0 rfl rfl dX8_change_1 ?_
  refine r_getN X hG in_X3 rfl 4 (by decide) w_136 5 rfl rfl dX8_change_4 ?_
  refine lv_iload_n hx hb dX8_change_7 rfl (lv_at hl 1 rfl) ?_
  obtain ⟨r_1, hz_2, h⟩ := bd1_some h
  refine aft_i (ws' := (W_X8 a0 a1 a2 a3 a4 a5 a6 a7 a8 a9 a10 a11 a12 a13 a14 a15 a16 a17 a18 a19 a20 a21 a22 a23 a24 a25 a26 a27 a28 a29 cI cJ c_text_bytes c_text_length c_reader_numbers c_reader_next c_laid_stand c_laid_home c_laid_priceStart c_laid_priceStep c_laid_thrown_cells c_laid_thrown_filled c_laid_nets_cells c_laid_nets_filled c_trial_stand c_trial_home c_trial_priceStart c_trial_priceStep c_trial_thrown_cells c_trial_thrown_filled c_trial_nets_cells c_trial_nets_filled c_flight_loads_cells c_flight_loads_filled c_flight_order c_flight_done c_flight_start c_flight_end c_changes_who c_changes_column c_changes_was c_changes_held c_kept_older_cells c_kept_older_filled c_kept_newer_cells c_kept_newer_filled c_kept_held c_turns_need)) (run_V (rest := []) X hG hl.1 (mX5_has l dC dI cI cJ a6 a7 (7 : Int32) (4 : Int32) 28 c_laid_thrown_cells c_laid_thrown_filled x1 hz_2) gi_V_X8_102 hd_V_yX5_has ⟨rfl, rfl⟩ rfl ⟨Nat.le_of_ble_eq_true rfl, Nat.le_of_ble_eq_true rfl⟩ [6, 7] (by decide) rfl 6 rfl rfl rfl rfl (Nat.le_of_ble_eq_true rfl) ⟨Nat.le_of_ble_eq_true rfl, Nat.le_of_ble_eq_true rfl⟩ dX8_change_8) hG [6, 7] rfl rfl rfl (fun H locs hG => ?_)
  clear hz_2
  refine lv_if_eq (tgt := 19) hx hb dX8_change_11 (by decide) (fun c_3 => ?_) (fun c_3 => ?_)
  · have h := ite_t h c_3
    refine lv_iconst (v := (-1 : Int32)) hx hb dX8_change_19 (by decide) ?_
    cases h
    exact ret _ _ _ _ dX8_change_20 hG
  · have h := ite_f h c_3
    refine lv_iload hx hb dX8_change_14 (lv_at hl 4 rfl) ?_
    refine lv_if_ne (tgt := 21) hx hb dX8_change_16 (by decide) (fun c_4 => ?_) (fun c_4 => ?_)
    · have h := ite_f h c_4
      refine lv_aload_n hx hb dX8_change_21 rfl (lv_at hl 0 rfl) ?_
      refine r_get X hG in_X8 rfl 2 (by decide) w_237 0 rfl rfl dX8_change_22 ?_
      refine r_getN X hG in_X3 rfl 4 (by decide) w_136 5 rfl rfl dX8_change_25 ?_
      refine lv_iload_n hx hb dX8_change_28 rfl (lv_at hl 1 rfl) ?_
      refine lv_iload_n hx hb dX8_change_29 rfl (lv_at hl 2 rfl) ?_
      obtain ⟨r_5, hz_6, h⟩ := bd1_some h
      refine aft_i (ws' := (W_X8 a0 a1 a2 a3 a4 a5 a6 a7 a8 a9 a10 a11 a12 a13 a14 a15 a16 a17 a18 a19 a20 a21 a22 a23 a24 a25 a26 a27 a28 a29 cI cJ c_text_bytes c_text_length c_reader_numbers c_reader_next c_laid_stand c_laid_home c_laid_priceStart c_laid_priceStep c_laid_thrown_cells c_laid_thrown_filled c_laid_nets_cells c_laid_nets_filled c_trial_stand c_trial_home c_trial_priceStart c_trial_priceStep c_trial_thrown_cells c_trial_thrown_filled c_trial_nets_cells c_trial_nets_filled c_flight_loads_cells c_flight_loads_filled c_flight_order c_flight_done c_flight_start c_flight_end c_changes_who c_changes_column c_changes_was c_changes_held c_kept_older_cells c_kept_older_filled c_kept_newer_cells c_kept_newer_filled c_kept_held c_turns_need)) (run_V (rest := []) X hG hl.1 (mX5_get l dC dI cI cJ a6 a7 (7 : Int32) (4 : Int32) 28 c_laid_thrown_cells c_laid_thrown_filled x1 x2 hz_6) gi_V_X8_141 hd_V_yX5_get ⟨rfl, rfl⟩ rfl ⟨Nat.le_of_ble_eq_true rfl, Nat.le_of_ble_eq_true rfl⟩ [6, 7] (by decide) rfl 6 rfl rfl rfl rfl (Nat.le_of_ble_eq_true rfl) ⟨Nat.le_of_ble_eq_true rfl, Nat.le_of_ble_eq_true rfl⟩ dX8_change_30) hG [6, 7] rfl rfl rfl (fun H locs hG => ?_)
      clear hz_6
      refine lv_istore (lv' := [(5, .int r_5), (0, .ref a0), (1, .int x1), (2, .int x2), (3, .int x3), (4, .int x4)]) hx hb dX8_change_33 hl (by decide) rfl (fun ls hl => ?_)
      refine lv_aload_n hx hb dX8_change_35 rfl (lv_at hl 1 rfl) ?_
      refine r_get X hG in_X8 rfl 5 (by decide) w_240 0 rfl rfl dX8_change_36 ?_
      refine lv_iload_n hx hb dX8_change_39 rfl (lv_at hl 2 rfl) ?_
      refine lv_iload_n hx hb dX8_change_40 rfl (lv_at hl 3 rfl) ?_
      refine lv_iload hx hb dX8_change_41 (lv_at hl 0 rfl) ?_
      obtain ⟨k_changes_who_7, k_changes_column_8, k_changes_was_9, k_changes_held_10, hz_11, h⟩ := bd4_some h
      refine aft_v (ws' := (W_X8 a0 a1 a2 a3 a4 a5 a6 a7 a8 a9 a10 a11 a12 a13 a14 a15 a16 a17 a18 a19 a20 a21 a22 a23 a24 a25 a26 a27 a28 a29 cI cJ c_text_bytes c_text_length c_reader_numbers c_reader_next c_laid_stand c_laid_home c_laid_priceStart c_laid_priceStep c_laid_thrown_cells c_laid_thrown_filled c_laid_nets_cells c_laid_nets_filled c_trial_stand c_trial_home c_trial_priceStart c_trial_priceStep c_trial_thrown_cells c_trial_thrown_filled c_trial_nets_cells c_trial_nets_filled c_flight_loads_cells c_flight_loads_filled c_flight_order c_flight_done c_flight_start c_flight_end k_changes_who_7 k_changes_column_8 k_changes_was_9 k_changes_held_10 c_kept_older_cells c_kept_older_filled c_kept_newer_cells c_kept_newer_filled c_kept_held c_turns_need)) (run_V (rest := []) X hG hl.1 (mX0_note l dC dI cI cJ a19 a20 a21 a22 c_changes_who c_changes_column c_changes_was c_changes_held x1 x2 r_5 hz_11) gi_V_X8_144 hd_V_yX0_note ⟨rfl, rfl⟩ rfl ⟨Nat.le_of_ble_eq_true rfl, Nat.le_of_ble_eq_true rfl⟩ [19, 20, 21, 22] (by decide) rfl 19 rfl rfl rfl rfl (Nat.le_of_ble_eq_true rfl) ⟨Nat.le_of_ble_eq_true rfl, Nat.le_of_ble_eq_true rfl⟩ dX8_change_43) hG [19, 20, 21, 22] rfl rfl rfl (fun H locs hG => ?_)
      clear hz_11
      refine lv_aload_n hx hb dX8_change_46 rfl (lv_at hl 1 rfl) ?_
      refine r_get X hG in_X8 rfl 2 (by decide) w_237 0 rfl rfl dX8_change_47 ?_
      refine r_getN X hG in_X3 rfl 4 (by decide) w_136 5 rfl rfl dX8_change_50 ?_
      refine lv_iload_n hx hb dX8_change_53 rfl (lv_at hl 2 rfl) ?_
      refine lv_iload_n hx hb dX8_change_54 rfl (lv_at hl 3 rfl) ?_
      refine lv_iload_n hx hb dX8_change_55 rfl (lv_at hl 4 rfl) ?_
      obtain ⟨k_laid_thrown_cells_12, hz_13, h⟩ := bd1_some h
      refine aft_v (ws' := (W_X8 a0 a1 a2 a3 a4 a5 a6 a7 a8 a9 a10 a11 a12 a13 a14 a15 a16 a17 a18 a19 a20 a21 a22 a23 a24 a25 a26 a27 a28 a29 cI cJ c_text_bytes c_text_length c_reader_numbers c_reader_next c_laid_stand c_laid_home c_laid_priceStart c_laid_priceStep k_laid_thrown_cells_12 c_laid_thrown_filled c_laid_nets_cells c_laid_nets_filled c_trial_stand c_trial_home c_trial_priceStart c_trial_priceStep c_trial_thrown_cells c_trial_thrown_filled c_trial_nets_cells c_trial_nets_filled c_flight_loads_cells c_flight_loads_filled c_flight_order c_flight_done c_flight_start c_flight_end k_changes_who_7 k_changes_column_8 k_changes_was_9 k_changes_held_10 c_kept_older_cells c_kept_older_filled c_kept_newer_cells c_kept_newer_filled c_kept_held c_turns_need)) (run_V (rest := []) X hG hl.1 (mX5_set l dC dI cI cJ a6 a7 (7 : Int32) (4 : Int32) 28 c_laid_thrown_cells c_laid_thrown_filled x1 x2 x3 hz_13) gi_V_X8_148 hd_V_yX5_set ⟨rfl, rfl⟩ rfl ⟨Nat.le_of_ble_eq_true rfl, Nat.le_of_ble_eq_true rfl⟩ [6, 7] (by decide) rfl 6 rfl rfl rfl rfl (Nat.le_of_ble_eq_true rfl) ⟨Nat.le_of_ble_eq_true rfl, Nat.le_of_ble_eq_true rfl⟩ dX8_change_56) hG [6, 7] rfl rfl rfl (fun H locs hG => ?_)
      clear hz_13
      refine lv_iload hx hb dX8_change_59 (lv_at hl 0 rfl) ?_
      cases h
      exact ret _ _ _ _ dX8_change_61 hG
    · have h := ite_t h c_4
      refine lv_iconst (v := (-1 : Int32)) hx hb dX8_change_19 (by decide) ?_
      cases h
      exact ret _ _ _ _ dX8_change_20 hG
set_option maxRecDepth 100000 in
set_option maxHeartbeats 4000000 in
theorem mX8_aim (l : Launch) (dC : Nat → ClassId) (dI : Nat → Nat → Nat) (cI cJ : ClassId) (a0 a1 a2 a3 a4 a5 a6 a7 a8 a9 a10 a11 a12 a13 a14 a15 a16 a17 a18 a19 a20 a21 a22 a23 a24 a25 a26 a27 a28 a29 : Nat) (c_text_bytes : Nat → Int32) (c_text_length : Int32) (c_reader_numbers : Nat → Int32) (c_reader_next : Int32) (c_laid_stand : Int32) (c_laid_home : Int32) (c_laid_priceStart : Int32) (c_laid_priceStep : Int32) (c_laid_thrown_cells : Nat → Int32) (c_laid_thrown_filled : Int32) (c_laid_nets_cells : Nat → Int32) (c_laid_nets_filled : Int32) (c_trial_stand : Int32) (c_trial_home : Int32) (c_trial_priceStart : Int32) (c_trial_priceStep : Int32) (c_trial_thrown_cells : Nat → Int32) (c_trial_thrown_filled : Int32) (c_trial_nets_cells : Nat → Int32) (c_trial_nets_filled : Int32) (c_flight_loads_cells : Nat → Int32) (c_flight_loads_filled : Int32) (c_flight_order : Nat → Int32) (c_flight_done : Int32) (c_flight_start : Int32) (c_flight_end : Int32) (c_changes_who : Nat → Int32) (c_changes_column : Nat → Int32) (c_changes_was : Nat → Int32) (c_changes_held : Int32) (c_kept_older_cells : Nat → Int32) (c_kept_older_filled : Int32) (c_kept_newer_cells : Nat → Int32) (c_kept_newer_filled : Int32) (c_kept_held : Int32) (c_turns_need : Nat → Int32) (x1 : Int32) (x2 : Int32) {res : Int32} {n_laid_thrown_cells : Nat → Int32} {n_changes_who : Nat → Int32} {n_changes_column : Nat → Int32} {n_changes_was : Nat → Int32} {n_changes_held : Int32} (hD : DX8_aim x1 x2 c_laid_thrown_cells c_laid_thrown_filled c_changes_who c_changes_column c_changes_was c_changes_held = some (res, n_laid_thrown_cells, n_changes_who, n_changes_column, n_changes_was, n_changes_held)) : Met l yX8_aim (WZ yX8_aim cX8_aim 3 (some .int)) (RM 4 91) (PC dC dI cI cJ [.ref a0, .int x1, .int x2] (W_X8 a0 a1 a2 a3 a4 a5 a6 a7 a8 a9 a10 a11 a12 a13 a14 a15 a16 a17 a18 a19 a20 a21 a22 a23 a24 a25 a26 a27 a28 a29 cI cJ c_text_bytes c_text_length c_reader_numbers c_reader_next c_laid_stand c_laid_home c_laid_priceStart c_laid_priceStep c_laid_thrown_cells c_laid_thrown_filled c_laid_nets_cells c_laid_nets_filled c_trial_stand c_trial_home c_trial_priceStart c_trial_priceStep c_trial_thrown_cells c_trial_thrown_filled c_trial_nets_cells c_trial_nets_filled c_flight_loads_cells c_flight_loads_filled c_flight_order c_flight_done c_flight_start c_flight_end c_changes_who c_changes_column c_changes_was c_changes_held c_kept_older_cells c_kept_older_filled c_kept_newer_cells c_kept_newer_filled c_kept_held c_turns_need)) (QI dC dI (W_X8 a0 a1 a2 a3 a4 a5 a6 a7 a8 a9 a10 a11 a12 a13 a14 a15 a16 a17 a18 a19 a20 a21 a22 a23 a24 a25 a26 a27 a28 a29 cI cJ c_text_bytes c_text_length c_reader_numbers c_reader_next c_laid_stand c_laid_home c_laid_priceStart c_laid_priceStep c_laid_thrown_cells c_laid_thrown_filled c_laid_nets_cells c_laid_nets_filled c_trial_stand c_trial_home c_trial_priceStart c_trial_priceStep c_trial_thrown_cells c_trial_thrown_filled c_trial_nets_cells c_trial_nets_filled c_flight_loads_cells c_flight_loads_filled c_flight_order c_flight_done c_flight_start c_flight_end c_changes_who c_changes_column c_changes_was c_changes_held c_kept_older_cells c_kept_older_filled c_kept_newer_cells c_kept_newer_filled c_kept_held c_turns_need) (W_X8 a0 a1 a2 a3 a4 a5 a6 a7 a8 a9 a10 a11 a12 a13 a14 a15 a16 a17 a18 a19 a20 a21 a22 a23 a24 a25 a26 a27 a28 a29 cI cJ c_text_bytes c_text_length c_reader_numbers c_reader_next c_laid_stand c_laid_home c_laid_priceStart c_laid_priceStep n_laid_thrown_cells c_laid_thrown_filled c_laid_nets_cells c_laid_nets_filled c_trial_stand c_trial_home c_trial_priceStart c_trial_priceStep c_trial_thrown_cells c_trial_thrown_filled c_trial_nets_cells c_trial_nets_filled c_flight_loads_cells c_flight_loads_filled c_flight_order c_flight_done c_flight_start c_flight_end n_changes_who n_changes_column n_changes_was n_changes_held c_kept_older_cells c_kept_older_filled c_kept_newer_cells c_kept_newer_filled c_kept_held c_turns_need) res) 0 0 (FA (W_X8 a0 a1 a2 a3 a4 a5 a6 a7 a8 a9 a10 a11 a12 a13 a14 a15 a16 a17 a18 a19 a20 a21 a22 a23 a24 a25 a26 a27 a28 a29 cI cJ c_text_bytes c_text_length c_reader_numbers c_reader_next c_laid_stand c_laid_home c_laid_priceStart c_laid_priceStep c_laid_thrown_cells c_laid_thrown_filled c_laid_nets_cells c_laid_nets_filled c_trial_stand c_trial_home c_trial_priceStart c_trial_priceStep c_trial_thrown_cells c_trial_thrown_filled c_trial_nets_cells c_trial_nets_filled c_flight_loads_cells c_flight_loads_filled c_flight_order c_flight_done c_flight_start c_flight_end c_changes_who c_changes_column c_changes_was c_changes_held c_kept_older_cells c_kept_older_filled c_kept_newer_cells c_kept_newer_filled c_kept_held c_turns_need)) := by
  refine r_metI (by decide +kernel) (Nat.le_of_ble_eq_true rfl) ?_
  intro p e s m args below meth c A H0 QQ X ret ls hl hG
  have X : Cx p m c cX8_aim 3 s args RX8 dC dI cI cJ meth (some .int) := X
  have hx := X.1.1
  have hb := X.1.2.1
  have hl : lv_has ls 3 [(0, .ref a0), (1, .int x1), (2, .int x2)] := hl
  have h := hD
  unfold DX8_aim at h
  clear hD
  refine lv_aload_n hx hb dX8_aim_0 rfl (lv_at hl 0 rfl) ?_
  refine lv_iload_n hx hb dX8_aim_1 rfl (lv_at hl 1 rfl) ?_
  refine lv_iconst (v := (1 : Int32)) hx hb dX8_aim_2 (by decide) ?_
  refine lv_iload_n hx hb dX8_aim_3 rfl (lv_at hl 2 rfl) ?_
  refine lv_iload_n hx hb dX8_aim_4 rfl (lv_at hl 2 rfl) ?_
  refine lv_iconst (v := (0 : Int32)) hx hb dX8_aim_5 (by decide) ?_
  refine lv_bipush (v := (23 : Int32)) hx hb dX8_aim_6 (by decide) ?_
  obtain ⟨r_1, hz_2, h⟩ := bd1_some h
  refine aft_i (ws' := (W_X8 a0 a1 a2 a3 a4 a5 a6 a7 a8 a9 a10 a11 a12 a13 a14 a15 a16 a17 a18 a19 a20 a21 a22 a23 a24 a25 a26 a27 a28 a29 cI cJ c_text_bytes c_text_length c_reader_numbers c_reader_next c_laid_stand c_laid_home c_laid_priceStart c_laid_priceStep c_laid_thrown_cells c_laid_thrown_filled c_laid_nets_cells c_laid_nets_filled c_trial_stand c_trial_home c_trial_priceStart c_trial_priceStep c_trial_thrown_cells c_trial_thrown_filled c_trial_nets_cells c_trial_nets_filled c_flight_loads_cells c_flight_loads_filled c_flight_order c_flight_done c_flight_start c_flight_end c_changes_who c_changes_column c_changes_was c_changes_held c_kept_older_cells c_kept_older_filled c_kept_newer_cells c_kept_newer_filled c_kept_held c_turns_need)) (run_S (rest := [.int x2, .int (1 : Int32), .int x1, .ref a0]) X hG hl.1 (mX8_within l dC dI cI cJ x2 (0 : Int32) (23 : Int32) hz_2) gi_S_X8_74 hd_S_yX8_within ⟨rfl, rfl⟩ rfl ⟨Nat.le_of_ble_eq_true rfl, Nat.le_of_ble_eq_true rfl⟩ [] (by decide) rfl rfl (Nat.le_of_ble_eq_true rfl) ⟨Nat.le_of_ble_eq_true rfl, Nat.le_of_ble_eq_true rfl⟩ dX8_aim_8) hG [] rfl rfl rfl (fun H locs hG => ?_)
  clear hz_2
  obtain ⟨r_3, k_laid_thrown_cells_4, k_changes_who_5, k_changes_column_6, k_changes_was_7, k_changes_held_8, hz_9, h⟩ := bd6_some h
  refine aft_i (ws' := (W_X8 a0 a1 a2 a3 a4 a5 a6 a7 a8 a9 a10 a11 a12 a13 a14 a15 a16 a17 a18 a19 a20 a21 a22 a23 a24 a25 a26 a27 a28 a29 cI cJ c_text_bytes c_text_length c_reader_numbers c_reader_next c_laid_stand c_laid_home c_laid_priceStart c_laid_priceStep k_laid_thrown_cells_4 c_laid_thrown_filled c_laid_nets_cells c_laid_nets_filled c_trial_stand c_trial_home c_trial_priceStart c_trial_priceStep c_trial_thrown_cells c_trial_thrown_filled c_trial_nets_cells c_trial_nets_filled c_flight_loads_cells c_flight_loads_filled c_flight_order c_flight_done c_flight_start c_flight_end k_changes_who_5 k_changes_column_6 k_changes_was_7 k_changes_held_8 c_kept_older_cells c_kept_older_filled c_kept_newer_cells c_kept_newer_filled c_kept_held c_turns_need)) (run_V (rest := []) X hG hl.1 (mX8_change l dC dI cI cJ a0 a1 a2 a3 a4 a5 a6 a7 a8 a9 a10 a11 a12 a13 a14 a15 a16 a17 a18 a19 a20 a21 a22 a23 a24 a25 a26 a27 a28 a29 c_text_bytes c_text_length c_reader_numbers c_reader_next c_laid_stand c_laid_home c_laid_priceStart c_laid_priceStep c_laid_thrown_cells c_laid_thrown_filled c_laid_nets_cells c_laid_nets_filled c_trial_stand c_trial_home c_trial_priceStart c_trial_priceStep c_trial_thrown_cells c_trial_thrown_filled c_trial_nets_cells c_trial_nets_filled c_flight_loads_cells c_flight_loads_filled c_flight_order c_flight_done c_flight_start c_flight_end c_changes_who c_changes_column c_changes_was c_changes_held c_kept_older_cells c_kept_older_filled c_kept_newer_cells c_kept_newer_filled c_kept_held c_turns_need x1 (1 : Int32) x2 r_1 hz_9) gi_V_X8_130 hd_V_yX8_change ⟨rfl, rfl⟩ rfl ⟨Nat.le_of_ble_eq_true rfl, Nat.le_of_ble_eq_true rfl⟩ [0, 1, 2, 3, 4, 5, 6, 7, 8, 9, 10, 11, 12, 13, 14, 15, 16, 17, 18, 19, 20, 21, 22, 23, 24, 25, 26, 27, 28, 29] (by decide) rfl 0 rfl rfl rfl rfl (Nat.le_of_ble_eq_true rfl) ⟨Nat.le_of_ble_eq_true rfl, Nat.le_of_ble_eq_true rfl⟩ dX8_aim_11) hG [0, 1, 2, 3, 4, 5, 6, 7, 8, 9, 10, 11, 12, 13, 14, 15, 16, 17, 18, 19, 20, 21, 22, 23, 24, 25, 26, 27, 28, 29] rfl rfl rfl (fun H locs hG => ?_)
  clear hz_9
  cases h
  exact ret _ _ _ _ dX8_aim_14 hG
set_option maxRecDepth 100000 in
set_option maxHeartbeats 4000000 in
theorem mX8_move (l : Launch) (dC : Nat → ClassId) (dI : Nat → Nat → Nat) (cI cJ : ClassId) (a0 a1 a2 a3 a4 a5 a6 a7 a8 a9 a10 a11 a12 a13 a14 a15 a16 a17 a18 a19 a20 a21 a22 a23 a24 a25 a26 a27 a28 a29 : Nat) (c_text_bytes : Nat → Int32) (c_text_length : Int32) (c_reader_numbers : Nat → Int32) (c_reader_next : Int32) (c_laid_stand : Int32) (c_laid_home : Int32) (c_laid_priceStart : Int32) (c_laid_priceStep : Int32) (c_laid_thrown_cells : Nat → Int32) (c_laid_thrown_filled : Int32) (c_laid_nets_cells : Nat → Int32) (c_laid_nets_filled : Int32) (c_trial_stand : Int32) (c_trial_home : Int32) (c_trial_priceStart : Int32) (c_trial_priceStep : Int32) (c_trial_thrown_cells : Nat → Int32) (c_trial_thrown_filled : Int32) (c_trial_nets_cells : Nat → Int32) (c_trial_nets_filled : Int32) (c_flight_loads_cells : Nat → Int32) (c_flight_loads_filled : Int32) (c_flight_order : Nat → Int32) (c_flight_done : Int32) (c_flight_start : Int32) (c_flight_end : Int32) (c_changes_who : Nat → Int32) (c_changes_column : Nat → Int32) (c_changes_was : Nat → Int32) (c_changes_held : Int32) (c_kept_older_cells : Nat → Int32) (c_kept_older_filled : Int32) (c_kept_newer_cells : Nat → Int32) (c_kept_newer_filled : Int32) (c_kept_held : Int32) (c_turns_need : Nat → Int32) (x1 : Int32) (x2 : Int32) {res : Int32} {n_laid_thrown_cells : Nat → Int32} {n_changes_who : Nat → Int32} {n_changes_column : Nat → Int32} {n_changes_was : Nat → Int32} {n_changes_held : Int32} (hD : DX8_move x1 x2 c_laid_thrown_cells c_laid_thrown_filled c_changes_who c_changes_column c_changes_was c_changes_held = some (res, n_laid_thrown_cells, n_changes_who, n_changes_column, n_changes_was, n_changes_held)) : Met l yX8_move (WZ yX8_move cX8_move 3 (some .int)) (RM 4 91) (PC dC dI cI cJ [.ref a0, .int x1, .int x2] (W_X8 a0 a1 a2 a3 a4 a5 a6 a7 a8 a9 a10 a11 a12 a13 a14 a15 a16 a17 a18 a19 a20 a21 a22 a23 a24 a25 a26 a27 a28 a29 cI cJ c_text_bytes c_text_length c_reader_numbers c_reader_next c_laid_stand c_laid_home c_laid_priceStart c_laid_priceStep c_laid_thrown_cells c_laid_thrown_filled c_laid_nets_cells c_laid_nets_filled c_trial_stand c_trial_home c_trial_priceStart c_trial_priceStep c_trial_thrown_cells c_trial_thrown_filled c_trial_nets_cells c_trial_nets_filled c_flight_loads_cells c_flight_loads_filled c_flight_order c_flight_done c_flight_start c_flight_end c_changes_who c_changes_column c_changes_was c_changes_held c_kept_older_cells c_kept_older_filled c_kept_newer_cells c_kept_newer_filled c_kept_held c_turns_need)) (QI dC dI (W_X8 a0 a1 a2 a3 a4 a5 a6 a7 a8 a9 a10 a11 a12 a13 a14 a15 a16 a17 a18 a19 a20 a21 a22 a23 a24 a25 a26 a27 a28 a29 cI cJ c_text_bytes c_text_length c_reader_numbers c_reader_next c_laid_stand c_laid_home c_laid_priceStart c_laid_priceStep c_laid_thrown_cells c_laid_thrown_filled c_laid_nets_cells c_laid_nets_filled c_trial_stand c_trial_home c_trial_priceStart c_trial_priceStep c_trial_thrown_cells c_trial_thrown_filled c_trial_nets_cells c_trial_nets_filled c_flight_loads_cells c_flight_loads_filled c_flight_order c_flight_done c_flight_start c_flight_end c_changes_who c_changes_column c_changes_was c_changes_held c_kept_older_cells c_kept_older_filled c_kept_newer_cells c_kept_newer_filled c_kept_held c_turns_need) (W_X8 a0 a1 a2 a3 a4 a5 a6 a7 a8 a9 a10 a11 a12 a13 a14 a15 a16 a17 a18 a19 a20 a21 a22 a23 a24 a25 a26 a27 a28 a29 cI cJ c_text_bytes c_text_length c_reader_numbers c_reader_next c_laid_stand c_laid_home c_laid_priceStart c_laid_priceStep n_laid_thrown_cells c_laid_thrown_filled c_laid_nets_cells c_laid_nets_filled c_trial_stand c_trial_home c_trial_priceStart c_trial_priceStep c_trial_thrown_cells c_trial_thrown_filled c_trial_nets_cells c_trial_nets_filled c_flight_loads_cells c_flight_loads_filled c_flight_order c_flight_done c_flight_start c_flight_end n_changes_who n_changes_column n_changes_was n_changes_held c_kept_older_cells c_kept_older_filled c_kept_newer_cells c_kept_newer_filled c_kept_held c_turns_need) res) 0 0 (FA (W_X8 a0 a1 a2 a3 a4 a5 a6 a7 a8 a9 a10 a11 a12 a13 a14 a15 a16 a17 a18 a19 a20 a21 a22 a23 a24 a25 a26 a27 a28 a29 cI cJ c_text_bytes c_text_length c_reader_numbers c_reader_next c_laid_stand c_laid_home c_laid_priceStart c_laid_priceStep c_laid_thrown_cells c_laid_thrown_filled c_laid_nets_cells c_laid_nets_filled c_trial_stand c_trial_home c_trial_priceStart c_trial_priceStep c_trial_thrown_cells c_trial_thrown_filled c_trial_nets_cells c_trial_nets_filled c_flight_loads_cells c_flight_loads_filled c_flight_order c_flight_done c_flight_start c_flight_end c_changes_who c_changes_column c_changes_was c_changes_held c_kept_older_cells c_kept_older_filled c_kept_newer_cells c_kept_newer_filled c_kept_held c_turns_need)) := by
  refine r_metI (by decide +kernel) (Nat.le_of_ble_eq_true rfl) ?_
  intro p e s m args below meth c A H0 QQ X ret ls hl hG
  have X : Cx p m c cX8_move 3 s args RX8 dC dI cI cJ meth (some .int) := X
  have hx := X.1.1
  have hb := X.1.2.1
  have hl : lv_has ls 3 [(0, .ref a0), (1, .int x1), (2, .int x2)] := hl
  have h := hD
  unfold DX8_move at h
  clear hD
  refine lv_aload_n hx hb dX8_move_0 rfl (lv_at hl 0 rfl) ?_
  refine lv_iload_n hx hb dX8_move_1 rfl (lv_at hl 1 rfl) ?_
  refine lv_iconst (v := (0 : Int32)) hx hb dX8_move_2 (by decide) ?_
  refine lv_iload_n hx hb dX8_move_3 rfl (lv_at hl 2 rfl) ?_
  refine lv_iload_n hx hb dX8_move_4 rfl (lv_at hl 2 rfl) ?_
  refine lv_iconst (v := (0 : Int32)) hx hb dX8_move_5 (by decide) ?_
  refine lv_bipush (v := (40 : Int32)) hx hb dX8_move_6 (by decide) ?_
  obtain ⟨r_1, hz_2, h⟩ := bd1_some h
  refine aft_i (ws' := (W_X8 a0 a1 a2 a3 a4 a5 a6 a7 a8 a9 a10 a11 a12 a13 a14 a15 a16 a17 a18 a19 a20 a21 a22 a23 a24 a25 a26 a27 a28 a29 cI cJ c_text_bytes c_text_length c_reader_numbers c_reader_next c_laid_stand c_laid_home c_laid_priceStart c_laid_priceStep c_laid_thrown_cells c_laid_thrown_filled c_laid_nets_cells c_laid_nets_filled c_trial_stand c_trial_home c_trial_priceStart c_trial_priceStep c_trial_thrown_cells c_trial_thrown_filled c_trial_nets_cells c_trial_nets_filled c_flight_loads_cells c_flight_loads_filled c_flight_order c_flight_done c_flight_start c_flight_end c_changes_who c_changes_column c_changes_was c_changes_held c_kept_older_cells c_kept_older_filled c_kept_newer_cells c_kept_newer_filled c_kept_held c_turns_need)) (run_S (rest := [.int x2, .int (0 : Int32), .int x1, .ref a0]) X hG hl.1 (mX8_within l dC dI cI cJ x2 (0 : Int32) (40 : Int32) hz_2) gi_S_X8_74 hd_S_yX8_within ⟨rfl, rfl⟩ rfl ⟨Nat.le_of_ble_eq_true rfl, Nat.le_of_ble_eq_true rfl⟩ [] (by decide) rfl rfl (Nat.le_of_ble_eq_true rfl) ⟨Nat.le_of_ble_eq_true rfl, Nat.le_of_ble_eq_true rfl⟩ dX8_move_8) hG [] rfl rfl rfl (fun H locs hG => ?_)
  clear hz_2
  obtain ⟨r_3, k_laid_thrown_cells_4, k_changes_who_5, k_changes_column_6, k_changes_was_7, k_changes_held_8, hz_9, h⟩ := bd6_some h
  refine aft_i (ws' := (W_X8 a0 a1 a2 a3 a4 a5 a6 a7 a8 a9 a10 a11 a12 a13 a14 a15 a16 a17 a18 a19 a20 a21 a22 a23 a24 a25 a26 a27 a28 a29 cI cJ c_text_bytes c_text_length c_reader_numbers c_reader_next c_laid_stand c_laid_home c_laid_priceStart c_laid_priceStep k_laid_thrown_cells_4 c_laid_thrown_filled c_laid_nets_cells c_laid_nets_filled c_trial_stand c_trial_home c_trial_priceStart c_trial_priceStep c_trial_thrown_cells c_trial_thrown_filled c_trial_nets_cells c_trial_nets_filled c_flight_loads_cells c_flight_loads_filled c_flight_order c_flight_done c_flight_start c_flight_end k_changes_who_5 k_changes_column_6 k_changes_was_7 k_changes_held_8 c_kept_older_cells c_kept_older_filled c_kept_newer_cells c_kept_newer_filled c_kept_held c_turns_need)) (run_V (rest := []) X hG hl.1 (mX8_change l dC dI cI cJ a0 a1 a2 a3 a4 a5 a6 a7 a8 a9 a10 a11 a12 a13 a14 a15 a16 a17 a18 a19 a20 a21 a22 a23 a24 a25 a26 a27 a28 a29 c_text_bytes c_text_length c_reader_numbers c_reader_next c_laid_stand c_laid_home c_laid_priceStart c_laid_priceStep c_laid_thrown_cells c_laid_thrown_filled c_laid_nets_cells c_laid_nets_filled c_trial_stand c_trial_home c_trial_priceStart c_trial_priceStep c_trial_thrown_cells c_trial_thrown_filled c_trial_nets_cells c_trial_nets_filled c_flight_loads_cells c_flight_loads_filled c_flight_order c_flight_done c_flight_start c_flight_end c_changes_who c_changes_column c_changes_was c_changes_held c_kept_older_cells c_kept_older_filled c_kept_newer_cells c_kept_newer_filled c_kept_held c_turns_need x1 (0 : Int32) x2 r_1 hz_9) gi_V_X8_130 hd_V_yX8_change ⟨rfl, rfl⟩ rfl ⟨Nat.le_of_ble_eq_true rfl, Nat.le_of_ble_eq_true rfl⟩ [0, 1, 2, 3, 4, 5, 6, 7, 8, 9, 10, 11, 12, 13, 14, 15, 16, 17, 18, 19, 20, 21, 22, 23, 24, 25, 26, 27, 28, 29] (by decide) rfl 0 rfl rfl rfl rfl (Nat.le_of_ble_eq_true rfl) ⟨Nat.le_of_ble_eq_true rfl, Nat.le_of_ble_eq_true rfl⟩ dX8_move_11) hG [0, 1, 2, 3, 4, 5, 6, 7, 8, 9, 10, 11, 12, 13, 14, 15, 16, 17, 18, 19, 20, 21, 22, 23, 24, 25, 26, 27, 28, 29] rfl rfl rfl (fun H locs hG => ?_)
  clear hz_9
  cases h
  exact ret _ _ _ _ dX8_move_14 hG
set_option maxRecDepth 100000 in
set_option maxHeartbeats 4000000 in
theorem mX8_speed (l : Launch) (dC : Nat → ClassId) (dI : Nat → Nat → Nat) (cI cJ : ClassId) (a0 a1 a2 a3 a4 a5 a6 a7 a8 a9 a10 a11 a12 a13 a14 a15 a16 a17 a18 a19 a20 a21 a22 a23 a24 a25 a26 a27 a28 a29 : Nat) (c_text_bytes : Nat → Int32) (c_text_length : Int32) (c_reader_numbers : Nat → Int32) (c_reader_next : Int32) (c_laid_stand : Int32) (c_laid_home : Int32) (c_laid_priceStart : Int32) (c_laid_priceStep : Int32) (c_laid_thrown_cells : Nat → Int32) (c_laid_thrown_filled : Int32) (c_laid_nets_cells : Nat → Int32) (c_laid_nets_filled : Int32) (c_trial_stand : Int32) (c_trial_home : Int32) (c_trial_priceStart : Int32) (c_trial_priceStep : Int32) (c_trial_thrown_cells : Nat → Int32) (c_trial_thrown_filled : Int32) (c_trial_nets_cells : Nat → Int32) (c_trial_nets_filled : Int32) (c_flight_loads_cells : Nat → Int32) (c_flight_loads_filled : Int32) (c_flight_order : Nat → Int32) (c_flight_done : Int32) (c_flight_start : Int32) (c_flight_end : Int32) (c_changes_who : Nat → Int32) (c_changes_column : Nat → Int32) (c_changes_was : Nat → Int32) (c_changes_held : Int32) (c_kept_older_cells : Nat → Int32) (c_kept_older_filled : Int32) (c_kept_newer_cells : Nat → Int32) (c_kept_newer_filled : Int32) (c_kept_held : Int32) (c_turns_need : Nat → Int32) (x1 : Int32) (x2 : Int32) {res : Int32} {n_laid_thrown_cells : Nat → Int32} {n_changes_who : Nat → Int32} {n_changes_column : Nat → Int32} {n_changes_was : Nat → Int32} {n_changes_held : Int32} (hD : DX8_speed x1 x2 c_laid_thrown_cells c_laid_thrown_filled c_changes_who c_changes_column c_changes_was c_changes_held = some (res, n_laid_thrown_cells, n_changes_who, n_changes_column, n_changes_was, n_changes_held)) : Met l yX8_speed (WZ yX8_speed cX8_speed 3 (some .int)) (RM 4 91) (PC dC dI cI cJ [.ref a0, .int x1, .int x2] (W_X8 a0 a1 a2 a3 a4 a5 a6 a7 a8 a9 a10 a11 a12 a13 a14 a15 a16 a17 a18 a19 a20 a21 a22 a23 a24 a25 a26 a27 a28 a29 cI cJ c_text_bytes c_text_length c_reader_numbers c_reader_next c_laid_stand c_laid_home c_laid_priceStart c_laid_priceStep c_laid_thrown_cells c_laid_thrown_filled c_laid_nets_cells c_laid_nets_filled c_trial_stand c_trial_home c_trial_priceStart c_trial_priceStep c_trial_thrown_cells c_trial_thrown_filled c_trial_nets_cells c_trial_nets_filled c_flight_loads_cells c_flight_loads_filled c_flight_order c_flight_done c_flight_start c_flight_end c_changes_who c_changes_column c_changes_was c_changes_held c_kept_older_cells c_kept_older_filled c_kept_newer_cells c_kept_newer_filled c_kept_held c_turns_need)) (QI dC dI (W_X8 a0 a1 a2 a3 a4 a5 a6 a7 a8 a9 a10 a11 a12 a13 a14 a15 a16 a17 a18 a19 a20 a21 a22 a23 a24 a25 a26 a27 a28 a29 cI cJ c_text_bytes c_text_length c_reader_numbers c_reader_next c_laid_stand c_laid_home c_laid_priceStart c_laid_priceStep c_laid_thrown_cells c_laid_thrown_filled c_laid_nets_cells c_laid_nets_filled c_trial_stand c_trial_home c_trial_priceStart c_trial_priceStep c_trial_thrown_cells c_trial_thrown_filled c_trial_nets_cells c_trial_nets_filled c_flight_loads_cells c_flight_loads_filled c_flight_order c_flight_done c_flight_start c_flight_end c_changes_who c_changes_column c_changes_was c_changes_held c_kept_older_cells c_kept_older_filled c_kept_newer_cells c_kept_newer_filled c_kept_held c_turns_need) (W_X8 a0 a1 a2 a3 a4 a5 a6 a7 a8 a9 a10 a11 a12 a13 a14 a15 a16 a17 a18 a19 a20 a21 a22 a23 a24 a25 a26 a27 a28 a29 cI cJ c_text_bytes c_text_length c_reader_numbers c_reader_next c_laid_stand c_laid_home c_laid_priceStart c_laid_priceStep n_laid_thrown_cells c_laid_thrown_filled c_laid_nets_cells c_laid_nets_filled c_trial_stand c_trial_home c_trial_priceStart c_trial_priceStep c_trial_thrown_cells c_trial_thrown_filled c_trial_nets_cells c_trial_nets_filled c_flight_loads_cells c_flight_loads_filled c_flight_order c_flight_done c_flight_start c_flight_end n_changes_who n_changes_column n_changes_was n_changes_held c_kept_older_cells c_kept_older_filled c_kept_newer_cells c_kept_newer_filled c_kept_held c_turns_need) res) 0 0 (FA (W_X8 a0 a1 a2 a3 a4 a5 a6 a7 a8 a9 a10 a11 a12 a13 a14 a15 a16 a17 a18 a19 a20 a21 a22 a23 a24 a25 a26 a27 a28 a29 cI cJ c_text_bytes c_text_length c_reader_numbers c_reader_next c_laid_stand c_laid_home c_laid_priceStart c_laid_priceStep c_laid_thrown_cells c_laid_thrown_filled c_laid_nets_cells c_laid_nets_filled c_trial_stand c_trial_home c_trial_priceStart c_trial_priceStep c_trial_thrown_cells c_trial_thrown_filled c_trial_nets_cells c_trial_nets_filled c_flight_loads_cells c_flight_loads_filled c_flight_order c_flight_done c_flight_start c_flight_end c_changes_who c_changes_column c_changes_was c_changes_held c_kept_older_cells c_kept_older_filled c_kept_newer_cells c_kept_newer_filled c_kept_held c_turns_need)) := by
  refine r_metI (by decide +kernel) (Nat.le_of_ble_eq_true rfl) ?_
  intro p e s m args below meth c A H0 QQ X ret ls hl hG
  have X : Cx p m c cX8_speed 3 s args RX8 dC dI cI cJ meth (some .int) := X
  have hx := X.1.1
  have hb := X.1.2.1
  have hl : lv_has ls 3 [(0, .ref a0), (1, .int x1), (2, .int x2)] := hl
  have h := hD
  unfold DX8_speed at h
  clear hD
  refine lv_aload_n hx hb dX8_speed_0 rfl (lv_at hl 0 rfl) ?_
  refine lv_iload_n hx hb dX8_speed_1 rfl (lv_at hl 1 rfl) ?_
  refine lv_iconst (v := (2 : Int32)) hx hb dX8_speed_2 (by decide) ?_
  refine lv_iload_n hx hb dX8_speed_3 rfl (lv_at hl 2 rfl) ?_
  refine lv_iload_n hx hb dX8_speed_4 rfl (lv_at hl 2 rfl) ?_
  refine lv_iconst (v := (1 : Int32)) hx hb dX8_speed_5 (by decide) ?_
  refine lv_bipush (v := (6 : Int32)) hx hb dX8_speed_6 (by decide) ?_
  obtain ⟨r_1, hz_2, h⟩ := bd1_some h
  refine aft_i (ws' := (W_X8 a0 a1 a2 a3 a4 a5 a6 a7 a8 a9 a10 a11 a12 a13 a14 a15 a16 a17 a18 a19 a20 a21 a22 a23 a24 a25 a26 a27 a28 a29 cI cJ c_text_bytes c_text_length c_reader_numbers c_reader_next c_laid_stand c_laid_home c_laid_priceStart c_laid_priceStep c_laid_thrown_cells c_laid_thrown_filled c_laid_nets_cells c_laid_nets_filled c_trial_stand c_trial_home c_trial_priceStart c_trial_priceStep c_trial_thrown_cells c_trial_thrown_filled c_trial_nets_cells c_trial_nets_filled c_flight_loads_cells c_flight_loads_filled c_flight_order c_flight_done c_flight_start c_flight_end c_changes_who c_changes_column c_changes_was c_changes_held c_kept_older_cells c_kept_older_filled c_kept_newer_cells c_kept_newer_filled c_kept_held c_turns_need)) (run_S (rest := [.int x2, .int (2 : Int32), .int x1, .ref a0]) X hG hl.1 (mX8_within l dC dI cI cJ x2 (1 : Int32) (6 : Int32) hz_2) gi_S_X8_74 hd_S_yX8_within ⟨rfl, rfl⟩ rfl ⟨Nat.le_of_ble_eq_true rfl, Nat.le_of_ble_eq_true rfl⟩ [] (by decide) rfl rfl (Nat.le_of_ble_eq_true rfl) ⟨Nat.le_of_ble_eq_true rfl, Nat.le_of_ble_eq_true rfl⟩ dX8_speed_8) hG [] rfl rfl rfl (fun H locs hG => ?_)
  clear hz_2
  obtain ⟨r_3, k_laid_thrown_cells_4, k_changes_who_5, k_changes_column_6, k_changes_was_7, k_changes_held_8, hz_9, h⟩ := bd6_some h
  refine aft_i (ws' := (W_X8 a0 a1 a2 a3 a4 a5 a6 a7 a8 a9 a10 a11 a12 a13 a14 a15 a16 a17 a18 a19 a20 a21 a22 a23 a24 a25 a26 a27 a28 a29 cI cJ c_text_bytes c_text_length c_reader_numbers c_reader_next c_laid_stand c_laid_home c_laid_priceStart c_laid_priceStep k_laid_thrown_cells_4 c_laid_thrown_filled c_laid_nets_cells c_laid_nets_filled c_trial_stand c_trial_home c_trial_priceStart c_trial_priceStep c_trial_thrown_cells c_trial_thrown_filled c_trial_nets_cells c_trial_nets_filled c_flight_loads_cells c_flight_loads_filled c_flight_order c_flight_done c_flight_start c_flight_end k_changes_who_5 k_changes_column_6 k_changes_was_7 k_changes_held_8 c_kept_older_cells c_kept_older_filled c_kept_newer_cells c_kept_newer_filled c_kept_held c_turns_need)) (run_V (rest := []) X hG hl.1 (mX8_change l dC dI cI cJ a0 a1 a2 a3 a4 a5 a6 a7 a8 a9 a10 a11 a12 a13 a14 a15 a16 a17 a18 a19 a20 a21 a22 a23 a24 a25 a26 a27 a28 a29 c_text_bytes c_text_length c_reader_numbers c_reader_next c_laid_stand c_laid_home c_laid_priceStart c_laid_priceStep c_laid_thrown_cells c_laid_thrown_filled c_laid_nets_cells c_laid_nets_filled c_trial_stand c_trial_home c_trial_priceStart c_trial_priceStep c_trial_thrown_cells c_trial_thrown_filled c_trial_nets_cells c_trial_nets_filled c_flight_loads_cells c_flight_loads_filled c_flight_order c_flight_done c_flight_start c_flight_end c_changes_who c_changes_column c_changes_was c_changes_held c_kept_older_cells c_kept_older_filled c_kept_newer_cells c_kept_newer_filled c_kept_held c_turns_need x1 (2 : Int32) x2 r_1 hz_9) gi_V_X8_130 hd_V_yX8_change ⟨rfl, rfl⟩ rfl ⟨Nat.le_of_ble_eq_true rfl, Nat.le_of_ble_eq_true rfl⟩ [0, 1, 2, 3, 4, 5, 6, 7, 8, 9, 10, 11, 12, 13, 14, 15, 16, 17, 18, 19, 20, 21, 22, 23, 24, 25, 26, 27, 28, 29] (by decide) rfl 0 rfl rfl rfl rfl (Nat.le_of_ble_eq_true rfl) ⟨Nat.le_of_ble_eq_true rfl, Nat.le_of_ble_eq_true rfl⟩ dX8_speed_11) hG [0, 1, 2, 3, 4, 5, 6, 7, 8, 9, 10, 11, 12, 13, 14, 15, 16, 17, 18, 19, 20, 21, 22, 23, 24, 25, 26, 27, 28, 29] rfl rfl rfl (fun H locs hG => ?_)
  clear hz_9
  cases h
  exact ret _ _ _ _ dX8_speed_14 hG
set_option maxRecDepth 100000 in
set_option maxHeartbeats 4000000 in
theorem mX8_undo (l : Launch) (dC : Nat → ClassId) (dI : Nat → Nat → Nat) (cI cJ : ClassId) (a0 a1 a2 a3 a4 a5 a6 a7 a8 a9 a10 a11 a12 a13 a14 a15 a16 a17 a18 a19 a20 a21 a22 a23 a24 a25 a26 a27 a28 a29 : Nat) (c_text_bytes : Nat → Int32) (c_text_length : Int32) (c_reader_numbers : Nat → Int32) (c_reader_next : Int32) (c_laid_stand : Int32) (c_laid_home : Int32) (c_laid_priceStart : Int32) (c_laid_priceStep : Int32) (c_laid_thrown_cells : Nat → Int32) (c_laid_thrown_filled : Int32) (c_laid_nets_cells : Nat → Int32) (c_laid_nets_filled : Int32) (c_trial_stand : Int32) (c_trial_home : Int32) (c_trial_priceStart : Int32) (c_trial_priceStep : Int32) (c_trial_thrown_cells : Nat → Int32) (c_trial_thrown_filled : Int32) (c_trial_nets_cells : Nat → Int32) (c_trial_nets_filled : Int32) (c_flight_loads_cells : Nat → Int32) (c_flight_loads_filled : Int32) (c_flight_order : Nat → Int32) (c_flight_done : Int32) (c_flight_start : Int32) (c_flight_end : Int32) (c_changes_who : Nat → Int32) (c_changes_column : Nat → Int32) (c_changes_was : Nat → Int32) (c_changes_held : Int32) (c_kept_older_cells : Nat → Int32) (c_kept_older_filled : Int32) (c_kept_newer_cells : Nat → Int32) (c_kept_newer_filled : Int32) (c_kept_held : Int32) (c_turns_need : Nat → Int32) {res : Int32} {n_laid_thrown_cells : Nat → Int32} {n_changes_held : Int32} (hD : DX8_undo c_laid_thrown_cells c_changes_who c_changes_column c_changes_was c_changes_held = some (res, n_laid_thrown_cells, n_changes_held)) : Met l yX8_undo (WZ yX8_undo cX8_undo 1 (some .int)) (RM 2 44) (PC dC dI cI cJ [.ref a0] (W_X8 a0 a1 a2 a3 a4 a5 a6 a7 a8 a9 a10 a11 a12 a13 a14 a15 a16 a17 a18 a19 a20 a21 a22 a23 a24 a25 a26 a27 a28 a29 cI cJ c_text_bytes c_text_length c_reader_numbers c_reader_next c_laid_stand c_laid_home c_laid_priceStart c_laid_priceStep c_laid_thrown_cells c_laid_thrown_filled c_laid_nets_cells c_laid_nets_filled c_trial_stand c_trial_home c_trial_priceStart c_trial_priceStep c_trial_thrown_cells c_trial_thrown_filled c_trial_nets_cells c_trial_nets_filled c_flight_loads_cells c_flight_loads_filled c_flight_order c_flight_done c_flight_start c_flight_end c_changes_who c_changes_column c_changes_was c_changes_held c_kept_older_cells c_kept_older_filled c_kept_newer_cells c_kept_newer_filled c_kept_held c_turns_need)) (QI dC dI (W_X8 a0 a1 a2 a3 a4 a5 a6 a7 a8 a9 a10 a11 a12 a13 a14 a15 a16 a17 a18 a19 a20 a21 a22 a23 a24 a25 a26 a27 a28 a29 cI cJ c_text_bytes c_text_length c_reader_numbers c_reader_next c_laid_stand c_laid_home c_laid_priceStart c_laid_priceStep c_laid_thrown_cells c_laid_thrown_filled c_laid_nets_cells c_laid_nets_filled c_trial_stand c_trial_home c_trial_priceStart c_trial_priceStep c_trial_thrown_cells c_trial_thrown_filled c_trial_nets_cells c_trial_nets_filled c_flight_loads_cells c_flight_loads_filled c_flight_order c_flight_done c_flight_start c_flight_end c_changes_who c_changes_column c_changes_was c_changes_held c_kept_older_cells c_kept_older_filled c_kept_newer_cells c_kept_newer_filled c_kept_held c_turns_need) (W_X8 a0 a1 a2 a3 a4 a5 a6 a7 a8 a9 a10 a11 a12 a13 a14 a15 a16 a17 a18 a19 a20 a21 a22 a23 a24 a25 a26 a27 a28 a29 cI cJ c_text_bytes c_text_length c_reader_numbers c_reader_next c_laid_stand c_laid_home c_laid_priceStart c_laid_priceStep n_laid_thrown_cells c_laid_thrown_filled c_laid_nets_cells c_laid_nets_filled c_trial_stand c_trial_home c_trial_priceStart c_trial_priceStep c_trial_thrown_cells c_trial_thrown_filled c_trial_nets_cells c_trial_nets_filled c_flight_loads_cells c_flight_loads_filled c_flight_order c_flight_done c_flight_start c_flight_end c_changes_who c_changes_column c_changes_was n_changes_held c_kept_older_cells c_kept_older_filled c_kept_newer_cells c_kept_newer_filled c_kept_held c_turns_need) res) 0 0 (FA (W_X8 a0 a1 a2 a3 a4 a5 a6 a7 a8 a9 a10 a11 a12 a13 a14 a15 a16 a17 a18 a19 a20 a21 a22 a23 a24 a25 a26 a27 a28 a29 cI cJ c_text_bytes c_text_length c_reader_numbers c_reader_next c_laid_stand c_laid_home c_laid_priceStart c_laid_priceStep c_laid_thrown_cells c_laid_thrown_filled c_laid_nets_cells c_laid_nets_filled c_trial_stand c_trial_home c_trial_priceStart c_trial_priceStep c_trial_thrown_cells c_trial_thrown_filled c_trial_nets_cells c_trial_nets_filled c_flight_loads_cells c_flight_loads_filled c_flight_order c_flight_done c_flight_start c_flight_end c_changes_who c_changes_column c_changes_was c_changes_held c_kept_older_cells c_kept_older_filled c_kept_newer_cells c_kept_newer_filled c_kept_held c_turns_need)) := by
  refine r_metI (by decide +kernel) (Nat.le_of_ble_eq_true rfl) ?_
  intro p e s m args below meth c A H0 QQ X ret ls hl hG
  have X : Cx p m c cX8_undo 1 s args RX8 dC dI cI cJ meth (some .int) := X
  have hx := X.1.1
  have hb := X.1.2.1
  have hl : lv_has ls 1 [(0, .ref a0)] := hl
  have h := hD
  unfold DX8_undo at h
  clear hD
  refine lv_aload_n hx hb dX8_undo_0 rfl (lv_at hl 0 rfl) ?_
  refine r_get X hG in_X8 rfl 5 (by decide) w_240 0 rfl rfl dX8_undo_1 ?_
  refine lv_aload_n hx hb dX8_undo_4 rfl (lv_at hl 0 rfl) ?_
  refine r_get X hG in_X8 rfl 2 (by decide) w_237 0 rfl rfl dX8_undo_5 ?_
  refine r_getN X hG in_X3 rfl 4 (by decide) w_136 5 rfl rfl dX8_undo_8 ?_
  obtain ⟨r_1, k_changes_held_2, k_laid_thrown_cells_3, hz_4, h⟩ := bd3_some h
  refine aft_i (ws' := (W_X8 a0 a1 a2 a3 a4 a5 a6 a7 a8 a9 a10 a11 a12 a13 a14 a15 a16 a17 a18 a19 a20 a21 a22 a23 a24 a25 a26 a27 a28 a29 cI cJ c_text_bytes c_text_length c_reader_numbers c_reader_next c_laid_stand c_laid_home c_laid_priceStart c_laid_priceStep k_laid_thrown_cells_3 c_laid_thrown_filled c_laid_nets_cells c_laid_nets_filled c_trial_stand c_trial_home c_trial_priceStart c_trial_priceStep c_trial_thrown_cells c_trial_thrown_filled c_trial_nets_cells c_trial_nets_filled c_flight_loads_cells c_flight_loads_filled c_flight_order c_flight_done c_flight_start c_flight_end c_changes_who c_changes_column c_changes_was k_changes_held_2 c_kept_older_cells c_kept_older_filled c_kept_newer_cells c_kept_newer_filled c_kept_held c_turns_need)) (run_V (rest := []) X hG hl.1 (mX0_takeBack l dC dI cI cJ a19 a20 a21 a22 a6 a7 c_changes_who c_changes_column c_changes_was c_changes_held c_laid_thrown_cells c_laid_thrown_filled hz_4) gi_V_X8_134 hd_V_yX0_takeBack ⟨rfl, rfl⟩ rfl ⟨Nat.le_of_ble_eq_true rfl, Nat.le_of_ble_eq_true rfl⟩ [19, 20, 21, 22, 6, 7] (by decide) rfl 19 rfl rfl rfl rfl (Nat.le_of_ble_eq_true rfl) ⟨Nat.le_of_ble_eq_true rfl, Nat.le_of_ble_eq_true rfl⟩ dX8_undo_11) hG [19, 20, 21, 22, 6, 7] rfl rfl rfl (fun H locs hG => ?_)
  clear hz_4
  refine lv_if_eq (tgt := 27) hx hb dX8_undo_14 (by decide) (fun c_5 => ?_) (fun c_5 => ?_)
  · have h := ite_t h c_5
    refine lv_bipush (v := (-2 : Int32)) hx hb dX8_undo_27 (by decide) ?_
    cases h
    exact ret _ _ _ _ dX8_undo_29 hG
  · have h := ite_f h c_5
    refine lv_aload_n hx hb dX8_undo_17 rfl (lv_at hl 0 rfl) ?_
    refine r_get X hG in_X8 rfl 5 (by decide) w_240 0 rfl rfl dX8_undo_18 ?_
    refine r_getN X hG in_X0 rfl 3 (by decide) w_188 19 rfl rfl dX8_undo_21 ?_
    refine lv_goto (tgt := 29) hx hb dX8_undo_24 (by decide) ?_
    cases h
    exact ret _ _ _ _ dX8_undo_29 hG
set_option maxRecDepth 100000 in
set_option maxHeartbeats 4000000 in
theorem mX8_bestAim (l : Launch) (dC : Nat → ClassId) (dI : Nat → Nat → Nat) (cI cJ : ClassId) (a0 a1 a2 a3 a4 a5 a6 a7 a8 a9 a10 a11 a12 a13 a14 a15 a16 a17 a18 a19 a20 a21 a22 a23 a24 a25 a26 a27 a28 a29 : Nat) (c_text_bytes : Nat → Int32) (c_text_length : Int32) (c_reader_numbers : Nat → Int32) (c_reader_next : Int32) (c_laid_stand : Int32) (c_laid_home : Int32) (c_laid_priceStart : Int32) (c_laid_priceStep : Int32) (c_laid_thrown_cells : Nat → Int32) (c_laid_thrown_filled : Int32) (c_laid_nets_cells : Nat → Int32) (c_laid_nets_filled : Int32) (c_trial_stand : Int32) (c_trial_home : Int32) (c_trial_priceStart : Int32) (c_trial_priceStep : Int32) (c_trial_thrown_cells : Nat → Int32) (c_trial_thrown_filled : Int32) (c_trial_nets_cells : Nat → Int32) (c_trial_nets_filled : Int32) (c_flight_loads_cells : Nat → Int32) (c_flight_loads_filled : Int32) (c_flight_order : Nat → Int32) (c_flight_done : Int32) (c_flight_start : Int32) (c_flight_end : Int32) (c_changes_who : Nat → Int32) (c_changes_column : Nat → Int32) (c_changes_was : Nat → Int32) (c_changes_held : Int32) (c_kept_older_cells : Nat → Int32) (c_kept_older_filled : Int32) (c_kept_newer_cells : Nat → Int32) (c_kept_newer_filled : Int32) (c_kept_held : Int32) (c_turns_need : Nat → Int32) (x1 : Int32) (x2 : Int32) {res : Int32} {n_trial_stand : Int32} {n_trial_home : Int32} {n_trial_priceStart : Int32} {n_trial_priceStep : Int32} {n_trial_thrown_cells : Nat → Int32} {n_trial_thrown_filled : Int32} {n_trial_nets_cells : Nat → Int32} {n_trial_nets_filled : Int32} {n_flight_loads_cells : Nat → Int32} {n_flight_order : Nat → Int32} {n_flight_done : Int32} {n_flight_start : Int32} {n_flight_end : Int32} (hD : DX8_bestAim x1 x2 c_laid_stand c_laid_home c_laid_priceStart c_laid_priceStep c_laid_thrown_cells c_laid_thrown_filled c_laid_nets_cells c_laid_nets_filled c_trial_stand c_trial_home c_trial_priceStart c_trial_priceStep c_trial_thrown_cells c_trial_thrown_filled c_trial_nets_cells c_trial_nets_filled c_flight_loads_cells c_flight_order c_flight_done c_flight_start c_flight_end = some (res, n_trial_stand, n_trial_home, n_trial_priceStart, n_trial_priceStep, n_trial_thrown_cells, n_trial_thrown_filled, n_trial_nets_cells, n_trial_nets_filled, n_flight_loads_cells, n_flight_order, n_flight_done, n_flight_start, n_flight_end)) : Met l yX8_bestAim (WZ yX8_bestAim cX8_bestAim 6 (some .int)) (RM 6 143) (PC dC dI cI cJ [.ref a0, .int x1, .int x2] (W_X8 a0 a1 a2 a3 a4 a5 a6 a7 a8 a9 a10 a11 a12 a13 a14 a15 a16 a17 a18 a19 a20 a21 a22 a23 a24 a25 a26 a27 a28 a29 cI cJ c_text_bytes c_text_length c_reader_numbers c_reader_next c_laid_stand c_laid_home c_laid_priceStart c_laid_priceStep c_laid_thrown_cells c_laid_thrown_filled c_laid_nets_cells c_laid_nets_filled c_trial_stand c_trial_home c_trial_priceStart c_trial_priceStep c_trial_thrown_cells c_trial_thrown_filled c_trial_nets_cells c_trial_nets_filled c_flight_loads_cells c_flight_loads_filled c_flight_order c_flight_done c_flight_start c_flight_end c_changes_who c_changes_column c_changes_was c_changes_held c_kept_older_cells c_kept_older_filled c_kept_newer_cells c_kept_newer_filled c_kept_held c_turns_need)) (QI dC dI (W_X8 a0 a1 a2 a3 a4 a5 a6 a7 a8 a9 a10 a11 a12 a13 a14 a15 a16 a17 a18 a19 a20 a21 a22 a23 a24 a25 a26 a27 a28 a29 cI cJ c_text_bytes c_text_length c_reader_numbers c_reader_next c_laid_stand c_laid_home c_laid_priceStart c_laid_priceStep c_laid_thrown_cells c_laid_thrown_filled c_laid_nets_cells c_laid_nets_filled c_trial_stand c_trial_home c_trial_priceStart c_trial_priceStep c_trial_thrown_cells c_trial_thrown_filled c_trial_nets_cells c_trial_nets_filled c_flight_loads_cells c_flight_loads_filled c_flight_order c_flight_done c_flight_start c_flight_end c_changes_who c_changes_column c_changes_was c_changes_held c_kept_older_cells c_kept_older_filled c_kept_newer_cells c_kept_newer_filled c_kept_held c_turns_need) (W_X8 a0 a1 a2 a3 a4 a5 a6 a7 a8 a9 a10 a11 a12 a13 a14 a15 a16 a17 a18 a19 a20 a21 a22 a23 a24 a25 a26 a27 a28 a29 cI cJ c_text_bytes c_text_length c_reader_numbers c_reader_next c_laid_stand c_laid_home c_laid_priceStart c_laid_priceStep c_laid_thrown_cells c_laid_thrown_filled c_laid_nets_cells c_laid_nets_filled n_trial_stand n_trial_home n_trial_priceStart n_trial_priceStep n_trial_thrown_cells n_trial_thrown_filled n_trial_nets_cells n_trial_nets_filled n_flight_loads_cells c_flight_loads_filled n_flight_order n_flight_done n_flight_start n_flight_end c_changes_who c_changes_column c_changes_was c_changes_held c_kept_older_cells c_kept_older_filled c_kept_newer_cells c_kept_newer_filled c_kept_held c_turns_need) res) 0 0 (FA (W_X8 a0 a1 a2 a3 a4 a5 a6 a7 a8 a9 a10 a11 a12 a13 a14 a15 a16 a17 a18 a19 a20 a21 a22 a23 a24 a25 a26 a27 a28 a29 cI cJ c_text_bytes c_text_length c_reader_numbers c_reader_next c_laid_stand c_laid_home c_laid_priceStart c_laid_priceStep c_laid_thrown_cells c_laid_thrown_filled c_laid_nets_cells c_laid_nets_filled c_trial_stand c_trial_home c_trial_priceStart c_trial_priceStep c_trial_thrown_cells c_trial_thrown_filled c_trial_nets_cells c_trial_nets_filled c_flight_loads_cells c_flight_loads_filled c_flight_order c_flight_done c_flight_start c_flight_end c_changes_who c_changes_column c_changes_was c_changes_held c_kept_older_cells c_kept_older_filled c_kept_newer_cells c_kept_newer_filled c_kept_held c_turns_need)) := by
  refine r_metI (by decide +kernel) (Nat.le_of_ble_eq_true rfl) ?_
  intro p e s m args below meth c A H0 QQ X ret ls hl hG
  have X : Cx p m c cX8_bestAim 6 s args RX8 dC dI cI cJ meth (some .int) := X
  have hx := X.1.1
  have hb := X.1.2.1
  have hl : lv_has ls 6 [(0, .ref a0), (1, .int x1), (2, .int x2)] := hl
  have L44 : ∀ (c_trial_stand : Int32) (c_trial_home : Int32) (c_trial_priceStart : Int32) (c_trial_priceStep : Int32) (c_trial_thrown_filled : Int32) (c_trial_nets_cells : Nat → Int32) (c_trial_nets_filled : Int32), ∀ (n : Nat) (x3 : Int32) (x4 : Int32) (x5 : Int32) (c_trial_thrown_cells : Nat → Int32) (c_flight_loads_cells : Nat → Int32) (c_flight_order : Nat → Int32) (c_flight_done : Int32) (c_flight_start : Int32) (c_flight_end : Int32) (ex3 : Int32) (ex4 : Int32) (ec_trial_thrown_cells : Nat → Int32) (ec_flight_loads_cells : Nat → Int32) (ec_flight_order : Nat → Int32) (ec_flight_done : Int32) (ec_flight_start : Int32) (ec_flight_end : Int32), DX8_bestAim_L44 x1 c_trial_stand c_trial_home c_trial_priceStart c_trial_priceStep c_trial_thrown_filled c_trial_nets_cells c_trial_nets_filled n x3 x4 x5 c_trial_thrown_cells c_flight_loads_cells c_flight_order c_flight_done c_flight_start c_flight_end = some (ex3, ex4, ec_trial_thrown_cells, ec_flight_loads_cells, ec_flight_order, ec_flight_done, ec_flight_start, ec_flight_end) → (∀ (ls : Array Slot) (H : Heap) (locs : List Loc), lv_has ls 6 [(2, .int x2), (3, .int ex3), (4, .int ex4)] → G dC dI A H0 (W_X8 a0 a1 a2 a3 a4 a5 a6 a7 a8 a9 a10 a11 a12 a13 a14 a15 a16 a17 a18 a19 a20 a21 a22 a23 a24 a25 a26 a27 a28 a29 cI cJ c_text_bytes c_text_length c_reader_numbers c_reader_next c_laid_stand c_laid_home c_laid_priceStart c_laid_priceStep c_laid_thrown_cells c_laid_thrown_filled c_laid_nets_cells c_laid_nets_filled c_trial_stand c_trial_home c_trial_priceStart c_trial_priceStep ec_trial_thrown_cells c_trial_thrown_filled c_trial_nets_cells c_trial_nets_filled ec_flight_loads_cells c_flight_loads_filled ec_flight_order ec_flight_done ec_flight_start ec_flight_end c_changes_who c_changes_column c_changes_was c_changes_held c_kept_older_cells c_kept_older_filled c_kept_newer_cells c_kept_newer_filled c_kept_held c_turns_need) H locs → W p l e (RM 6 143) s m args below meth c H locs 0 0 QQ (F0 m 109 ls [])) → ∀ (ls : Array Slot) (H : Heap) (locs : List Loc), lv_has ls 6 [(0, .ref a0), (1, .int x1), (2, .int x2), (3, .int x3), (4, .int x4), (5, .int x5)] → G dC dI A H0 (W_X8 a0 a1 a2 a3 a4 a5 a6 a7 a8 a9 a10 a11 a12 a13 a14 a15 a16 a17 a18 a19 a20 a21 a22 a23 a24 a25 a26 a27 a28 a29 cI cJ c_text_bytes c_text_length c_reader_numbers c_reader_next c_laid_stand c_laid_home c_laid_priceStart c_laid_priceStep c_laid_thrown_cells c_laid_thrown_filled c_laid_nets_cells c_laid_nets_filled c_trial_stand c_trial_home c_trial_priceStart c_trial_priceStep c_trial_thrown_cells c_trial_thrown_filled c_trial_nets_cells c_trial_nets_filled c_flight_loads_cells c_flight_loads_filled c_flight_order c_flight_done c_flight_start c_flight_end c_changes_who c_changes_column c_changes_was c_changes_held c_kept_older_cells c_kept_older_filled c_kept_newer_cells c_kept_newer_filled c_kept_held c_turns_need) H locs → W p l e (RM 6 143) s m args below meth c H locs 0 0 QQ (F0 m 44 ls []) := by
    intro c_trial_stand c_trial_home c_trial_priceStart c_trial_priceStep c_trial_thrown_filled c_trial_nets_cells c_trial_nets_filled n
    induction n with
    | zero => intro x3 x4 x5 c_trial_thrown_cells c_flight_loads_cells c_flight_order c_flight_done c_flight_start c_flight_end ex3 ex4 ec_trial_thrown_cells ec_flight_loads_cells ec_flight_order ec_flight_done ec_flight_start ec_flight_end h; exact it_zero h
    | succ n ih =>
      intro x3 x4 x5 c_trial_thrown_cells c_flight_loads_cells c_flight_order c_flight_done c_flight_start c_flight_end ex3 ex4 ec_trial_thrown_cells ec_flight_loads_cells ec_flight_order ec_flight_done ec_flight_start ec_flight_end h0 K0 ls H locs hl hG
      obtain ⟨w, h, hi, hr⟩ := it_succ h0
      have h : DX8_bestAim_L44s x1 c_trial_stand c_trial_home c_trial_priceStart c_trial_priceStep c_trial_thrown_filled c_trial_nets_cells c_trial_nets_filled x3 x4 x5 c_trial_thrown_cells c_flight_loads_cells c_flight_order c_flight_done c_flight_start c_flight_end = some w := h
      have KC : ∀ (x3 : Int32) (x4 : Int32) (x5 : Int32) (c_trial_thrown_cells : Nat → Int32) (c_flight_loads_cells : Nat → Int32) (c_flight_order : Nat → Int32) (c_flight_done : Int32) (c_flight_start : Int32) (c_flight_end : Int32), w = .inl (x3, x4, x5, c_trial_thrown_cells, c_flight_loads_cells, c_flight_order, c_flight_done, c_flight_start, c_flight_end) → ∀ (ls : Array Slot) (H : Heap) (locs : List Loc), lv_has ls 6 [(0, .ref a0), (1, .int x1), (2, .int x2), (3, .int x3), (4, .int x4), (5, .int x5)] → G dC dI A H0 (W_X8 a0 a1 a2 a3 a4 a5 a6 a7 a8 a9 a10 a11 a12 a13 a14 a15 a16 a17 a18 a19 a20 a21 a22 a23 a24 a25 a26 a27 a28 a29 cI cJ c_text_bytes c_text_length c_reader_numbers c_reader_next c_laid_stand c_laid_home c_laid_priceStart c_laid_priceStep c_laid_thrown_cells c_laid_thrown_filled c_laid_nets_cells c_laid_nets_filled c_trial_stand c_trial_home c_trial_priceStart c_trial_priceStep c_trial_thrown_cells c_trial_thrown_filled c_trial_nets_cells c_trial_nets_filled c_flight_loads_cells c_flight_loads_filled c_flight_order c_flight_done c_flight_start c_flight_end c_changes_who c_changes_column c_changes_was c_changes_held c_kept_older_cells c_kept_older_filled c_kept_newer_cells c_kept_newer_filled c_kept_held c_turns_need) H locs → W p l e (RM 6 143) s m args below meth c H locs 0 0 QQ (F0 m 44 ls []) := fun b0 b1 b2 b3 b4 b5 b6 b7 b8 e ls H locs hl hG => ih b0 b1 b2 b3 b4 b5 b6 b7 b8 ex3 ex4 ec_trial_thrown_cells ec_flight_loads_cells ec_flight_order ec_flight_done ec_flight_start ec_flight_end (hi _ e) K0 ls H locs hl hG
      have KX : ∀ (x3 : Int32) (x4 : Int32) (c_trial_thrown_cells : Nat → Int32) (c_flight_loads_cells : Nat → Int32) (c_flight_order : Nat → Int32) (c_flight_done : Int32) (c_flight_start : Int32) (c_flight_end : Int32), w = .inr (x3, x4, c_trial_thrown_cells, c_flight_loads_cells, c_flight_order, c_flight_done, c_flight_start, c_flight_end) → ∀ (ls : Array Slot) (H : Heap) (locs : List Loc), lv_has ls 6 [(2, .int x2), (3, .int x3), (4, .int x4)] → G dC dI A H0 (W_X8 a0 a1 a2 a3 a4 a5 a6 a7 a8 a9 a10 a11 a12 a13 a14 a15 a16 a17 a18 a19 a20 a21 a22 a23 a24 a25 a26 a27 a28 a29 cI cJ c_text_bytes c_text_length c_reader_numbers c_reader_next c_laid_stand c_laid_home c_laid_priceStart c_laid_priceStep c_laid_thrown_cells c_laid_thrown_filled c_laid_nets_cells c_laid_nets_filled c_trial_stand c_trial_home c_trial_priceStart c_trial_priceStep c_trial_thrown_cells c_trial_thrown_filled c_trial_nets_cells c_trial_nets_filled c_flight_loads_cells c_flight_loads_filled c_flight_order c_flight_done c_flight_start c_flight_end c_changes_who c_changes_column c_changes_was c_changes_held c_kept_older_cells c_kept_older_filled c_kept_newer_cells c_kept_newer_filled c_kept_held c_turns_need) H locs → W p l e (RM 6 143) s m args below meth c H locs 0 0 QQ (F0 m 109 ls []) := fun b0 b1 b2 b3 b4 b5 b6 b7 e ls H locs hl hG => by cases hr _ e; exact K0 ls H locs hl hG
      clear h0 hi hr K0 ih
      unfold DX8_bestAim_L44s at h
      refine lv_iload hx hb dX8_bestAim_44 (lv_at hl 5 rfl) ?_
      refine lv_bipush (v := (24 : Int32)) hx hb dX8_bestAim_46 (by decide) ?_
      refine lv_icmp_ge (tgt := 109) hx hb dX8_bestAim_48 (by decide) (fun c_16 => ?_) (fun c_16 => ?_)
      · have h := ite_t h c_16
        exact KX _ _ _ _ _ _ _ _ (Option.some.inj h).symm _ _ _ (lv_sub hl [2, 3, 4] rfl) hG
      · have h := ite_f h c_16
        refine lv_aload_n hx hb dX8_bestAim_51 rfl (lv_at hl 0 rfl) ?_
        refine r_get X hG in_X8 rfl 3 (by decide) w_238 0 rfl rfl dX8_bestAim_52 ?_
        refine r_getN X hG in_X3 rfl 4 (by decide) w_136 10 rfl rfl dX8_bestAim_55 ?_
        refine lv_iload_n hx hb dX8_bestAim_58 rfl (lv_at hl 1 rfl) ?_
        refine lv_iconst (v := (1 : Int32)) hx hb dX8_bestAim_59 (by decide) ?_
        refine lv_iload hx hb dX8_bestAim_60 (lv_at hl 5 rfl) ?_
        obtain ⟨k_trial_thrown_cells_17, hz_18, h⟩ := bd1_some h
        refine aft_v (ws' := (W_X8 a0 a1 a2 a3 a4 a5 a6 a7 a8 a9 a10 a11 a12 a13 a14 a15 a16 a17 a18 a19 a20 a21 a22 a23 a24 a25 a26 a27 a28 a29 cI cJ c_text_bytes c_text_length c_reader_numbers c_reader_next c_laid_stand c_laid_home c_laid_priceStart c_laid_priceStep c_laid_thrown_cells c_laid_thrown_filled c_laid_nets_cells c_laid_nets_filled c_trial_stand c_trial_home c_trial_priceStart c_trial_priceStep k_trial_thrown_cells_17 c_trial_thrown_filled c_trial_nets_cells c_trial_nets_filled c_flight_loads_cells c_flight_loads_filled c_flight_order c_flight_done c_flight_start c_flight_end c_changes_who c_changes_column c_changes_was c_changes_held c_kept_older_cells c_kept_older_filled c_kept_newer_cells c_kept_newer_filled c_kept_held c_turns_need)) (run_V (rest := []) X hG hl.1 (mX5_set l dC dI cI cJ a11 a12 (7 : Int32) (4 : Int32) 28 c_trial_thrown_cells c_trial_thrown_filled x1 (1 : Int32) x5 hz_18) gi_V_X8_148 hd_V_yX5_set ⟨rfl, rfl⟩ rfl ⟨Nat.le_of_ble_eq_true rfl, Nat.le_of_ble_eq_true rfl⟩ [11, 12] (by decide) rfl 11 rfl rfl rfl rfl (Nat.le_of_ble_eq_true rfl) ⟨Nat.le_of_ble_eq_true rfl, Nat.le_of_ble_eq_true rfl⟩ dX8_bestAim_62) hG [11, 12] rfl rfl rfl (fun H locs hG => ?_)
        clear hz_18
        refine lv_aload_n hx hb dX8_bestAim_65 rfl (lv_at hl 0 rfl) ?_
        refine r_get X hG in_X8 rfl 4 (by decide) w_239 0 rfl rfl dX8_bestAim_66 ?_
        refine lv_aload_n hx hb dX8_bestAim_69 rfl (lv_at hl 0 rfl) ?_
        refine r_get X hG in_X8 rfl 3 (by decide) w_238 0 rfl rfl dX8_bestAim_70 ?_
        refine lv_iconst (v := (0 : Int32)) hx hb dX8_bestAim_73 (by decide) ?_
        obtain ⟨k_flight_loads_cells_19, k_flight_order_20, k_flight_done_21, k_flight_start_22, k_flight_end_23, hz_24, h⟩ := bd5_some h
        refine aft_v (ws' := (W_X8 a0 a1 a2 a3 a4 a5 a6 a7 a8 a9 a10 a11 a12 a13 a14 a15 a16 a17 a18 a19 a20 a21 a22 a23 a24 a25 a26 a27 a28 a29 cI cJ c_text_bytes c_text_length c_reader_numbers c_reader_next c_laid_stand c_laid_home c_laid_priceStart c_laid_priceStep c_laid_thrown_cells c_laid_thrown_filled c_laid_nets_cells c_laid_nets_filled c_trial_stand c_trial_home c_trial_priceStart c_trial_priceStep k_trial_thrown_cells_17 c_trial_thrown_filled c_trial_nets_cells c_trial_nets_filled k_flight_loads_cells_19 c_flight_loads_filled k_flight_order_20 k_flight_done_21 k_flight_start_22 k_flight_end_23 c_changes_who c_changes_column c_changes_was c_changes_held c_kept_older_cells c_kept_older_filled c_kept_newer_cells c_kept_newer_filled c_kept_held c_turns_need)) (run_V (rest := []) X hG hl.1 (mX1_fly l dC dI cI cJ a15 a16 a17 a18 a10 a11 a12 a13 a14 c_flight_loads_cells c_flight_loads_filled c_flight_order c_flight_done c_flight_start c_flight_end c_trial_stand c_trial_home c_trial_priceStart c_trial_priceStep k_trial_thrown_cells_17 c_trial_thrown_filled c_trial_nets_cells c_trial_nets_filled (0 : Int32) hz_24) gi_V_X8_106 hd_V_yX1_fly ⟨rfl, rfl⟩ rfl ⟨Nat.le_of_ble_eq_true rfl, Nat.le_of_ble_eq_true rfl⟩ [15, 16, 17, 18, 10, 11, 12, 13, 14] (by decide) rfl 15 rfl rfl rfl rfl (Nat.le_of_ble_eq_true rfl) ⟨Nat.le_of_ble_eq_true rfl, Nat.le_of_ble_eq_true rfl⟩ dX8_bestAim_74) hG [15, 16, 17, 18, 10, 11, 12, 13, 14] rfl rfl rfl (fun H locs hG => ?_)
        clear hz_24
        refine lv_aload_n hx hb dX8_bestAim_77 rfl (lv_at hl 0 rfl) ?_
        refine r_get X hG in_X8 rfl 4 (by decide) w_239 0 rfl rfl dX8_bestAim_78 ?_
        refine lv_iconst (v := (0 : Int32)) hx hb dX8_bestAim_81 (by decide) ?_
        obtain ⟨r_25, hz_26, h⟩ := bd1_some h
        refine aft_i (ws' := (W_X8 a0 a1 a2 a3 a4 a5 a6 a7 a8 a9 a10 a11 a12 a13 a14 a15 a16 a17 a18 a19 a20 a21 a22 a23 a24 a25 a26 a27 a28 a29 cI cJ c_text_bytes c_text_length c_reader_numbers c_reader_next c_laid_stand c_laid_home c_laid_priceStart c_laid_priceStep c_laid_thrown_cells c_laid_thrown_filled c_laid_nets_cells c_laid_nets_filled c_trial_stand c_trial_home c_trial_priceStart c_trial_priceStep k_trial_thrown_cells_17 c_trial_thrown_filled c_trial_nets_cells c_trial_nets_filled k_flight_loads_cells_19 c_flight_loads_filled k_flight_order_20 k_flight_done_21 k_flight_start_22 k_flight_end_23 c_changes_who c_changes_column c_changes_was c_changes_held c_kept_older_cells c_kept_older_filled c_kept_newer_cells c_kept_newer_filled c_kept_held c_turns_need)) (run_V (rest := []) X hG hl.1 (mX1_howMany l dC dI cI cJ a15 a16 a17 a18 k_flight_loads_cells_19 c_flight_loads_filled k_flight_order_20 k_flight_done_21 k_flight_start_22 k_flight_end_23 (0 : Int32) hz_26) gi_V_X8_127 hd_V_yX1_howMany ⟨rfl, rfl⟩ rfl ⟨Nat.le_of_ble_eq_true rfl, Nat.le_of_ble_eq_true rfl⟩ [15, 16, 17, 18] (by decide) rfl 15 rfl rfl rfl rfl (Nat.le_of_ble_eq_true rfl) ⟨Nat.le_of_ble_eq_true rfl, Nat.le_of_ble_eq_true rfl⟩ dX8_bestAim_82) hG [15, 16, 17, 18] rfl rfl rfl (fun H locs hG => ?_)
        clear hz_26
        refine lv_iload hx hb dX8_bestAim_85 (lv_at hl 4 rfl) ?_
        refine lv_icmp_le (tgt := 103) hx hb dX8_bestAim_87 (by decide) (fun c_27 => ?_) (fun c_27 => ?_)
        · have h := ite_t h c_27
          refine lv_iinc (v := (x5 + (1 : Int32))) (lv' := [(5, .int (x5 + (1 : Int32))), (0, .ref a0), (1, .int x1), (2, .int x2), (3, .int x3), (4, .int x4)]) hx hb dX8_bestAim_103 hl (k := 5) rfl rfl (by decide) rfl (fun ls hl => ?_)
          refine lv_goto (tgt := 44) hx hb dX8_bestAim_106 (by decide) ?_
          exact KC _ _ _ _ _ _ _ _ _ (Option.some.inj h).symm _ _ _ (lv_sub hl [1, 2, 3, 4, 5, 0] rfl) hG
        · have h := ite_f h c_27
          refine lv_aload_n hx hb dX8_bestAim_90 rfl (lv_at hl 0 rfl) ?_
          refine r_get X hG in_X8 rfl 4 (by decide) w_239 0 rfl rfl dX8_bestAim_91 ?_
          refine lv_iconst (v := (0 : Int32)) hx hb dX8_bestAim_94 (by decide) ?_
          obtain ⟨r_28, hz_29, h⟩ := bd1_some h
          refine aft_i (ws' := (W_X8 a0 a1 a2 a3 a4 a5 a6 a7 a8 a9 a10 a11 a12 a13 a14 a15 a16 a17 a18 a19 a20 a21 a22 a23 a24 a25 a26 a27 a28 a29 cI cJ c_text_bytes c_text_length c_reader_numbers c_reader_next c_laid_stand c_laid_home c_laid_priceStart c_laid_priceStep c_laid_thrown_cells c_laid_thrown_filled c_laid_nets_cells c_laid_nets_filled c_trial_stand c_trial_home c_trial_priceStart c_trial_priceStep k_trial_thrown_cells_17 c_trial_thrown_filled c_trial_nets_cells c_trial_nets_filled k_flight_loads_cells_19 c_flight_loads_filled k_flight_order_20 k_flight_done_21 k_flight_start_22 k_flight_end_23 c_changes_who c_changes_column c_changes_was c_changes_held c_kept_older_cells c_kept_older_filled c_kept_newer_cells c_kept_newer_filled c_kept_held c_turns_need)) (run_V (rest := []) X hG hl.1 (mX1_howMany l dC dI cI cJ a15 a16 a17 a18 k_flight_loads_cells_19 c_flight_loads_filled k_flight_order_20 k_flight_done_21 k_flight_start_22 k_flight_end_23 (0 : Int32) hz_29) gi_V_X8_127 hd_V_yX1_howMany ⟨rfl, rfl⟩ rfl ⟨Nat.le_of_ble_eq_true rfl, Nat.le_of_ble_eq_true rfl⟩ [15, 16, 17, 18] (by decide) rfl 15 rfl rfl rfl rfl (Nat.le_of_ble_eq_true rfl) ⟨Nat.le_of_ble_eq_true rfl, Nat.le_of_ble_eq_true rfl⟩ dX8_bestAim_95) hG [15, 16, 17, 18] rfl rfl rfl (fun H locs hG => ?_)
          clear hz_29
          refine lv_istore (lv' := [(4, .int r_28), (0, .ref a0), (1, .int x1), (2, .int x2), (3, .int x3), (5, .int x5)]) hx hb dX8_bestAim_98 hl (by decide) rfl (fun ls hl => ?_)
          refine lv_iload hx hb dX8_bestAim_100 (lv_at hl 5 rfl) ?_
          refine lv_istore_n (lv' := [(3, .int x5), (4, .int r_28), (0, .ref a0), (1, .int x1), (2, .int x2), (5, .int x5)]) hx hb dX8_bestAim_102 rfl hl (by decide) rfl (fun ls hl => ?_)
          refine lv_iinc (v := (x5 + (1 : Int32))) (lv' := [(5, .int (x5 + (1 : Int32))), (3, .int x5), (4, .int r_28), (0, .ref a0), (1, .int x1), (2, .int x2)]) hx hb dX8_bestAim_103 hl (k := 5) rfl rfl (by decide) rfl (fun ls hl => ?_)
          refine lv_goto (tgt := 44) hx hb dX8_bestAim_106 (by decide) ?_
          exact KC _ _ _ _ _ _ _ _ _ (Option.some.inj h).symm _ _ _ (lv_sub hl [3, 4, 5, 1, 2, 0] rfl) hG
  have h := hD
  unfold DX8_bestAim at h
  clear hD
  refine lv_aload_n hx hb dX8_bestAim_0 rfl (lv_at hl 0 rfl) ?_
  refine r_get X hG in_X8 rfl 2 (by decide) w_237 0 rfl rfl dX8_bestAim_1 ?_
  refine r_getN X hG in_X3 rfl 4 (by decide) w_136 5 rfl rfl dX8_bestAim_4 ?_
  refine lv_iload_n hx hb dX8_bestAim_7 rfl (lv_at hl 1 rfl) ?_
  obtain ⟨r_1, hz_2, h⟩ := bd1_some h
  refine aft_i (ws' := (W_X8 a0 a1 a2 a3 a4 a5 a6 a7 a8 a9 a10 a11 a12 a13 a14 a15 a16 a17 a18 a19 a20 a21 a22 a23 a24 a25 a26 a27 a28 a29 cI cJ c_text_bytes c_text_length c_reader_numbers c_reader_next c_laid_stand c_laid_home c_laid_priceStart c_laid_priceStep c_laid_thrown_cells c_laid_thrown_filled c_laid_nets_cells c_laid_nets_filled c_trial_stand c_trial_home c_trial_priceStart c_trial_priceStep c_trial_thrown_cells c_trial_thrown_filled c_trial_nets_cells c_trial_nets_filled c_flight_loads_cells c_flight_loads_filled c_flight_order c_flight_done c_flight_start c_flight_end c_changes_who c_changes_column c_changes_was c_changes_held c_kept_older_cells c_kept_older_filled c_kept_newer_cells c_kept_newer_filled c_kept_held c_turns_need)) (run_V (rest := []) X hG hl.1 (mX5_has l dC dI cI cJ a6 a7 (7 : Int32) (4 : Int32) 28 c_laid_thrown_cells c_laid_thrown_filled x1 hz_2) gi_V_X8_102 hd_V_yX5_has ⟨rfl, rfl⟩ rfl ⟨Nat.le_of_ble_eq_true rfl, Nat.le_of_ble_eq_true rfl⟩ [6, 7] (by decide) rfl 6 rfl rfl rfl rfl (Nat.le_of_ble_eq_true rfl) ⟨Nat.le_of_ble_eq_true rfl, Nat.le_of_ble_eq_true rfl⟩ dX8_bestAim_8) hG [6, 7] rfl rfl rfl (fun H locs hG => ?_)
  clear hz_2
  refine lv_if_eq (tgt := 23) hx hb dX8_bestAim_11 (by decide) (fun c_3 => ?_) (fun c_3 => ?_)
  · have h := ite_t h c_3
    refine lv_iconst (v := (-1 : Int32)) hx hb dX8_bestAim_23 (by decide) ?_
    cases h
    exact ret _ _ _ _ dX8_bestAim_24 hG
  · have h := ite_f h c_3
    refine lv_iload_n hx hb dX8_bestAim_14 rfl (lv_at hl 2 rfl) ?_
    refine lv_iconst (v := (0 : Int32)) hx hb dX8_bestAim_15 (by decide) ?_
    refine lv_iconst (v := (1 : Int32)) hx hb dX8_bestAim_16 (by decide) ?_
    obtain ⟨r_4, hz_5, h⟩ := bd1_some h
    refine aft_i (ws' := (W_X8 a0 a1 a2 a3 a4 a5 a6 a7 a8 a9 a10 a11 a12 a13 a14 a15 a16 a17 a18 a19 a20 a21 a22 a23 a24 a25 a26 a27 a28 a29 cI cJ c_text_bytes c_text_length c_reader_numbers c_reader_next c_laid_stand c_laid_home c_laid_priceStart c_laid_priceStep c_laid_thrown_cells c_laid_thrown_filled c_laid_nets_cells c_laid_nets_filled c_trial_stand c_trial_home c_trial_priceStart c_trial_priceStep c_trial_thrown_cells c_trial_thrown_filled c_trial_nets_cells c_trial_nets_filled c_flight_loads_cells c_flight_loads_filled c_flight_order c_flight_done c_flight_start c_flight_end c_changes_who c_changes_column c_changes_was c_changes_held c_kept_older_cells c_kept_older_filled c_kept_newer_cells c_kept_newer_filled c_kept_held c_turns_need)) (run_S (rest := []) X hG hl.1 (mX8_within l dC dI cI cJ x2 (0 : Int32) (1 : Int32) hz_5) gi_S_X8_74 hd_S_yX8_within ⟨rfl, rfl⟩ rfl ⟨Nat.le_of_ble_eq_true rfl, Nat.le_of_ble_eq_true rfl⟩ [] (by decide) rfl rfl (Nat.le_of_ble_eq_true rfl) ⟨Nat.le_of_ble_eq_true rfl, Nat.le_of_ble_eq_true rfl⟩ dX8_bestAim_17) hG [] rfl rfl rfl (fun H locs hG => ?_)
    clear hz_5
    refine lv_if_ne (tgt := 25) hx hb dX8_bestAim_20 (by decide) (fun c_6 => ?_) (fun c_6 => ?_)
    · have h := ite_f h c_6
      refine lv_iconst (v := (0 : Int32)) hx hb dX8_bestAim_25 (by decide) ?_
      refine lv_istore_n (lv' := [(3, .int (0 : Int32)), (0, .ref a0), (1, .int x1), (2, .int x2)]) hx hb dX8_bestAim_26 rfl hl (by decide) rfl (fun ls hl => ?_)
      refine lv_iconst (v := (-1 : Int32)) hx hb dX8_bestAim_27 (by decide) ?_
      refine lv_istore (lv' := [(4, .int (-1 : Int32)), (3, .int (0 : Int32)), (0, .ref a0), (1, .int x1), (2, .int x2)]) hx hb dX8_bestAim_28 hl (by decide) rfl (fun ls hl => ?_)
      refine lv_aload_n hx hb dX8_bestAim_30 rfl (lv_at hl 2 rfl) ?_
      refine r_get X hG in_X8 rfl 3 (by decide) w_238 0 rfl rfl dX8_bestAim_31 ?_
      refine lv_aload_n hx hb dX8_bestAim_34 rfl (lv_at hl 2 rfl) ?_
      refine r_get X hG in_X8 rfl 2 (by decide) w_237 0 rfl rfl dX8_bestAim_35 ?_
      obtain ⟨k_trial_stand_7, k_trial_home_8, k_trial_priceStart_9, k_trial_priceStep_10, k_trial_thrown_cells_11, k_trial_thrown_filled_12, k_trial_nets_cells_13, k_trial_nets_filled_14, hz_15, h⟩ := bd8_some h
      refine aft_v (ws' := (W_X8 a0 a1 a2 a3 a4 a5 a6 a7 a8 a9 a10 a11 a12 a13 a14 a15 a16 a17 a18 a19 a20 a21 a22 a23 a24 a25 a26 a27 a28 a29 cI cJ c_text_bytes c_text_length c_reader_numbers c_reader_next c_laid_stand c_laid_home c_laid_priceStart c_laid_priceStep c_laid_thrown_cells c_laid_thrown_filled c_laid_nets_cells c_laid_nets_filled k_trial_stand_7 k_trial_home_8 k_trial_priceStart_9 k_trial_priceStep_10 k_trial_thrown_cells_11 k_trial_thrown_filled_12 k_trial_nets_cells_13 k_trial_nets_filled_14 c_flight_loads_cells c_flight_loads_filled c_flight_order c_flight_done c_flight_start c_flight_end c_changes_who c_changes_column c_changes_was c_changes_held c_kept_older_cells c_kept_older_filled c_kept_newer_cells c_kept_newer_filled c_kept_held c_turns_need)) (run_V (rest := []) X hG hl.1 (mX3_takeOver l dC dI cI cJ a10 a11 a12 a13 a14 a5 a6 a7 a8 a9 c_trial_stand c_trial_home c_trial_priceStart c_trial_priceStep c_trial_thrown_cells c_trial_thrown_filled c_trial_nets_cells c_trial_nets_filled c_laid_stand c_laid_home c_laid_priceStart c_laid_priceStep c_laid_thrown_cells c_laid_thrown_filled c_laid_nets_cells c_laid_nets_filled hz_15) gi_V_X8_94 hd_V_yX3_takeOver ⟨rfl, rfl⟩ rfl ⟨Nat.le_of_ble_eq_true rfl, Nat.le_of_ble_eq_true rfl⟩ [10, 11, 12, 13, 14, 5, 6, 7, 8, 9] (by decide) rfl 10 rfl rfl rfl rfl (Nat.le_of_ble_eq_true rfl) ⟨Nat.le_of_ble_eq_true rfl, Nat.le_of_ble_eq_true rfl⟩ dX8_bestAim_38) hG [10, 11, 12, 13, 14, 5, 6, 7, 8, 9] rfl rfl rfl (fun H locs hG => ?_)
      clear hz_15
      refine lv_iconst (v := (0 : Int32)) hx hb dX8_bestAim_41 (by decide) ?_
      refine lv_istore (lv' := [(5, .int (0 : Int32)), (4, .int (-1 : Int32)), (3, .int (0 : Int32)), (0, .ref a0), (1, .int x1), (2, .int x2)]) hx hb dX8_bestAim_42 hl (by decide) rfl (fun ls hl => ?_)
      obtain ⟨z3_30, z4_31, k_trial_thrown_cells_32, k_flight_loads_cells_33, k_flight_order_34, k_flight_done_35, k_flight_start_36, k_flight_end_37, hz, h⟩ := bd8_some h
      refine L44 k_trial_stand_7 k_trial_home_8 k_trial_priceStart_9 k_trial_priceStep_10 k_trial_thrown_filled_12 k_trial_nets_cells_13 k_trial_nets_filled_14 FU (0 : Int32) (-1 : Int32) (0 : Int32) k_trial_thrown_cells_11 c_flight_loads_cells c_flight_order c_flight_done c_flight_start c_flight_end _ _ _ _ _ _ _ _ hz (fun ls H locs hl hG => ?_) _ _ _ (lv_sub hl [3, 4, 5, 2, 1, 0] rfl) hG
      clear hz
      refine lv_iload_n hx hb dX8_bestAim_109 rfl (lv_at hl 0 rfl) ?_
      refine lv_if_ne (tgt := 117) hx hb dX8_bestAim_110 (by decide) (fun c_38 => ?_) (fun c_38 => ?_)
      · have h := ite_f h c_38
        refine lv_iload hx hb dX8_bestAim_117 (lv_at hl 2 rfl) ?_
        cases h
        exact ret _ _ _ _ dX8_bestAim_119 hG
      · have h := ite_t h c_38
        refine lv_iload_n hx hb dX8_bestAim_113 rfl (lv_at hl 1 rfl) ?_
        refine lv_goto (tgt := 119) hx hb dX8_bestAim_114 (by decide) ?_
        cases h
        exact ret _ _ _ _ dX8_bestAim_119 hG
    · have h := ite_t h c_6
      refine lv_iconst (v := (-1 : Int32)) hx hb dX8_bestAim_23 (by decide) ?_
      cases h
      exact ret _ _ _ _ dX8_bestAim_24 hG
set_option maxRecDepth 100000 in
set_option maxHeartbeats 4000000 in
theorem mX8_bestDay (l : Launch) (dC : Nat → ClassId) (dI : Nat → Nat → Nat) (cI cJ : ClassId) (a0 a1 a2 a3 a4 a5 a6 a7 a8 a9 a10 a11 a12 a13 a14 a15 a16 a17 a18 a19 a20 a21 a22 a23 a24 a25 a26 a27 a28 a29 : Nat) (c_text_bytes : Nat → Int32) (c_text_length : Int32) (c_reader_numbers : Nat → Int32) (c_reader_next : Int32) (c_laid_stand : Int32) (c_laid_home : Int32) (c_laid_priceStart : Int32) (c_laid_priceStep : Int32) (c_laid_thrown_cells : Nat → Int32) (c_laid_thrown_filled : Int32) (c_laid_nets_cells : Nat → Int32) (c_laid_nets_filled : Int32) (c_trial_stand : Int32) (c_trial_home : Int32) (c_trial_priceStart : Int32) (c_trial_priceStep : Int32) (c_trial_thrown_cells : Nat → Int32) (c_trial_thrown_filled : Int32) (c_trial_nets_cells : Nat → Int32) (c_trial_nets_filled : Int32) (c_flight_loads_cells : Nat → Int32) (c_flight_loads_filled : Int32) (c_flight_order : Nat → Int32) (c_flight_done : Int32) (c_flight_start : Int32) (c_flight_end : Int32) (c_changes_who : Nat → Int32) (c_changes_column : Nat → Int32) (c_changes_was : Nat → Int32) (c_changes_held : Int32) (c_kept_older_cells : Nat → Int32) (c_kept_older_filled : Int32) (c_kept_newer_cells : Nat → Int32) (c_kept_newer_filled : Int32) (c_kept_held : Int32) (c_turns_need : Nat → Int32) (x1 : Int32) (x2 : Int32) {res : Int32} {n_trial_stand : Int32} {n_trial_home : Int32} {n_trial_priceStart : Int32} {n_trial_priceStep : Int32} {n_trial_thrown_cells : Nat → Int32} {n_trial_thrown_filled : Int32} {n_trial_nets_cells : Nat → Int32} {n_trial_nets_filled : Int32} {n_flight_loads_cells : Nat → Int32} {n_flight_order : Nat → Int32} {n_flight_done : Int32} {n_flight_start : Int32} {n_flight_end : Int32} (hD : DX8_bestDay x1 x2 c_laid_stand c_laid_home c_laid_priceStart c_laid_priceStep c_laid_thrown_cells c_laid_thrown_filled c_laid_nets_cells c_laid_nets_filled c_trial_stand c_trial_home c_trial_priceStart c_trial_priceStep c_trial_thrown_cells c_trial_thrown_filled c_trial_nets_cells c_trial_nets_filled c_flight_loads_cells c_flight_order c_flight_done c_flight_start c_flight_end = some (res, n_trial_stand, n_trial_home, n_trial_priceStart, n_trial_priceStep, n_trial_thrown_cells, n_trial_thrown_filled, n_trial_nets_cells, n_trial_nets_filled, n_flight_loads_cells, n_flight_order, n_flight_done, n_flight_start, n_flight_end)) : Met l yX8_bestDay (WZ yX8_bestDay cX8_bestDay 6 (some .int)) (RM 6 143) (PC dC dI cI cJ [.ref a0, .int x1, .int x2] (W_X8 a0 a1 a2 a3 a4 a5 a6 a7 a8 a9 a10 a11 a12 a13 a14 a15 a16 a17 a18 a19 a20 a21 a22 a23 a24 a25 a26 a27 a28 a29 cI cJ c_text_bytes c_text_length c_reader_numbers c_reader_next c_laid_stand c_laid_home c_laid_priceStart c_laid_priceStep c_laid_thrown_cells c_laid_thrown_filled c_laid_nets_cells c_laid_nets_filled c_trial_stand c_trial_home c_trial_priceStart c_trial_priceStep c_trial_thrown_cells c_trial_thrown_filled c_trial_nets_cells c_trial_nets_filled c_flight_loads_cells c_flight_loads_filled c_flight_order c_flight_done c_flight_start c_flight_end c_changes_who c_changes_column c_changes_was c_changes_held c_kept_older_cells c_kept_older_filled c_kept_newer_cells c_kept_newer_filled c_kept_held c_turns_need)) (QI dC dI (W_X8 a0 a1 a2 a3 a4 a5 a6 a7 a8 a9 a10 a11 a12 a13 a14 a15 a16 a17 a18 a19 a20 a21 a22 a23 a24 a25 a26 a27 a28 a29 cI cJ c_text_bytes c_text_length c_reader_numbers c_reader_next c_laid_stand c_laid_home c_laid_priceStart c_laid_priceStep c_laid_thrown_cells c_laid_thrown_filled c_laid_nets_cells c_laid_nets_filled c_trial_stand c_trial_home c_trial_priceStart c_trial_priceStep c_trial_thrown_cells c_trial_thrown_filled c_trial_nets_cells c_trial_nets_filled c_flight_loads_cells c_flight_loads_filled c_flight_order c_flight_done c_flight_start c_flight_end c_changes_who c_changes_column c_changes_was c_changes_held c_kept_older_cells c_kept_older_filled c_kept_newer_cells c_kept_newer_filled c_kept_held c_turns_need) (W_X8 a0 a1 a2 a3 a4 a5 a6 a7 a8 a9 a10 a11 a12 a13 a14 a15 a16 a17 a18 a19 a20 a21 a22 a23 a24 a25 a26 a27 a28 a29 cI cJ c_text_bytes c_text_length c_reader_numbers c_reader_next c_laid_stand c_laid_home c_laid_priceStart c_laid_priceStep c_laid_thrown_cells c_laid_thrown_filled c_laid_nets_cells c_laid_nets_filled n_trial_stand n_trial_home n_trial_priceStart n_trial_priceStep n_trial_thrown_cells n_trial_thrown_filled n_trial_nets_cells n_trial_nets_filled n_flight_loads_cells c_flight_loads_filled n_flight_order n_flight_done n_flight_start n_flight_end c_changes_who c_changes_column c_changes_was c_changes_held c_kept_older_cells c_kept_older_filled c_kept_newer_cells c_kept_newer_filled c_kept_held c_turns_need) res) 0 0 (FA (W_X8 a0 a1 a2 a3 a4 a5 a6 a7 a8 a9 a10 a11 a12 a13 a14 a15 a16 a17 a18 a19 a20 a21 a22 a23 a24 a25 a26 a27 a28 a29 cI cJ c_text_bytes c_text_length c_reader_numbers c_reader_next c_laid_stand c_laid_home c_laid_priceStart c_laid_priceStep c_laid_thrown_cells c_laid_thrown_filled c_laid_nets_cells c_laid_nets_filled c_trial_stand c_trial_home c_trial_priceStart c_trial_priceStep c_trial_thrown_cells c_trial_thrown_filled c_trial_nets_cells c_trial_nets_filled c_flight_loads_cells c_flight_loads_filled c_flight_order c_flight_done c_flight_start c_flight_end c_changes_who c_changes_column c_changes_was c_changes_held c_kept_older_cells c_kept_older_filled c_kept_newer_cells c_kept_newer_filled c_kept_held c_turns_need)) := by
  refine r_metI (by decide +kernel) (Nat.le_of_ble_eq_true rfl) ?_
  intro p e s m args below meth c A H0 QQ X ret ls hl hG
  have X : Cx p m c cX8_bestDay 6 s args RX8 dC dI cI cJ meth (some .int) := X
  have hx := X.1.1
  have hb := X.1.2.1
  have hl : lv_has ls 6 [(0, .ref a0), (1, .int x1), (2, .int x2)] := hl
  have L45 : ∀ (c_trial_stand : Int32) (c_trial_home : Int32) (c_trial_priceStart : Int32) (c_trial_priceStep : Int32) (c_trial_thrown_filled : Int32) (c_trial_nets_cells : Nat → Int32) (c_trial_nets_filled : Int32), ∀ (n : Nat) (x3 : Int32) (x4 : Int32) (x5 : Int32) (c_trial_thrown_cells : Nat → Int32) (c_flight_loads_cells : Nat → Int32) (c_flight_order : Nat → Int32) (c_flight_done : Int32) (c_flight_start : Int32) (c_flight_end : Int32) (ex3 : Int32) (ex4 : Int32) (ec_trial_thrown_cells : Nat → Int32) (ec_flight_loads_cells : Nat → Int32) (ec_flight_order : Nat → Int32) (ec_flight_done : Int32) (ec_flight_start : Int32) (ec_flight_end : Int32), DX8_bestDay_L45 x1 c_trial_stand c_trial_home c_trial_priceStart c_trial_priceStep c_trial_thrown_filled c_trial_nets_cells c_trial_nets_filled n x3 x4 x5 c_trial_thrown_cells c_flight_loads_cells c_flight_order c_flight_done c_flight_start c_flight_end = some (ex3, ex4, ec_trial_thrown_cells, ec_flight_loads_cells, ec_flight_order, ec_flight_done, ec_flight_start, ec_flight_end) → (∀ (ls : Array Slot) (H : Heap) (locs : List Loc), lv_has ls 6 [(2, .int x2), (3, .int ex3), (4, .int ex4)] → G dC dI A H0 (W_X8 a0 a1 a2 a3 a4 a5 a6 a7 a8 a9 a10 a11 a12 a13 a14 a15 a16 a17 a18 a19 a20 a21 a22 a23 a24 a25 a26 a27 a28 a29 cI cJ c_text_bytes c_text_length c_reader_numbers c_reader_next c_laid_stand c_laid_home c_laid_priceStart c_laid_priceStep c_laid_thrown_cells c_laid_thrown_filled c_laid_nets_cells c_laid_nets_filled c_trial_stand c_trial_home c_trial_priceStart c_trial_priceStep ec_trial_thrown_cells c_trial_thrown_filled c_trial_nets_cells c_trial_nets_filled ec_flight_loads_cells c_flight_loads_filled ec_flight_order ec_flight_done ec_flight_start ec_flight_end c_changes_who c_changes_column c_changes_was c_changes_held c_kept_older_cells c_kept_older_filled c_kept_newer_cells c_kept_newer_filled c_kept_held c_turns_need) H locs → W p l e (RM 6 143) s m args below meth c H locs 0 0 QQ (F0 m 114 ls [])) → ∀ (ls : Array Slot) (H : Heap) (locs : List Loc), lv_has ls 6 [(0, .ref a0), (1, .int x1), (2, .int x2), (3, .int x3), (4, .int x4), (5, .int x5)] → G dC dI A H0 (W_X8 a0 a1 a2 a3 a4 a5 a6 a7 a8 a9 a10 a11 a12 a13 a14 a15 a16 a17 a18 a19 a20 a21 a22 a23 a24 a25 a26 a27 a28 a29 cI cJ c_text_bytes c_text_length c_reader_numbers c_reader_next c_laid_stand c_laid_home c_laid_priceStart c_laid_priceStep c_laid_thrown_cells c_laid_thrown_filled c_laid_nets_cells c_laid_nets_filled c_trial_stand c_trial_home c_trial_priceStart c_trial_priceStep c_trial_thrown_cells c_trial_thrown_filled c_trial_nets_cells c_trial_nets_filled c_flight_loads_cells c_flight_loads_filled c_flight_order c_flight_done c_flight_start c_flight_end c_changes_who c_changes_column c_changes_was c_changes_held c_kept_older_cells c_kept_older_filled c_kept_newer_cells c_kept_newer_filled c_kept_held c_turns_need) H locs → W p l e (RM 6 143) s m args below meth c H locs 0 0 QQ (F0 m 45 ls []) := by
    intro c_trial_stand c_trial_home c_trial_priceStart c_trial_priceStep c_trial_thrown_filled c_trial_nets_cells c_trial_nets_filled n
    induction n with
    | zero => intro x3 x4 x5 c_trial_thrown_cells c_flight_loads_cells c_flight_order c_flight_done c_flight_start c_flight_end ex3 ex4 ec_trial_thrown_cells ec_flight_loads_cells ec_flight_order ec_flight_done ec_flight_start ec_flight_end h; exact it_zero h
    | succ n ih =>
      intro x3 x4 x5 c_trial_thrown_cells c_flight_loads_cells c_flight_order c_flight_done c_flight_start c_flight_end ex3 ex4 ec_trial_thrown_cells ec_flight_loads_cells ec_flight_order ec_flight_done ec_flight_start ec_flight_end h0 K0 ls H locs hl hG
      obtain ⟨w, h, hi, hr⟩ := it_succ h0
      have h : DX8_bestDay_L45s x1 c_trial_stand c_trial_home c_trial_priceStart c_trial_priceStep c_trial_thrown_filled c_trial_nets_cells c_trial_nets_filled x3 x4 x5 c_trial_thrown_cells c_flight_loads_cells c_flight_order c_flight_done c_flight_start c_flight_end = some w := h
      have KC : ∀ (x3 : Int32) (x4 : Int32) (x5 : Int32) (c_trial_thrown_cells : Nat → Int32) (c_flight_loads_cells : Nat → Int32) (c_flight_order : Nat → Int32) (c_flight_done : Int32) (c_flight_start : Int32) (c_flight_end : Int32), w = .inl (x3, x4, x5, c_trial_thrown_cells, c_flight_loads_cells, c_flight_order, c_flight_done, c_flight_start, c_flight_end) → ∀ (ls : Array Slot) (H : Heap) (locs : List Loc), lv_has ls 6 [(0, .ref a0), (1, .int x1), (2, .int x2), (3, .int x3), (4, .int x4), (5, .int x5)] → G dC dI A H0 (W_X8 a0 a1 a2 a3 a4 a5 a6 a7 a8 a9 a10 a11 a12 a13 a14 a15 a16 a17 a18 a19 a20 a21 a22 a23 a24 a25 a26 a27 a28 a29 cI cJ c_text_bytes c_text_length c_reader_numbers c_reader_next c_laid_stand c_laid_home c_laid_priceStart c_laid_priceStep c_laid_thrown_cells c_laid_thrown_filled c_laid_nets_cells c_laid_nets_filled c_trial_stand c_trial_home c_trial_priceStart c_trial_priceStep c_trial_thrown_cells c_trial_thrown_filled c_trial_nets_cells c_trial_nets_filled c_flight_loads_cells c_flight_loads_filled c_flight_order c_flight_done c_flight_start c_flight_end c_changes_who c_changes_column c_changes_was c_changes_held c_kept_older_cells c_kept_older_filled c_kept_newer_cells c_kept_newer_filled c_kept_held c_turns_need) H locs → W p l e (RM 6 143) s m args below meth c H locs 0 0 QQ (F0 m 45 ls []) := fun b0 b1 b2 b3 b4 b5 b6 b7 b8 e ls H locs hl hG => ih b0 b1 b2 b3 b4 b5 b6 b7 b8 ex3 ex4 ec_trial_thrown_cells ec_flight_loads_cells ec_flight_order ec_flight_done ec_flight_start ec_flight_end (hi _ e) K0 ls H locs hl hG
      have KX : ∀ (x3 : Int32) (x4 : Int32) (c_trial_thrown_cells : Nat → Int32) (c_flight_loads_cells : Nat → Int32) (c_flight_order : Nat → Int32) (c_flight_done : Int32) (c_flight_start : Int32) (c_flight_end : Int32), w = .inr (x3, x4, c_trial_thrown_cells, c_flight_loads_cells, c_flight_order, c_flight_done, c_flight_start, c_flight_end) → ∀ (ls : Array Slot) (H : Heap) (locs : List Loc), lv_has ls 6 [(2, .int x2), (3, .int x3), (4, .int x4)] → G dC dI A H0 (W_X8 a0 a1 a2 a3 a4 a5 a6 a7 a8 a9 a10 a11 a12 a13 a14 a15 a16 a17 a18 a19 a20 a21 a22 a23 a24 a25 a26 a27 a28 a29 cI cJ c_text_bytes c_text_length c_reader_numbers c_reader_next c_laid_stand c_laid_home c_laid_priceStart c_laid_priceStep c_laid_thrown_cells c_laid_thrown_filled c_laid_nets_cells c_laid_nets_filled c_trial_stand c_trial_home c_trial_priceStart c_trial_priceStep c_trial_thrown_cells c_trial_thrown_filled c_trial_nets_cells c_trial_nets_filled c_flight_loads_cells c_flight_loads_filled c_flight_order c_flight_done c_flight_start c_flight_end c_changes_who c_changes_column c_changes_was c_changes_held c_kept_older_cells c_kept_older_filled c_kept_newer_cells c_kept_newer_filled c_kept_held c_turns_need) H locs → W p l e (RM 6 143) s m args below meth c H locs 0 0 QQ (F0 m 114 ls []) := fun b0 b1 b2 b3 b4 b5 b6 b7 e ls H locs hl hG => by cases hr _ e; exact K0 ls H locs hl hG
      clear h0 hi hr K0 ih
      unfold DX8_bestDay_L45s at h
      refine lv_iload hx hb dX8_bestDay_45 (lv_at hl 5 rfl) ?_
      refine lv_bipush (v := (40 : Int32)) hx hb dX8_bestDay_47 (by decide) ?_
      refine lv_icmp_gt (tgt := 114) hx hb dX8_bestDay_49 (by decide) (fun c_16 => ?_) (fun c_16 => ?_)
      · have h := ite_t h c_16
        exact KX _ _ _ _ _ _ _ _ (Option.some.inj h).symm _ _ _ (lv_sub hl [2, 3, 4] rfl) hG
      · have h := ite_f h c_16
        refine lv_aload_n hx hb dX8_bestDay_52 rfl (lv_at hl 0 rfl) ?_
        refine r_get X hG in_X8 rfl 3 (by decide) w_238 0 rfl rfl dX8_bestDay_53 ?_
        refine r_getN X hG in_X3 rfl 4 (by decide) w_136 10 rfl rfl dX8_bestDay_56 ?_
        refine lv_iload_n hx hb dX8_bestDay_59 rfl (lv_at hl 1 rfl) ?_
        refine lv_iconst (v := (0 : Int32)) hx hb dX8_bestDay_60 (by decide) ?_
        refine lv_iload hx hb dX8_bestDay_61 (lv_at hl 5 rfl) ?_
        obtain ⟨k_trial_thrown_cells_17, hz_18, h⟩ := bd1_some h
        refine aft_v (ws' := (W_X8 a0 a1 a2 a3 a4 a5 a6 a7 a8 a9 a10 a11 a12 a13 a14 a15 a16 a17 a18 a19 a20 a21 a22 a23 a24 a25 a26 a27 a28 a29 cI cJ c_text_bytes c_text_length c_reader_numbers c_reader_next c_laid_stand c_laid_home c_laid_priceStart c_laid_priceStep c_laid_thrown_cells c_laid_thrown_filled c_laid_nets_cells c_laid_nets_filled c_trial_stand c_trial_home c_trial_priceStart c_trial_priceStep k_trial_thrown_cells_17 c_trial_thrown_filled c_trial_nets_cells c_trial_nets_filled c_flight_loads_cells c_flight_loads_filled c_flight_order c_flight_done c_flight_start c_flight_end c_changes_who c_changes_column c_changes_was c_changes_held c_kept_older_cells c_kept_older_filled c_kept_newer_cells c_kept_newer_filled c_kept_held c_turns_need)) (run_V (rest := []) X hG hl.1 (mX5_set l dC dI cI cJ a11 a12 (7 : Int32) (4 : Int32) 28 c_trial_thrown_cells c_trial_thrown_filled x1 (0 : Int32) x5 hz_18) gi_V_X8_148 hd_V_yX5_set ⟨rfl, rfl⟩ rfl ⟨Nat.le_of_ble_eq_true rfl, Nat.le_of_ble_eq_true rfl⟩ [11, 12] (by decide) rfl 11 rfl rfl rfl rfl (Nat.le_of_ble_eq_true rfl) ⟨Nat.le_of_ble_eq_true rfl, Nat.le_of_ble_eq_true rfl⟩ dX8_bestDay_63) hG [11, 12] rfl rfl rfl (fun H locs hG => ?_)
        clear hz_18
        refine lv_aload_n hx hb dX8_bestDay_66 rfl (lv_at hl 0 rfl) ?_
        refine r_get X hG in_X8 rfl 4 (by decide) w_239 0 rfl rfl dX8_bestDay_67 ?_
        refine lv_aload_n hx hb dX8_bestDay_70 rfl (lv_at hl 0 rfl) ?_
        refine r_get X hG in_X8 rfl 3 (by decide) w_238 0 rfl rfl dX8_bestDay_71 ?_
        refine lv_iconst (v := (0 : Int32)) hx hb dX8_bestDay_74 (by decide) ?_
        obtain ⟨k_flight_loads_cells_19, k_flight_order_20, k_flight_done_21, k_flight_start_22, k_flight_end_23, hz_24, h⟩ := bd5_some h
        refine aft_v (ws' := (W_X8 a0 a1 a2 a3 a4 a5 a6 a7 a8 a9 a10 a11 a12 a13 a14 a15 a16 a17 a18 a19 a20 a21 a22 a23 a24 a25 a26 a27 a28 a29 cI cJ c_text_bytes c_text_length c_reader_numbers c_reader_next c_laid_stand c_laid_home c_laid_priceStart c_laid_priceStep c_laid_thrown_cells c_laid_thrown_filled c_laid_nets_cells c_laid_nets_filled c_trial_stand c_trial_home c_trial_priceStart c_trial_priceStep k_trial_thrown_cells_17 c_trial_thrown_filled c_trial_nets_cells c_trial_nets_filled k_flight_loads_cells_19 c_flight_loads_filled k_flight_order_20 k_flight_done_21 k_flight_start_22 k_flight_end_23 c_changes_who c_changes_column c_changes_was c_changes_held c_kept_older_cells c_kept_older_filled c_kept_newer_cells c_kept_newer_filled c_kept_held c_turns_need)) (run_V (rest := []) X hG hl.1 (mX1_fly l dC dI cI cJ a15 a16 a17 a18 a10 a11 a12 a13 a14 c_flight_loads_cells c_flight_loads_filled c_flight_order c_flight_done c_flight_start c_flight_end c_trial_stand c_trial_home c_trial_priceStart c_trial_priceStep k_trial_thrown_cells_17 c_trial_thrown_filled c_trial_nets_cells c_trial_nets_filled (0 : Int32) hz_24) gi_V_X8_106 hd_V_yX1_fly ⟨rfl, rfl⟩ rfl ⟨Nat.le_of_ble_eq_true rfl, Nat.le_of_ble_eq_true rfl⟩ [15, 16, 17, 18, 10, 11, 12, 13, 14] (by decide) rfl 15 rfl rfl rfl rfl (Nat.le_of_ble_eq_true rfl) ⟨Nat.le_of_ble_eq_true rfl, Nat.le_of_ble_eq_true rfl⟩ dX8_bestDay_75) hG [15, 16, 17, 18, 10, 11, 12, 13, 14] rfl rfl rfl (fun H locs hG => ?_)
        clear hz_24
        refine lv_aload_n hx hb dX8_bestDay_78 rfl (lv_at hl 0 rfl) ?_
        refine r_get X hG in_X8 rfl 4 (by decide) w_239 0 rfl rfl dX8_bestDay_79 ?_
        refine lv_iload_n hx hb dX8_bestDay_82 rfl (lv_at hl 1 rfl) ?_
        refine lv_bipush (v := (8 : Int32)) hx hb dX8_bestDay_83 (by decide) ?_
        obtain ⟨r_25, hz_26, h⟩ := bd1_some h
        refine aft_i (ws' := (W_X8 a0 a1 a2 a3 a4 a5 a6 a7 a8 a9 a10 a11 a12 a13 a14 a15 a16 a17 a18 a19 a20 a21 a22 a23 a24 a25 a26 a27 a28 a29 cI cJ c_text_bytes c_text_length c_reader_numbers c_reader_next c_laid_stand c_laid_home c_laid_priceStart c_laid_priceStep c_laid_thrown_cells c_laid_thrown_filled c_laid_nets_cells c_laid_nets_filled c_trial_stand c_trial_home c_trial_priceStart c_trial_priceStep k_trial_thrown_cells_17 c_trial_thrown_filled c_trial_nets_cells c_trial_nets_filled k_flight_loads_cells_19 c_flight_loads_filled k_flight_order_20 k_flight_done_21 k_flight_start_22 k_flight_end_23 c_changes_who c_changes_column c_changes_was c_changes_held c_kept_older_cells c_kept_older_filled c_kept_newer_cells c_kept_newer_filled c_kept_held c_turns_need)) (run_V (rest := []) X hG hl.1 (mX1_known l dC dI cI cJ a15 a16 a17 a18 k_flight_loads_cells_19 c_flight_loads_filled k_flight_order_20 k_flight_done_21 k_flight_start_22 k_flight_end_23 x1 (8 : Int32) hz_26) gi_V_X8_110 hd_V_yX1_known ⟨rfl, rfl⟩ rfl ⟨Nat.le_of_ble_eq_true rfl, Nat.le_of_ble_eq_true rfl⟩ [15, 16, 17, 18] (by decide) rfl 15 rfl rfl rfl rfl (Nat.le_of_ble_eq_true rfl) ⟨Nat.le_of_ble_eq_true rfl, Nat.le_of_ble_eq_true rfl⟩ dX8_bestDay_85) hG [15, 16, 17, 18] rfl rfl rfl (fun H locs hG => ?_)
        clear hz_26
        refine lv_iload hx hb dX8_bestDay_88 (lv_at hl 4 rfl) ?_
        refine lv_icmp_le (tgt := 108) hx hb dX8_bestDay_90 (by decide) (fun c_27 => ?_) (fun c_27 => ?_)
        · have h := ite_t h c_27
          refine lv_iinc (v := (x5 + (1 : Int32))) (lv' := [(5, .int (x5 + (1 : Int32))), (0, .ref a0), (1, .int x1), (2, .int x2), (3, .int x3), (4, .int x4)]) hx hb dX8_bestDay_108 hl (k := 5) rfl rfl (by decide) rfl (fun ls hl => ?_)
          refine lv_goto (tgt := 45) hx hb dX8_bestDay_111 (by decide) ?_
          exact KC _ _ _ _ _ _ _ _ _ (Option.some.inj h).symm _ _ _ (lv_sub hl [1, 2, 3, 4, 5, 0] rfl) hG
        · have h := ite_f h c_27
          refine lv_aload_n hx hb dX8_bestDay_93 rfl (lv_at hl 0 rfl) ?_
          refine r_get X hG in_X8 rfl 4 (by decide) w_239 0 rfl rfl dX8_bestDay_94 ?_
          refine lv_iload_n hx hb dX8_bestDay_97 rfl (lv_at hl 1 rfl) ?_
          refine lv_bipush (v := (8 : Int32)) hx hb dX8_bestDay_98 (by decide) ?_
          obtain ⟨r_28, hz_29, h⟩ := bd1_some h
          refine aft_i (ws' := (W_X8 a0 a1 a2 a3 a4 a5 a6 a7 a8 a9 a10 a11 a12 a13 a14 a15 a16 a17 a18 a19 a20 a21 a22 a23 a24 a25 a26 a27 a28 a29 cI cJ c_text_bytes c_text_length c_reader_numbers c_reader_next c_laid_stand c_laid_home c_laid_priceStart c_laid_priceStep c_laid_thrown_cells c_laid_thrown_filled c_laid_nets_cells c_laid_nets_filled c_trial_stand c_trial_home c_trial_priceStart c_trial_priceStep k_trial_thrown_cells_17 c_trial_thrown_filled c_trial_nets_cells c_trial_nets_filled k_flight_loads_cells_19 c_flight_loads_filled k_flight_order_20 k_flight_done_21 k_flight_start_22 k_flight_end_23 c_changes_who c_changes_column c_changes_was c_changes_held c_kept_older_cells c_kept_older_filled c_kept_newer_cells c_kept_newer_filled c_kept_held c_turns_need)) (run_V (rest := []) X hG hl.1 (mX1_known l dC dI cI cJ a15 a16 a17 a18 k_flight_loads_cells_19 c_flight_loads_filled k_flight_order_20 k_flight_done_21 k_flight_start_22 k_flight_end_23 x1 (8 : Int32) hz_29) gi_V_X8_110 hd_V_yX1_known ⟨rfl, rfl⟩ rfl ⟨Nat.le_of_ble_eq_true rfl, Nat.le_of_ble_eq_true rfl⟩ [15, 16, 17, 18] (by decide) rfl 15 rfl rfl rfl rfl (Nat.le_of_ble_eq_true rfl) ⟨Nat.le_of_ble_eq_true rfl, Nat.le_of_ble_eq_true rfl⟩ dX8_bestDay_100) hG [15, 16, 17, 18] rfl rfl rfl (fun H locs hG => ?_)
          clear hz_29
          refine lv_istore (lv' := [(4, .int r_28), (0, .ref a0), (1, .int x1), (2, .int x2), (3, .int x3), (5, .int x5)]) hx hb dX8_bestDay_103 hl (by decide) rfl (fun ls hl => ?_)
          refine lv_iload hx hb dX8_bestDay_105 (lv_at hl 5 rfl) ?_
          refine lv_istore_n (lv' := [(3, .int x5), (4, .int r_28), (0, .ref a0), (1, .int x1), (2, .int x2), (5, .int x5)]) hx hb dX8_bestDay_107 rfl hl (by decide) rfl (fun ls hl => ?_)
          refine lv_iinc (v := (x5 + (1 : Int32))) (lv' := [(5, .int (x5 + (1 : Int32))), (3, .int x5), (4, .int r_28), (0, .ref a0), (1, .int x1), (2, .int x2)]) hx hb dX8_bestDay_108 hl (k := 5) rfl rfl (by decide) rfl (fun ls hl => ?_)
          refine lv_goto (tgt := 45) hx hb dX8_bestDay_111 (by decide) ?_
          exact KC _ _ _ _ _ _ _ _ _ (Option.some.inj h).symm _ _ _ (lv_sub hl [3, 4, 5, 1, 2, 0] rfl) hG
  have h := hD
  unfold DX8_bestDay at h
  clear hD
  refine lv_aload_n hx hb dX8_bestDay_0 rfl (lv_at hl 0 rfl) ?_
  refine r_get X hG in_X8 rfl 2 (by decide) w_237 0 rfl rfl dX8_bestDay_1 ?_
  refine r_getN X hG in_X3 rfl 4 (by decide) w_136 5 rfl rfl dX8_bestDay_4 ?_
  refine lv_iload_n hx hb dX8_bestDay_7 rfl (lv_at hl 1 rfl) ?_
  obtain ⟨r_1, hz_2, h⟩ := bd1_some h
  refine aft_i (ws' := (W_X8 a0 a1 a2 a3 a4 a5 a6 a7 a8 a9 a10 a11 a12 a13 a14 a15 a16 a17 a18 a19 a20 a21 a22 a23 a24 a25 a26 a27 a28 a29 cI cJ c_text_bytes c_text_length c_reader_numbers c_reader_next c_laid_stand c_laid_home c_laid_priceStart c_laid_priceStep c_laid_thrown_cells c_laid_thrown_filled c_laid_nets_cells c_laid_nets_filled c_trial_stand c_trial_home c_trial_priceStart c_trial_priceStep c_trial_thrown_cells c_trial_thrown_filled c_trial_nets_cells c_trial_nets_filled c_flight_loads_cells c_flight_loads_filled c_flight_order c_flight_done c_flight_start c_flight_end c_changes_who c_changes_column c_changes_was c_changes_held c_kept_older_cells c_kept_older_filled c_kept_newer_cells c_kept_newer_filled c_kept_held c_turns_need)) (run_V (rest := []) X hG hl.1 (mX5_has l dC dI cI cJ a6 a7 (7 : Int32) (4 : Int32) 28 c_laid_thrown_cells c_laid_thrown_filled x1 hz_2) gi_V_X8_102 hd_V_yX5_has ⟨rfl, rfl⟩ rfl ⟨Nat.le_of_ble_eq_true rfl, Nat.le_of_ble_eq_true rfl⟩ [6, 7] (by decide) rfl 6 rfl rfl rfl rfl (Nat.le_of_ble_eq_true rfl) ⟨Nat.le_of_ble_eq_true rfl, Nat.le_of_ble_eq_true rfl⟩ dX8_bestDay_8) hG [6, 7] rfl rfl rfl (fun H locs hG => ?_)
  clear hz_2
  refine lv_if_eq (tgt := 23) hx hb dX8_bestDay_11 (by decide) (fun c_3 => ?_) (fun c_3 => ?_)
  · have h := ite_t h c_3
    refine lv_iconst (v := (-1 : Int32)) hx hb dX8_bestDay_23 (by decide) ?_
    cases h
    exact ret _ _ _ _ dX8_bestDay_24 hG
  · have h := ite_f h c_3
    refine lv_iload_n hx hb dX8_bestDay_14 rfl (lv_at hl 2 rfl) ?_
    refine lv_iconst (v := (0 : Int32)) hx hb dX8_bestDay_15 (by decide) ?_
    refine lv_iconst (v := (1 : Int32)) hx hb dX8_bestDay_16 (by decide) ?_
    obtain ⟨r_4, hz_5, h⟩ := bd1_some h
    refine aft_i (ws' := (W_X8 a0 a1 a2 a3 a4 a5 a6 a7 a8 a9 a10 a11 a12 a13 a14 a15 a16 a17 a18 a19 a20 a21 a22 a23 a24 a25 a26 a27 a28 a29 cI cJ c_text_bytes c_text_length c_reader_numbers c_reader_next c_laid_stand c_laid_home c_laid_priceStart c_laid_priceStep c_laid_thrown_cells c_laid_thrown_filled c_laid_nets_cells c_laid_nets_filled c_trial_stand c_trial_home c_trial_priceStart c_trial_priceStep c_trial_thrown_cells c_trial_thrown_filled c_trial_nets_cells c_trial_nets_filled c_flight_loads_cells c_flight_loads_filled c_flight_order c_flight_done c_flight_start c_flight_end c_changes_who c_changes_column c_changes_was c_changes_held c_kept_older_cells c_kept_older_filled c_kept_newer_cells c_kept_newer_filled c_kept_held c_turns_need)) (run_S (rest := []) X hG hl.1 (mX8_within l dC dI cI cJ x2 (0 : Int32) (1 : Int32) hz_5) gi_S_X8_74 hd_S_yX8_within ⟨rfl, rfl⟩ rfl ⟨Nat.le_of_ble_eq_true rfl, Nat.le_of_ble_eq_true rfl⟩ [] (by decide) rfl rfl (Nat.le_of_ble_eq_true rfl) ⟨Nat.le_of_ble_eq_true rfl, Nat.le_of_ble_eq_true rfl⟩ dX8_bestDay_17) hG [] rfl rfl rfl (fun H locs hG => ?_)
    clear hz_5
    refine lv_if_ne (tgt := 25) hx hb dX8_bestDay_20 (by decide) (fun c_6 => ?_) (fun c_6 => ?_)
    · have h := ite_f h c_6
      refine lv_bipush (v := (-4 : Int32)) hx hb dX8_bestDay_25 (by decide) ?_
      refine lv_istore_n (lv' := [(3, .int (-4 : Int32)), (0, .ref a0), (1, .int x1), (2, .int x2)]) hx hb dX8_bestDay_27 rfl hl (by decide) rfl (fun ls hl => ?_)
      refine lv_iconst (v := (0 : Int32)) hx hb dX8_bestDay_28 (by decide) ?_
      refine lv_istore (lv' := [(4, .int (0 : Int32)), (3, .int (-4 : Int32)), (0, .ref a0), (1, .int x1), (2, .int x2)]) hx hb dX8_bestDay_29 hl (by decide) rfl (fun ls hl => ?_)
      refine lv_aload_n hx hb dX8_bestDay_31 rfl (lv_at hl 2 rfl) ?_
      refine r_get X hG in_X8 rfl 3 (by decide) w_238 0 rfl rfl dX8_bestDay_32 ?_
      refine lv_aload_n hx hb dX8_bestDay_35 rfl (lv_at hl 2 rfl) ?_
      refine r_get X hG in_X8 rfl 2 (by decide) w_237 0 rfl rfl dX8_bestDay_36 ?_
      obtain ⟨k_trial_stand_7, k_trial_home_8, k_trial_priceStart_9, k_trial_priceStep_10, k_trial_thrown_cells_11, k_trial_thrown_filled_12, k_trial_nets_cells_13, k_trial_nets_filled_14, hz_15, h⟩ := bd8_some h
      refine aft_v (ws' := (W_X8 a0 a1 a2 a3 a4 a5 a6 a7 a8 a9 a10 a11 a12 a13 a14 a15 a16 a17 a18 a19 a20 a21 a22 a23 a24 a25 a26 a27 a28 a29 cI cJ c_text_bytes c_text_length c_reader_numbers c_reader_next c_laid_stand c_laid_home c_laid_priceStart c_laid_priceStep c_laid_thrown_cells c_laid_thrown_filled c_laid_nets_cells c_laid_nets_filled k_trial_stand_7 k_trial_home_8 k_trial_priceStart_9 k_trial_priceStep_10 k_trial_thrown_cells_11 k_trial_thrown_filled_12 k_trial_nets_cells_13 k_trial_nets_filled_14 c_flight_loads_cells c_flight_loads_filled c_flight_order c_flight_done c_flight_start c_flight_end c_changes_who c_changes_column c_changes_was c_changes_held c_kept_older_cells c_kept_older_filled c_kept_newer_cells c_kept_newer_filled c_kept_held c_turns_need)) (run_V (rest := []) X hG hl.1 (mX3_takeOver l dC dI cI cJ a10 a11 a12 a13 a14 a5 a6 a7 a8 a9 c_trial_stand c_trial_home c_trial_priceStart c_trial_priceStep c_trial_thrown_cells c_trial_thrown_filled c_trial_nets_cells c_trial_nets_filled c_laid_stand c_laid_home c_laid_priceStart c_laid_priceStep c_laid_thrown_cells c_laid_thrown_filled c_laid_nets_cells c_laid_nets_filled hz_15) gi_V_X8_94 hd_V_yX3_takeOver ⟨rfl, rfl⟩ rfl ⟨Nat.le_of_ble_eq_true rfl, Nat.le_of_ble_eq_true rfl⟩ [10, 11, 12, 13, 14, 5, 6, 7, 8, 9] (by decide) rfl 10 rfl rfl rfl rfl (Nat.le_of_ble_eq_true rfl) ⟨Nat.le_of_ble_eq_true rfl, Nat.le_of_ble_eq_true rfl⟩ dX8_bestDay_39) hG [10, 11, 12, 13, 14, 5, 6, 7, 8, 9] rfl rfl rfl (fun H locs hG => ?_)
      clear hz_15
      refine lv_iconst (v := (0 : Int32)) hx hb dX8_bestDay_42 (by decide) ?_
      refine lv_istore (lv' := [(5, .int (0 : Int32)), (4, .int (0 : Int32)), (3, .int (-4 : Int32)), (0, .ref a0), (1, .int x1), (2, .int x2)]) hx hb dX8_bestDay_43 hl (by decide) rfl (fun ls hl => ?_)
      obtain ⟨z3_30, z4_31, k_trial_thrown_cells_32, k_flight_loads_cells_33, k_flight_order_34, k_flight_done_35, k_flight_start_36, k_flight_end_37, hz, h⟩ := bd8_some h
      refine L45 k_trial_stand_7 k_trial_home_8 k_trial_priceStart_9 k_trial_priceStep_10 k_trial_thrown_filled_12 k_trial_nets_cells_13 k_trial_nets_filled_14 FU (-4 : Int32) (0 : Int32) (0 : Int32) k_trial_thrown_cells_11 c_flight_loads_cells c_flight_order c_flight_done c_flight_start c_flight_end _ _ _ _ _ _ _ _ hz (fun ls H locs hl hG => ?_) _ _ _ (lv_sub hl [3, 4, 5, 2, 1, 0] rfl) hG
      clear hz
      refine lv_iload_n hx hb dX8_bestDay_114 rfl (lv_at hl 0 rfl) ?_
      refine lv_if_eq (tgt := 124) hx hb dX8_bestDay_115 (by decide) (fun c_38 => ?_) (fun c_38 => ?_)
      · have h := ite_t h c_38
        refine lv_iload_n hx hb dX8_bestDay_124 rfl (lv_at hl 1 rfl) ?_
        refine lv_goto (tgt := 130) hx hb dX8_bestDay_125 (by decide) ?_
        cases h
        exact ret _ _ _ _ dX8_bestDay_130 hG
      · have h := ite_f h c_38
        refine lv_iload_n hx hb dX8_bestDay_118 rfl (lv_at hl 1 rfl) ?_
        refine lv_bipush (v := (-4 : Int32)) hx hb dX8_bestDay_119 (by decide) ?_
        refine lv_icmp_ne (tgt := 128) hx hb dX8_bestDay_121 (by decide) (fun c_39 => ?_) (fun c_39 => ?_)
        · have h := ite_f h c_39
          refine lv_iload hx hb dX8_bestDay_128 (lv_at hl 2 rfl) ?_
          cases h
          exact ret _ _ _ _ dX8_bestDay_130 hG
        · have h := ite_t h c_39
          refine lv_iload_n hx hb dX8_bestDay_124 rfl (lv_at hl 1 rfl) ?_
          refine lv_goto (tgt := 130) hx hb dX8_bestDay_125 (by decide) ?_
          cases h
          exact ret _ _ _ _ dX8_bestDay_130 hG
    · have h := ite_t h c_6
      refine lv_iconst (v := (-1 : Int32)) hx hb dX8_bestDay_23 (by decide) ?_
      cases h
      exact ret _ _ _ _ dX8_bestDay_24 hG
set_option maxRecDepth 100000 in
set_option maxHeartbeats 4000000 in
theorem mX8_net (l : Launch) (dC : Nat → ClassId) (dI : Nat → Nat → Nat) (cI cJ : ClassId) (a0 a1 a2 a3 a4 a5 a6 a7 a8 a9 a10 a11 a12 a13 a14 a15 a16 a17 a18 a19 a20 a21 a22 a23 a24 a25 a26 a27 a28 a29 : Nat) (c_text_bytes : Nat → Int32) (c_text_length : Int32) (c_reader_numbers : Nat → Int32) (c_reader_next : Int32) (c_laid_stand : Int32) (c_laid_home : Int32) (c_laid_priceStart : Int32) (c_laid_priceStep : Int32) (c_laid_thrown_cells : Nat → Int32) (c_laid_thrown_filled : Int32) (c_laid_nets_cells : Nat → Int32) (c_laid_nets_filled : Int32) (c_trial_stand : Int32) (c_trial_home : Int32) (c_trial_priceStart : Int32) (c_trial_priceStep : Int32) (c_trial_thrown_cells : Nat → Int32) (c_trial_thrown_filled : Int32) (c_trial_nets_cells : Nat → Int32) (c_trial_nets_filled : Int32) (c_flight_loads_cells : Nat → Int32) (c_flight_loads_filled : Int32) (c_flight_order : Nat → Int32) (c_flight_done : Int32) (c_flight_start : Int32) (c_flight_end : Int32) (c_changes_who : Nat → Int32) (c_changes_column : Nat → Int32) (c_changes_was : Nat → Int32) (c_changes_held : Int32) (c_kept_older_cells : Nat → Int32) (c_kept_older_filled : Int32) (c_kept_newer_cells : Nat → Int32) (c_kept_newer_filled : Int32) (c_kept_held : Int32) (c_turns_need : Nat → Int32) (x1 : Int32) (x2 : Int32) {res : Int32} {n_flight_loads_cells : Nat → Int32} {n_flight_order : Nat → Int32} {n_flight_done : Int32} {n_flight_start : Int32} {n_flight_end : Int32} (hD : DX8_net x1 x2 c_laid_stand c_laid_home c_laid_priceStart c_laid_priceStep c_laid_thrown_cells c_laid_thrown_filled c_laid_nets_cells c_laid_nets_filled c_flight_loads_cells c_flight_order c_flight_done c_flight_start c_flight_end = some (res, n_flight_loads_cells, n_flight_order, n_flight_done, n_flight_start, n_flight_end)) : Met l yX8_net (WZ yX8_net cX8_net 7 (some .int)) (RM 6 143) (PC dC dI cI cJ [.ref a0, .int x1, .int x2] (W_X8 a0 a1 a2 a3 a4 a5 a6 a7 a8 a9 a10 a11 a12 a13 a14 a15 a16 a17 a18 a19 a20 a21 a22 a23 a24 a25 a26 a27 a28 a29 cI cJ c_text_bytes c_text_length c_reader_numbers c_reader_next c_laid_stand c_laid_home c_laid_priceStart c_laid_priceStep c_laid_thrown_cells c_laid_thrown_filled c_laid_nets_cells c_laid_nets_filled c_trial_stand c_trial_home c_trial_priceStart c_trial_priceStep c_trial_thrown_cells c_trial_thrown_filled c_trial_nets_cells c_trial_nets_filled c_flight_loads_cells c_flight_loads_filled c_flight_order c_flight_done c_flight_start c_flight_end c_changes_who c_changes_column c_changes_was c_changes_held c_kept_older_cells c_kept_older_filled c_kept_newer_cells c_kept_newer_filled c_kept_held c_turns_need)) (QI dC dI (W_X8 a0 a1 a2 a3 a4 a5 a6 a7 a8 a9 a10 a11 a12 a13 a14 a15 a16 a17 a18 a19 a20 a21 a22 a23 a24 a25 a26 a27 a28 a29 cI cJ c_text_bytes c_text_length c_reader_numbers c_reader_next c_laid_stand c_laid_home c_laid_priceStart c_laid_priceStep c_laid_thrown_cells c_laid_thrown_filled c_laid_nets_cells c_laid_nets_filled c_trial_stand c_trial_home c_trial_priceStart c_trial_priceStep c_trial_thrown_cells c_trial_thrown_filled c_trial_nets_cells c_trial_nets_filled c_flight_loads_cells c_flight_loads_filled c_flight_order c_flight_done c_flight_start c_flight_end c_changes_who c_changes_column c_changes_was c_changes_held c_kept_older_cells c_kept_older_filled c_kept_newer_cells c_kept_newer_filled c_kept_held c_turns_need) (W_X8 a0 a1 a2 a3 a4 a5 a6 a7 a8 a9 a10 a11 a12 a13 a14 a15 a16 a17 a18 a19 a20 a21 a22 a23 a24 a25 a26 a27 a28 a29 cI cJ c_text_bytes c_text_length c_reader_numbers c_reader_next c_laid_stand c_laid_home c_laid_priceStart c_laid_priceStep c_laid_thrown_cells c_laid_thrown_filled c_laid_nets_cells c_laid_nets_filled c_trial_stand c_trial_home c_trial_priceStart c_trial_priceStep c_trial_thrown_cells c_trial_thrown_filled c_trial_nets_cells c_trial_nets_filled n_flight_loads_cells c_flight_loads_filled n_flight_order n_flight_done n_flight_start n_flight_end c_changes_who c_changes_column c_changes_was c_changes_held c_kept_older_cells c_kept_older_filled c_kept_newer_cells c_kept_newer_filled c_kept_held c_turns_need) res) 0 0 (FA (W_X8 a0 a1 a2 a3 a4 a5 a6 a7 a8 a9 a10 a11 a12 a13 a14 a15 a16 a17 a18 a19 a20 a21 a22 a23 a24 a25 a26 a27 a28 a29 cI cJ c_text_bytes c_text_length c_reader_numbers c_reader_next c_laid_stand c_laid_home c_laid_priceStart c_laid_priceStep c_laid_thrown_cells c_laid_thrown_filled c_laid_nets_cells c_laid_nets_filled c_trial_stand c_trial_home c_trial_priceStart c_trial_priceStep c_trial_thrown_cells c_trial_thrown_filled c_trial_nets_cells c_trial_nets_filled c_flight_loads_cells c_flight_loads_filled c_flight_order c_flight_done c_flight_start c_flight_end c_changes_who c_changes_column c_changes_was c_changes_held c_kept_older_cells c_kept_older_filled c_kept_newer_cells c_kept_newer_filled c_kept_held c_turns_need)) := by
  refine r_metI (by decide +kernel) (Nat.le_of_ble_eq_true rfl) ?_
  intro p e s m args below meth c A H0 QQ X ret ls hl hG
  have X : Cx p m c cX8_net 7 s args RX8 dC dI cI cJ meth (some .int) := X
  have hx := X.1.1
  have hb := X.1.2.1
  have hl : lv_has ls 7 [(0, .ref a0), (1, .int x1), (2, .int x2)] := hl
  have L40 : ∀ (c_flight_loads_cells : Nat → Int32) (c_flight_order : Nat → Int32) (c_flight_done : Int32) (c_flight_start : Int32) (c_flight_end : Int32), ∀ (n : Nat) (x3 : Int32) (x4 : Int32) (x5 : Int32) (ex3 : Int32) (ex4 : Int32), DX8_net_L40 x1 c_flight_loads_cells c_flight_order c_flight_done n x3 x4 x5 = some (ex3, ex4) → (∀ (ls : Array Slot) (H : Heap) (locs : List Loc), lv_has ls 7 [(2, .int x2), (3, .int ex3), (4, .int ex4)] → G dC dI A H0 (W_X8 a0 a1 a2 a3 a4 a5 a6 a7 a8 a9 a10 a11 a12 a13 a14 a15 a16 a17 a18 a19 a20 a21 a22 a23 a24 a25 a26 a27 a28 a29 cI cJ c_text_bytes c_text_length c_reader_numbers c_reader_next c_laid_stand c_laid_home c_laid_priceStart c_laid_priceStep c_laid_thrown_cells c_laid_thrown_filled c_laid_nets_cells c_laid_nets_filled c_trial_stand c_trial_home c_trial_priceStart c_trial_priceStep c_trial_thrown_cells c_trial_thrown_filled c_trial_nets_cells c_trial_nets_filled c_flight_loads_cells c_flight_loads_filled c_flight_order c_flight_done c_flight_start c_flight_end c_changes_who c_changes_column c_changes_was c_changes_held c_kept_older_cells c_kept_older_filled c_kept_newer_cells c_kept_newer_filled c_kept_held c_turns_need) H locs → W p l e (RM 6 143) s m args below meth c H locs 0 0 QQ (F0 m 79 ls [])) → ∀ (ls : Array Slot) (H : Heap) (locs : List Loc), lv_has ls 7 [(0, .ref a0), (1, .int x1), (2, .int x2), (3, .int x3), (4, .int x4), (5, .int x5)] → G dC dI A H0 (W_X8 a0 a1 a2 a3 a4 a5 a6 a7 a8 a9 a10 a11 a12 a13 a14 a15 a16 a17 a18 a19 a20 a21 a22 a23 a24 a25 a26 a27 a28 a29 cI cJ c_text_bytes c_text_length c_reader_numbers c_reader_next c_laid_stand c_laid_home c_laid_priceStart c_laid_priceStep c_laid_thrown_cells c_laid_thrown_filled c_laid_nets_cells c_laid_nets_filled c_trial_stand c_trial_home c_trial_priceStart c_trial_priceStep c_trial_thrown_cells c_trial_thrown_filled c_trial_nets_cells c_trial_nets_filled c_flight_loads_cells c_flight_loads_filled c_flight_order c_flight_done c_flight_start c_flight_end c_changes_who c_changes_column c_changes_was c_changes_held c_kept_older_cells c_kept_older_filled c_kept_newer_cells c_kept_newer_filled c_kept_held c_turns_need) H locs → W p l e (RM 6 143) s m args below meth c H locs 0 0 QQ (F0 m 40 ls []) := by
    intro c_flight_loads_cells c_flight_order c_flight_done c_flight_start c_flight_end n
    induction n with
    | zero => intro x3 x4 x5 ex3 ex4 h; exact it_zero h
    | succ n ih =>
      intro x3 x4 x5 ex3 ex4 h0 K0 ls H locs hl hG
      obtain ⟨w, h, hi, hr⟩ := it_succ h0
      have h : DX8_net_L40s x1 c_flight_loads_cells c_flight_order c_flight_done x3 x4 x5 = some w := h
      have KC : ∀ (x3 : Int32) (x4 : Int32) (x5 : Int32), w = .inl (x3, x4, x5) → ∀ (ls : Array Slot) (H : Heap) (locs : List Loc), lv_has ls 7 [(0, .ref a0), (1, .int x1), (2, .int x2), (3, .int x3), (4, .int x4), (5, .int x5)] → G dC dI A H0 (W_X8 a0 a1 a2 a3 a4 a5 a6 a7 a8 a9 a10 a11 a12 a13 a14 a15 a16 a17 a18 a19 a20 a21 a22 a23 a24 a25 a26 a27 a28 a29 cI cJ c_text_bytes c_text_length c_reader_numbers c_reader_next c_laid_stand c_laid_home c_laid_priceStart c_laid_priceStep c_laid_thrown_cells c_laid_thrown_filled c_laid_nets_cells c_laid_nets_filled c_trial_stand c_trial_home c_trial_priceStart c_trial_priceStep c_trial_thrown_cells c_trial_thrown_filled c_trial_nets_cells c_trial_nets_filled c_flight_loads_cells c_flight_loads_filled c_flight_order c_flight_done c_flight_start c_flight_end c_changes_who c_changes_column c_changes_was c_changes_held c_kept_older_cells c_kept_older_filled c_kept_newer_cells c_kept_newer_filled c_kept_held c_turns_need) H locs → W p l e (RM 6 143) s m args below meth c H locs 0 0 QQ (F0 m 40 ls []) := fun b0 b1 b2 e ls H locs hl hG => ih b0 b1 b2 ex3 ex4 (hi _ e) K0 ls H locs hl hG
      have KX : ∀ (x3 : Int32) (x4 : Int32), w = .inr (x3, x4) → ∀ (ls : Array Slot) (H : Heap) (locs : List Loc), lv_has ls 7 [(2, .int x2), (3, .int x3), (4, .int x4)] → G dC dI A H0 (W_X8 a0 a1 a2 a3 a4 a5 a6 a7 a8 a9 a10 a11 a12 a13 a14 a15 a16 a17 a18 a19 a20 a21 a22 a23 a24 a25 a26 a27 a28 a29 cI cJ c_text_bytes c_text_length c_reader_numbers c_reader_next c_laid_stand c_laid_home c_laid_priceStart c_laid_priceStep c_laid_thrown_cells c_laid_thrown_filled c_laid_nets_cells c_laid_nets_filled c_trial_stand c_trial_home c_trial_priceStart c_trial_priceStep c_trial_thrown_cells c_trial_thrown_filled c_trial_nets_cells c_trial_nets_filled c_flight_loads_cells c_flight_loads_filled c_flight_order c_flight_done c_flight_start c_flight_end c_changes_who c_changes_column c_changes_was c_changes_held c_kept_older_cells c_kept_older_filled c_kept_newer_cells c_kept_newer_filled c_kept_held c_turns_need) H locs → W p l e (RM 6 143) s m args below meth c H locs 0 0 QQ (F0 m 79 ls []) := fun b0 b1 e ls H locs hl hG => by cases hr _ e; exact K0 ls H locs hl hG
      clear h0 hi hr K0 ih
      unfold DX8_net_L40s at h
      refine lv_iload hx hb dX8_net_40 (lv_at hl 5 rfl) ?_
      refine lv_bipush (v := (24 : Int32)) hx hb dX8_net_42 (by decide) ?_
      refine lv_icmp_ge (tgt := 79) hx hb dX8_net_44 (by decide) (fun c_13 => ?_) (fun c_13 => ?_)
      · have h := ite_t h c_13
        exact KX _ _ (Option.some.inj h).symm _ _ _ (lv_sub hl [2, 3, 4] rfl) hG
      · have h := ite_f h c_13
        refine lv_aload_n hx hb dX8_net_47 rfl (lv_at hl 0 rfl) ?_
        refine r_get X hG in_X8 rfl 4 (by decide) w_239 0 rfl rfl dX8_net_48 ?_
        refine lv_iload hx hb dX8_net_51 (lv_at hl 5 rfl) ?_
        refine lv_iload_n hx hb dX8_net_53 rfl (lv_at hl 1 rfl) ?_
        obtain ⟨r_14, hz_15, h⟩ := bd1_some h
        refine aft_i (ws' := (W_X8 a0 a1 a2 a3 a4 a5 a6 a7 a8 a9 a10 a11 a12 a13 a14 a15 a16 a17 a18 a19 a20 a21 a22 a23 a24 a25 a26 a27 a28 a29 cI cJ c_text_bytes c_text_length c_reader_numbers c_reader_next c_laid_stand c_laid_home c_laid_priceStart c_laid_priceStep c_laid_thrown_cells c_laid_thrown_filled c_laid_nets_cells c_laid_nets_filled c_trial_stand c_trial_home c_trial_priceStart c_trial_priceStep c_trial_thrown_cells c_trial_thrown_filled c_trial_nets_cells c_trial_nets_filled c_flight_loads_cells c_flight_loads_filled c_flight_order c_flight_done c_flight_start c_flight_end c_changes_who c_changes_column c_changes_was c_changes_held c_kept_older_cells c_kept_older_filled c_kept_newer_cells c_kept_newer_filled c_kept_held c_turns_need)) (run_V (rest := []) X hG hl.1 (mX1_caughtWith l dC dI cI cJ a15 a16 a17 a18 c_flight_loads_cells c_flight_loads_filled c_flight_order c_flight_done c_flight_start c_flight_end x5 x1 hz_15) gi_V_X8_151 hd_V_yX1_caughtWith ⟨rfl, rfl⟩ rfl ⟨Nat.le_of_ble_eq_true rfl, Nat.le_of_ble_eq_true rfl⟩ [15, 16, 17, 18] (by decide) rfl 15 rfl rfl rfl rfl (Nat.le_of_ble_eq_true rfl) ⟨Nat.le_of_ble_eq_true rfl, Nat.le_of_ble_eq_true rfl⟩ dX8_net_54) hG [15, 16, 17, 18] rfl rfl rfl (fun H locs hG => ?_)
        clear hz_15
        refine lv_istore (lv' := [(6, .int r_14), (0, .ref a0), (1, .int x1), (2, .int x2), (3, .int x3), (4, .int x4), (5, .int x5)]) hx hb dX8_net_57 hl (by decide) rfl (fun ls hl => ?_)
        refine lv_iload hx hb dX8_net_59 (lv_at hl 0 rfl) ?_
        refine lv_iload hx hb dX8_net_61 (lv_at hl 5 rfl) ?_
        refine lv_icmp_le (tgt := 73) hx hb dX8_net_63 (by decide) (fun c_16 => ?_) (fun c_16 => ?_)
        · have h := ite_t h c_16
          refine lv_iinc (v := (x5 + (1 : Int32))) (lv' := [(5, .int (x5 + (1 : Int32))), (6, .int r_14), (0, .ref a0), (1, .int x1), (2, .int x2), (3, .int x3), (4, .int x4)]) hx hb dX8_net_73 hl (k := 6) rfl rfl (by decide) rfl (fun ls hl => ?_)
          refine lv_goto (tgt := 40) hx hb dX8_net_76 (by decide) ?_
          exact KC _ _ _ (Option.some.inj h).symm _ _ _ (lv_sub hl [2, 3, 4, 5, 6, 0] rfl) hG
        · have h := ite_f h c_16
          refine lv_iload hx hb dX8_net_66 (lv_at hl 0 rfl) ?_
          refine lv_istore (lv' := [(4, .int r_14), (6, .int r_14), (0, .ref a0), (1, .int x1), (2, .int x2), (3, .int x3), (5, .int x5)]) hx hb dX8_net_68 hl (by decide) rfl (fun ls hl => ?_)
          refine lv_iload hx hb dX8_net_70 (lv_at hl 6 rfl) ?_
          refine lv_istore_n (lv' := [(3, .int x5), (4, .int r_14), (6, .int r_14), (0, .ref a0), (1, .int x1), (2, .int x2), (5, .int x5)]) hx hb dX8_net_72 rfl hl (by decide) rfl (fun ls hl => ?_)
          refine lv_iinc (v := (x5 + (1 : Int32))) (lv' := [(5, .int (x5 + (1 : Int32))), (3, .int x5), (4, .int r_14), (6, .int r_14), (0, .ref a0), (1, .int x1), (2, .int x2)]) hx hb dX8_net_73 hl (k := 6) rfl rfl (by decide) rfl (fun ls hl => ?_)
          refine lv_goto (tgt := 40) hx hb dX8_net_76 (by decide) ?_
          exact KC _ _ _ (Option.some.inj h).symm _ _ _ (lv_sub hl [4, 5, 6, 1, 2, 0] rfl) hG
  have h := hD
  unfold DX8_net at h
  clear hD
  refine lv_iload_n hx hb dX8_net_0 rfl (lv_at hl 1 rfl) ?_
  refine lv_iconst (v := (0 : Int32)) hx hb dX8_net_1 (by decide) ?_
  refine lv_iconst (v := (3 : Int32)) hx hb dX8_net_2 (by decide) ?_
  obtain ⟨r_1, hz_2, h⟩ := bd1_some h
  refine aft_i (ws' := (W_X8 a0 a1 a2 a3 a4 a5 a6 a7 a8 a9 a10 a11 a12 a13 a14 a15 a16 a17 a18 a19 a20 a21 a22 a23 a24 a25 a26 a27 a28 a29 cI cJ c_text_bytes c_text_length c_reader_numbers c_reader_next c_laid_stand c_laid_home c_laid_priceStart c_laid_priceStep c_laid_thrown_cells c_laid_thrown_filled c_laid_nets_cells c_laid_nets_filled c_trial_stand c_trial_home c_trial_priceStart c_trial_priceStep c_trial_thrown_cells c_trial_thrown_filled c_trial_nets_cells c_trial_nets_filled c_flight_loads_cells c_flight_loads_filled c_flight_order c_flight_done c_flight_start c_flight_end c_changes_who c_changes_column c_changes_was c_changes_held c_kept_older_cells c_kept_older_filled c_kept_newer_cells c_kept_newer_filled c_kept_held c_turns_need)) (run_S (rest := []) X hG hl.1 (mX8_within l dC dI cI cJ x1 (0 : Int32) (3 : Int32) hz_2) gi_S_X8_74 hd_S_yX8_within ⟨rfl, rfl⟩ rfl ⟨Nat.le_of_ble_eq_true rfl, Nat.le_of_ble_eq_true rfl⟩ [] (by decide) rfl rfl (Nat.le_of_ble_eq_true rfl) ⟨Nat.le_of_ble_eq_true rfl, Nat.le_of_ble_eq_true rfl⟩ dX8_net_3) hG [] rfl rfl rfl (fun H locs hG => ?_)
  clear hz_2
  refine lv_if_eq (tgt := 18) hx hb dX8_net_6 (by decide) (fun c_3 => ?_) (fun c_3 => ?_)
  · have h := ite_t h c_3
    refine lv_iconst (v := (-1 : Int32)) hx hb dX8_net_18 (by decide) ?_
    cases h
    exact ret _ _ _ _ dX8_net_19 hG
  · have h := ite_f h c_3
    refine lv_iload_n hx hb dX8_net_9 rfl (lv_at hl 2 rfl) ?_
    refine lv_iconst (v := (0 : Int32)) hx hb dX8_net_10 (by decide) ?_
    refine lv_iconst (v := (1 : Int32)) hx hb dX8_net_11 (by decide) ?_
    obtain ⟨r_4, hz_5, h⟩ := bd1_some h
    refine aft_i (ws' := (W_X8 a0 a1 a2 a3 a4 a5 a6 a7 a8 a9 a10 a11 a12 a13 a14 a15 a16 a17 a18 a19 a20 a21 a22 a23 a24 a25 a26 a27 a28 a29 cI cJ c_text_bytes c_text_length c_reader_numbers c_reader_next c_laid_stand c_laid_home c_laid_priceStart c_laid_priceStep c_laid_thrown_cells c_laid_thrown_filled c_laid_nets_cells c_laid_nets_filled c_trial_stand c_trial_home c_trial_priceStart c_trial_priceStep c_trial_thrown_cells c_trial_thrown_filled c_trial_nets_cells c_trial_nets_filled c_flight_loads_cells c_flight_loads_filled c_flight_order c_flight_done c_flight_start c_flight_end c_changes_who c_changes_column c_changes_was c_changes_held c_kept_older_cells c_kept_older_filled c_kept_newer_cells c_kept_newer_filled c_kept_held c_turns_need)) (run_S (rest := []) X hG hl.1 (mX8_within l dC dI cI cJ x2 (0 : Int32) (1 : Int32) hz_5) gi_S_X8_74 hd_S_yX8_within ⟨rfl, rfl⟩ rfl ⟨Nat.le_of_ble_eq_true rfl, Nat.le_of_ble_eq_true rfl⟩ [] (by decide) rfl rfl (Nat.le_of_ble_eq_true rfl) ⟨Nat.le_of_ble_eq_true rfl, Nat.le_of_ble_eq_true rfl⟩ dX8_net_12) hG [] rfl rfl rfl (fun H locs hG => ?_)
    clear hz_5
    refine lv_if_ne (tgt := 20) hx hb dX8_net_15 (by decide) (fun c_6 => ?_) (fun c_6 => ?_)
    · have h := ite_f h c_6
      refine lv_iconst (v := (0 : Int32)) hx hb dX8_net_20 (by decide) ?_
      refine lv_istore_n (lv' := [(3, .int (0 : Int32)), (0, .ref a0), (1, .int x1), (2, .int x2)]) hx hb dX8_net_21 rfl hl (by decide) rfl (fun ls hl => ?_)
      refine lv_iconst (v := (-1 : Int32)) hx hb dX8_net_22 (by decide) ?_
      refine lv_istore (lv' := [(4, .int (-1 : Int32)), (3, .int (0 : Int32)), (0, .ref a0), (1, .int x1), (2, .int x2)]) hx hb dX8_net_23 hl (by decide) rfl (fun ls hl => ?_)
      refine lv_aload_n hx hb dX8_net_25 rfl (lv_at hl 2 rfl) ?_
      refine r_get X hG in_X8 rfl 4 (by decide) w_239 0 rfl rfl dX8_net_26 ?_
      refine lv_aload_n hx hb dX8_net_29 rfl (lv_at hl 2 rfl) ?_
      refine r_get X hG in_X8 rfl 2 (by decide) w_237 0 rfl rfl dX8_net_30 ?_
      refine lv_iconst (v := (0 : Int32)) hx hb dX8_net_33 (by decide) ?_
      obtain ⟨k_flight_loads_cells_7, k_flight_order_8, k_flight_done_9, k_flight_start_10, k_flight_end_11, hz_12, h⟩ := bd5_some h
      refine aft_v (ws' := (W_X8 a0 a1 a2 a3 a4 a5 a6 a7 a8 a9 a10 a11 a12 a13 a14 a15 a16 a17 a18 a19 a20 a21 a22 a23 a24 a25 a26 a27 a28 a29 cI cJ c_text_bytes c_text_length c_reader_numbers c_reader_next c_laid_stand c_laid_home c_laid_priceStart c_laid_priceStep c_laid_thrown_cells c_laid_thrown_filled c_laid_nets_cells c_laid_nets_filled c_trial_stand c_trial_home c_trial_priceStart c_trial_priceStep c_trial_thrown_cells c_trial_thrown_filled c_trial_nets_cells c_trial_nets_filled k_flight_loads_cells_7 c_flight_loads_filled k_flight_order_8 k_flight_done_9 k_flight_start_10 k_flight_end_11 c_changes_who c_changes_column c_changes_was c_changes_held c_kept_older_cells c_kept_older_filled c_kept_newer_cells c_kept_newer_filled c_kept_held c_turns_need)) (run_V (rest := []) X hG hl.1 (mX1_fly l dC dI cI cJ a15 a16 a17 a18 a5 a6 a7 a8 a9 c_flight_loads_cells c_flight_loads_filled c_flight_order c_flight_done c_flight_start c_flight_end c_laid_stand c_laid_home c_laid_priceStart c_laid_priceStep c_laid_thrown_cells c_laid_thrown_filled c_laid_nets_cells c_laid_nets_filled (0 : Int32) hz_12) gi_V_X8_106 hd_V_yX1_fly ⟨rfl, rfl⟩ rfl ⟨Nat.le_of_ble_eq_true rfl, Nat.le_of_ble_eq_true rfl⟩ [15, 16, 17, 18, 5, 6, 7, 8, 9] (by decide) rfl 15 rfl rfl rfl rfl (Nat.le_of_ble_eq_true rfl) ⟨Nat.le_of_ble_eq_true rfl, Nat.le_of_ble_eq_true rfl⟩ dX8_net_34) hG [15, 16, 17, 18, 5, 6, 7, 8, 9] rfl rfl rfl (fun H locs hG => ?_)
      clear hz_12
      refine lv_iconst (v := (0 : Int32)) hx hb dX8_net_37 (by decide) ?_
      refine lv_istore (lv' := [(5, .int (0 : Int32)), (4, .int (-1 : Int32)), (3, .int (0 : Int32)), (0, .ref a0), (1, .int x1), (2, .int x2)]) hx hb dX8_net_38 hl (by decide) rfl (fun ls hl => ?_)
      obtain ⟨z3_17, z4_18, hz, h⟩ := bd2_some h
      refine L40 k_flight_loads_cells_7 k_flight_order_8 k_flight_done_9 k_flight_start_10 k_flight_end_11 FU (0 : Int32) (-1 : Int32) (0 : Int32) _ _ hz (fun ls H locs hl hG => ?_) _ _ _ (lv_sub hl [3, 4, 5, 2, 1, 0] rfl) hG
      clear hz
      refine lv_iload_n hx hb dX8_net_79 rfl (lv_at hl 0 rfl) ?_
      refine lv_if_ne (tgt := 87) hx hb dX8_net_80 (by decide) (fun c_19 => ?_) (fun c_19 => ?_)
      · have h := ite_f h c_19
        refine lv_iload hx hb dX8_net_87 (lv_at hl 2 rfl) ?_
        cases h
        exact ret _ _ _ _ dX8_net_89 hG
      · have h := ite_t h c_19
        refine lv_iload_n hx hb dX8_net_83 rfl (lv_at hl 1 rfl) ?_
        refine lv_goto (tgt := 89) hx hb dX8_net_84 (by decide) ?_
        cases h
        exact ret _ _ _ _ dX8_net_89 hG
    · have h := ite_t h c_6
      refine lv_iconst (v := (-1 : Int32)) hx hb dX8_net_18 (by decide) ?_
      cases h
      exact ret _ _ _ _ dX8_net_19 hG
set_option maxRecDepth 100000 in
set_option maxHeartbeats 4000000 in
theorem mJ6_bitCount_0f7a4 (l : Launch) (dC : Nat → ClassId) (dI : Nat → Nat → Nat) (cI cJ : ClassId) (x0 : Int32) {res : Int32} (hD : DJ6_bitCount_0f7a4 x0 = some res) : Met l yJ6_bitCount_0f7a4 (WZ yJ6_bitCount_0f7a4 cJ6_bitCount_0f7a4 1 (some .int)) (RM 0 0) (PC dC dI cI cJ [.int x0] []) (QI dC dI [] [] res) 0 0 (FA []) := by
  refine r_metI (by decide +kernel) (Nat.le_of_ble_eq_true rfl) ?_
  intro p e s m args below meth c A H0 QQ X ret ls hl hG
  have X : Cx p m c cJ6_bitCount_0f7a4 1 s args RJ6 dC dI cI cJ meth (some .int) := X
  have hx := X.1.1
  have hb := X.1.2.1
  have hl : lv_has ls 1 [(0, .int x0)] := hl
  have h := hD
  unfold DJ6_bitCount_0f7a4 at h
  clear hD
  refine lv_iload_n hx hb dJ6_bitCount_0f7a4_0 rfl (lv_at hl 0 rfl) ?_
  refine lv_iload_n hx hb dJ6_bitCount_0f7a4_1 rfl (lv_at hl 0 rfl) ?_
  refine lv_iconst (v := (1 : Int32)) hx hb dJ6_bitCount_0f7a4_2 (by decide) ?_
  refine lv_iushr (v := ((x0.toUInt32 >>> ((1 : Int32).toUInt32 &&& Int32.toUInt32 31)).toInt32)) hx hb dJ6_bitCount_0f7a4_3 rfl ?_
  refine lv_ldcw (v := (1431655765 : Int32)) hx hb X.1.2.2.2.1 (X.1.2.2.2.2 _ w_539) dJ6_bitCount_0f7a4_4 ?_
  refine lv_iand hx hb dJ6_bitCount_0f7a4_7 ?_
  refine lv_isub hx hb dJ6_bitCount_0f7a4_8 ?_
  refine lv_istore_n (lv' := [(0, .int (x0 - (((x0.toUInt32 >>> ((1 : Int32).toUInt32 &&& Int32.toUInt32 31)).toInt32) &&& (1431655765 : Int32))))]) hx hb dJ6_bitCount_0f7a4_9 rfl hl (by decide) rfl (fun ls hl => ?_)
  refine lv_iload_n hx hb dJ6_bitCount_0f7a4_10 rfl (lv_at hl 0 rfl) ?_
  refine lv_ldcw (v := (858993459 : Int32)) hx hb X.1.2.2.2.1 (X.1.2.2.2.2 _ w_540) dJ6_bitCount_0f7a4_11 ?_
  refine lv_iand hx hb dJ6_bitCount_0f7a4_14 ?_
  refine lv_iload_n hx hb dJ6_bitCount_0f7a4_15 rfl (lv_at hl 0 rfl) ?_
  refine lv_iconst (v := (2 : Int32)) hx hb dJ6_bitCount_0f7a4_16 (by decide) ?_
  refine lv_iushr (v := (((x0 - (((x0.toUInt32 >>> ((1 : Int32).toUInt32 &&& Int32.toUInt32 31)).toInt32) &&& (1431655765 : Int32))).toUInt32 >>> ((2 : Int32).toUInt32 &&& Int32.toUInt32 31)).toInt32)) hx hb dJ6_bitCount_0f7a4_17 rfl ?_
  refine lv_ldcw (v := (858993459 : Int32)) hx hb X.1.2.2.2.1 (X.1.2.2.2.2 _ w_540) dJ6_bitCount_0f7a4_18 ?_
  refine lv_iand hx hb dJ6_bitCount_0f7a4_21 ?_
  refine lv_iadd hx hb dJ6_bitCount_0f7a4_22 ?_
  refine lv_istore_n (lv' := [(0, .int (((x0 - (((x0.toUInt32 >>> ((1 : Int32).toUInt32 &&& Int32.toUInt32 31)).toInt32) &&& (1431655765 : Int32))) &&& (858993459 : Int32)) + ((((x0 - (((x0.toUInt32 >>> ((1 : Int32).toUInt32 &&& Int32.toUInt32 31)).toInt32) &&& (1431655765 : Int32))).toUInt32 >>> ((2 : Int32).toUInt32 &&& Int32.toUInt32 31)).toInt32) &&& (858993459 : Int32))))]) hx hb dJ6_bitCount_0f7a4_23 rfl hl (by decide) rfl (fun ls hl => ?_)
  refine lv_iload_n hx hb dJ6_bitCount_0f7a4_24 rfl (lv_at hl 0 rfl) ?_
  refine lv_iload_n hx hb dJ6_bitCount_0f7a4_25 rfl (lv_at hl 0 rfl) ?_
  refine lv_iconst (v := (4 : Int32)) hx hb dJ6_bitCount_0f7a4_26 (by decide) ?_
  refine lv_iushr (v := (((((x0 - (((x0.toUInt32 >>> ((1 : Int32).toUInt32 &&& Int32.toUInt32 31)).toInt32) &&& (1431655765 : Int32))) &&& (858993459 : Int32)) + ((((x0 - (((x0.toUInt32 >>> ((1 : Int32).toUInt32 &&& Int32.toUInt32 31)).toInt32) &&& (1431655765 : Int32))).toUInt32 >>> ((2 : Int32).toUInt32 &&& Int32.toUInt32 31)).toInt32) &&& (858993459 : Int32))).toUInt32 >>> ((4 : Int32).toUInt32 &&& Int32.toUInt32 31)).toInt32)) hx hb dJ6_bitCount_0f7a4_27 rfl ?_
  refine lv_iadd hx hb dJ6_bitCount_0f7a4_28 ?_
  refine lv_ldcw (v := (252645135 : Int32)) hx hb X.1.2.2.2.1 (X.1.2.2.2.2 _ w_541) dJ6_bitCount_0f7a4_29 ?_
  refine lv_iand hx hb dJ6_bitCount_0f7a4_32 ?_
  refine lv_istore_n (lv' := [(0, .int (((((x0 - (((x0.toUInt32 >>> ((1 : Int32).toUInt32 &&& Int32.toUInt32 31)).toInt32) &&& (1431655765 : Int32))) &&& (858993459 : Int32)) + ((((x0 - (((x0.toUInt32 >>> ((1 : Int32).toUInt32 &&& Int32.toUInt32 31)).toInt32) &&& (1431655765 : Int32))).toUInt32 >>> ((2 : Int32).toUInt32 &&& Int32.toUInt32 31)).toInt32) &&& (858993459 : Int32))) + (((((x0 - (((x0.toUInt32 >>> ((1 : Int32).toUInt32 &&& Int32.toUInt32 31)).toInt32) &&& (1431655765 : Int32))) &&& (858993459 : Int32)) + ((((x0 - (((x0.toUInt32 >>> ((1 : Int32).toUInt32 &&& Int32.toUInt32 31)).toInt32) &&& (1431655765 : Int32))).toUInt32 >>> ((2 : Int32).toUInt32 &&& Int32.toUInt32 31)).toInt32) &&& (858993459 : Int32))).toUInt32 >>> ((4 : Int32).toUInt32 &&& Int32.toUInt32 31)).toInt32)) &&& (252645135 : Int32)))]) hx hb dJ6_bitCount_0f7a4_33 rfl hl (by decide) rfl (fun ls hl => ?_)
  refine lv_iload_n hx hb dJ6_bitCount_0f7a4_34 rfl (lv_at hl 0 rfl) ?_
  refine lv_iload_n hx hb dJ6_bitCount_0f7a4_35 rfl (lv_at hl 0 rfl) ?_
  refine lv_bipush (v := (8 : Int32)) hx hb dJ6_bitCount_0f7a4_36 (by decide) ?_
  refine lv_iushr (v := (((((((x0 - (((x0.toUInt32 >>> ((1 : Int32).toUInt32 &&& Int32.toUInt32 31)).toInt32) &&& (1431655765 : Int32))) &&& (858993459 : Int32)) + ((((x0 - (((x0.toUInt32 >>> ((1 : Int32).toUInt32 &&& Int32.toUInt32 31)).toInt32) &&& (1431655765 : Int32))).toUInt32 >>> ((2 : Int32).toUInt32 &&& Int32.toUInt32 31)).toInt32) &&& (858993459 : Int32))) + (((((x0 - (((x0.toUInt32 >>> ((1 : Int32).toUInt32 &&& Int32.toUInt32 31)).toInt32) &&& (1431655765 : Int32))) &&& (858993459 : Int32)) + ((((x0 - (((x0.toUInt32 >>> ((1 : Int32).toUInt32 &&& Int32.toUInt32 31)).toInt32) &&& (1431655765 : Int32))).toUInt32 >>> ((2 : Int32).toUInt32 &&& Int32.toUInt32 31)).toInt32) &&& (858993459 : Int32))).toUInt32 >>> ((4 : Int32).toUInt32 &&& Int32.toUInt32 31)).toInt32)) &&& (252645135 : Int32)).toUInt32 >>> ((8 : Int32).toUInt32 &&& Int32.toUInt32 31)).toInt32)) hx hb dJ6_bitCount_0f7a4_38 rfl ?_
  refine lv_iadd hx hb dJ6_bitCount_0f7a4_39 ?_
  refine lv_istore_n (lv' := [(0, .int ((((((x0 - (((x0.toUInt32 >>> ((1 : Int32).toUInt32 &&& Int32.toUInt32 31)).toInt32) &&& (1431655765 : Int32))) &&& (858993459 : Int32)) + ((((x0 - (((x0.toUInt32 >>> ((1 : Int32).toUInt32 &&& Int32.toUInt32 31)).toInt32) &&& (1431655765 : Int32))).toUInt32 >>> ((2 : Int32).toUInt32 &&& Int32.toUInt32 31)).toInt32) &&& (858993459 : Int32))) + (((((x0 - (((x0.toUInt32 >>> ((1 : Int32).toUInt32 &&& Int32.toUInt32 31)).toInt32) &&& (1431655765 : Int32))) &&& (858993459 : Int32)) + ((((x0 - (((x0.toUInt32 >>> ((1 : Int32).toUInt32 &&& Int32.toUInt32 31)).toInt32) &&& (1431655765 : Int32))).toUInt32 >>> ((2 : Int32).toUInt32 &&& Int32.toUInt32 31)).toInt32) &&& (858993459 : Int32))).toUInt32 >>> ((4 : Int32).toUInt32 &&& Int32.toUInt32 31)).toInt32)) &&& (252645135 : Int32)) + (((((((x0 - (((x0.toUInt32 >>> ((1 : Int32).toUInt32 &&& Int32.toUInt32 31)).toInt32) &&& (1431655765 : Int32))) &&& (858993459 : Int32)) + ((((x0 - (((x0.toUInt32 >>> ((1 : Int32).toUInt32 &&& Int32.toUInt32 31)).toInt32) &&& (1431655765 : Int32))).toUInt32 >>> ((2 : Int32).toUInt32 &&& Int32.toUInt32 31)).toInt32) &&& (858993459 : Int32))) + (((((x0 - (((x0.toUInt32 >>> ((1 : Int32).toUInt32 &&& Int32.toUInt32 31)).toInt32) &&& (1431655765 : Int32))) &&& (858993459 : Int32)) + ((((x0 - (((x0.toUInt32 >>> ((1 : Int32).toUInt32 &&& Int32.toUInt32 31)).toInt32) &&& (1431655765 : Int32))).toUInt32 >>> ((2 : Int32).toUInt32 &&& Int32.toUInt32 31)).toInt32) &&& (858993459 : Int32))).toUInt32 >>> ((4 : Int32).toUInt32 &&& Int32.toUInt32 31)).toInt32)) &&& (252645135 : Int32)).toUInt32 >>> ((8 : Int32).toUInt32 &&& Int32.toUInt32 31)).toInt32)))]) hx hb dJ6_bitCount_0f7a4_40 rfl hl (by decide) rfl (fun ls hl => ?_)
  refine lv_iload_n hx hb dJ6_bitCount_0f7a4_41 rfl (lv_at hl 0 rfl) ?_
  refine lv_iload_n hx hb dJ6_bitCount_0f7a4_42 rfl (lv_at hl 0 rfl) ?_
  refine lv_bipush (v := (16 : Int32)) hx hb dJ6_bitCount_0f7a4_43 (by decide) ?_
  refine lv_iushr (v := ((((((((x0 - (((x0.toUInt32 >>> ((1 : Int32).toUInt32 &&& Int32.toUInt32 31)).toInt32) &&& (1431655765 : Int32))) &&& (858993459 : Int32)) + ((((x0 - (((x0.toUInt32 >>> ((1 : Int32).toUInt32 &&& Int32.toUInt32 31)).toInt32) &&& (1431655765 : Int32))).toUInt32 >>> ((2 : Int32).toUInt32 &&& Int32.toUInt32 31)).toInt32) &&& (858993459 : Int32))) + (((((x0 - (((x0.toUInt32 >>> ((1 : Int32).toUInt32 &&& Int32.toUInt32 31)).toInt32) &&& (1431655765 : Int32))) &&& (858993459 : Int32)) + ((((x0 - (((x0.toUInt32 >>> ((1 : Int32).toUInt32 &&& Int32.toUInt32 31)).toInt32) &&& (1431655765 : Int32))).toUInt32 >>> ((2 : Int32).toUInt32 &&& Int32.toUInt32 31)).toInt32) &&& (858993459 : Int32))).toUInt32 >>> ((4 : Int32).toUInt32 &&& Int32.toUInt32 31)).toInt32)) &&& (252645135 : Int32)) + (((((((x0 - (((x0.toUInt32 >>> ((1 : Int32).toUInt32 &&& Int32.toUInt32 31)).toInt32) &&& (1431655765 : Int32))) &&& (858993459 : Int32)) + ((((x0 - (((x0.toUInt32 >>> ((1 : Int32).toUInt32 &&& Int32.toUInt32 31)).toInt32) &&& (1431655765 : Int32))).toUInt32 >>> ((2 : Int32).toUInt32 &&& Int32.toUInt32 31)).toInt32) &&& (858993459 : Int32))) + (((((x0 - (((x0.toUInt32 >>> ((1 : Int32).toUInt32 &&& Int32.toUInt32 31)).toInt32) &&& (1431655765 : Int32))) &&& (858993459 : Int32)) + ((((x0 - (((x0.toUInt32 >>> ((1 : Int32).toUInt32 &&& Int32.toUInt32 31)).toInt32) &&& (1431655765 : Int32))).toUInt32 >>> ((2 : Int32).toUInt32 &&& Int32.toUInt32 31)).toInt32) &&& (858993459 : Int32))).toUInt32 >>> ((4 : Int32).toUInt32 &&& Int32.toUInt32 31)).toInt32)) &&& (252645135 : Int32)).toUInt32 >>> ((8 : Int32).toUInt32 &&& Int32.toUInt32 31)).toInt32)).toUInt32 >>> ((16 : Int32).toUInt32 &&& Int32.toUInt32 31)).toInt32)) hx hb dJ6_bitCount_0f7a4_45 rfl ?_
  refine lv_iadd hx hb dJ6_bitCount_0f7a4_46 ?_
  refine lv_istore_n (lv' := [(0, .int (((((((x0 - (((x0.toUInt32 >>> ((1 : Int32).toUInt32 &&& Int32.toUInt32 31)).toInt32) &&& (1431655765 : Int32))) &&& (858993459 : Int32)) + ((((x0 - (((x0.toUInt32 >>> ((1 : Int32).toUInt32 &&& Int32.toUInt32 31)).toInt32) &&& (1431655765 : Int32))).toUInt32 >>> ((2 : Int32).toUInt32 &&& Int32.toUInt32 31)).toInt32) &&& (858993459 : Int32))) + (((((x0 - (((x0.toUInt32 >>> ((1 : Int32).toUInt32 &&& Int32.toUInt32 31)).toInt32) &&& (1431655765 : Int32))) &&& (858993459 : Int32)) + ((((x0 - (((x0.toUInt32 >>> ((1 : Int32).toUInt32 &&& Int32.toUInt32 31)).toInt32) &&& (1431655765 : Int32))).toUInt32 >>> ((2 : Int32).toUInt32 &&& Int32.toUInt32 31)).toInt32) &&& (858993459 : Int32))).toUInt32 >>> ((4 : Int32).toUInt32 &&& Int32.toUInt32 31)).toInt32)) &&& (252645135 : Int32)) + (((((((x0 - (((x0.toUInt32 >>> ((1 : Int32).toUInt32 &&& Int32.toUInt32 31)).toInt32) &&& (1431655765 : Int32))) &&& (858993459 : Int32)) + ((((x0 - (((x0.toUInt32 >>> ((1 : Int32).toUInt32 &&& Int32.toUInt32 31)).toInt32) &&& (1431655765 : Int32))).toUInt32 >>> ((2 : Int32).toUInt32 &&& Int32.toUInt32 31)).toInt32) &&& (858993459 : Int32))) + (((((x0 - (((x0.toUInt32 >>> ((1 : Int32).toUInt32 &&& Int32.toUInt32 31)).toInt32) &&& (1431655765 : Int32))) &&& (858993459 : Int32)) + ((((x0 - (((x0.toUInt32 >>> ((1 : Int32).toUInt32 &&& Int32.toUInt32 31)).toInt32) &&& (1431655765 : Int32))).toUInt32 >>> ((2 : Int32).toUInt32 &&& Int32.toUInt32 31)).toInt32) &&& (858993459 : Int32))).toUInt32 >>> ((4 : Int32).toUInt32 &&& Int32.toUInt32 31)).toInt32)) &&& (252645135 : Int32)).toUInt32 >>> ((8 : Int32).toUInt32 &&& Int32.toUInt32 31)).toInt32)) + ((((((((x0 - (((x0.toUInt32 >>> ((1 : Int32).toUInt32 &&& Int32.toUInt32 31)).toInt32) &&& (1431655765 : Int32))) &&& (858993459 : Int32)) + ((((x0 - (((x0.toUInt32 >>> ((1 : Int32).toUInt32 &&& Int32.toUInt32 31)).toInt32) &&& (1431655765 : Int32))).toUInt32 >>> ((2 : Int32).toUInt32 &&& Int32.toUInt32 31)).toInt32) &&& (858993459 : Int32))) + (((((x0 - (((x0.toUInt32 >>> ((1 : Int32).toUInt32 &&& Int32.toUInt32 31)).toInt32) &&& (1431655765 : Int32))) &&& (858993459 : Int32)) + ((((x0 - (((x0.toUInt32 >>> ((1 : Int32).toUInt32 &&& Int32.toUInt32 31)).toInt32) &&& (1431655765 : Int32))).toUInt32 >>> ((2 : Int32).toUInt32 &&& Int32.toUInt32 31)).toInt32) &&& (858993459 : Int32))).toUInt32 >>> ((4 : Int32).toUInt32 &&& Int32.toUInt32 31)).toInt32)) &&& (252645135 : Int32)) + (((((((x0 - (((x0.toUInt32 >>> ((1 : Int32).toUInt32 &&& Int32.toUInt32 31)).toInt32) &&& (1431655765 : Int32))) &&& (858993459 : Int32)) + ((((x0 - (((x0.toUInt32 >>> ((1 : Int32).toUInt32 &&& Int32.toUInt32 31)).toInt32) &&& (1431655765 : Int32))).toUInt32 >>> ((2 : Int32).toUInt32 &&& Int32.toUInt32 31)).toInt32) &&& (858993459 : Int32))) + (((((x0 - (((x0.toUInt32 >>> ((1 : Int32).toUInt32 &&& Int32.toUInt32 31)).toInt32) &&& (1431655765 : Int32))) &&& (858993459 : Int32)) + ((((x0 - (((x0.toUInt32 >>> ((1 : Int32).toUInt32 &&& Int32.toUInt32 31)).toInt32) &&& (1431655765 : Int32))).toUInt32 >>> ((2 : Int32).toUInt32 &&& Int32.toUInt32 31)).toInt32) &&& (858993459 : Int32))).toUInt32 >>> ((4 : Int32).toUInt32 &&& Int32.toUInt32 31)).toInt32)) &&& (252645135 : Int32)).toUInt32 >>> ((8 : Int32).toUInt32 &&& Int32.toUInt32 31)).toInt32)).toUInt32 >>> ((16 : Int32).toUInt32 &&& Int32.toUInt32 31)).toInt32)))]) hx hb dJ6_bitCount_0f7a4_47 rfl hl (by decide) rfl (fun ls hl => ?_)
  refine lv_iload_n hx hb dJ6_bitCount_0f7a4_48 rfl (lv_at hl 0 rfl) ?_
  refine lv_bipush (v := (63 : Int32)) hx hb dJ6_bitCount_0f7a4_49 (by decide) ?_
  refine lv_iand hx hb dJ6_bitCount_0f7a4_51 ?_
  cases h
  exact ret _ _ _ _ dJ6_bitCount_0f7a4_52 hG
set_option maxRecDepth 100000 in
set_option maxHeartbeats 4000000 in
theorem mX8_clear (l : Launch) (dC : Nat → ClassId) (dI : Nat → Nat → Nat) (cI cJ : ClassId) (a0 a1 a2 a3 a4 a5 a6 a7 a8 a9 a10 a11 a12 a13 a14 a15 a16 a17 a18 a19 a20 a21 a22 a23 a24 a25 a26 a27 a28 a29 : Nat) (c_text_bytes : Nat → Int32) (c_text_length : Int32) (c_reader_numbers : Nat → Int32) (c_reader_next : Int32) (c_laid_stand : Int32) (c_laid_home : Int32) (c_laid_priceStart : Int32) (c_laid_priceStep : Int32) (c_laid_thrown_cells : Nat → Int32) (c_laid_thrown_filled : Int32) (c_laid_nets_cells : Nat → Int32) (c_laid_nets_filled : Int32) (c_trial_stand : Int32) (c_trial_home : Int32) (c_trial_priceStart : Int32) (c_trial_priceStep : Int32) (c_trial_thrown_cells : Nat → Int32) (c_trial_thrown_filled : Int32) (c_trial_nets_cells : Nat → Int32) (c_trial_nets_filled : Int32) (c_flight_loads_cells : Nat → Int32) (c_flight_loads_filled : Int32) (c_flight_order : Nat → Int32) (c_flight_done : Int32) (c_flight_start : Int32) (c_flight_end : Int32) (c_changes_who : Nat → Int32) (c_changes_column : Nat → Int32) (c_changes_was : Nat → Int32) (c_changes_held : Int32) (c_kept_older_cells : Nat → Int32) (c_kept_older_filled : Int32) (c_kept_newer_cells : Nat → Int32) (c_kept_newer_filled : Int32) (c_kept_held : Int32) (c_turns_need : Nat → Int32) {res : Int32} {n_flight_loads_cells : Nat → Int32} {n_flight_order : Nat → Int32} {n_flight_done : Int32} {n_flight_start : Int32} {n_flight_end : Int32} (hD : DX8_clear c_laid_stand c_laid_home c_laid_priceStart c_laid_priceStep c_laid_thrown_cells c_laid_thrown_filled c_laid_nets_cells c_laid_nets_filled c_flight_loads_cells c_flight_order c_flight_done c_flight_start c_flight_end = some (res, n_flight_loads_cells, n_flight_order, n_flight_done, n_flight_start, n_flight_end)) : Met l yX8_clear (WZ yX8_clear cX8_clear 5 (some .int)) (RM 6 143) (PC dC dI cI cJ [.ref a0] (W_X8 a0 a1 a2 a3 a4 a5 a6 a7 a8 a9 a10 a11 a12 a13 a14 a15 a16 a17 a18 a19 a20 a21 a22 a23 a24 a25 a26 a27 a28 a29 cI cJ c_text_bytes c_text_length c_reader_numbers c_reader_next c_laid_stand c_laid_home c_laid_priceStart c_laid_priceStep c_laid_thrown_cells c_laid_thrown_filled c_laid_nets_cells c_laid_nets_filled c_trial_stand c_trial_home c_trial_priceStart c_trial_priceStep c_trial_thrown_cells c_trial_thrown_filled c_trial_nets_cells c_trial_nets_filled c_flight_loads_cells c_flight_loads_filled c_flight_order c_flight_done c_flight_start c_flight_end c_changes_who c_changes_column c_changes_was c_changes_held c_kept_older_cells c_kept_older_filled c_kept_newer_cells c_kept_newer_filled c_kept_held c_turns_need)) (QI dC dI (W_X8 a0 a1 a2 a3 a4 a5 a6 a7 a8 a9 a10 a11 a12 a13 a14 a15 a16 a17 a18 a19 a20 a21 a22 a23 a24 a25 a26 a27 a28 a29 cI cJ c_text_bytes c_text_length c_reader_numbers c_reader_next c_laid_stand c_laid_home c_laid_priceStart c_laid_priceStep c_laid_thrown_cells c_laid_thrown_filled c_laid_nets_cells c_laid_nets_filled c_trial_stand c_trial_home c_trial_priceStart c_trial_priceStep c_trial_thrown_cells c_trial_thrown_filled c_trial_nets_cells c_trial_nets_filled c_flight_loads_cells c_flight_loads_filled c_flight_order c_flight_done c_flight_start c_flight_end c_changes_who c_changes_column c_changes_was c_changes_held c_kept_older_cells c_kept_older_filled c_kept_newer_cells c_kept_newer_filled c_kept_held c_turns_need) (W_X8 a0 a1 a2 a3 a4 a5 a6 a7 a8 a9 a10 a11 a12 a13 a14 a15 a16 a17 a18 a19 a20 a21 a22 a23 a24 a25 a26 a27 a28 a29 cI cJ c_text_bytes c_text_length c_reader_numbers c_reader_next c_laid_stand c_laid_home c_laid_priceStart c_laid_priceStep c_laid_thrown_cells c_laid_thrown_filled c_laid_nets_cells c_laid_nets_filled c_trial_stand c_trial_home c_trial_priceStart c_trial_priceStep c_trial_thrown_cells c_trial_thrown_filled c_trial_nets_cells c_trial_nets_filled n_flight_loads_cells c_flight_loads_filled n_flight_order n_flight_done n_flight_start n_flight_end c_changes_who c_changes_column c_changes_was c_changes_held c_kept_older_cells c_kept_older_filled c_kept_newer_cells c_kept_newer_filled c_kept_held c_turns_need) res) 0 0 (FA (W_X8 a0 a1 a2 a3 a4 a5 a6 a7 a8 a9 a10 a11 a12 a13 a14 a15 a16 a17 a18 a19 a20 a21 a22 a23 a24 a25 a26 a27 a28 a29 cI cJ c_text_bytes c_text_length c_reader_numbers c_reader_next c_laid_stand c_laid_home c_laid_priceStart c_laid_priceStep c_laid_thrown_cells c_laid_thrown_filled c_laid_nets_cells c_laid_nets_filled c_trial_stand c_trial_home c_trial_priceStart c_trial_priceStep c_trial_thrown_cells c_trial_thrown_filled c_trial_nets_cells c_trial_nets_filled c_flight_loads_cells c_flight_loads_filled c_flight_order c_flight_done c_flight_start c_flight_end c_changes_who c_changes_column c_changes_was c_changes_held c_kept_older_cells c_kept_older_filled c_kept_newer_cells c_kept_newer_filled c_kept_held c_turns_need)) := by
  refine r_metI (by decide +kernel) (Nat.le_of_ble_eq_true rfl) ?_
  intro p e s m args below meth c A H0 QQ X ret ls hl hG
  have X : Cx p m c cX8_clear 5 s args RX8 dC dI cI cJ meth (some .int) := X
  have hx := X.1.1
  have hb := X.1.2.1
  have hl : lv_has ls 5 [(0, .ref a0)] := hl
  have L26 : ∀ (x3 : Int32), ∀ (n : Nat) (x1 : Int32) (x2 : Int32) (x4 : Int32) (c_flight_loads_cells : Nat → Int32) (c_flight_order : Nat → Int32) (c_flight_done : Int32) (c_flight_start : Int32) (c_flight_end : Int32) (ex1 : Int32) (ec_flight_loads_cells : Nat → Int32) (ec_flight_order : Nat → Int32) (ec_flight_done : Int32) (ec_flight_start : Int32) (ec_flight_end : Int32), DX8_clear_L26 c_laid_stand c_laid_home c_laid_priceStart c_laid_priceStep c_laid_thrown_cells c_laid_thrown_filled c_laid_nets_cells c_laid_nets_filled x3 n x1 x2 x4 c_flight_loads_cells c_flight_order c_flight_done c_flight_start c_flight_end = some (ex1, ec_flight_loads_cells, ec_flight_order, ec_flight_done, ec_flight_start, ec_flight_end) → (∀ (ls : Array Slot) (H : Heap) (locs : List Loc), lv_has ls 5 [(1, .int ex1)] → G dC dI A H0 (W_X8 a0 a1 a2 a3 a4 a5 a6 a7 a8 a9 a10 a11 a12 a13 a14 a15 a16 a17 a18 a19 a20 a21 a22 a23 a24 a25 a26 a27 a28 a29 cI cJ c_text_bytes c_text_length c_reader_numbers c_reader_next c_laid_stand c_laid_home c_laid_priceStart c_laid_priceStep c_laid_thrown_cells c_laid_thrown_filled c_laid_nets_cells c_laid_nets_filled c_trial_stand c_trial_home c_trial_priceStart c_trial_priceStep c_trial_thrown_cells c_trial_thrown_filled c_trial_nets_cells c_trial_nets_filled ec_flight_loads_cells c_flight_loads_filled ec_flight_order ec_flight_done ec_flight_start ec_flight_end c_changes_who c_changes_column c_changes_was c_changes_held c_kept_older_cells c_kept_older_filled c_kept_newer_cells c_kept_newer_filled c_kept_held c_turns_need) H locs → W p l e (RM 6 143) s m args below meth c H locs 0 0 QQ (F0 m 80 ls [])) → ∀ (ls : Array Slot) (H : Heap) (locs : List Loc), lv_has ls 5 [(0, .ref a0), (1, .int x1), (2, .int x2), (3, .int x3), (4, .int x4)] → G dC dI A H0 (W_X8 a0 a1 a2 a3 a4 a5 a6 a7 a8 a9 a10 a11 a12 a13 a14 a15 a16 a17 a18 a19 a20 a21 a22 a23 a24 a25 a26 a27 a28 a29 cI cJ c_text_bytes c_text_length c_reader_numbers c_reader_next c_laid_stand c_laid_home c_laid_priceStart c_laid_priceStep c_laid_thrown_cells c_laid_thrown_filled c_laid_nets_cells c_laid_nets_filled c_trial_stand c_trial_home c_trial_priceStart c_trial_priceStep c_trial_thrown_cells c_trial_thrown_filled c_trial_nets_cells c_trial_nets_filled c_flight_loads_cells c_flight_loads_filled c_flight_order c_flight_done c_flight_start c_flight_end c_changes_who c_changes_column c_changes_was c_changes_held c_kept_older_cells c_kept_older_filled c_kept_newer_cells c_kept_newer_filled c_kept_held c_turns_need) H locs → W p l e (RM 6 143) s m args below meth c H locs 0 0 QQ (F0 m 26 ls []) := by
    intro x3 n
    induction n with
    | zero => intro x1 x2 x4 c_flight_loads_cells c_flight_order c_flight_done c_flight_start c_flight_end ex1 ec_flight_loads_cells ec_flight_order ec_flight_done ec_flight_start ec_flight_end h; exact it_zero h
    | succ n ih =>
      intro x1 x2 x4 c_flight_loads_cells c_flight_order c_flight_done c_flight_start c_flight_end ex1 ec_flight_loads_cells ec_flight_order ec_flight_done ec_flight_start ec_flight_end h0 K0 ls H locs hl hG
      obtain ⟨w, h, hi, hr⟩ := it_succ h0
      have h : DX8_clear_L26s c_laid_stand c_laid_home c_laid_priceStart c_laid_priceStep c_laid_thrown_cells c_laid_thrown_filled c_laid_nets_cells c_laid_nets_filled x3 x1 x2 x4 c_flight_loads_cells c_flight_order c_flight_done c_flight_start c_flight_end = some w := h
      have KC : ∀ (x1 : Int32) (x2 : Int32) (x4 : Int32) (c_flight_loads_cells : Nat → Int32) (c_flight_order : Nat → Int32) (c_flight_done : Int32) (c_flight_start : Int32) (c_flight_end : Int32), w = .inl (x1, x2, x4, c_flight_loads_cells, c_flight_order, c_flight_done, c_flight_start, c_flight_end) → ∀ (ls : Array Slot) (H : Heap) (locs : List Loc), lv_has ls 5 [(0, .ref a0), (1, .int x1), (2, .int x2), (3, .int x3), (4, .int x4)] → G dC dI A H0 (W_X8 a0 a1 a2 a3 a4 a5 a6 a7 a8 a9 a10 a11 a12 a13 a14 a15 a16 a17 a18 a19 a20 a21 a22 a23 a24 a25 a26 a27 a28 a29 cI cJ c_text_bytes c_text_length c_reader_numbers c_reader_next c_laid_stand c_laid_home c_laid_priceStart c_laid_priceStep c_laid_thrown_cells c_laid_thrown_filled c_laid_nets_cells c_laid_nets_filled c_trial_stand c_trial_home c_trial_priceStart c_trial_priceStep c_trial_thrown_cells c_trial_thrown_filled c_trial_nets_cells c_trial_nets_filled c_flight_loads_cells c_flight_loads_filled c_flight_order c_flight_done c_flight_start c_flight_end c_changes_who c_changes_column c_changes_was c_changes_held c_kept_older_cells c_kept_older_filled c_kept_newer_cells c_kept_newer_filled c_kept_held c_turns_need) H locs → W p l e (RM 6 143) s m args below meth c H locs 0 0 QQ (F0 m 26 ls []) := fun b0 b1 b2 b3 b4 b5 b6 b7 e ls H locs hl hG => ih b0 b1 b2 b3 b4 b5 b6 b7 ex1 ec_flight_loads_cells ec_flight_order ec_flight_done ec_flight_start ec_flight_end (hi _ e) K0 ls H locs hl hG
      have KX : ∀ (x1 : Int32) (c_flight_loads_cells : Nat → Int32) (c_flight_order : Nat → Int32) (c_flight_done : Int32) (c_flight_start : Int32) (c_flight_end : Int32), w = .inr (x1, c_flight_loads_cells, c_flight_order, c_flight_done, c_flight_start, c_flight_end) → ∀ (ls : Array Slot) (H : Heap) (locs : List Loc), lv_has ls 5 [(1, .int x1)] → G dC dI A H0 (W_X8 a0 a1 a2 a3 a4 a5 a6 a7 a8 a9 a10 a11 a12 a13 a14 a15 a16 a17 a18 a19 a20 a21 a22 a23 a24 a25 a26 a27 a28 a29 cI cJ c_text_bytes c_text_length c_reader_numbers c_reader_next c_laid_stand c_laid_home c_laid_priceStart c_laid_priceStep c_laid_thrown_cells c_laid_thrown_filled c_laid_nets_cells c_laid_nets_filled c_trial_stand c_trial_home c_trial_priceStart c_trial_priceStep c_trial_thrown_cells c_trial_thrown_filled c_trial_nets_cells c_trial_nets_filled c_flight_loads_cells c_flight_loads_filled c_flight_order c_flight_done c_flight_start c_flight_end c_changes_who c_changes_column c_changes_was c_changes_held c_kept_older_cells c_kept_older_filled c_kept_newer_cells c_kept_newer_filled c_kept_held c_turns_need) H locs → W p l e (RM 6 143) s m args below meth c H locs 0 0 QQ (F0 m 80 ls []) := fun b0 b1 b2 b3 b4 b5 e ls H locs hl hG => by cases hr _ e; exact K0 ls H locs hl hG
      clear h0 hi hr K0 ih
      unfold DX8_clear_L26s at h
      refine lv_iload hx hb dX8_clear_26 (lv_at hl 4 rfl) ?_
      refine lv_iload_n hx hb dX8_clear_28 rfl (lv_at hl 3 rfl) ?_
      refine lv_icmp_ge (tgt := 80) hx hb dX8_clear_29 (by decide) (fun c_3 => ?_) (fun c_3 => ?_)
      · have h := ite_t h c_3
        exact KX _ _ _ _ _ _ (Option.some.inj h).symm _ _ _ (lv_sub hl [1] rfl) hG
      · have h := ite_f h c_3
        refine lv_iload hx hb dX8_clear_32 (lv_at hl 4 rfl) ?_
        obtain ⟨r_4, hz_5, h⟩ := bd1_some h
        refine aft_i (ws' := (W_X8 a0 a1 a2 a3 a4 a5 a6 a7 a8 a9 a10 a11 a12 a13 a14 a15 a16 a17 a18 a19 a20 a21 a22 a23 a24 a25 a26 a27 a28 a29 cI cJ c_text_bytes c_text_length c_reader_numbers c_reader_next c_laid_stand c_laid_home c_laid_priceStart c_laid_priceStep c_laid_thrown_cells c_laid_thrown_filled c_laid_nets_cells c_laid_nets_filled c_trial_stand c_trial_home c_trial_priceStart c_trial_priceStep c_trial_thrown_cells c_trial_thrown_filled c_trial_nets_cells c_trial_nets_filled c_flight_loads_cells c_flight_loads_filled c_flight_order c_flight_done c_flight_start c_flight_end c_changes_who c_changes_column c_changes_was c_changes_held c_kept_older_cells c_kept_older_filled c_kept_newer_cells c_kept_newer_filled c_kept_held c_turns_need)) (run_S (rest := []) X hG hl.1 (mJ6_bitCount_0f7a4 l dC dI cI cJ x4 hz_5) gi_S_X8_159 hd_S_yJ6_bitCount_0f7a4 ⟨rfl, rfl⟩ rfl ⟨Nat.le_of_ble_eq_true rfl, Nat.le_of_ble_eq_true rfl⟩ [] (by decide) rfl rfl (Nat.le_of_ble_eq_true rfl) ⟨Nat.le_of_ble_eq_true rfl, Nat.le_of_ble_eq_true rfl⟩ dX8_clear_34) hG [] rfl rfl rfl (fun H locs hG => ?_)
        clear hz_5
        refine lv_iload_n hx hb dX8_clear_37 rfl (lv_at hl 2 rfl) ?_
        refine lv_icmp_ge (tgt := 74) hx hb dX8_clear_38 (by decide) (fun c_6 => ?_) (fun c_6 => ?_)
        · have h := ite_t h c_6
          refine lv_iinc (v := (x4 + (1 : Int32))) (lv' := [(4, .int (x4 + (1 : Int32))), (0, .ref a0), (1, .int x1), (2, .int x2), (3, .int x3)]) hx hb dX8_clear_74 hl (k := 4) rfl rfl (by decide) rfl (fun ls hl => ?_)
          refine lv_goto (tgt := 26) hx hb dX8_clear_77 (by decide) ?_
          exact KC _ _ _ _ _ _ _ _ (Option.some.inj h).symm _ _ _ (lv_sub hl [1, 2, 3, 4, 0] rfl) hG
        · have h := ite_f h c_6
          refine lv_aload_n hx hb dX8_clear_41 rfl (lv_at hl 0 rfl) ?_
          refine r_get X hG in_X8 rfl 4 (by decide) w_239 0 rfl rfl dX8_clear_42 ?_
          refine lv_aload_n hx hb dX8_clear_45 rfl (lv_at hl 0 rfl) ?_
          refine r_get X hG in_X8 rfl 2 (by decide) w_237 0 rfl rfl dX8_clear_46 ?_
          refine lv_iload hx hb dX8_clear_49 (lv_at hl 4 rfl) ?_
          obtain ⟨k_flight_loads_cells_7, k_flight_order_8, k_flight_done_9, k_flight_start_10, k_flight_end_11, hz_12, h⟩ := bd5_some h
          refine aft_v (ws' := (W_X8 a0 a1 a2 a3 a4 a5 a6 a7 a8 a9 a10 a11 a12 a13 a14 a15 a16 a17 a18 a19 a20 a21 a22 a23 a24 a25 a26 a27 a28 a29 cI cJ c_text_bytes c_text_length c_reader_numbers c_reader_next c_laid_stand c_laid_home c_laid_priceStart c_laid_priceStep c_laid_thrown_cells c_laid_thrown_filled c_laid_nets_cells c_laid_nets_filled c_trial_stand c_trial_home c_trial_priceStart c_trial_priceStep c_trial_thrown_cells c_trial_thrown_filled c_trial_nets_cells c_trial_nets_filled k_flight_loads_cells_7 c_flight_loads_filled k_flight_order_8 k_flight_done_9 k_flight_start_10 k_flight_end_11 c_changes_who c_changes_column c_changes_was c_changes_held c_kept_older_cells c_kept_older_filled c_kept_newer_cells c_kept_newer_filled c_kept_held c_turns_need)) (run_V (rest := []) X hG hl.1 (mX1_fly l dC dI cI cJ a15 a16 a17 a18 a5 a6 a7 a8 a9 c_flight_loads_cells c_flight_loads_filled c_flight_order c_flight_done c_flight_start c_flight_end c_laid_stand c_laid_home c_laid_priceStart c_laid_priceStep c_laid_thrown_cells c_laid_thrown_filled c_laid_nets_cells c_laid_nets_filled x4 hz_12) gi_V_X8_106 hd_V_yX1_fly ⟨rfl, rfl⟩ rfl ⟨Nat.le_of_ble_eq_true rfl, Nat.le_of_ble_eq_true rfl⟩ [15, 16, 17, 18, 5, 6, 7, 8, 9] (by decide) rfl 15 rfl rfl rfl rfl (Nat.le_of_ble_eq_true rfl) ⟨Nat.le_of_ble_eq_true rfl, Nat.le_of_ble_eq_true rfl⟩ dX8_clear_51) hG [15, 16, 17, 18, 5, 6, 7, 8, 9] rfl rfl rfl (fun H locs hG => ?_)
          clear hz_12
          refine lv_aload_n hx hb dX8_clear_54 rfl (lv_at hl 0 rfl) ?_
          refine r_get X hG in_X8 rfl 4 (by decide) w_239 0 rfl rfl dX8_clear_55 ?_
          refine lv_iconst (v := (2 : Int32)) hx hb dX8_clear_58 (by decide) ?_
          obtain ⟨r_13, hz_14, h⟩ := bd1_some h
          refine aft_i (ws' := (W_X8 a0 a1 a2 a3 a4 a5 a6 a7 a8 a9 a10 a11 a12 a13 a14 a15 a16 a17 a18 a19 a20 a21 a22 a23 a24 a25 a26 a27 a28 a29 cI cJ c_text_bytes c_text_length c_reader_numbers c_reader_next c_laid_stand c_laid_home c_laid_priceStart c_laid_priceStep c_laid_thrown_cells c_laid_thrown_filled c_laid_nets_cells c_laid_nets_filled c_trial_stand c_trial_home c_trial_priceStart c_trial_priceStep c_trial_thrown_cells c_trial_thrown_filled c_trial_nets_cells c_trial_nets_filled k_flight_loads_cells_7 c_flight_loads_filled k_flight_order_8 k_flight_done_9 k_flight_start_10 k_flight_end_11 c_changes_who c_changes_column c_changes_was c_changes_held c_kept_older_cells c_kept_older_filled c_kept_newer_cells c_kept_newer_filled c_kept_held c_turns_need)) (run_V (rest := []) X hG hl.1 (mX1_howMany l dC dI cI cJ a15 a16 a17 a18 k_flight_loads_cells_7 c_flight_loads_filled k_flight_order_8 k_flight_done_9 k_flight_start_10 k_flight_end_11 (2 : Int32) hz_14) gi_V_X8_127 hd_V_yX1_howMany ⟨rfl, rfl⟩ rfl ⟨Nat.le_of_ble_eq_true rfl, Nat.le_of_ble_eq_true rfl⟩ [15, 16, 17, 18] (by decide) rfl 15 rfl rfl rfl rfl (Nat.le_of_ble_eq_true rfl) ⟨Nat.le_of_ble_eq_true rfl, Nat.le_of_ble_eq_true rfl⟩ dX8_clear_59) hG [15, 16, 17, 18] rfl rfl rfl (fun H locs hG => ?_)
          clear hz_14
          refine lv_if_ne (tgt := 74) hx hb dX8_clear_62 (by decide) (fun c_15 => ?_) (fun c_15 => ?_)
          · have h := ite_f h c_15
            refine lv_iinc (v := (x4 + (1 : Int32))) (lv' := [(4, .int (x4 + (1 : Int32))), (0, .ref a0), (1, .int x1), (2, .int x2), (3, .int x3)]) hx hb dX8_clear_74 hl (k := 4) rfl rfl (by decide) rfl (fun ls hl => ?_)
            refine lv_goto (tgt := 26) hx hb dX8_clear_77 (by decide) ?_
            exact KC _ _ _ _ _ _ _ _ (Option.some.inj h).symm _ _ _ (lv_sub hl [1, 2, 3, 4, 0] rfl) hG
          · have h := ite_t h c_15
            refine lv_iload hx hb dX8_clear_65 (lv_at hl 4 rfl) ?_
            obtain ⟨r_16, hz_17, h⟩ := bd1_some h
            refine aft_i (ws' := (W_X8 a0 a1 a2 a3 a4 a5 a6 a7 a8 a9 a10 a11 a12 a13 a14 a15 a16 a17 a18 a19 a20 a21 a22 a23 a24 a25 a26 a27 a28 a29 cI cJ c_text_bytes c_text_length c_reader_numbers c_reader_next c_laid_stand c_laid_home c_laid_priceStart c_laid_priceStep c_laid_thrown_cells c_laid_thrown_filled c_laid_nets_cells c_laid_nets_filled c_trial_stand c_trial_home c_trial_priceStart c_trial_priceStep c_trial_thrown_cells c_trial_thrown_filled c_trial_nets_cells c_trial_nets_filled k_flight_loads_cells_7 c_flight_loads_filled k_flight_order_8 k_flight_done_9 k_flight_start_10 k_flight_end_11 c_changes_who c_changes_column c_changes_was c_changes_held c_kept_older_cells c_kept_older_filled c_kept_newer_cells c_kept_newer_filled c_kept_held c_turns_need)) (run_S (rest := []) X hG hl.1 (mJ6_bitCount_0f7a4 l dC dI cI cJ x4 hz_17) gi_S_X8_159 hd_S_yJ6_bitCount_0f7a4 ⟨rfl, rfl⟩ rfl ⟨Nat.le_of_ble_eq_true rfl, Nat.le_of_ble_eq_true rfl⟩ [] (by decide) rfl rfl (Nat.le_of_ble_eq_true rfl) ⟨Nat.le_of_ble_eq_true rfl, Nat.le_of_ble_eq_true rfl⟩ dX8_clear_67) hG [] rfl rfl rfl (fun H locs hG => ?_)
            clear hz_17
            refine lv_istore_n (lv' := [(2, .int r_16), (0, .ref a0), (1, .int x1), (3, .int x3), (4, .int x4)]) hx hb dX8_clear_70 rfl hl (by decide) rfl (fun ls hl => ?_)
            refine lv_iload hx hb dX8_clear_71 (lv_at hl 4 rfl) ?_
            refine lv_istore_n (lv' := [(1, .int x4), (2, .int r_16), (0, .ref a0), (3, .int x3), (4, .int x4)]) hx hb dX8_clear_73 rfl hl (by decide) rfl (fun ls hl => ?_)
            refine lv_iinc (v := (x4 + (1 : Int32))) (lv' := [(4, .int (x4 + (1 : Int32))), (1, .int x4), (2, .int r_16), (0, .ref a0), (3, .int x3)]) hx hb dX8_clear_74 hl (k := 4) rfl rfl (by decide) rfl (fun ls hl => ?_)
            refine lv_goto (tgt := 26) hx hb dX8_clear_77 (by decide) ?_
            exact KC _ _ _ _ _ _ _ _ (Option.some.inj h).symm _ _ _ (lv_sub hl [3, 1, 2, 4, 0] rfl) hG
  have h := hD
  unfold DX8_clear at h
  clear hD
  refine lv_iconst (v := (0 : Int32)) hx hb dX8_clear_0 (by decide) ?_
  refine lv_istore_n (lv' := [(1, .int (0 : Int32)), (0, .ref a0)]) hx hb dX8_clear_1 rfl hl (by decide) rfl (fun ls hl => ?_)
  refine lv_bipush (v := (8 : Int32)) hx hb dX8_clear_2 (by decide) ?_
  refine lv_istore_n (lv' := [(2, .int (8 : Int32)), (1, .int (0 : Int32)), (0, .ref a0)]) hx hb dX8_clear_4 rfl hl (by decide) rfl (fun ls hl => ?_)
  refine lv_iconst (v := (1 : Int32)) hx hb dX8_clear_5 (by decide) ?_
  refine lv_aload_n hx hb dX8_clear_6 rfl (lv_at hl 2 rfl) ?_
  refine r_get X hG in_X8 rfl 2 (by decide) w_237 0 rfl rfl dX8_clear_7 ?_
  refine r_getN X hG in_X3 rfl 4 (by decide) w_136 5 rfl rfl dX8_clear_10 ?_
  obtain ⟨r_1, hz_2, h⟩ := bd1_some h
  refine aft_i (ws' := (W_X8 a0 a1 a2 a3 a4 a5 a6 a7 a8 a9 a10 a11 a12 a13 a14 a15 a16 a17 a18 a19 a20 a21 a22 a23 a24 a25 a26 a27 a28 a29 cI cJ c_text_bytes c_text_length c_reader_numbers c_reader_next c_laid_stand c_laid_home c_laid_priceStart c_laid_priceStep c_laid_thrown_cells c_laid_thrown_filled c_laid_nets_cells c_laid_nets_filled c_trial_stand c_trial_home c_trial_priceStart c_trial_priceStep c_trial_thrown_cells c_trial_thrown_filled c_trial_nets_cells c_trial_nets_filled c_flight_loads_cells c_flight_loads_filled c_flight_order c_flight_done c_flight_start c_flight_end c_changes_who c_changes_column c_changes_was c_changes_held c_kept_older_cells c_kept_older_filled c_kept_newer_cells c_kept_newer_filled c_kept_held c_turns_need)) (run_V (rest := [.int (1 : Int32)]) X hG hl.1 (mX5_rows l dC dI cI cJ a6 a7 (7 : Int32) (4 : Int32) 28 c_laid_thrown_cells c_laid_thrown_filled hz_2) gi_V_X8_90 hd_V_yX5_rows ⟨rfl, rfl⟩ rfl ⟨Nat.le_of_ble_eq_true rfl, Nat.le_of_ble_eq_true rfl⟩ [6, 7] (by decide) rfl 6 rfl rfl rfl rfl (Nat.le_of_ble_eq_true rfl) ⟨Nat.le_of_ble_eq_true rfl, Nat.le_of_ble_eq_true rfl⟩ dX8_clear_13) hG [6, 7] rfl rfl rfl (fun H locs hG => ?_)
  clear hz_2
  refine lv_bipush (v := (7 : Int32)) hx hb dX8_clear_16 (by decide) ?_
  refine va_mmin hx hb (X.1.2.2.1.trans hl.1.symm) X.1.2.2.2.1 (X.1.2.2.2.2 _ w_436) (X.1.2.2.2.2 _ w_349) (X.1.2.2.2.2 _ w_46) (X.1.2.2.2.2 _ w_350) (Nat.le_of_ble_eq_true rfl) (Nat.le_of_ble_eq_true rfl) (Nat.le_of_ble_eq_true rfl) (Nat.le_of_ble_eq_true rfl) dX8_clear_18 ?_
  refine lv_ishl hx hb dX8_clear_21 ?_
  refine lv_istore_n (lv' := [(3, .int ((1 : Int32) <<< ((if (7 : Int32) < r_1 then (7 : Int32) else r_1) &&& 31))), (2, .int (8 : Int32)), (1, .int (0 : Int32)), (0, .ref a0)]) hx hb dX8_clear_22 rfl hl (by decide) rfl (fun ls hl => ?_)
  refine lv_iconst (v := (0 : Int32)) hx hb dX8_clear_23 (by decide) ?_
  refine lv_istore (lv' := [(4, .int (0 : Int32)), (3, .int ((1 : Int32) <<< ((if (7 : Int32) < r_1 then (7 : Int32) else r_1) &&& 31))), (2, .int (8 : Int32)), (1, .int (0 : Int32)), (0, .ref a0)]) hx hb dX8_clear_24 hl (by decide) rfl (fun ls hl => ?_)
  obtain ⟨z1_18, k_flight_loads_cells_19, k_flight_order_20, k_flight_done_21, k_flight_start_22, k_flight_end_23, hz, h⟩ := bd6_some h
  refine L26 ((1 : Int32) <<< ((if (7 : Int32) < r_1 then (7 : Int32) else r_1) &&& 31)) FU (0 : Int32) (8 : Int32) (0 : Int32) c_flight_loads_cells c_flight_order c_flight_done c_flight_start c_flight_end _ _ _ _ _ _ hz (fun ls H locs hl hG => ?_) _ _ _ (lv_sub hl [4, 3, 2, 1, 0] rfl) hG
  clear hz
  refine lv_iload_n hx hb dX8_clear_80 rfl (lv_at hl 0 rfl) ?_
  cases h
  exact ret _ _ _ _ dX8_clear_81 hG
