/-! CONTRACTS, laid by wip/gen/lay.py: yX8_meetingDay, yX1_meetingOf, yX1_nextMeeting, yX1_loseOn, yX1_meetAll, yX8_apart, yX3_catches, yX3_priceOn -/
set_option maxRecDepth 100000 in
set_option maxHeartbeats 4000000 in
theorem mX8_meetingDay (l : Launch) (dC : Nat → ClassId) (dI : Nat → Nat → Nat) (cI cJ : ClassId) (x0 : Int32) (x1 : Int32) (x2 : Int32) (x3 : Int32) (x4 : Int32) {res : Int32} (hD : DX8_meetingDay x0 x1 x2 x3 x4 = some res) : Met l yX8_meetingDay (WZ yX8_meetingDay cX8_meetingDay 9 (some .int)) (RM 0 0) (PC dC dI cI cJ [.int x0, .int x1, .int x2, .int x3, .int x4] []) (QI dC dI [] [] res) 0 0 (FA []) := by
  refine r_metI (by decide +kernel) (Nat.le_of_ble_eq_true rfl) ?_
  intro p e s m args below meth c A H0 QQ X ret ls hl hG
  have X : Cx p m c cX8_meetingDay 9 s args RX8 dC dI cI cJ meth (some .int) := X
  have hx := X.1.1
  have hb := X.1.2.1
  have hl : lv_has ls 9 [(0, .int x0), (1, .int x1), (2, .int x2), (3, .int x3), (4, .int x4)] := hl
  have J68 : ∀ (y0 : Int32) (x7 : Int32), DX8_meetingDay_J68 x0 x1 x4 y0 x7 = some res → ∀ (ls : Array Slot) (H : Heap) (locs : List Loc), lv_has ls 9 [(0, .int x0), (1, .int x1), (4, .int x4), (7, .int x7)] → G dC dI A H0 [] H locs → W p l e (RM 0 0) s m args below meth c H locs 0 0 QQ (F0 m 68 ls [.int y0]) := by
    intro y0 x7 h  ls H locs hl hG
    unfold DX8_meetingDay_J68 at h
    refine lv_istore (lv' := [(8, .int y0), (0, .int x0), (1, .int x1), (4, .int x4), (7, .int x7)]) hx hb dX8_meetingDay_68 hl (by decide) rfl (fun ls hl => ?_)
    refine lv_iload hx hb dX8_meetingDay_70 (lv_at hl 0 rfl) ?_
    refine lv_if_eq (tgt := 91) hx hb dX8_meetingDay_72 (by decide) (fun c_6 => ?_) (fun c_6 => ?_)
    · have h := ite_t h c_6
      refine lv_sipush (v := (1000 : Int32)) hx hb dX8_meetingDay_91 (by decide) ?_
      cases h
      exact ret _ _ _ _ dX8_meetingDay_94 hG
    · have h := ite_f h c_6
      refine lv_iload_n hx hb dX8_meetingDay_75 rfl (lv_at hl 2 rfl) ?_
      refine lv_iload hx hb dX8_meetingDay_76 (lv_at hl 4 rfl) ?_
      refine lv_iload_n hx hb dX8_meetingDay_78 rfl (lv_at hl 1 rfl) ?_
      refine lv_isub hx hb dX8_meetingDay_79 ?_
      refine lv_imul hx hb dX8_meetingDay_80 ?_
      refine lv_iload hx hb dX8_meetingDay_81 (lv_at hl 3 rfl) ?_
      refine lv_icmp_ge (tgt := 91) hx hb dX8_meetingDay_83 (by decide) (fun c_7 => ?_) (fun c_7 => ?_)
      · have h := ite_t h c_7
        refine lv_sipush (v := (1000 : Int32)) hx hb dX8_meetingDay_91 (by decide) ?_
        cases h
        exact ret _ _ _ _ dX8_meetingDay_94 hG
      · have h := ite_f h c_7
        refine lv_iload hx hb dX8_meetingDay_86 (lv_at hl 4 rfl) ?_
        refine lv_goto (tgt := 94) hx hb dX8_meetingDay_88 (by decide) ?_
        cases h
        exact ret _ _ _ _ dX8_meetingDay_94 hG
  have h := hD
  unfold DX8_meetingDay at h
  clear hD
  refine lv_iload_n hx hb dX8_meetingDay_0 rfl (lv_at hl 1 rfl) ?_
  refine lv_iload_n hx hb dX8_meetingDay_1 rfl (lv_at hl 3 rfl) ?_
  refine lv_isub hx hb dX8_meetingDay_2 ?_
  refine lv_istore (lv' := [(5, .int (x1 - x3)), (0, .int x0), (1, .int x1), (2, .int x2), (3, .int x3), (4, .int x4)]) hx hb dX8_meetingDay_3 hl (by decide) rfl (fun ls hl => ?_)
  refine lv_iload hx hb dX8_meetingDay_5 (lv_at hl 0 rfl) ?_
  refine lv_if_ne (tgt := 23) hx hb dX8_meetingDay_7 (by decide) (fun c_1 => ?_) (fun c_1 => ?_)
  · have h := ite_f h c_1
    refine lv_iload_n hx hb dX8_meetingDay_23 rfl (lv_at hl 2 rfl) ?_
    refine lv_iload_n hx hb dX8_meetingDay_24 rfl (lv_at hl 1 rfl) ?_
    refine lv_imul hx hb dX8_meetingDay_25 ?_
    refine lv_iload_n hx hb dX8_meetingDay_26 rfl (lv_at hl 4 rfl) ?_
    refine lv_iload_n hx hb dX8_meetingDay_27 rfl (lv_at hl 3 rfl) ?_
    refine lv_imul hx hb dX8_meetingDay_28 ?_
    refine lv_isub hx hb dX8_meetingDay_29 ?_
    refine lv_istore (lv' := [(6, .int ((x1 * x0) - (x3 * x2))), (5, .int (x1 - x3)), (0, .int x0), (1, .int x1), (2, .int x2), (3, .int x3), (4, .int x4)]) hx hb dX8_meetingDay_30 hl (by decide) rfl (fun ls hl => ?_)
    refine lv_iload hx hb dX8_meetingDay_32 (lv_at hl 0 rfl) ?_
    refine lv_iload hx hb dX8_meetingDay_34 (lv_at hl 1 rfl) ?_
    obtain ⟨g_2, h⟩ := gd h
    refine lv_irem hx hb dX8_meetingDay_36 g_2 ?_
    refine lv_if_eq (tgt := 44) hx hb dX8_meetingDay_37 (by decide) (fun c_3 => ?_) (fun c_3 => ?_)
    · have h := ite_t h c_3
      refine lv_iload hx hb dX8_meetingDay_44 (lv_at hl 0 rfl) ?_
      refine lv_iload hx hb dX8_meetingDay_46 (lv_at hl 1 rfl) ?_
      obtain ⟨g_4, h⟩ := gd h
      refine lv_idiv hx hb dX8_meetingDay_48 g_4 ?_
      refine lv_istore (lv' := [(7, .int (((x1 * x0) - (x3 * x2)) / (x1 - x3))), (6, .int ((x1 * x0) - (x3 * x2))), (5, .int (x1 - x3)), (0, .int x0), (1, .int x1), (2, .int x2), (3, .int x3), (4, .int x4)]) hx hb dX8_meetingDay_49 hl (by decide) rfl (fun ls hl => ?_)
      refine lv_iload hx hb dX8_meetingDay_51 (lv_at hl 0 rfl) ?_
      refine lv_iload_n hx hb dX8_meetingDay_53 rfl (lv_at hl 3 rfl) ?_
      refine lv_icmp_lt (tgt := 67) hx hb dX8_meetingDay_54 (by decide) (fun c_5 => ?_) (fun c_5 => ?_)
      · have h := ite_t h c_5
        refine lv_iconst (v := (0 : Int32)) hx hb dX8_meetingDay_67 (by decide) ?_
        exact J68 (0 : Int32) (((x1 * x0) - (x3 * x2)) / (x1 - x3))  h  _ _ _ (lv_sub hl [3, 4, 7, 0] rfl) hG
      · have h := ite_f h c_5
        refine lv_iload hx hb dX8_meetingDay_57 (lv_at hl 0 rfl) ?_
        refine lv_iload_n hx hb dX8_meetingDay_59 rfl (lv_at hl 5 rfl) ?_
        refine lv_icmp_lt (tgt := 67) hx hb dX8_meetingDay_60 (by decide) (fun c_8 => ?_) (fun c_8 => ?_)
        · have h := ite_t h c_8
          refine lv_iconst (v := (0 : Int32)) hx hb dX8_meetingDay_67 (by decide) ?_
          exact J68 (0 : Int32) (((x1 * x0) - (x3 * x2)) / (x1 - x3))  h  _ _ _ (lv_sub hl [3, 4, 7, 0] rfl) hG
        · have h := ite_f h c_8
          refine lv_iconst (v := (1 : Int32)) hx hb dX8_meetingDay_63 (by decide) ?_
          refine lv_goto (tgt := 68) hx hb dX8_meetingDay_64 (by decide) ?_
          exact J68 (1 : Int32) (((x1 * x0) - (x3 * x2)) / (x1 - x3))  h  _ _ _ (lv_sub hl [3, 4, 7, 0] rfl) hG
    · have h := ite_f h c_3
      refine lv_sipush (v := (1000 : Int32)) hx hb dX8_meetingDay_40 (by decide) ?_
      cases h
      exact ret _ _ _ _ dX8_meetingDay_43 hG
  · have h := ite_t h c_1
    refine lv_iload_n hx hb dX8_meetingDay_10 rfl (lv_at hl 1 rfl) ?_
    refine lv_iload_n hx hb dX8_meetingDay_11 rfl (lv_at hl 3 rfl) ?_
    refine lv_icmp_ne (tgt := 19) hx hb dX8_meetingDay_12 (by decide) (fun c_9 => ?_) (fun c_9 => ?_)
    · have h := ite_f h c_9
      refine lv_sipush (v := (1000 : Int32)) hx hb dX8_meetingDay_19 (by decide) ?_
      cases h
      exact ret _ _ _ _ dX8_meetingDay_22 hG
    · have h := ite_t h c_9
      refine lv_iload_n hx hb dX8_meetingDay_15 rfl (lv_at hl 1 rfl) ?_
      refine lv_goto (tgt := 22) hx hb dX8_meetingDay_16 (by decide) ?_
      cases h
      exact ret _ _ _ _ dX8_meetingDay_22 hG
set_option maxRecDepth 100000 in
set_option maxHeartbeats 4000000 in
theorem mX1_meetingOf (l : Launch) (dC : Nat → ClassId) (dI : Nat → Nat → Nat) (cI cJ : ClassId) (a0 a1 a2 a3 : Nat) (c_loads_cells : Nat → Int32) (c_loads_filled : Int32) (c_order : Nat → Int32) (c_done : Int32) (c_start : Int32) (c_end : Int32) (x1 : Int32) (x2 : Int32) (x3 : Int32) {res : Int32} (hD : DX1_meetingOf x1 x2 x3 c_loads_cells = some res) : Met l yX1_meetingOf (WZ yX1_meetingOf cX1_meetingOf 4 (some .int)) (RM 1 28) (PC dC dI cI cJ [.ref a0, .int x1, .int x2, .int x3] (W_X1 a0 a1 a2 a3 cI cJ c_loads_cells c_loads_filled c_order c_done c_start c_end)) (QI dC dI (W_X1 a0 a1 a2 a3 cI cJ c_loads_cells c_loads_filled c_order c_done c_start c_end) (W_X1 a0 a1 a2 a3 cI cJ c_loads_cells c_loads_filled c_order c_done c_start c_end) res) 0 0 (FA (W_X1 a0 a1 a2 a3 cI cJ c_loads_cells c_loads_filled c_order c_done c_start c_end)) := by
  refine r_metI (by decide +kernel) (Nat.le_of_ble_eq_true rfl) ?_
  intro p e s m args below meth c A H0 QQ X ret ls hl hG
  have X : Cx p m c cX1_meetingOf 4 s args RX1 dC dI cI cJ meth (some .int) := X
  have hx := X.1.1
  have hb := X.1.2.1
  have hl : lv_has ls 4 [(0, .ref a0), (1, .int x1), (2, .int x2), (3, .int x3)] := hl
  have h := hD
  unfold DX1_meetingOf at h
  clear hD
  refine lv_aload_n hx hb dX1_meetingOf_0 rfl (lv_at hl 0 rfl) ?_
  refine r_get X hG in_X1 rfl 0 (by decide) w_161 0 rfl rfl dX1_meetingOf_1 ?_
  refine lv_iload_n hx hb dX1_meetingOf_4 rfl (lv_at hl 1 rfl) ?_
  refine lv_iconst (v := (4 : Int32)) hx hb dX1_meetingOf_5 (by decide) ?_
  obtain ⟨r_1, hz_2, h⟩ := bd1_some h
  refine aft_i (ws' := (W_X1 a0 a1 a2 a3 cI cJ c_loads_cells c_loads_filled c_order c_done c_start c_end)) (run_V (rest := []) X hG hl.1 (mX5_get l dC dI cI cJ a1 a2 (7 : Int32) (10 : Int32) 70 c_loads_cells c_loads_filled x1 (4 : Int32) hz_2) gi_V_X1_43 hd_V_yX5_get ⟨rfl, rfl⟩ rfl ⟨Nat.le_of_ble_eq_true rfl, Nat.le_of_ble_eq_true rfl⟩ [1, 2] (by decide) rfl 1 rfl rfl rfl rfl (Nat.le_of_ble_eq_true rfl) ⟨Nat.le_of_ble_eq_true rfl, Nat.le_of_ble_eq_true rfl⟩ dX1_meetingOf_6) hG [1, 2] rfl rfl rfl (fun H locs hG => ?_)
  clear hz_2
  refine lv_aload_n hx hb dX1_meetingOf_9 rfl (lv_at hl 0 rfl) ?_
  refine r_get X hG in_X1 rfl 0 (by decide) w_161 0 rfl rfl dX1_meetingOf_10 ?_
  refine lv_iload_n hx hb dX1_meetingOf_13 rfl (lv_at hl 2 rfl) ?_
  refine lv_iconst (v := (4 : Int32)) hx hb dX1_meetingOf_14 (by decide) ?_
  obtain ⟨r_3, hz_4, h⟩ := bd1_some h
  refine aft_i (ws' := (W_X1 a0 a1 a2 a3 cI cJ c_loads_cells c_loads_filled c_order c_done c_start c_end)) (run_V (rest := [.int r_1]) X hG hl.1 (mX5_get l dC dI cI cJ a1 a2 (7 : Int32) (10 : Int32) 70 c_loads_cells c_loads_filled x2 (4 : Int32) hz_4) gi_V_X1_43 hd_V_yX5_get ⟨rfl, rfl⟩ rfl ⟨Nat.le_of_ble_eq_true rfl, Nat.le_of_ble_eq_true rfl⟩ [1, 2] (by decide) rfl 1 rfl rfl rfl rfl (Nat.le_of_ble_eq_true rfl) ⟨Nat.le_of_ble_eq_true rfl, Nat.le_of_ble_eq_true rfl⟩ dX1_meetingOf_15) hG [1, 2] rfl rfl rfl (fun H locs hG => ?_)
  clear hz_4
  refine lv_icmp_eq (tgt := 25) hx hb dX1_meetingOf_18 (by decide) (fun c_5 => ?_) (fun c_5 => ?_)
  · have h := ite_t h c_5
    refine lv_aload_n hx hb dX1_meetingOf_25 rfl (lv_at hl 0 rfl) ?_
    refine r_get X hG in_X1 rfl 0 (by decide) w_161 0 rfl rfl dX1_meetingOf_26 ?_
    refine lv_iload_n hx hb dX1_meetingOf_29 rfl (lv_at hl 1 rfl) ?_
    refine lv_iconst (v := (0 : Int32)) hx hb dX1_meetingOf_30 (by decide) ?_
    obtain ⟨r_6, hz_7, h⟩ := bd1_some h
    refine aft_i (ws' := (W_X1 a0 a1 a2 a3 cI cJ c_loads_cells c_loads_filled c_order c_done c_start c_end)) (run_V (rest := []) X hG hl.1 (mX5_get l dC dI cI cJ a1 a2 (7 : Int32) (10 : Int32) 70 c_loads_cells c_loads_filled x1 (0 : Int32) hz_7) gi_V_X1_43 hd_V_yX5_get ⟨rfl, rfl⟩ rfl ⟨Nat.le_of_ble_eq_true rfl, Nat.le_of_ble_eq_true rfl⟩ [1, 2] (by decide) rfl 1 rfl rfl rfl rfl (Nat.le_of_ble_eq_true rfl) ⟨Nat.le_of_ble_eq_true rfl, Nat.le_of_ble_eq_true rfl⟩ dX1_meetingOf_31) hG [1, 2] rfl rfl rfl (fun H locs hG => ?_)
    clear hz_7
    refine lv_aload_n hx hb dX1_meetingOf_34 rfl (lv_at hl 0 rfl) ?_
    refine r_get X hG in_X1 rfl 0 (by decide) w_161 0 rfl rfl dX1_meetingOf_35 ?_
    refine lv_iload_n hx hb dX1_meetingOf_38 rfl (lv_at hl 1 rfl) ?_
    refine lv_iconst (v := (2 : Int32)) hx hb dX1_meetingOf_39 (by decide) ?_
    obtain ⟨r_8, hz_9, h⟩ := bd1_some h
    refine aft_i (ws' := (W_X1 a0 a1 a2 a3 cI cJ c_loads_cells c_loads_filled c_order c_done c_start c_end)) (run_V (rest := [.int r_6]) X hG hl.1 (mX5_get l dC dI cI cJ a1 a2 (7 : Int32) (10 : Int32) 70 c_loads_cells c_loads_filled x1 (2 : Int32) hz_9) gi_V_X1_43 hd_V_yX5_get ⟨rfl, rfl⟩ rfl ⟨Nat.le_of_ble_eq_true rfl, Nat.le_of_ble_eq_true rfl⟩ [1, 2] (by decide) rfl 1 rfl rfl rfl rfl (Nat.le_of_ble_eq_true rfl) ⟨Nat.le_of_ble_eq_true rfl, Nat.le_of_ble_eq_true rfl⟩ dX1_meetingOf_40) hG [1, 2] rfl rfl rfl (fun H locs hG => ?_)
    clear hz_9
    refine lv_aload_n hx hb dX1_meetingOf_43 rfl (lv_at hl 0 rfl) ?_
    refine r_get X hG in_X1 rfl 0 (by decide) w_161 0 rfl rfl dX1_meetingOf_44 ?_
    refine lv_iload_n hx hb dX1_meetingOf_47 rfl (lv_at hl 2 rfl) ?_
    refine lv_iconst (v := (0 : Int32)) hx hb dX1_meetingOf_48 (by decide) ?_
    obtain ⟨r_10, hz_11, h⟩ := bd1_some h
    refine aft_i (ws' := (W_X1 a0 a1 a2 a3 cI cJ c_loads_cells c_loads_filled c_order c_done c_start c_end)) (run_V (rest := [.int r_8, .int r_6]) X hG hl.1 (mX5_get l dC dI cI cJ a1 a2 (7 : Int32) (10 : Int32) 70 c_loads_cells c_loads_filled x2 (0 : Int32) hz_11) gi_V_X1_43 hd_V_yX5_get ⟨rfl, rfl⟩ rfl ⟨Nat.le_of_ble_eq_true rfl, Nat.le_of_ble_eq_true rfl⟩ [1, 2] (by decide) rfl 1 rfl rfl rfl rfl (Nat.le_of_ble_eq_true rfl) ⟨Nat.le_of_ble_eq_true rfl, Nat.le_of_ble_eq_true rfl⟩ dX1_meetingOf_49) hG [1, 2] rfl rfl rfl (fun H locs hG => ?_)
    clear hz_11
    refine lv_aload_n hx hb dX1_meetingOf_52 rfl (lv_at hl 0 rfl) ?_
    refine r_get X hG in_X1 rfl 0 (by decide) w_161 0 rfl rfl dX1_meetingOf_53 ?_
    refine lv_iload_n hx hb dX1_meetingOf_56 rfl (lv_at hl 2 rfl) ?_
    refine lv_iconst (v := (2 : Int32)) hx hb dX1_meetingOf_57 (by decide) ?_
    obtain ⟨r_12, hz_13, h⟩ := bd1_some h
    refine aft_i (ws' := (W_X1 a0 a1 a2 a3 cI cJ c_loads_cells c_loads_filled c_order c_done c_start c_end)) (run_V (rest := [.int r_10, .int r_8, .int r_6]) X hG hl.1 (mX5_get l dC dI cI cJ a1 a2 (7 : Int32) (10 : Int32) 70 c_loads_cells c_loads_filled x2 (2 : Int32) hz_13) gi_V_X1_43 hd_V_yX5_get ⟨rfl, rfl⟩ rfl ⟨Nat.le_of_ble_eq_true rfl, Nat.le_of_ble_eq_true rfl⟩ [1, 2] (by decide) rfl 1 rfl rfl rfl rfl (Nat.le_of_ble_eq_true rfl) ⟨Nat.le_of_ble_eq_true rfl, Nat.le_of_ble_eq_true rfl⟩ dX1_meetingOf_58) hG [1, 2] rfl rfl rfl (fun H locs hG => ?_)
    clear hz_13
    refine lv_iload_n hx hb dX1_meetingOf_61 rfl (lv_at hl 3 rfl) ?_
    obtain ⟨r_14, hz_15, h⟩ := bd1_some h
    refine aft_i (ws' := (W_X1 a0 a1 a2 a3 cI cJ c_loads_cells c_loads_filled c_order c_done c_start c_end)) (run_SN (rest := []) X hG hl.1 (mX8_meetingDay l dC dI cI cJ r_6 r_8 r_10 r_12 x3 hz_15) gi_N_yX8_meetingDay w_409 w_410 w_41 hd_S_yX8_meetingDay ⟨rfl, rfl⟩ rfl ⟨Nat.le_of_ble_eq_true rfl, Nat.le_of_ble_eq_true rfl⟩ [] (by decide) rfl rfl (Nat.le_of_ble_eq_true rfl) ⟨Nat.le_of_ble_eq_true rfl, Nat.le_of_ble_eq_true rfl⟩ dX1_meetingOf_62) hG [] rfl rfl rfl (fun H locs hG => ?_)
    clear hz_15
    cases h
    exact ret _ _ _ _ dX1_meetingOf_65 hG
  · have h := ite_f h c_5
    refine lv_sipush (v := (1000 : Int32)) hx hb dX1_meetingOf_21 (by decide) ?_
    cases h
    exact ret _ _ _ _ dX1_meetingOf_24 hG
set_option maxRecDepth 100000 in
set_option maxHeartbeats 4000000 in
theorem mX1_nextMeeting (l : Launch) (dC : Nat → ClassId) (dI : Nat → Nat → Nat) (cI cJ : ClassId) (a0 a1 a2 a3 : Nat) (c_loads_cells : Nat → Int32) (c_loads_filled : Int32) (c_order : Nat → Int32) (c_done : Int32) (c_start : Int32) (c_end : Int32) (x1 : Int32) {res : Int32} (hD : DX1_nextMeeting x1 c_loads_cells c_order c_done = some res) : Met l yX1_nextMeeting (WZ yX1_nextMeeting cX1_nextMeeting 7 (some .int)) (RM 2 51) (PC dC dI cI cJ [.ref a0, .int x1] (W_X1 a0 a1 a2 a3 cI cJ c_loads_cells c_loads_filled c_order c_done c_start c_end)) (QI dC dI (W_X1 a0 a1 a2 a3 cI cJ c_loads_cells c_loads_filled c_order c_done c_start c_end) (W_X1 a0 a1 a2 a3 cI cJ c_loads_cells c_loads_filled c_order c_done c_start c_end) res) 0 0 (FA (W_X1 a0 a1 a2 a3 cI cJ c_loads_cells c_loads_filled c_order c_done c_start c_end)) := by
  refine r_metI (by decide +kernel) (Nat.le_of_ble_eq_true rfl) ?_
  intro p e s m args below meth c A H0 QQ X ret ls hl hG
  have X : Cx p m c cX1_nextMeeting 7 s args RX1 dC dI cI cJ meth (some .int) := X
  have hx := X.1.1
  have hb := X.1.2.1
  have hl : lv_has ls 7 [(0, .ref a0), (1, .int x1)] := hl
  have L19 : ∀ (x3 : Int32), ∀ (n : Nat) (x2 : Int32) (x4 : Int32) (ex2 : Int32), DX1_nextMeeting_L19 x1 c_loads_cells c_order c_done x3 n x2 x4 = some ex2 → (∀ (ls : Array Slot) (H : Heap) (locs : List Loc), lv_has ls 7 [(0, .ref a0), (1, .int x1), (2, .int ex2), (3, .int x3)] → G dC dI A H0 (W_X1 a0 a1 a2 a3 cI cJ c_loads_cells c_loads_filled c_order c_done c_start c_end) H locs → W p l e (RM 2 51) s m args below meth c H locs 0 0 QQ (F0 m 103 ls [])) → ∀ (ls : Array Slot) (H : Heap) (locs : List Loc), lv_has ls 7 [(0, .ref a0), (1, .int x1), (2, .int x2), (3, .int x3), (4, .int x4)] → G dC dI A H0 (W_X1 a0 a1 a2 a3 cI cJ c_loads_cells c_loads_filled c_order c_done c_start c_end) H locs → W p l e (RM 2 51) s m args below meth c H locs 0 0 QQ (F0 m 19 ls []) := by
    intro x3 n
    induction n with
    | zero => intro x2 x4 ex2 h; exact it_zero h
    | succ n ih =>
      intro x2 x4 ex2 h0 K0 ls H locs hl hG
      obtain ⟨w, h, hi, hr⟩ := it_succ h0
      have h : DX1_nextMeeting_L19s x1 c_loads_cells c_order c_done x3 x2 x4 = some w := h
      have KC : ∀ (x2 : Int32) (x4 : Int32), w = .inl (x2, x4) → ∀ (ls : Array Slot) (H : Heap) (locs : List Loc), lv_has ls 7 [(0, .ref a0), (1, .int x1), (2, .int x2), (3, .int x3), (4, .int x4)] → G dC dI A H0 (W_X1 a0 a1 a2 a3 cI cJ c_loads_cells c_loads_filled c_order c_done c_start c_end) H locs → W p l e (RM 2 51) s m args below meth c H locs 0 0 QQ (F0 m 19 ls []) := fun b0 b1 e ls H locs hl hG => ih b0 b1 ex2 (hi _ e) K0 ls H locs hl hG
      have KX : ∀ (x2 : Int32), w = .inr x2 → ∀ (ls : Array Slot) (H : Heap) (locs : List Loc), lv_has ls 7 [(0, .ref a0), (1, .int x1), (2, .int x2), (3, .int x3)] → G dC dI A H0 (W_X1 a0 a1 a2 a3 cI cJ c_loads_cells c_loads_filled c_order c_done c_start c_end) H locs → W p l e (RM 2 51) s m args below meth c H locs 0 0 QQ (F0 m 103 ls []) := fun b0 e ls H locs hl hG => by cases hr _ e; exact K0 ls H locs hl hG
      clear h0 hi hr K0 ih
      unfold DX1_nextMeeting_L19s at h
      refine lv_iload hx hb dX1_nextMeeting_19 (lv_at hl 4 rfl) ?_
      refine lv_aload_n hx hb dX1_nextMeeting_21 rfl (lv_at hl 0 rfl) ?_
      refine r_get X hG in_X1 rfl 2 (by decide) w_163 0 rfl rfl dX1_nextMeeting_22 ?_
      refine lv_icmp_ge (tgt := 103) hx hb dX1_nextMeeting_25 (by decide) (fun c_2 => ?_) (fun c_2 => ?_)
      · have h := ite_t h c_2
        exact KX _ (Option.some.inj h).symm _ _ _ (lv_sub hl [0, 1, 2, 3] rfl) hG
      · have h := ite_f h c_2
        refine lv_aload_n hx hb dX1_nextMeeting_28 rfl (lv_at hl 0 rfl) ?_
        refine r_get X hG in_X1 rfl 1 (by decide) w_162 0 rfl rfl dX1_nextMeeting_29 ?_
        refine lv_iload_n hx hb dX1_nextMeeting_32 rfl (lv_at hl 3 rfl) ?_
        obtain ⟨r_3, hz_4, h⟩ := bd1_some h
        refine aft_i (ws' := (W_X1 a0 a1 a2 a3 cI cJ c_loads_cells c_loads_filled c_order c_done c_start c_end)) (run_SN (rest := []) X hG hl.1 (mX8_at l dC dI cI cJ a3 7 c_order x3 hz_4) gi_N_yX8_at w_384 w_296 w_41 hd_S_yX8_at ⟨rfl, rfl⟩ rfl ⟨Nat.le_of_ble_eq_true rfl, Nat.le_of_ble_eq_true rfl⟩ [3] (by decide) rfl rfl (Nat.le_of_ble_eq_true rfl) ⟨Nat.le_of_ble_eq_true rfl, Nat.le_of_ble_eq_true rfl⟩ dX1_nextMeeting_33) hG [3] rfl rfl rfl (fun H locs hG => ?_)
        clear hz_4
        refine lv_istore (lv' := [(5, .int r_3), (0, .ref a0), (1, .int x1), (2, .int x2), (3, .int x3), (4, .int x4)]) hx hb dX1_nextMeeting_36 hl (by decide) rfl (fun ls hl => ?_)
        refine lv_aload_n hx hb dX1_nextMeeting_38 rfl (lv_at hl 1 rfl) ?_
        refine r_get X hG in_X1 rfl 1 (by decide) w_162 0 rfl rfl dX1_nextMeeting_39 ?_
        refine lv_iload hx hb dX1_nextMeeting_42 (lv_at hl 5 rfl) ?_
        obtain ⟨r_5, hz_6, h⟩ := bd1_some h
        refine aft_i (ws' := (W_X1 a0 a1 a2 a3 cI cJ c_loads_cells c_loads_filled c_order c_done c_start c_end)) (run_SN (rest := []) X hG hl.1 (mX8_at l dC dI cI cJ a3 7 c_order x4 hz_6) gi_N_yX8_at w_384 w_296 w_41 hd_S_yX8_at ⟨rfl, rfl⟩ rfl ⟨Nat.le_of_ble_eq_true rfl, Nat.le_of_ble_eq_true rfl⟩ [3] (by decide) rfl rfl (Nat.le_of_ble_eq_true rfl) ⟨Nat.le_of_ble_eq_true rfl, Nat.le_of_ble_eq_true rfl⟩ dX1_nextMeeting_44) hG [3] rfl rfl rfl (fun H locs hG => ?_)
        clear hz_6
        refine lv_istore (lv' := [(6, .int r_5), (5, .int r_3), (0, .ref a0), (1, .int x1), (2, .int x2), (3, .int x3), (4, .int x4)]) hx hb dX1_nextMeeting_47 hl (by decide) rfl (fun ls hl => ?_)
        refine lv_aload_n hx hb dX1_nextMeeting_49 rfl (lv_at hl 2 rfl) ?_
        refine r_get X hG in_X1 rfl 0 (by decide) w_161 0 rfl rfl dX1_nextMeeting_50 ?_
        refine lv_iload hx hb dX1_nextMeeting_53 (lv_at hl 1 rfl) ?_
        refine lv_bipush (v := (7 : Int32)) hx hb dX1_nextMeeting_55 (by decide) ?_
        obtain ⟨r_7, hz_8, h⟩ := bd1_some h
        refine aft_i (ws' := (W_X1 a0 a1 a2 a3 cI cJ c_loads_cells c_loads_filled c_order c_done c_start c_end)) (run_V (rest := []) X hG hl.1 (mX5_get l dC dI cI cJ a1 a2 (7 : Int32) (10 : Int32) 70 c_loads_cells c_loads_filled r_3 (7 : Int32) hz_8) gi_V_X1_43 hd_V_yX5_get ⟨rfl, rfl⟩ rfl ⟨Nat.le_of_ble_eq_true rfl, Nat.le_of_ble_eq_true rfl⟩ [1, 2] (by decide) rfl 1 rfl rfl rfl rfl (Nat.le_of_ble_eq_true rfl) ⟨Nat.le_of_ble_eq_true rfl, Nat.le_of_ble_eq_true rfl⟩ dX1_nextMeeting_57) hG [1, 2] rfl rfl rfl (fun H locs hG => ?_)
        clear hz_8
        refine lv_sipush (v := (1000 : Int32)) hx hb dX1_nextMeeting_60 (by decide) ?_
        refine lv_icmp_ne (tgt := 97) hx hb dX1_nextMeeting_63 (by decide) (fun c_9 => ?_) (fun c_9 => ?_)
        · have h := ite_f h c_9
          refine lv_iinc (v := (x4 + (1 : Int32))) (lv' := [(4, .int (x4 + (1 : Int32))), (6, .int r_5), (5, .int r_3), (0, .ref a0), (1, .int x1), (2, .int x2), (3, .int x3)]) hx hb dX1_nextMeeting_97 hl (k := 6) rfl rfl (by decide) rfl (fun ls hl => ?_)
          refine lv_goto (tgt := 19) hx hb dX1_nextMeeting_100 (by decide) ?_
          exact KC _ _ (Option.some.inj h).symm _ _ _ (lv_sub hl [3, 4, 5, 6, 0] rfl) hG
        · have h := ite_t h c_9
          refine lv_aload_n hx hb dX1_nextMeeting_66 rfl (lv_at hl 2 rfl) ?_
          refine r_get X hG in_X1 rfl 0 (by decide) w_161 0 rfl rfl dX1_nextMeeting_67 ?_
          refine lv_iload hx hb dX1_nextMeeting_70 (lv_at hl 0 rfl) ?_
          refine lv_bipush (v := (7 : Int32)) hx hb dX1_nextMeeting_72 (by decide) ?_
          obtain ⟨r_10, hz_11, h⟩ := bd1_some h
          refine aft_i (ws' := (W_X1 a0 a1 a2 a3 cI cJ c_loads_cells c_loads_filled c_order c_done c_start c_end)) (run_V (rest := []) X hG hl.1 (mX5_get l dC dI cI cJ a1 a2 (7 : Int32) (10 : Int32) 70 c_loads_cells c_loads_filled r_5 (7 : Int32) hz_11) gi_V_X1_43 hd_V_yX5_get ⟨rfl, rfl⟩ rfl ⟨Nat.le_of_ble_eq_true rfl, Nat.le_of_ble_eq_true rfl⟩ [1, 2] (by decide) rfl 1 rfl rfl rfl rfl (Nat.le_of_ble_eq_true rfl) ⟨Nat.le_of_ble_eq_true rfl, Nat.le_of_ble_eq_true rfl⟩ dX1_nextMeeting_74) hG [1, 2] rfl rfl rfl (fun H locs hG => ?_)
          clear hz_11
          refine lv_sipush (v := (1000 : Int32)) hx hb dX1_nextMeeting_77 (by decide) ?_
          refine lv_icmp_ne (tgt := 97) hx hb dX1_nextMeeting_80 (by decide) (fun c_12 => ?_) (fun c_12 => ?_)
          · have h := ite_f h c_12
            refine lv_iinc (v := (x4 + (1 : Int32))) (lv' := [(4, .int (x4 + (1 : Int32))), (6, .int r_5), (5, .int r_3), (0, .ref a0), (1, .int x1), (2, .int x2), (3, .int x3)]) hx hb dX1_nextMeeting_97 hl (k := 6) rfl rfl (by decide) rfl (fun ls hl => ?_)
            refine lv_goto (tgt := 19) hx hb dX1_nextMeeting_100 (by decide) ?_
            exact KC _ _ (Option.some.inj h).symm _ _ _ (lv_sub hl [3, 4, 5, 6, 0] rfl) hG
          · have h := ite_t h c_12
            refine lv_iload_n hx hb dX1_nextMeeting_83 rfl (lv_at hl 4 rfl) ?_
            refine lv_aload_n hx hb dX1_nextMeeting_84 rfl (lv_at hl 2 rfl) ?_
            refine lv_iload hx hb dX1_nextMeeting_85 (lv_at hl 1 rfl) ?_
            refine lv_iload hx hb dX1_nextMeeting_87 (lv_at hl 0 rfl) ?_
            refine lv_iload_n hx hb dX1_nextMeeting_89 rfl (lv_at hl 3 rfl) ?_
            obtain ⟨r_13, hz_14, h⟩ := bd1_some h
            refine aft_i1 (run_V1 (rest := [.int x2]) X hG hl.1 (mX1_meetingOf l dC dI cI cJ a0 a1 a2 a3 c_loads_cells c_loads_filled c_order c_done c_start c_end r_3 r_5 x1 hz_14) gi_V_X1_94 hd_V_yX1_meetingOf ⟨rfl, rfl⟩ rfl ⟨Nat.le_of_ble_eq_true rfl, Nat.le_of_ble_eq_true rfl⟩ 0 rfl rfl rfl rfl (Nat.le_of_ble_eq_true rfl) ⟨Nat.le_of_ble_eq_true rfl, Nat.le_of_ble_eq_true rfl⟩ dX1_nextMeeting_90) hG rfl (fun H locs hG => ?_)
            clear hz_14
            refine va_mmin hx hb (X.1.2.2.1.trans hl.1.symm) X.1.2.2.2.1 (X.1.2.2.2.2 _ w_412) (X.1.2.2.2.2 _ w_349) (X.1.2.2.2.2 _ w_46) (X.1.2.2.2.2 _ w_350) (Nat.le_of_ble_eq_true rfl) (Nat.le_of_ble_eq_true rfl) (Nat.le_of_ble_eq_true rfl) (Nat.le_of_ble_eq_true rfl) dX1_nextMeeting_93 ?_
            refine lv_istore_n (lv' := [(2, .int (if r_13 < x2 then r_13 else x2)), (6, .int r_5), (5, .int r_3), (0, .ref a0), (1, .int x1), (3, .int x3), (4, .int x4)]) hx hb dX1_nextMeeting_96 rfl hl (by decide) rfl (fun ls hl => ?_)
            refine lv_iinc (v := (x4 + (1 : Int32))) (lv' := [(4, .int (x4 + (1 : Int32))), (2, .int (if r_13 < x2 then r_13 else x2)), (6, .int r_5), (5, .int r_3), (0, .ref a0), (1, .int x1), (3, .int x3)]) hx hb dX1_nextMeeting_97 hl (k := 6) rfl rfl (by decide) rfl (fun ls hl => ?_)
            refine lv_goto (tgt := 19) hx hb dX1_nextMeeting_100 (by decide) ?_
            exact KC _ _ (Option.some.inj h).symm _ _ _ (lv_sub hl [4, 5, 1, 6, 0] rfl) hG
  have L6 : ∀ (n : Nat) (x2 : Int32) (x3 : Int32) (ex2 : Int32), DX1_nextMeeting_L6 x1 c_loads_cells c_order c_done n x2 x3 = some ex2 → (∀ (ls : Array Slot) (H : Heap) (locs : List Loc), lv_has ls 7 [(2, .int ex2)] → G dC dI A H0 (W_X1 a0 a1 a2 a3 cI cJ c_loads_cells c_loads_filled c_order c_done c_start c_end) H locs → W p l e (RM 2 51) s m args below meth c H locs 0 0 QQ (F0 m 109 ls [])) → ∀ (ls : Array Slot) (H : Heap) (locs : List Loc), lv_has ls 7 [(0, .ref a0), (1, .int x1), (2, .int x2), (3, .int x3)] → G dC dI A H0 (W_X1 a0 a1 a2 a3 cI cJ c_loads_cells c_loads_filled c_order c_done c_start c_end) H locs → W p l e (RM 2 51) s m args below meth c H locs 0 0 QQ (F0 m 6 ls []) := by
    intro  n
    induction n with
    | zero => intro x2 x3 ex2 h; exact it_zero h
    | succ n ih =>
      intro x2 x3 ex2 h0 K0 ls H locs hl hG
      obtain ⟨w, h, hi, hr⟩ := it_succ h0
      have h : DX1_nextMeeting_L6s x1 c_loads_cells c_order c_done x2 x3 = some w := h
      have KC : ∀ (x2 : Int32) (x3 : Int32), w = .inl (x2, x3) → ∀ (ls : Array Slot) (H : Heap) (locs : List Loc), lv_has ls 7 [(0, .ref a0), (1, .int x1), (2, .int x2), (3, .int x3)] → G dC dI A H0 (W_X1 a0 a1 a2 a3 cI cJ c_loads_cells c_loads_filled c_order c_done c_start c_end) H locs → W p l e (RM 2 51) s m args below meth c H locs 0 0 QQ (F0 m 6 ls []) := fun b0 b1 e ls H locs hl hG => ih b0 b1 ex2 (hi _ e) K0 ls H locs hl hG
      have KX : ∀ (x2 : Int32), w = .inr x2 → ∀ (ls : Array Slot) (H : Heap) (locs : List Loc), lv_has ls 7 [(2, .int x2)] → G dC dI A H0 (W_X1 a0 a1 a2 a3 cI cJ c_loads_cells c_loads_filled c_order c_done c_start c_end) H locs → W p l e (RM 2 51) s m args below meth c H locs 0 0 QQ (F0 m 109 ls []) := fun b0 e ls H locs hl hG => by cases hr _ e; exact K0 ls H locs hl hG
      clear h0 hi hr K0 ih
      unfold DX1_nextMeeting_L6s at h
      refine lv_iload_n hx hb dX1_nextMeeting_6 rfl (lv_at hl 3 rfl) ?_
      refine lv_aload_n hx hb dX1_nextMeeting_7 rfl (lv_at hl 0 rfl) ?_
      refine r_get X hG in_X1 rfl 2 (by decide) w_163 0 rfl rfl dX1_nextMeeting_8 ?_
      refine lv_icmp_ge (tgt := 109) hx hb dX1_nextMeeting_11 (by decide) (fun c_1 => ?_) (fun c_1 => ?_)
      · have h := ite_t h c_1
        exact KX _ (Option.some.inj h).symm _ _ _ (lv_sub hl [2] rfl) hG
      · have h := ite_f h c_1
        refine lv_iload_n hx hb dX1_nextMeeting_14 rfl (lv_at hl 3 rfl) ?_
        refine lv_iconst (v := (1 : Int32)) hx hb dX1_nextMeeting_15 (by decide) ?_
        refine lv_iadd hx hb dX1_nextMeeting_16 ?_
        refine lv_istore (lv' := [(4, .int (x3 + (1 : Int32))), (0, .ref a0), (1, .int x1), (2, .int x2), (3, .int x3)]) hx hb dX1_nextMeeting_17 hl (by decide) rfl (fun ls hl => ?_)
        obtain ⟨z2_15, hz, h⟩ := bd1_some h
        refine L19 x3 FU x2 (x3 + (1 : Int32)) _ hz (fun ls H locs hl hG => ?_) _ _ _ (lv_sub hl [1, 2, 3, 4, 0] rfl) hG
        clear hz
        refine lv_iinc (v := (x3 + (1 : Int32))) (lv' := [(3, .int (x3 + (1 : Int32))), (0, .ref a0), (1, .int x1), (2, .int z2_15)]) hx hb dX1_nextMeeting_103 hl (k := 3) rfl rfl (by decide) rfl (fun ls hl => ?_)
        refine lv_goto (tgt := 6) hx hb dX1_nextMeeting_106 (by decide) ?_
        exact KC _ _ (Option.some.inj h).symm _ _ _ (lv_sub hl [1, 2, 3, 0] rfl) hG
  have h := hD
  unfold DX1_nextMeeting at h
  clear hD
  refine lv_sipush (v := (1000 : Int32)) hx hb dX1_nextMeeting_0 (by decide) ?_
  refine lv_istore_n (lv' := [(2, .int (1000 : Int32)), (0, .ref a0), (1, .int x1)]) hx hb dX1_nextMeeting_3 rfl hl (by decide) rfl (fun ls hl => ?_)
  refine lv_iconst (v := (0 : Int32)) hx hb dX1_nextMeeting_4 (by decide) ?_
  refine lv_istore_n (lv' := [(3, .int (0 : Int32)), (2, .int (1000 : Int32)), (0, .ref a0), (1, .int x1)]) hx hb dX1_nextMeeting_5 rfl hl (by decide) rfl (fun ls hl => ?_)
  obtain ⟨z2_16, hz, h⟩ := bd1_some h
  refine L6  FU (1000 : Int32) (0 : Int32) _ hz (fun ls H locs hl hG => ?_) _ _ _ (lv_sub hl [2, 3, 1, 0] rfl) hG
  clear hz
  refine lv_iload_n hx hb dX1_nextMeeting_109 rfl (lv_at hl 0 rfl) ?_
  cases h
  exact ret _ _ _ _ dX1_nextMeeting_110 hG
set_option maxRecDepth 100000 in
set_option maxHeartbeats 4000000 in
theorem mX1_loseOn (l : Launch) (dC : Nat → ClassId) (dI : Nat → Nat → Nat) (cI cJ : ClassId) (a0 a1 a2 a3 : Nat) (c_loads_cells : Nat → Int32) (c_loads_filled : Int32) (c_order : Nat → Int32) (c_done : Int32) (c_start : Int32) (c_end : Int32) (x1 : Int32) (x2 : Int32) {n_loads_cells : Nat → Int32} (hD : DX1_loseOn x1 x2 c_loads_cells c_order c_done = some n_loads_cells) : Met l yX1_loseOn (WZ yX1_loseOn cX1_loseOn 8 none) (RM 2 51) (PC dC dI cI cJ [.ref a0, .int x1, .int x2] (W_X1 a0 a1 a2 a3 cI cJ c_loads_cells c_loads_filled c_order c_done c_start c_end)) (QV dC dI (W_X1 a0 a1 a2 a3 cI cJ c_loads_cells c_loads_filled c_order c_done c_start c_end) (W_X1 a0 a1 a2 a3 cI cJ n_loads_cells c_loads_filled c_order c_done c_start c_end)) 0 0 (FA (W_X1 a0 a1 a2 a3 cI cJ c_loads_cells c_loads_filled c_order c_done c_start c_end)) := by
  refine r_metV (by decide +kernel) (Nat.le_of_ble_eq_true rfl) ?_
  intro p e s m args below meth c A H0 QQ X ret ls hl hG
  have X : Cx p m c cX1_loseOn 8 s args RX1 dC dI cI cJ meth none := X
  have hx := X.1.1
  have hb := X.1.2.1
  have hl : lv_has ls 8 [(0, .ref a0), (1, .int x1), (2, .int x2)] := hl
  have J80 : ∀ (y0 : Int32) (x3 : Int32) (x4 : Int32) (x5 : Int32) (x6 : Int32) (c_loads_cells : Nat → Int32), ∀ (w : (Int32 × (Nat → Int32)) ⊕ ((Nat → Int32))), DX1_loseOn_J80 x1 x2 c_loads_cells y0 x4 x5 x6 = some w → (∀ (x4 : Int32) (c_loads_cells : Nat → Int32), w = .inl (x4, c_loads_cells) → ∀ (ls : Array Slot) (H : Heap) (locs : List Loc), lv_has ls 8 [(0, .ref a0), (1, .int x1), (2, .int x2), (3, .int x3), (4, .int x4)] → G dC dI A H0 (W_X1 a0 a1 a2 a3 cI cJ c_loads_cells c_loads_filled c_order c_done c_start c_end) H locs → W p l e (RM 2 51) s m args below meth c H locs 0 0 QQ (F0 m 15 ls [])) → (∀ (c_loads_cells : Nat → Int32), w = .inr c_loads_cells → ∀ (ls : Array Slot) (H : Heap) (locs : List Loc), lv_has ls 8 [(0, .ref a0), (1, .int x1), (2, .int x2), (3, .int x3)] → G dC dI A H0 (W_X1 a0 a1 a2 a3 cI cJ c_loads_cells c_loads_filled c_order c_done c_start c_end) H locs → W p l e (RM 2 51) s m args below meth c H locs 0 0 QQ (F0 m 130 ls [])) → ∀ (ls : Array Slot) (H : Heap) (locs : List Loc), lv_has ls 8 [(0, .ref a0), (1, .int x1), (2, .int x2), (3, .int x3), (4, .int x4), (5, .int x5), (6, .int x6)] → G dC dI A H0 (W_X1 a0 a1 a2 a3 cI cJ c_loads_cells c_loads_filled c_order c_done c_start c_end) H locs → W p l e (RM 2 51) s m args below meth c H locs 0 0 QQ (F0 m 80 ls [.int y0]) := by
    intro y0 x3 x4 x5 x6 c_loads_cells w h KC KX ls H locs hl hG
    unfold DX1_loseOn_J80 at h
    refine lv_istore (lv' := [(7, .int y0), (0, .ref a0), (1, .int x1), (2, .int x2), (3, .int x3), (4, .int x4), (5, .int x5), (6, .int x6)]) hx hb dX1_loseOn_80 hl (by decide) rfl (fun ls hl => ?_)
    refine lv_iload hx hb dX1_loseOn_82 (lv_at hl 0 rfl) ?_
    refine lv_if_eq (tgt := 124) hx hb dX1_loseOn_84 (by decide) (fun c_10 => ?_) (fun c_10 => ?_)
    · have h := ite_t h c_10
      refine lv_iinc (v := (x4 + (1 : Int32))) (lv' := [(4, .int (x4 + (1 : Int32))), (7, .int y0), (0, .ref a0), (1, .int x1), (2, .int x2), (3, .int x3), (5, .int x5), (6, .int x6)]) hx hb dX1_loseOn_124 hl (k := 5) rfl rfl (by decide) rfl (fun ls hl => ?_)
      refine lv_goto (tgt := 15) hx hb dX1_loseOn_127 (by decide) ?_
      exact KC _ _ (Option.some.inj h).symm _ _ _ (lv_sub hl [2, 3, 4, 5, 0] rfl) hG
    · have h := ite_f h c_10
      refine lv_aload_n hx hb dX1_loseOn_87 rfl (lv_at hl 1 rfl) ?_
      refine lv_iload hx hb dX1_loseOn_88 (lv_at hl 6 rfl) ?_
      refine lv_iload hx hb dX1_loseOn_90 (lv_at hl 7 rfl) ?_
      refine lv_iload_n hx hb dX1_loseOn_92 rfl (lv_at hl 3 rfl) ?_
      obtain ⟨r_11, hz_12, h⟩ := bd1_some h
      refine aft_i1 (run_V1 (rest := []) X hG hl.1 (mX1_meetingOf l dC dI cI cJ a0 a1 a2 a3 c_loads_cells c_loads_filled c_order c_done c_start c_end x5 x6 x2 hz_12) gi_V_X1_94 hd_V_yX1_meetingOf ⟨rfl, rfl⟩ rfl ⟨Nat.le_of_ble_eq_true rfl, Nat.le_of_ble_eq_true rfl⟩ 0 rfl rfl rfl rfl (Nat.le_of_ble_eq_true rfl) ⟨Nat.le_of_ble_eq_true rfl, Nat.le_of_ble_eq_true rfl⟩ dX1_loseOn_93) hG rfl (fun H locs hG => ?_)
      clear hz_12
      refine lv_iload_n hx hb dX1_loseOn_96 rfl (lv_at hl 2 rfl) ?_
      refine lv_icmp_ne (tgt := 124) hx hb dX1_loseOn_97 (by decide) (fun c_13 => ?_) (fun c_13 => ?_)
      · have h := ite_f h c_13
        refine lv_iinc (v := (x4 + (1 : Int32))) (lv' := [(4, .int (x4 + (1 : Int32))), (7, .int y0), (0, .ref a0), (1, .int x1), (2, .int x2), (3, .int x3), (5, .int x5), (6, .int x6)]) hx hb dX1_loseOn_124 hl (k := 5) rfl rfl (by decide) rfl (fun ls hl => ?_)
        refine lv_goto (tgt := 15) hx hb dX1_loseOn_127 (by decide) ?_
        exact KC _ _ (Option.some.inj h).symm _ _ _ (lv_sub hl [2, 3, 4, 5, 0] rfl) hG
      · have h := ite_t h c_13
        refine lv_aload_n hx hb dX1_loseOn_100 rfl (lv_at hl 1 rfl) ?_
        refine r_get X hG in_X1 rfl 0 (by decide) w_161 0 rfl rfl dX1_loseOn_101 ?_
        refine lv_iload hx hb dX1_loseOn_104 (lv_at hl 6 rfl) ?_
        refine lv_bipush (v := (7 : Int32)) hx hb dX1_loseOn_106 (by decide) ?_
        refine lv_iload_n hx hb dX1_loseOn_108 rfl (lv_at hl 2 rfl) ?_
        obtain ⟨k_loads_cells_14, hz_15, h⟩ := bd1_some h
        refine aft_v (ws' := (W_X1 a0 a1 a2 a3 cI cJ k_loads_cells_14 c_loads_filled c_order c_done c_start c_end)) (run_V (rest := []) X hG hl.1 (mX5_set l dC dI cI cJ a1 a2 (7 : Int32) (10 : Int32) 70 c_loads_cells c_loads_filled x5 (7 : Int32) x1 hz_15) gi_V_X1_47 hd_V_yX5_set ⟨rfl, rfl⟩ rfl ⟨Nat.le_of_ble_eq_true rfl, Nat.le_of_ble_eq_true rfl⟩ [1, 2] (by decide) rfl 1 rfl rfl rfl rfl (Nat.le_of_ble_eq_true rfl) ⟨Nat.le_of_ble_eq_true rfl, Nat.le_of_ble_eq_true rfl⟩ dX1_loseOn_109) hG [1, 2] rfl rfl rfl (fun H locs hG => ?_)
        clear hz_15
        refine lv_aload_n hx hb dX1_loseOn_112 rfl (lv_at hl 1 rfl) ?_
        refine r_get X hG in_X1 rfl 0 (by decide) w_161 0 rfl rfl dX1_loseOn_113 ?_
        refine lv_iload hx hb dX1_loseOn_116 (lv_at hl 7 rfl) ?_
        refine lv_bipush (v := (7 : Int32)) hx hb dX1_loseOn_118 (by decide) ?_
        refine lv_iload_n hx hb dX1_loseOn_120 rfl (lv_at hl 2 rfl) ?_
        obtain ⟨k_loads_cells_16, hz_17, h⟩ := bd1_some h
        refine aft_v (ws' := (W_X1 a0 a1 a2 a3 cI cJ k_loads_cells_16 c_loads_filled c_order c_done c_start c_end)) (run_V (rest := []) X hG hl.1 (mX5_set l dC dI cI cJ a1 a2 (7 : Int32) (10 : Int32) 70 k_loads_cells_14 c_loads_filled x6 (7 : Int32) x1 hz_17) gi_V_X1_47 hd_V_yX5_set ⟨rfl, rfl⟩ rfl ⟨Nat.le_of_ble_eq_true rfl, Nat.le_of_ble_eq_true rfl⟩ [1, 2] (by decide) rfl 1 rfl rfl rfl rfl (Nat.le_of_ble_eq_true rfl) ⟨Nat.le_of_ble_eq_true rfl, Nat.le_of_ble_eq_true rfl⟩ dX1_loseOn_121) hG [1, 2] rfl rfl rfl (fun H locs hG => ?_)
        clear hz_17
        refine lv_iinc (v := (x4 + (1 : Int32))) (lv' := [(4, .int (x4 + (1 : Int32))), (7, .int y0), (0, .ref a0), (1, .int x1), (2, .int x2), (3, .int x3), (5, .int x5), (6, .int x6)]) hx hb dX1_loseOn_124 hl (k := 5) rfl rfl (by decide) rfl (fun ls hl => ?_)
        refine lv_goto (tgt := 15) hx hb dX1_loseOn_127 (by decide) ?_
        exact KC _ _ (Option.some.inj h).symm _ _ _ (lv_sub hl [2, 3, 4, 5, 0] rfl) hG
  have L15 : ∀ (x3 : Int32), ∀ (n : Nat) (x4 : Int32) (c_loads_cells : Nat → Int32) (ec_loads_cells : Nat → Int32), DX1_loseOn_L15 x1 x2 c_order c_done x3 n x4 c_loads_cells = some ec_loads_cells → (∀ (ls : Array Slot) (H : Heap) (locs : List Loc), lv_has ls 8 [(0, .ref a0), (1, .int x1), (2, .int x2), (3, .int x3)] → G dC dI A H0 (W_X1 a0 a1 a2 a3 cI cJ ec_loads_cells c_loads_filled c_order c_done c_start c_end) H locs → W p l e (RM 2 51) s m args below meth c H locs 0 0 QQ (F0 m 130 ls [])) → ∀ (ls : Array Slot) (H : Heap) (locs : List Loc), lv_has ls 8 [(0, .ref a0), (1, .int x1), (2, .int x2), (3, .int x3), (4, .int x4)] → G dC dI A H0 (W_X1 a0 a1 a2 a3 cI cJ c_loads_cells c_loads_filled c_order c_done c_start c_end) H locs → W p l e (RM 2 51) s m args below meth c H locs 0 0 QQ (F0 m 15 ls []) := by
    intro x3 n
    induction n with
    | zero => intro x4 c_loads_cells ec_loads_cells h; exact it_zero h
    | succ n ih =>
      intro x4 c_loads_cells ec_loads_cells h0 K0 ls H locs hl hG
      obtain ⟨w, h, hi, hr⟩ := it_succ h0
      have h : DX1_loseOn_L15s x1 x2 c_order c_done x3 x4 c_loads_cells = some w := h
      have KC : ∀ (x4 : Int32) (c_loads_cells : Nat → Int32), w = .inl (x4, c_loads_cells) → ∀ (ls : Array Slot) (H : Heap) (locs : List Loc), lv_has ls 8 [(0, .ref a0), (1, .int x1), (2, .int x2), (3, .int x3), (4, .int x4)] → G dC dI A H0 (W_X1 a0 a1 a2 a3 cI cJ c_loads_cells c_loads_filled c_order c_done c_start c_end) H locs → W p l e (RM 2 51) s m args below meth c H locs 0 0 QQ (F0 m 15 ls []) := fun b0 b1 e ls H locs hl hG => ih b0 b1 ec_loads_cells (hi _ e) K0 ls H locs hl hG
      have KX : ∀ (c_loads_cells : Nat → Int32), w = .inr c_loads_cells → ∀ (ls : Array Slot) (H : Heap) (locs : List Loc), lv_has ls 8 [(0, .ref a0), (1, .int x1), (2, .int x2), (3, .int x3)] → G dC dI A H0 (W_X1 a0 a1 a2 a3 cI cJ c_loads_cells c_loads_filled c_order c_done c_start c_end) H locs → W p l e (RM 2 51) s m args below meth c H locs 0 0 QQ (F0 m 130 ls []) := fun b0 e ls H locs hl hG => by cases hr _ e; exact K0 ls H locs hl hG
      clear h0 hi hr K0 ih
      unfold DX1_loseOn_L15s at h
      refine lv_iload hx hb dX1_loseOn_15 (lv_at hl 4 rfl) ?_
      refine lv_aload_n hx hb dX1_loseOn_17 rfl (lv_at hl 0 rfl) ?_
      refine r_get X hG in_X1 rfl 2 (by decide) w_163 0 rfl rfl dX1_loseOn_18 ?_
      refine lv_icmp_ge (tgt := 130) hx hb dX1_loseOn_21 (by decide) (fun c_2 => ?_) (fun c_2 => ?_)
      · have h := ite_t h c_2
        exact KX _ (Option.some.inj h).symm _ _ _ (lv_sub hl [0, 1, 2, 3] rfl) hG
      · have h := ite_f h c_2
        refine lv_aload_n hx hb dX1_loseOn_24 rfl (lv_at hl 0 rfl) ?_
        refine r_get X hG in_X1 rfl 1 (by decide) w_162 0 rfl rfl dX1_loseOn_25 ?_
        refine lv_iload_n hx hb dX1_loseOn_28 rfl (lv_at hl 3 rfl) ?_
        obtain ⟨r_3, hz_4, h⟩ := bd1_some h
        refine aft_i (ws' := (W_X1 a0 a1 a2 a3 cI cJ c_loads_cells c_loads_filled c_order c_done c_start c_end)) (run_SN (rest := []) X hG hl.1 (mX8_at l dC dI cI cJ a3 7 c_order x3 hz_4) gi_N_yX8_at w_384 w_296 w_41 hd_S_yX8_at ⟨rfl, rfl⟩ rfl ⟨Nat.le_of_ble_eq_true rfl, Nat.le_of_ble_eq_true rfl⟩ [3] (by decide) rfl rfl (Nat.le_of_ble_eq_true rfl) ⟨Nat.le_of_ble_eq_true rfl, Nat.le_of_ble_eq_true rfl⟩ dX1_loseOn_29) hG [3] rfl rfl rfl (fun H locs hG => ?_)
        clear hz_4
        refine lv_istore (lv' := [(5, .int r_3), (0, .ref a0), (1, .int x1), (2, .int x2), (3, .int x3), (4, .int x4)]) hx hb dX1_loseOn_32 hl (by decide) rfl (fun ls hl => ?_)
        refine lv_aload_n hx hb dX1_loseOn_34 rfl (lv_at hl 1 rfl) ?_
        refine r_get X hG in_X1 rfl 1 (by decide) w_162 0 rfl rfl dX1_loseOn_35 ?_
        refine lv_iload hx hb dX1_loseOn_38 (lv_at hl 5 rfl) ?_
        obtain ⟨r_5, hz_6, h⟩ := bd1_some h
        refine aft_i (ws' := (W_X1 a0 a1 a2 a3 cI cJ c_loads_cells c_loads_filled c_order c_done c_start c_end)) (run_SN (rest := []) X hG hl.1 (mX8_at l dC dI cI cJ a3 7 c_order x4 hz_6) gi_N_yX8_at w_384 w_296 w_41 hd_S_yX8_at ⟨rfl, rfl⟩ rfl ⟨Nat.le_of_ble_eq_true rfl, Nat.le_of_ble_eq_true rfl⟩ [3] (by decide) rfl rfl (Nat.le_of_ble_eq_true rfl) ⟨Nat.le_of_ble_eq_true rfl, Nat.le_of_ble_eq_true rfl⟩ dX1_loseOn_40) hG [3] rfl rfl rfl (fun H locs hG => ?_)
        clear hz_6
        refine lv_istore (lv' := [(6, .int r_5), (5, .int r_3), (0, .ref a0), (1, .int x1), (2, .int x2), (3, .int x3), (4, .int x4)]) hx hb dX1_loseOn_43 hl (by decide) rfl (fun ls hl => ?_)
        refine lv_aload_n hx hb dX1_loseOn_45 rfl (lv_at hl 2 rfl) ?_
        refine r_get X hG in_X1 rfl 0 (by decide) w_161 0 rfl rfl dX1_loseOn_46 ?_
        refine lv_iload hx hb dX1_loseOn_49 (lv_at hl 1 rfl) ?_
        refine lv_bipush (v := (7 : Int32)) hx hb dX1_loseOn_51 (by decide) ?_
        obtain ⟨r_7, hz_8, h⟩ := bd1_some h
        refine aft_i (ws' := (W_X1 a0 a1 a2 a3 cI cJ c_loads_cells c_loads_filled c_order c_done c_start c_end)) (run_V (rest := []) X hG hl.1 (mX5_get l dC dI cI cJ a1 a2 (7 : Int32) (10 : Int32) 70 c_loads_cells c_loads_filled r_3 (7 : Int32) hz_8) gi_V_X1_43 hd_V_yX5_get ⟨rfl, rfl⟩ rfl ⟨Nat.le_of_ble_eq_true rfl, Nat.le_of_ble_eq_true rfl⟩ [1, 2] (by decide) rfl 1 rfl rfl rfl rfl (Nat.le_of_ble_eq_true rfl) ⟨Nat.le_of_ble_eq_true rfl, Nat.le_of_ble_eq_true rfl⟩ dX1_loseOn_53) hG [1, 2] rfl rfl rfl (fun H locs hG => ?_)
        clear hz_8
        refine lv_iload_n hx hb dX1_loseOn_56 rfl (lv_at hl 3 rfl) ?_
        refine lv_icmp_lt (tgt := 79) hx hb dX1_loseOn_57 (by decide) (fun c_9 => ?_) (fun c_9 => ?_)
        · have h := ite_t h c_9
          refine lv_iconst (v := (0 : Int32)) hx hb dX1_loseOn_79 (by decide) ?_
          exact J80 (0 : Int32) x3 x4 r_3 r_5 c_loads_cells _ h KC KX _ _ _ (lv_sub hl [2, 3, 4, 5, 6, 1, 0] rfl) hG
        · have h := ite_f h c_9
          refine lv_aload_n hx hb dX1_loseOn_60 rfl (lv_at hl 2 rfl) ?_
          refine r_get X hG in_X1 rfl 0 (by decide) w_161 0 rfl rfl dX1_loseOn_61 ?_
          refine lv_iload hx hb dX1_loseOn_64 (lv_at hl 0 rfl) ?_
          refine lv_bipush (v := (7 : Int32)) hx hb dX1_loseOn_66 (by decide) ?_
          obtain ⟨r_18, hz_19, h⟩ := bd1_some h
          refine aft_i (ws' := (W_X1 a0 a1 a2 a3 cI cJ c_loads_cells c_loads_filled c_order c_done c_start c_end)) (run_V (rest := []) X hG hl.1 (mX5_get l dC dI cI cJ a1 a2 (7 : Int32) (10 : Int32) 70 c_loads_cells c_loads_filled r_5 (7 : Int32) hz_19) gi_V_X1_43 hd_V_yX5_get ⟨rfl, rfl⟩ rfl ⟨Nat.le_of_ble_eq_true rfl, Nat.le_of_ble_eq_true rfl⟩ [1, 2] (by decide) rfl 1 rfl rfl rfl rfl (Nat.le_of_ble_eq_true rfl) ⟨Nat.le_of_ble_eq_true rfl, Nat.le_of_ble_eq_true rfl⟩ dX1_loseOn_68) hG [1, 2] rfl rfl rfl (fun H locs hG => ?_)
          clear hz_19
          refine lv_iload_n hx hb dX1_loseOn_71 rfl (lv_at hl 3 rfl) ?_
          refine lv_icmp_lt (tgt := 79) hx hb dX1_loseOn_72 (by decide) (fun c_20 => ?_) (fun c_20 => ?_)
          · have h := ite_t h c_20
            refine lv_iconst (v := (0 : Int32)) hx hb dX1_loseOn_79 (by decide) ?_
            exact J80 (0 : Int32) x3 x4 r_3 r_5 c_loads_cells _ h KC KX _ _ _ (lv_sub hl [2, 3, 4, 5, 6, 1, 0] rfl) hG
          · have h := ite_f h c_20
            refine lv_iconst (v := (1 : Int32)) hx hb dX1_loseOn_75 (by decide) ?_
            refine lv_goto (tgt := 80) hx hb dX1_loseOn_76 (by decide) ?_
            exact J80 (1 : Int32) x3 x4 r_3 r_5 c_loads_cells _ h KC KX _ _ _ (lv_sub hl [2, 3, 4, 5, 6, 1, 0] rfl) hG
  have L2 : ∀ (n : Nat) (x3 : Int32) (c_loads_cells : Nat → Int32) (ec_loads_cells : Nat → Int32), DX1_loseOn_L2 x1 x2 c_order c_done n x3 c_loads_cells = some ec_loads_cells → (∀ (ls : Array Slot) (H : Heap) (locs : List Loc), lv_has ls 8 [] → G dC dI A H0 (W_X1 a0 a1 a2 a3 cI cJ ec_loads_cells c_loads_filled c_order c_done c_start c_end) H locs → W p l e (RM 2 51) s m args below meth c H locs 0 0 QQ (F0 m 136 ls [])) → ∀ (ls : Array Slot) (H : Heap) (locs : List Loc), lv_has ls 8 [(0, .ref a0), (1, .int x1), (2, .int x2), (3, .int x3)] → G dC dI A H0 (W_X1 a0 a1 a2 a3 cI cJ c_loads_cells c_loads_filled c_order c_done c_start c_end) H locs → W p l e (RM 2 51) s m args below meth c H locs 0 0 QQ (F0 m 2 ls []) := by
    intro  n
    induction n with
    | zero => intro x3 c_loads_cells ec_loads_cells h; exact it_zero h
    | succ n ih =>
      intro x3 c_loads_cells ec_loads_cells h0 K0 ls H locs hl hG
      obtain ⟨w, h, hi, hr⟩ := it_succ h0
      have h : DX1_loseOn_L2s x1 x2 c_order c_done x3 c_loads_cells = some w := h
      have KC : ∀ (x3 : Int32) (c_loads_cells : Nat → Int32), w = .inl (x3, c_loads_cells) → ∀ (ls : Array Slot) (H : Heap) (locs : List Loc), lv_has ls 8 [(0, .ref a0), (1, .int x1), (2, .int x2), (3, .int x3)] → G dC dI A H0 (W_X1 a0 a1 a2 a3 cI cJ c_loads_cells c_loads_filled c_order c_done c_start c_end) H locs → W p l e (RM 2 51) s m args below meth c H locs 0 0 QQ (F0 m 2 ls []) := fun b0 b1 e ls H locs hl hG => ih b0 b1 ec_loads_cells (hi _ e) K0 ls H locs hl hG
      have KX : ∀ (c_loads_cells : Nat → Int32), w = .inr c_loads_cells → ∀ (ls : Array Slot) (H : Heap) (locs : List Loc), lv_has ls 8 [] → G dC dI A H0 (W_X1 a0 a1 a2 a3 cI cJ c_loads_cells c_loads_filled c_order c_done c_start c_end) H locs → W p l e (RM 2 51) s m args below meth c H locs 0 0 QQ (F0 m 136 ls []) := fun b0 e ls H locs hl hG => by cases hr _ e; exact K0 ls H locs hl hG
      clear h0 hi hr K0 ih
      unfold DX1_loseOn_L2s at h
      refine lv_iload_n hx hb dX1_loseOn_2 rfl (lv_at hl 3 rfl) ?_
      refine lv_aload_n hx hb dX1_loseOn_3 rfl (lv_at hl 0 rfl) ?_
      refine r_get X hG in_X1 rfl 2 (by decide) w_163 0 rfl rfl dX1_loseOn_4 ?_
      refine lv_icmp_ge (tgt := 136) hx hb dX1_loseOn_7 (by decide) (fun c_1 => ?_) (fun c_1 => ?_)
      · have h := ite_t h c_1
        exact KX _ (Option.some.inj h).symm _ _ _ (lv_sub hl [] rfl) hG
      · have h := ite_f h c_1
        refine lv_iload_n hx hb dX1_loseOn_10 rfl (lv_at hl 3 rfl) ?_
        refine lv_iconst (v := (1 : Int32)) hx hb dX1_loseOn_11 (by decide) ?_
        refine lv_iadd hx hb dX1_loseOn_12 ?_
        refine lv_istore (lv' := [(4, .int (x3 + (1 : Int32))), (0, .ref a0), (1, .int x1), (2, .int x2), (3, .int x3)]) hx hb dX1_loseOn_13 hl (by decide) rfl (fun ls hl => ?_)
        obtain ⟨k_loads_cells_21, hz, h⟩ := bd1_some h
        refine L15 x3 FU (x3 + (1 : Int32)) c_loads_cells _ hz (fun ls H locs hl hG => ?_) _ _ _ (lv_sub hl [1, 2, 3, 4, 0] rfl) hG
        clear hz
        refine lv_iinc (v := (x3 + (1 : Int32))) (lv' := [(3, .int (x3 + (1 : Int32))), (0, .ref a0), (1, .int x1), (2, .int x2)]) hx hb dX1_loseOn_130 hl (k := 3) rfl rfl (by decide) rfl (fun ls hl => ?_)
        refine lv_goto (tgt := 2) hx hb dX1_loseOn_133 (by decide) ?_
        exact KC _ _ (Option.some.inj h).symm _ _ _ (lv_sub hl [1, 2, 3, 0] rfl) hG
  have h := hD
  unfold DX1_loseOn at h
  clear hD
  refine lv_iconst (v := (0 : Int32)) hx hb dX1_loseOn_0 (by decide) ?_
  refine lv_istore_n (lv' := [(3, .int (0 : Int32)), (0, .ref a0), (1, .int x1), (2, .int x2)]) hx hb dX1_loseOn_1 rfl hl (by decide) rfl (fun ls hl => ?_)
  obtain ⟨k_loads_cells_22, hz, h⟩ := bd1_some h
  refine L2  FU (0 : Int32) c_loads_cells _ hz (fun ls H locs hl hG => ?_) _ _ _ (lv_sub hl [1, 2, 3, 0] rfl) hG
  clear hz
  cases h
  exact ret _ _ _ _ dX1_loseOn_136 hG
set_option maxRecDepth 100000 in
set_option maxHeartbeats 4000000 in
theorem mX1_meetAll (l : Launch) (dC : Nat → ClassId) (dI : Nat → Nat → Nat) (cI cJ : ClassId) (a0 a1 a2 a3 : Nat) (c_loads_cells : Nat → Int32) (c_loads_filled : Int32) (c_order : Nat → Int32) (c_done : Int32) (c_start : Int32) (c_end : Int32) (x1 : Int32) {n_loads_cells : Nat → Int32} (hD : DX1_meetAll x1 c_loads_cells c_order c_done = some n_loads_cells) : Met l yX1_meetAll (WZ yX1_meetAll cX1_meetAll 4 none) (RM 3 78) (PC dC dI cI cJ [.ref a0, .int x1] (W_X1 a0 a1 a2 a3 cI cJ c_loads_cells c_loads_filled c_order c_done c_start c_end)) (QV dC dI (W_X1 a0 a1 a2 a3 cI cJ c_loads_cells c_loads_filled c_order c_done c_start c_end) (W_X1 a0 a1 a2 a3 cI cJ n_loads_cells c_loads_filled c_order c_done c_start c_end)) 0 0 (FA (W_X1 a0 a1 a2 a3 cI cJ c_loads_cells c_loads_filled c_order c_done c_start c_end)) := by
  refine r_metV (by decide +kernel) (Nat.le_of_ble_eq_true rfl) ?_
  intro p e s m args below meth c A H0 QQ X ret ls hl hG
  have X : Cx p m c cX1_meetAll 4 s args RX1 dC dI cI cJ meth none := X
  have hx := X.1.1
  have hb := X.1.2.1
  have hl : lv_has ls 4 [(0, .ref a0), (1, .int x1)] := hl
  have L2 : ∀ (n : Nat) (x2 : Int32) (c_loads_cells : Nat → Int32) (v : ((Nat → Int32)) ⊕ ((Nat → Int32))), DX1_meetAll_L2 x1 c_order c_done n x2 c_loads_cells = some v → (∀ (ec_loads_cells : Nat → Int32), v = .inl ec_loads_cells → ∀ (ls : Array Slot) (H : Heap) (locs : List Loc), lv_has ls 4 [] → G dC dI A H0 (W_X1 a0 a1 a2 a3 cI cJ ec_loads_cells c_loads_filled c_order c_done c_start c_end) H locs → W p l e (RM 3 78) s m args below meth c H locs 0 0 QQ (F0 m 34 ls [])) → (∀ (r : (Nat → Int32)), v = .inr r → r = n_loads_cells) → ∀ (ls : Array Slot) (H : Heap) (locs : List Loc), lv_has ls 4 [(0, .ref a0), (1, .int x1), (2, .int x2)] → G dC dI A H0 (W_X1 a0 a1 a2 a3 cI cJ c_loads_cells c_loads_filled c_order c_done c_start c_end) H locs → W p l e (RM 3 78) s m args below meth c H locs 0 0 QQ (F0 m 2 ls []) := by
    intro  n
    induction n with
    | zero => intro x2 c_loads_cells v h; exact it_zero h
    | succ n ih =>
      intro x2 c_loads_cells v h0 K0 KR0 ls H locs hl hG
      obtain ⟨w, h, hi, hr⟩ := it_succ h0
      have h : DX1_meetAll_L2s x1 c_order c_done x2 c_loads_cells = some w := h
      have KC : ∀ (x2 : Int32) (c_loads_cells : Nat → Int32), w = .inl (x2, c_loads_cells) → ∀ (ls : Array Slot) (H : Heap) (locs : List Loc), lv_has ls 4 [(0, .ref a0), (1, .int x1), (2, .int x2)] → G dC dI A H0 (W_X1 a0 a1 a2 a3 cI cJ c_loads_cells c_loads_filled c_order c_done c_start c_end) H locs → W p l e (RM 3 78) s m args below meth c H locs 0 0 QQ (F0 m 2 ls []) := fun b0 b1 e ls H locs hl hG => ih b0 b1 v (hi _ e) K0 KR0 ls H locs hl hG
      have KX : ∀ (c_loads_cells : Nat → Int32), w = .inr (.inl c_loads_cells) → ∀ (ls : Array Slot) (H : Heap) (locs : List Loc), lv_has ls 4 [] → G dC dI A H0 (W_X1 a0 a1 a2 a3 cI cJ c_loads_cells c_loads_filled c_order c_done c_start c_end) H locs → W p l e (RM 3 78) s m args below meth c H locs 0 0 QQ (F0 m 34 ls []) := fun b0 e ls H locs hl hG => K0 b0 (hr _ e) ls H locs hl hG
      have KR : ∀ (r : (Nat → Int32)), w = .inr (.inr r) → r = n_loads_cells := fun r e => KR0 r (hr _ e)
      clear h0 hi hr K0 ih KR0
      unfold DX1_meetAll_L2s at h
      refine lv_iload_n hx hb dX1_meetAll_2 rfl (lv_at hl 2 rfl) ?_
      refine lv_bipush (v := (7 : Int32)) hx hb dX1_meetAll_3 (by decide) ?_
      refine lv_icmp_ge (tgt := 34) hx hb dX1_meetAll_5 (by decide) (fun c_1 => ?_) (fun c_1 => ?_)
      · have h := ite_t h c_1
        exact KX _ (Option.some.inj h).symm _ _ _ (lv_sub hl [] rfl) hG
      · have h := ite_f h c_1
        refine lv_aload_n hx hb dX1_meetAll_8 rfl (lv_at hl 0 rfl) ?_
        refine lv_iload_n hx hb dX1_meetAll_9 rfl (lv_at hl 1 rfl) ?_
        obtain ⟨r_2, hz_3, h⟩ := bd1_some h
        refine aft_i1 (run_V1 (rest := []) X hG hl.1 (mX1_nextMeeting l dC dI cI cJ a0 a1 a2 a3 c_loads_cells c_loads_filled c_order c_done c_start c_end x1 hz_3) gi_V_X1_88 hd_V_yX1_nextMeeting ⟨rfl, rfl⟩ rfl ⟨Nat.le_of_ble_eq_true rfl, Nat.le_of_ble_eq_true rfl⟩ 0 rfl rfl rfl rfl (Nat.le_of_ble_eq_true rfl) ⟨Nat.le_of_ble_eq_true rfl, Nat.le_of_ble_eq_true rfl⟩ dX1_meetAll_10) hG rfl (fun H locs hG => ?_)
        clear hz_3
        refine lv_istore_n (lv' := [(3, .int r_2), (0, .ref a0), (1, .int x1), (2, .int x2)]) hx hb dX1_meetAll_13 rfl hl (by decide) rfl (fun ls hl => ?_)
        refine lv_iload_n hx hb dX1_meetAll_14 rfl (lv_at hl 0 rfl) ?_
        refine lv_sipush (v := (1000 : Int32)) hx hb dX1_meetAll_15 (by decide) ?_
        refine lv_icmp_ne (tgt := 22) hx hb dX1_meetAll_18 (by decide) (fun c_4 => ?_) (fun c_4 => ?_)
        · have h := ite_f h c_4
          refine lv_aload_n hx hb dX1_meetAll_22 rfl (lv_at hl 1 rfl) ?_
          refine lv_iload_n hx hb dX1_meetAll_23 rfl (lv_at hl 0 rfl) ?_
          refine lv_iload_n hx hb dX1_meetAll_24 rfl (lv_at hl 2 rfl) ?_
          obtain ⟨k_loads_cells_5, hz_6, h⟩ := bd1_some h
          refine aft_v1 (run_V1 (rest := []) X hG hl.1 (mX1_loseOn l dC dI cI cJ a0 a1 a2 a3 c_loads_cells c_loads_filled c_order c_done c_start c_end r_2 x1 hz_6) gi_V_X1_91 hd_V_yX1_loseOn ⟨rfl, rfl⟩ rfl ⟨Nat.le_of_ble_eq_true rfl, Nat.le_of_ble_eq_true rfl⟩ 0 rfl rfl rfl rfl (Nat.le_of_ble_eq_true rfl) ⟨Nat.le_of_ble_eq_true rfl, Nat.le_of_ble_eq_true rfl⟩ dX1_meetAll_25) hG rfl (fun H locs hG => ?_)
          clear hz_6
          refine lv_iinc (v := (x2 + (1 : Int32))) (lv' := [(2, .int (x2 + (1 : Int32))), (3, .int r_2), (0, .ref a0), (1, .int x1)]) hx hb dX1_meetAll_28 hl (k := 3) rfl rfl (by decide) rfl (fun ls hl => ?_)
          refine lv_goto (tgt := 2) hx hb dX1_meetAll_31 (by decide) ?_
          exact KC _ _ (Option.some.inj h).symm _ _ _ (lv_sub hl [2, 3, 0] rfl) hG
        · have h := ite_t h c_4
          cases KR _ (Option.some.inj h).symm
          exact ret _ _ _ _ dX1_meetAll_21 hG
  have h := hD
  unfold DX1_meetAll at h
  clear hD
  refine lv_iconst (v := (0 : Int32)) hx hb dX1_meetAll_0 (by decide) ?_
  refine lv_istore_n (lv' := [(2, .int (0 : Int32)), (0, .ref a0), (1, .int x1)]) hx hb dX1_meetAll_1 rfl hl (by decide) rfl (fun ls hl => ?_)
  rcases el1_some h with ⟨k_loads_cells_7, hz, h⟩ | ⟨r, hz, h⟩
  · refine L2  FU (0 : Int32) c_loads_cells _ hz ?_ (fun r e => by cases e) _ _ _ (lv_sub hl [1, 2, 0] rfl) hG
    rintro _ ⟨⟩ ls H locs hl hG
    clear hz
    cases h
    exact ret _ _ _ _ dX1_meetAll_34 hG
  · refine L2  FU (0 : Int32) c_loads_cells _ hz (fun _ e => by cases e) (fun r2 e => ?_) _ _ _ (lv_sub hl [1, 2, 0] rfl) hG
    cases e; cases h; rfl
set_option maxRecDepth 100000 in
set_option maxHeartbeats 4000000 in
theorem mX8_apart (l : Launch) (dC : Nat → ClassId) (dI : Nat → Nat → Nat) (cI cJ : ClassId) (x0 : Int32) (x1 : Int32) {res : Int32} (hD : DX8_apart x0 x1 = some res) : Met l yX8_apart (WZ yX8_apart cX8_apart 3 (some .int)) (RM 1 22) (PC dC dI cI cJ [.int x0, .int x1] []) (QI dC dI [] [] res) 0 0 (FA []) := by
  refine r_metI (by decide +kernel) (Nat.le_of_ble_eq_true rfl) ?_
  intro p e s m args below meth c A H0 QQ X ret ls hl hG
  have X : Cx p m c cX8_apart 3 s args RX8 dC dI cI cJ meth (some .int) := X
  have hx := X.1.1
  have hb := X.1.2.1
  have hl : lv_has ls 3 [(0, .int x0), (1, .int x1)] := hl
  have h := hD
  unfold DX8_apart at h
  clear hD
  refine lv_iload_n hx hb dX8_apart_0 rfl (lv_at hl 0 rfl) ?_
  refine lv_iload_n hx hb dX8_apart_1 rfl (lv_at hl 1 rfl) ?_
  refine lv_isub hx hb dX8_apart_2 ?_
  refine lv_bipush (v := (24 : Int32)) hx hb dX8_apart_3 (by decide) ?_
  obtain ⟨r_1, hz_2, h⟩ := bd1_some h
  refine aft_i (ws' := []) (run_S (rest := []) X hG hl.1 (mJ9_floorMod_7cf53 l dC dI cI cJ (x0 - x1) (24 : Int32) hz_2) gi_S_X8_177 hd_S_yJ9_floorMod_7cf53 ⟨rfl, rfl⟩ rfl ⟨Nat.le_of_ble_eq_true rfl, Nat.le_of_ble_eq_true rfl⟩ [] (by decide) rfl rfl (Nat.le_of_ble_eq_true rfl) ⟨Nat.le_of_ble_eq_true rfl, Nat.le_of_ble_eq_true rfl⟩ dX8_apart_5) hG [] rfl rfl rfl (fun H locs hG => ?_)
  clear hz_2
  refine lv_istore_n (lv' := [(2, .int r_1), (0, .int x0), (1, .int x1)]) hx hb dX8_apart_8 rfl hl (by decide) rfl (fun ls hl => ?_)
  refine lv_iload_n hx hb dX8_apart_9 rfl (lv_at hl 0 rfl) ?_
  refine lv_bipush (v := (24 : Int32)) hx hb dX8_apart_10 (by decide) ?_
  refine lv_iload_n hx hb dX8_apart_12 rfl (lv_at hl 0 rfl) ?_
  refine lv_isub hx hb dX8_apart_13 ?_
  refine va_mmin hx hb (X.1.2.2.1.trans hl.1.symm) X.1.2.2.2.1 (X.1.2.2.2.2 _ w_436) (X.1.2.2.2.2 _ w_349) (X.1.2.2.2.2 _ w_46) (X.1.2.2.2.2 _ w_350) (Nat.le_of_ble_eq_true rfl) (Nat.le_of_ble_eq_true rfl) (Nat.le_of_ble_eq_true rfl) (Nat.le_of_ble_eq_true rfl) dX8_apart_14 ?_
  cases h
  exact ret _ _ _ _ dX8_apart_17 hG
set_option maxRecDepth 100000 in
set_option maxHeartbeats 4000000 in
theorem mX3_catches (l : Launch) (dC : Nat → ClassId) (dI : Nat → Nat → Nat) (cI cJ : ClassId) (a0 a1 a2 a3 a4 : Nat) (c_stand : Int32) (c_home : Int32) (c_priceStart : Int32) (c_priceStep : Int32) (c_thrown_cells : Nat → Int32) (c_thrown_filled : Int32) (c_nets_cells : Nat → Int32) (c_nets_filled : Int32) (x1 : Int32) (x2 : Int32) {res : Int32} (hD : DX3_catches x1 x2 c_nets_cells c_nets_filled = some res) : Met l yX3_catches (WZ yX3_catches cX3_catches 5 (some .boolean)) (RM 2 44) (PC dC dI cI cJ [.ref a0, .int x1, .int x2] (W_X3 a0 a1 a2 a3 a4 cI cJ c_stand c_home c_priceStart c_priceStep c_thrown_cells c_thrown_filled c_nets_cells c_nets_filled)) (QI dC dI (W_X3 a0 a1 a2 a3 a4 cI cJ c_stand c_home c_priceStart c_priceStep c_thrown_cells c_thrown_filled c_nets_cells c_nets_filled) (W_X3 a0 a1 a2 a3 a4 cI cJ c_stand c_home c_priceStart c_priceStep c_thrown_cells c_thrown_filled c_nets_cells c_nets_filled) res) 0 0 (FA (W_X3 a0 a1 a2 a3 a4 cI cJ c_stand c_home c_priceStart c_priceStep c_thrown_cells c_thrown_filled c_nets_cells c_nets_filled)) := by
  refine r_metZ (by decide +kernel) (Nat.le_of_ble_eq_true rfl) ?_
  intro p e s m args below meth c A H0 QQ X ret ls hl hG
  have X : Cx p m c cX3_catches 5 s args RX3 dC dI cI cJ meth (some .boolean) := X
  have hx := X.1.1
  have hb := X.1.2.1
  have hl : lv_has ls 5 [(0, .ref a0), (1, .int x1), (2, .int x2)] := hl
  have J44 : ∀ (y0 : Int32) (x3 : Int32), ∀ (w : (Int32) ⊕ ((Unit) ⊕ (Int32))), DX3_catches_J44 x1 c_nets_cells y0 x3 = some w → (∀ (x3 : Int32), w = .inl x3 → ∀ (ls : Array Slot) (H : Heap) (locs : List Loc), lv_has ls 5 [(0, .ref a0), (1, .int x1), (2, .int x2), (3, .int x3)] → G dC dI A H0 (W_X3 a0 a1 a2 a3 a4 cI cJ c_stand c_home c_priceStart c_priceStep c_thrown_cells c_thrown_filled c_nets_cells c_nets_filled) H locs → W p l e (RM 2 44) s m args below meth c H locs 0 0 QQ (F0 m 2 ls [])) → (w = .inr (.inl ()) → ∀ (ls : Array Slot) (H : Heap) (locs : List Loc), lv_has ls 5 [] → G dC dI A H0 (W_X3 a0 a1 a2 a3 a4 cI cJ c_stand c_home c_priceStart c_priceStep c_thrown_cells c_thrown_filled c_nets_cells c_nets_filled) H locs → W p l e (RM 2 44) s m args below meth c H locs 0 0 QQ (F0 m 84 ls [])) → (∀ (r : Int32), w = .inr (.inr r) → r = res) → ∀ (ls : Array Slot) (H : Heap) (locs : List Loc), lv_has ls 5 [(0, .ref a0), (1, .int x1), (2, .int x2), (3, .int x3)] → G dC dI A H0 (W_X3 a0 a1 a2 a3 a4 cI cJ c_stand c_home c_priceStart c_priceStep c_thrown_cells c_thrown_filled c_nets_cells c_nets_filled) H locs → W p l e (RM 2 44) s m args below meth c H locs 0 0 QQ (F0 m 44 ls [.int y0]) := by
    intro y0 x3 w h KC KX KR ls H locs hl hG
    unfold DX3_catches_J44 at h
    refine lv_istore (lv' := [(4, .int y0), (0, .ref a0), (1, .int x1), (2, .int x2), (3, .int x3)]) hx hb dX3_catches_44 hl (by decide) rfl (fun ls hl => ?_)
    refine lv_iload hx hb dX3_catches_46 (lv_at hl 0 rfl) ?_
    refine lv_if_eq (tgt := 78) hx hb dX3_catches_48 (by decide) (fun c_7 => ?_) (fun c_7 => ?_)
    · have h := ite_t h c_7
      refine lv_iinc (v := (x3 + (1 : Int32))) (lv' := [(3, .int (x3 + (1 : Int32))), (4, .int y0), (0, .ref a0), (1, .int x1), (2, .int x2)]) hx hb dX3_catches_78 hl (k := 4) rfl rfl (by decide) rfl (fun ls hl => ?_)
      refine lv_goto (tgt := 2) hx hb dX3_catches_81 (by decide) ?_
      exact KC _ (Option.some.inj h).symm _ _ _ (lv_sub hl [2, 3, 4, 0] rfl) hG
    · have h := ite_f h c_7
      refine lv_iload_n hx hb dX3_catches_51 rfl (lv_at hl 2 rfl) ?_
      refine lv_aload_n hx hb dX3_catches_52 rfl (lv_at hl 1 rfl) ?_
      refine r_get X hG in_X3 rfl 5 (by decide) w_138 0 rfl rfl dX3_catches_53 ?_
      refine lv_iload_n hx hb dX3_catches_56 rfl (lv_at hl 4 rfl) ?_
      refine lv_iconst (v := (0 : Int32)) hx hb dX3_catches_57 (by decide) ?_
      obtain ⟨r_8, hz_9, h⟩ := bd1_some h
      refine aft_i (ws' := (W_X3 a0 a1 a2 a3 a4 cI cJ c_stand c_home c_priceStart c_priceStep c_thrown_cells c_thrown_filled c_nets_cells c_nets_filled)) (run_V (rest := [.int x1]) X hG hl.1 (mX5_get l dC dI cI cJ a3 a4 (5 : Int32) (4 : Int32) 20 c_nets_cells c_nets_filled x3 (0 : Int32) hz_9) gi_V_X3_71 hd_V_yX5_get ⟨rfl, rfl⟩ rfl ⟨Nat.le_of_ble_eq_true rfl, Nat.le_of_ble_eq_true rfl⟩ [3, 4] (by decide) rfl 3 rfl rfl rfl rfl (Nat.le_of_ble_eq_true rfl) ⟨Nat.le_of_ble_eq_true rfl, Nat.le_of_ble_eq_true rfl⟩ dX3_catches_58) hG [3, 4] rfl rfl rfl (fun H locs hG => ?_)
      clear hz_9
      obtain ⟨r_10, hz_11, h⟩ := bd1_some h
      refine aft_i (ws' := (W_X3 a0 a1 a2 a3 a4 cI cJ c_stand c_home c_priceStart c_priceStep c_thrown_cells c_thrown_filled c_nets_cells c_nets_filled)) (run_SN (rest := []) X hG hl.1 (mX8_apart l dC dI cI cJ x1 r_8 hz_11) gi_N_yX8_apart w_432 w_433 w_41 hd_S_yX8_apart ⟨rfl, rfl⟩ rfl ⟨Nat.le_of_ble_eq_true rfl, Nat.le_of_ble_eq_true rfl⟩ [] (by decide) rfl rfl (Nat.le_of_ble_eq_true rfl) ⟨Nat.le_of_ble_eq_true rfl, Nat.le_of_ble_eq_true rfl⟩ dX3_catches_61) hG [] rfl rfl rfl (fun H locs hG => ?_)
      clear hz_11
      refine lv_aload_n hx hb dX3_catches_64 rfl (lv_at hl 1 rfl) ?_
      refine r_get X hG in_X3 rfl 5 (by decide) w_138 0 rfl rfl dX3_catches_65 ?_
      refine lv_iload_n hx hb dX3_catches_68 rfl (lv_at hl 4 rfl) ?_
      refine lv_iconst (v := (1 : Int32)) hx hb dX3_catches_69 (by decide) ?_
      obtain ⟨r_12, hz_13, h⟩ := bd1_some h
      refine aft_i (ws' := (W_X3 a0 a1 a2 a3 a4 cI cJ c_stand c_home c_priceStart c_priceStep c_thrown_cells c_thrown_filled c_nets_cells c_nets_filled)) (run_V (rest := [.int r_10]) X hG hl.1 (mX5_get l dC dI cI cJ a3 a4 (5 : Int32) (4 : Int32) 20 c_nets_cells c_nets_filled x3 (1 : Int32) hz_13) gi_V_X3_71 hd_V_yX5_get ⟨rfl, rfl⟩ rfl ⟨Nat.le_of_ble_eq_true rfl, Nat.le_of_ble_eq_true rfl⟩ [3, 4] (by decide) rfl 3 rfl rfl rfl rfl (Nat.le_of_ble_eq_true rfl) ⟨Nat.le_of_ble_eq_true rfl, Nat.le_of_ble_eq_true rfl⟩ dX3_catches_70) hG [3, 4] rfl rfl rfl (fun H locs hG => ?_)
      clear hz_13
      refine lv_icmp_gt (tgt := 78) hx hb dX3_catches_73 (by decide) (fun c_14 => ?_) (fun c_14 => ?_)
      · have h := ite_t h c_14
        refine lv_iinc (v := (x3 + (1 : Int32))) (lv' := [(3, .int (x3 + (1 : Int32))), (4, .int y0), (0, .ref a0), (1, .int x1), (2, .int x2)]) hx hb dX3_catches_78 hl (k := 4) rfl rfl (by decide) rfl (fun ls hl => ?_)
        refine lv_goto (tgt := 2) hx hb dX3_catches_81 (by decide) ?_
        exact KC _ (Option.some.inj h).symm _ _ _ (lv_sub hl [2, 3, 4, 0] rfl) hG
      · have h := ite_f h c_14
        refine lv_iconst (v := (1 : Int32)) hx hb dX3_catches_76 (by decide) ?_
        cases KR _ (Option.some.inj h).symm
        exact ret _ _ _ _ dX3_catches_77 (by decide) hG
  have L2 : ∀ (n : Nat) (x3 : Int32) (v : (Unit) ⊕ (Int32)), DX3_catches_L2 x1 x2 c_nets_cells c_nets_filled n x3 = some v → (v = .inl () → ∀ (ls : Array Slot) (H : Heap) (locs : List Loc), lv_has ls 5 [] → G dC dI A H0 (W_X3 a0 a1 a2 a3 a4 cI cJ c_stand c_home c_priceStart c_priceStep c_thrown_cells c_thrown_filled c_nets_cells c_nets_filled) H locs → W p l e (RM 2 44) s m args below meth c H locs 0 0 QQ (F0 m 84 ls [])) → (∀ (r : Int32), v = .inr r → r = res) → ∀ (ls : Array Slot) (H : Heap) (locs : List Loc), lv_has ls 5 [(0, .ref a0), (1, .int x1), (2, .int x2), (3, .int x3)] → G dC dI A H0 (W_X3 a0 a1 a2 a3 a4 cI cJ c_stand c_home c_priceStart c_priceStep c_thrown_cells c_thrown_filled c_nets_cells c_nets_filled) H locs → W p l e (RM 2 44) s m args below meth c H locs 0 0 QQ (F0 m 2 ls []) := by
    intro  n
    induction n with
    | zero => intro x3 v h; exact it_zero h
    | succ n ih =>
      intro x3 v h0 K0 KR0 ls H locs hl hG
      obtain ⟨w, h, hi, hr⟩ := it_succ h0
      have h : DX3_catches_L2s x1 x2 c_nets_cells c_nets_filled x3 = some w := h
      have KC : ∀ (x3 : Int32), w = .inl x3 → ∀ (ls : Array Slot) (H : Heap) (locs : List Loc), lv_has ls 5 [(0, .ref a0), (1, .int x1), (2, .int x2), (3, .int x3)] → G dC dI A H0 (W_X3 a0 a1 a2 a3 a4 cI cJ c_stand c_home c_priceStart c_priceStep c_thrown_cells c_thrown_filled c_nets_cells c_nets_filled) H locs → W p l e (RM 2 44) s m args below meth c H locs 0 0 QQ (F0 m 2 ls []) := fun b0 e ls H locs hl hG => ih b0 v (hi _ e) K0 KR0 ls H locs hl hG
      have KX : w = .inr (.inl ()) → ∀ (ls : Array Slot) (H : Heap) (locs : List Loc), lv_has ls 5 [] → G dC dI A H0 (W_X3 a0 a1 a2 a3 a4 cI cJ c_stand c_home c_priceStart c_priceStep c_thrown_cells c_thrown_filled c_nets_cells c_nets_filled) H locs → W p l e (RM 2 44) s m args below meth c H locs 0 0 QQ (F0 m 84 ls []) := fun  e ls H locs hl hG => K0  (hr _ e) ls H locs hl hG
      have KR : ∀ (r : Int32), w = .inr (.inr r) → r = res := fun r e => KR0 r (hr _ e)
      clear h0 hi hr K0 ih KR0
      unfold DX3_catches_L2s at h
      refine lv_iload_n hx hb dX3_catches_2 rfl (lv_at hl 3 rfl) ?_
      refine lv_aload_n hx hb dX3_catches_3 rfl (lv_at hl 0 rfl) ?_
      refine r_get X hG in_X3 rfl 5 (by decide) w_138 0 rfl rfl dX3_catches_4 ?_
      obtain ⟨r_1, hz_2, h⟩ := bd1_some h
      refine aft_i (ws' := (W_X3 a0 a1 a2 a3 a4 cI cJ c_stand c_home c_priceStart c_priceStep c_thrown_cells c_thrown_filled c_nets_cells c_nets_filled)) (run_V (rest := [.int x3]) X hG hl.1 (mX5_rows l dC dI cI cJ a3 a4 (5 : Int32) (4 : Int32) 20 c_nets_cells c_nets_filled hz_2) gi_V_X3_67 hd_V_yX5_rows ⟨rfl, rfl⟩ rfl ⟨Nat.le_of_ble_eq_true rfl, Nat.le_of_ble_eq_true rfl⟩ [3, 4] (by decide) rfl 3 rfl rfl rfl rfl (Nat.le_of_ble_eq_true rfl) ⟨Nat.le_of_ble_eq_true rfl, Nat.le_of_ble_eq_true rfl⟩ dX3_catches_7) hG [3, 4] rfl rfl rfl (fun H locs hG => ?_)
      clear hz_2
      refine lv_icmp_ge (tgt := 84) hx hb dX3_catches_10 (by decide) (fun c_3 => ?_) (fun c_3 => ?_)
      · have h := ite_t h c_3
        exact KX  (Option.some.inj h).symm _ _ _ (lv_sub hl [] rfl) hG
      · have h := ite_f h c_3
        refine lv_iload_n hx hb dX3_catches_13 rfl (lv_at hl 2 rfl) ?_
        refine lv_aload_n hx hb dX3_catches_14 rfl (lv_at hl 0 rfl) ?_
        refine r_get X hG in_X3 rfl 5 (by decide) w_138 0 rfl rfl dX3_catches_15 ?_
        refine lv_iload_n hx hb dX3_catches_18 rfl (lv_at hl 3 rfl) ?_
        refine lv_iconst (v := (2 : Int32)) hx hb dX3_catches_19 (by decide) ?_
        obtain ⟨r_4, hz_5, h⟩ := bd1_some h
        refine aft_i (ws' := (W_X3 a0 a1 a2 a3 a4 cI cJ c_stand c_home c_priceStart c_priceStep c_thrown_cells c_thrown_filled c_nets_cells c_nets_filled)) (run_V (rest := [.int x2]) X hG hl.1 (mX5_get l dC dI cI cJ a3 a4 (5 : Int32) (4 : Int32) 20 c_nets_cells c_nets_filled x3 (2 : Int32) hz_5) gi_V_X3_71 hd_V_yX5_get ⟨rfl, rfl⟩ rfl ⟨Nat.le_of_ble_eq_true rfl, Nat.le_of_ble_eq_true rfl⟩ [3, 4] (by decide) rfl 3 rfl rfl rfl rfl (Nat.le_of_ble_eq_true rfl) ⟨Nat.le_of_ble_eq_true rfl, Nat.le_of_ble_eq_true rfl⟩ dX3_catches_20) hG [3, 4] rfl rfl rfl (fun H locs hG => ?_)
        clear hz_5
        refine lv_icmp_lt (tgt := 43) hx hb dX3_catches_23 (by decide) (fun c_6 => ?_) (fun c_6 => ?_)
        · have h := ite_t h c_6
          refine lv_iconst (v := (0 : Int32)) hx hb dX3_catches_43 (by decide) ?_
          exact J44 (0 : Int32) x3 _ h KC KX KR _ _ _ (lv_sub hl [0, 1, 2, 3] rfl) hG
        · have h := ite_f h c_6
          refine lv_iload_n hx hb dX3_catches_26 rfl (lv_at hl 2 rfl) ?_
          refine lv_aload_n hx hb dX3_catches_27 rfl (lv_at hl 0 rfl) ?_
          refine r_get X hG in_X3 rfl 5 (by decide) w_138 0 rfl rfl dX3_catches_28 ?_
          refine lv_iload_n hx hb dX3_catches_31 rfl (lv_at hl 3 rfl) ?_
          refine lv_iconst (v := (3 : Int32)) hx hb dX3_catches_32 (by decide) ?_
          obtain ⟨r_15, hz_16, h⟩ := bd1_some h
          refine aft_i (ws' := (W_X3 a0 a1 a2 a3 a4 cI cJ c_stand c_home c_priceStart c_priceStep c_thrown_cells c_thrown_filled c_nets_cells c_nets_filled)) (run_V (rest := [.int x2]) X hG hl.1 (mX5_get l dC dI cI cJ a3 a4 (5 : Int32) (4 : Int32) 20 c_nets_cells c_nets_filled x3 (3 : Int32) hz_16) gi_V_X3_71 hd_V_yX5_get ⟨rfl, rfl⟩ rfl ⟨Nat.le_of_ble_eq_true rfl, Nat.le_of_ble_eq_true rfl⟩ [3, 4] (by decide) rfl 3 rfl rfl rfl rfl (Nat.le_of_ble_eq_true rfl) ⟨Nat.le_of_ble_eq_true rfl, Nat.le_of_ble_eq_true rfl⟩ dX3_catches_33) hG [3, 4] rfl rfl rfl (fun H locs hG => ?_)
          clear hz_16
          refine lv_icmp_gt (tgt := 43) hx hb dX3_catches_36 (by decide) (fun c_17 => ?_) (fun c_17 => ?_)
          · have h := ite_t h c_17
            refine lv_iconst (v := (0 : Int32)) hx hb dX3_catches_43 (by decide) ?_
            exact J44 (0 : Int32) x3 _ h KC KX KR _ _ _ (lv_sub hl [0, 1, 2, 3] rfl) hG
          · have h := ite_f h c_17
            refine lv_iconst (v := (1 : Int32)) hx hb dX3_catches_39 (by decide) ?_
            refine lv_goto (tgt := 44) hx hb dX3_catches_40 (by decide) ?_
            exact J44 (1 : Int32) x3 _ h KC KX KR _ _ _ (lv_sub hl [0, 1, 2, 3] rfl) hG
  have h := hD
  unfold DX3_catches at h
  clear hD
  refine lv_iconst (v := (0 : Int32)) hx hb dX3_catches_0 (by decide) ?_
  refine lv_istore_n (lv' := [(3, .int (0 : Int32)), (0, .ref a0), (1, .int x1), (2, .int x2)]) hx hb dX3_catches_1 rfl hl (by decide) rfl (fun ls hl => ?_)
  rcases el0_some h with ⟨hz, h⟩ | ⟨r, hz, h⟩
  · refine L2  FU (0 : Int32) _ hz ?_ (fun r e => by cases e) _ _ _ (lv_sub hl [1, 2, 3, 0] rfl) hG
    rintro  ⟨⟩ ls H locs hl hG
    clear hz
    refine lv_iconst (v := (0 : Int32)) hx hb dX3_catches_84 (by decide) ?_
    cases h
    exact ret _ _ _ _ dX3_catches_85 (by decide) hG
  · refine L2  FU (0 : Int32) _ hz (fun  e => by cases e) (fun r2 e => ?_) _ _ _ (lv_sub hl [1, 2, 3, 0] rfl) hG
    cases e; cases h; rfl
set_option maxRecDepth 100000 in
set_option maxHeartbeats 4000000 in
theorem mX3_priceOn (l : Launch) (dC : Nat → ClassId) (dI : Nat → Nat → Nat) (cI cJ : ClassId) (a0 a1 a2 a3 a4 : Nat) (c_stand : Int32) (c_home : Int32) (c_priceStart : Int32) (c_priceStep : Int32) (c_thrown_cells : Nat → Int32) (c_thrown_filled : Int32) (c_nets_cells : Nat → Int32) (c_nets_filled : Int32) (x1 : Int32) {res : Int32} (hD : DX3_priceOn x1 c_priceStart c_priceStep = some res) : Met l yX3_priceOn (WZ yX3_priceOn cX3_priceOn 2 (some .int)) (RM 0 0) (PC dC dI cI cJ [.ref a0, .int x1] (W_X3 a0 a1 a2 a3 a4 cI cJ c_stand c_home c_priceStart c_priceStep c_thrown_cells c_thrown_filled c_nets_cells c_nets_filled)) (QI dC dI (W_X3 a0 a1 a2 a3 a4 cI cJ c_stand c_home c_priceStart c_priceStep c_thrown_cells c_thrown_filled c_nets_cells c_nets_filled) (W_X3 a0 a1 a2 a3 a4 cI cJ c_stand c_home c_priceStart c_priceStep c_thrown_cells c_thrown_filled c_nets_cells c_nets_filled) res) 0 0 (FA (W_X3 a0 a1 a2 a3 a4 cI cJ c_stand c_home c_priceStart c_priceStep c_thrown_cells c_thrown_filled c_nets_cells c_nets_filled)) := by
  refine r_metI (by decide +kernel) (Nat.le_of_ble_eq_true rfl) ?_
  intro p e s m args below meth c A H0 QQ X ret ls hl hG
  have X : Cx p m c cX3_priceOn 2 s args RX3 dC dI cI cJ meth (some .int) := X
  have hx := X.1.1
  have hb := X.1.2.1
  have hl : lv_has ls 2 [(0, .ref a0), (1, .int x1)] := hl
  have h := hD
  unfold DX3_priceOn at h
  clear hD
  refine lv_aload_n hx hb dX3_priceOn_0 rfl (lv_at hl 0 rfl) ?_
  refine r_get X hG in_X3 rfl 2 (by decide) w_133 0 rfl rfl dX3_priceOn_1 ?_
  refine lv_aload_n hx hb dX3_priceOn_4 rfl (lv_at hl 0 rfl) ?_
  refine r_get X hG in_X3 rfl 3 (by decide) w_134 0 rfl rfl dX3_priceOn_5 ?_
  refine lv_iload_n hx hb dX3_priceOn_8 rfl (lv_at hl 1 rfl) ?_
  refine lv_imul hx hb dX3_priceOn_9 ?_
  refine lv_iadd hx hb dX3_priceOn_10 ?_
  refine lv_bipush (v := (50 : Int32)) hx hb dX3_priceOn_11 (by decide) ?_
  refine lv_irem hx hb dX3_priceOn_13 (by decide) ?_
  refine lv_iconst (v := (1 : Int32)) hx hb dX3_priceOn_14 (by decide) ?_
  refine lv_iadd hx hb dX3_priceOn_15 ?_
  cases h
  exact ret _ _ _ _ dX3_priceOn_16 hG
