/-! CONTRACTS, laid by wip/gen/lay.py: yX1_come, yX1_bringHome, yX1_lineUp, yX1_fly, yX1_known, yX1_farOn, yX1_standBehind, yX1_howMany -/
set_option maxRecDepth 100000 in
set_option maxHeartbeats 4000000 in
theorem mX1_come (l : Launch) (dC : Nat → ClassId) (dI : Nat → Nat → Nat) (cI cJ : ClassId) (a0 a1 a2 a3 a4 a5 a6 a7 a8 : Nat) (c_loads_cells : Nat → Int32) (c_loads_filled : Int32) (c_order : Nat → Int32) (c_done : Int32) (c_start : Int32) (c_end : Int32) (o_stand : Int32) (o_home : Int32) (o_priceStart : Int32) (o_priceStep : Int32) (o_thrown_cells : Nat → Int32) (o_thrown_filled : Int32) (o_nets_cells : Nat → Int32) (o_nets_filled : Int32) (x1 : Int32) {n_loads_cells : Nat → Int32} (hD : DX1_come x1 c_loads_cells o_home o_priceStart o_priceStep o_nets_cells o_nets_filled = some n_loads_cells) : Met l yX1_come (WZ yX1_come cX1_come 9 none) (RM 3 68) (PC dC dI cI cJ [.ref a0, .int x1, .ref a4] (W_X1_X3 a0 a1 a2 a3 a4 a5 a6 a7 a8 cI cJ c_loads_cells c_loads_filled c_order c_done c_start c_end o_stand o_home o_priceStart o_priceStep o_thrown_cells o_thrown_filled o_nets_cells o_nets_filled)) (QV dC dI (W_X1_X3 a0 a1 a2 a3 a4 a5 a6 a7 a8 cI cJ c_loads_cells c_loads_filled c_order c_done c_start c_end o_stand o_home o_priceStart o_priceStep o_thrown_cells o_thrown_filled o_nets_cells o_nets_filled) (W_X1_X3 a0 a1 a2 a3 a4 a5 a6 a7 a8 cI cJ n_loads_cells c_loads_filled c_order c_done c_start c_end o_stand o_home o_priceStart o_priceStep o_thrown_cells o_thrown_filled o_nets_cells o_nets_filled)) 0 0 (FA (W_X1_X3 a0 a1 a2 a3 a4 a5 a6 a7 a8 cI cJ c_loads_cells c_loads_filled c_order c_done c_start c_end o_stand o_home o_priceStart o_priceStep o_thrown_cells o_thrown_filled o_nets_cells o_nets_filled)) := by
  refine r_metV (by decide +kernel) (Nat.le_of_ble_eq_true rfl) ?_
  intro p e s m args below meth c A H0 QQ X ret ls hl hG
  have X : Cx p m c cX1_come 9 s args RX1 dC dI cI cJ meth none := X
  have hx := X.1.1
  have hb := X.1.2.1
  have hl : lv_has ls 9 [(0, .ref a0), (1, .int x1), (2, .ref a4)] := hl
  have J131 : ∀ (y0 : Int32) (y1 : Int32) (y2 : Int32) (x7 : Int32) (x8 : Int32) (c_loads_cells : Nat → Int32), DX1_come_J131 x1 c_loads_cells o_priceStart o_priceStep y0 y1 y2 x7 x8 = some n_loads_cells → ∀ (ls : Array Slot) (H : Heap) (locs : List Loc), lv_has ls 9 [(0, .ref a0), (1, .int x1), (2, .ref a4), (7, .int x7), (8, .int x8)] → G dC dI A H0 (W_X1_X3 a0 a1 a2 a3 a4 a5 a6 a7 a8 cI cJ c_loads_cells c_loads_filled c_order c_done c_start c_end o_stand o_home o_priceStart o_priceStep o_thrown_cells o_thrown_filled o_nets_cells o_nets_filled) H locs → W p l e (RM 3 68) s m args below meth c H locs 0 0 QQ (F0 m 131 ls [.int y0, .int y1, .int y2, .ref a1]) := by
    intro y0 y1 y2 x7 x8 c_loads_cells h  ls H locs hl hG
    unfold DX1_come_J131 at h
    obtain ⟨k_loads_cells_18, hz_19, h⟩ := bd1_some h
    refine aft_v (ws' := (W_X1_X3 a0 a1 a2 a3 a4 a5 a6 a7 a8 cI cJ k_loads_cells_18 c_loads_filled c_order c_done c_start c_end o_stand o_home o_priceStart o_priceStep o_thrown_cells o_thrown_filled o_nets_cells o_nets_filled)) (run_V (rest := []) X hG hl.1 (mX5_set l dC dI cI cJ a1 a2 (7 : Int32) (10 : Int32) 70 c_loads_cells c_loads_filled y2 y1 y0 hz_19) gi_V_X1_47 hd_V_yX5_set ⟨rfl, rfl⟩ rfl ⟨Nat.le_of_ble_eq_true rfl, Nat.le_of_ble_eq_true rfl⟩ [1, 2] (by decide) rfl 1 rfl rfl rfl rfl (Nat.le_of_ble_eq_true rfl) ⟨Nat.le_of_ble_eq_true rfl, Nat.le_of_ble_eq_true rfl⟩ dX1_come_131) hG [1, 2] rfl rfl rfl (fun H locs hG => ?_)
    clear hz_19
    refine lv_aload_n hx hb dX1_come_134 rfl (lv_at hl 0 rfl) ?_
    refine r_get X hG in_X1 rfl 0 (by decide) w_161 0 rfl rfl dX1_come_135 ?_
    refine lv_iload_n hx hb dX1_come_138 rfl (lv_at hl 1 rfl) ?_
    refine lv_bipush (v := (8 : Int32)) hx hb dX1_come_139 (by decide) ?_
    refine lv_iload hx hb dX1_come_141 (lv_at hl 4 rfl) ?_
    refine lv_if_eq (tgt := 155) hx hb dX1_come_143 (by decide) (fun c_20 => ?_) (fun c_20 => ?_)
    · have h := ite_t h c_20
      refine lv_iconst (v := (0 : Int32)) hx hb dX1_come_155 (by decide) ?_
      obtain ⟨k_loads_cells_21, hz_22, h⟩ := bd1_some h
      refine aft_v (ws' := (W_X1_X3 a0 a1 a2 a3 a4 a5 a6 a7 a8 cI cJ k_loads_cells_21 c_loads_filled c_order c_done c_start c_end o_stand o_home o_priceStart o_priceStep o_thrown_cells o_thrown_filled o_nets_cells o_nets_filled)) (run_V (rest := []) X hG hl.1 (mX5_set l dC dI cI cJ a1 a2 (7 : Int32) (10 : Int32) 70 k_loads_cells_18 c_loads_filled x1 (8 : Int32) (0 : Int32) hz_22) gi_V_X1_47 hd_V_yX5_set ⟨rfl, rfl⟩ rfl ⟨Nat.le_of_ble_eq_true rfl, Nat.le_of_ble_eq_true rfl⟩ [1, 2] (by decide) rfl 1 rfl rfl rfl rfl (Nat.le_of_ble_eq_true rfl) ⟨Nat.le_of_ble_eq_true rfl, Nat.le_of_ble_eq_true rfl⟩ dX1_come_156) hG [1, 2] rfl rfl rfl (fun H locs hG => ?_)
      clear hz_22
      cases h
      exact ret _ _ _ _ dX1_come_159 hG
    · have h := ite_f h c_20
      refine lv_aload_n hx hb dX1_come_146 rfl (lv_at hl 2 rfl) ?_
      refine lv_iload hx hb dX1_come_147 (lv_at hl 3 rfl) ?_
      obtain ⟨r_23, hz_24, h⟩ := bd1_some h
      refine aft_i (ws' := (W_X1_X3 a0 a1 a2 a3 a4 a5 a6 a7 a8 cI cJ k_loads_cells_18 c_loads_filled c_order c_done c_start c_end o_stand o_home o_priceStart o_priceStep o_thrown_cells o_thrown_filled o_nets_cells o_nets_filled)) (run_V (rest := [.int (8 : Int32), .int x1, .ref a1]) X hG hl.1 (mX3_priceOn l dC dI cI cJ a4 a5 a6 a7 a8 o_stand o_home o_priceStart o_priceStep o_thrown_cells o_thrown_filled o_nets_cells o_nets_filled x7 hz_24) gi_V_X1_116 hd_V_yX3_priceOn ⟨rfl, rfl⟩ rfl ⟨Nat.le_of_ble_eq_true rfl, Nat.le_of_ble_eq_true rfl⟩ [4, 5, 6, 7, 8] (by decide) rfl 4 rfl rfl rfl rfl (Nat.le_of_ble_eq_true rfl) ⟨Nat.le_of_ble_eq_true rfl, Nat.le_of_ble_eq_true rfl⟩ dX1_come_149) hG [4, 5, 6, 7, 8] rfl rfl rfl (fun H locs hG => ?_)
      clear hz_24
      refine lv_goto (tgt := 156) hx hb dX1_come_152 (by decide) ?_
      obtain ⟨k_loads_cells_25, hz_26, h⟩ := bd1_some h
      refine aft_v (ws' := (W_X1_X3 a0 a1 a2 a3 a4 a5 a6 a7 a8 cI cJ k_loads_cells_25 c_loads_filled c_order c_done c_start c_end o_stand o_home o_priceStart o_priceStep o_thrown_cells o_thrown_filled o_nets_cells o_nets_filled)) (run_V (rest := []) X hG hl.1 (mX5_set l dC dI cI cJ a1 a2 (7 : Int32) (10 : Int32) 70 k_loads_cells_18 c_loads_filled x1 (8 : Int32) r_23 hz_26) gi_V_X1_47 hd_V_yX5_set ⟨rfl, rfl⟩ rfl ⟨Nat.le_of_ble_eq_true rfl, Nat.le_of_ble_eq_true rfl⟩ [1, 2] (by decide) rfl 1 rfl rfl rfl rfl (Nat.le_of_ble_eq_true rfl) ⟨Nat.le_of_ble_eq_true rfl, Nat.le_of_ble_eq_true rfl⟩ dX1_come_156) hG [1, 2] rfl rfl rfl (fun H locs hG => ?_)
      clear hz_26
      cases h
      exact ret _ _ _ _ dX1_come_159 hG
  have J47 : ∀ (y0 : Int32) (x4 : Int32) (c_loads_cells : Nat → Int32), DX1_come_J47 x1 c_loads_cells o_priceStart o_priceStep o_nets_cells o_nets_filled y0 x4 = some n_loads_cells → ∀ (ls : Array Slot) (H : Heap) (locs : List Loc), lv_has ls 9 [(0, .ref a0), (1, .int x1), (2, .ref a4), (4, .int x4)] → G dC dI A H0 (W_X1_X3 a0 a1 a2 a3 a4 a5 a6 a7 a8 cI cJ c_loads_cells c_loads_filled c_order c_done c_start c_end o_stand o_home o_priceStart o_priceStep o_thrown_cells o_thrown_filled o_nets_cells o_nets_filled) H locs → W p l e (RM 3 68) s m args below meth c H locs 0 0 QQ (F0 m 47 ls [.int y0]) := by
    intro y0 x4 c_loads_cells h  ls H locs hl hG
    unfold DX1_come_J47 at h
    refine lv_istore (lv' := [(5, .int y0), (0, .ref a0), (1, .int x1), (2, .ref a4), (4, .int x4)]) hx hb dX1_come_47 hl (by decide) rfl (fun ls hl => ?_)
    refine lv_aload_n hx hb dX1_come_49 rfl (lv_at hl 1 rfl) ?_
    refine r_get X hG in_X1 rfl 0 (by decide) w_161 0 rfl rfl dX1_come_50 ?_
    refine lv_iload_n hx hb dX1_come_53 rfl (lv_at hl 2 rfl) ?_
    refine lv_iconst (v := (4 : Int32)) hx hb dX1_come_54 (by decide) ?_
    obtain ⟨r_7, hz_8, h⟩ := bd1_some h
    refine aft_i (ws' := (W_X1_X3 a0 a1 a2 a3 a4 a5 a6 a7 a8 cI cJ c_loads_cells c_loads_filled c_order c_done c_start c_end o_stand o_home o_priceStart o_priceStep o_thrown_cells o_thrown_filled o_nets_cells o_nets_filled)) (run_V (rest := []) X hG hl.1 (mX5_get l dC dI cI cJ a1 a2 (7 : Int32) (10 : Int32) 70 c_loads_cells c_loads_filled x1 (4 : Int32) hz_8) gi_V_X1_43 hd_V_yX5_get ⟨rfl, rfl⟩ rfl ⟨Nat.le_of_ble_eq_true rfl, Nat.le_of_ble_eq_true rfl⟩ [1, 2] (by decide) rfl 1 rfl rfl rfl rfl (Nat.le_of_ble_eq_true rfl) ⟨Nat.le_of_ble_eq_true rfl, Nat.le_of_ble_eq_true rfl⟩ dX1_come_55) hG [1, 2] rfl rfl rfl (fun H locs hG => ?_)
    clear hz_8
    refine lv_iload hx hb dX1_come_58 (lv_at hl 0 rfl) ?_
    refine lv_iadd hx hb dX1_come_60 ?_
    refine lv_bipush (v := (24 : Int32)) hx hb dX1_come_61 (by decide) ?_
    refine lv_irem hx hb dX1_come_63 (by decide) ?_
    refine lv_istore (lv' := [(6, .int ((r_7 + y0) - (r_7 + y0) / (24 : Int32) * (24 : Int32))), (5, .int y0), (0, .ref a0), (1, .int x1), (2, .ref a4), (4, .int x4)]) hx hb dX1_come_64 hl (by decide) rfl (fun ls hl => ?_)
    refine lv_aload_n hx hb dX1_come_66 rfl (lv_at hl 2 rfl) ?_
    refine r_get X hG in_X1 rfl 0 (by decide) w_161 0 rfl rfl dX1_come_67 ?_
    refine lv_iload_n hx hb dX1_come_70 rfl (lv_at hl 3 rfl) ?_
    refine lv_iconst (v := (0 : Int32)) hx hb dX1_come_71 (by decide) ?_
    obtain ⟨r_9, hz_10, h⟩ := bd1_some h
    refine aft_i (ws' := (W_X1_X3 a0 a1 a2 a3 a4 a5 a6 a7 a8 cI cJ c_loads_cells c_loads_filled c_order c_done c_start c_end o_stand o_home o_priceStart o_priceStep o_thrown_cells o_thrown_filled o_nets_cells o_nets_filled)) (run_V (rest := []) X hG hl.1 (mX5_get l dC dI cI cJ a1 a2 (7 : Int32) (10 : Int32) 70 c_loads_cells c_loads_filled x1 (0 : Int32) hz_10) gi_V_X1_43 hd_V_yX5_get ⟨rfl, rfl⟩ rfl ⟨Nat.le_of_ble_eq_true rfl, Nat.le_of_ble_eq_true rfl⟩ [1, 2] (by decide) rfl 1 rfl rfl rfl rfl (Nat.le_of_ble_eq_true rfl) ⟨Nat.le_of_ble_eq_true rfl, Nat.le_of_ble_eq_true rfl⟩ dX1_come_72) hG [1, 2] rfl rfl rfl (fun H locs hG => ?_)
    clear hz_10
    refine lv_iload hx hb dX1_come_75 (lv_at hl 5 rfl) ?_
    refine lv_iadd hx hb dX1_come_77 ?_
    refine lv_istore (lv' := [(7, .int (r_9 + x4)), (6, .int ((r_7 + y0) - (r_7 + y0) / (24 : Int32) * (24 : Int32))), (5, .int y0), (0, .ref a0), (1, .int x1), (2, .ref a4), (4, .int x4)]) hx hb dX1_come_78 hl (by decide) rfl (fun ls hl => ?_)
    refine lv_aload_n hx hb dX1_come_80 rfl (lv_at hl 5 rfl) ?_
    refine lv_iload hx hb dX1_come_81 (lv_at hl 1 rfl) ?_
    refine lv_iload hx hb dX1_come_83 (lv_at hl 0 rfl) ?_
    obtain ⟨r_11, hz_12, h⟩ := bd1_some h
    refine aft_i (ws' := (W_X1_X3 a0 a1 a2 a3 a4 a5 a6 a7 a8 cI cJ c_loads_cells c_loads_filled c_order c_done c_start c_end o_stand o_home o_priceStart o_priceStep o_thrown_cells o_thrown_filled o_nets_cells o_nets_filled)) (run_V (rest := []) X hG hl.1 (mX3_catches l dC dI cI cJ a4 a5 a6 a7 a8 o_stand o_home o_priceStart o_priceStep o_thrown_cells o_thrown_filled o_nets_cells o_nets_filled ((r_7 + y0) - (r_7 + y0) / (24 : Int32) * (24 : Int32)) (r_9 + x4) hz_12) gi_V_X1_112 hd_V_yX3_catches ⟨rfl, rfl⟩ rfl ⟨Nat.le_of_ble_eq_true rfl, Nat.le_of_ble_eq_true rfl⟩ [4, 5, 6, 7, 8] (by decide) rfl 4 rfl rfl rfl rfl (Nat.le_of_ble_eq_true rfl) ⟨Nat.le_of_ble_eq_true rfl, Nat.le_of_ble_eq_true rfl⟩ dX1_come_85) hG [4, 5, 6, 7, 8] rfl rfl rfl (fun H locs hG => ?_)
    clear hz_12
    refine lv_istore (lv' := [(8, .int r_11), (7, .int (r_9 + x4)), (6, .int ((r_7 + y0) - (r_7 + y0) / (24 : Int32) * (24 : Int32))), (5, .int y0), (0, .ref a0), (1, .int x1), (2, .ref a4), (4, .int x4)]) hx hb dX1_come_88 hl (by decide) rfl (fun ls hl => ?_)
    refine lv_aload_n hx hb dX1_come_90 rfl (lv_at hl 4 rfl) ?_
    refine r_get X hG in_X1 rfl 0 (by decide) w_161 0 rfl rfl dX1_come_91 ?_
    refine lv_iload_n hx hb dX1_come_94 rfl (lv_at hl 5 rfl) ?_
    refine lv_bipush (v := (9 : Int32)) hx hb dX1_come_95 (by decide) ?_
    refine lv_iload hx hb dX1_come_97 (lv_at hl 2 rfl) ?_
    obtain ⟨k_loads_cells_13, hz_14, h⟩ := bd1_some h
    refine aft_v (ws' := (W_X1_X3 a0 a1 a2 a3 a4 a5 a6 a7 a8 cI cJ k_loads_cells_13 c_loads_filled c_order c_done c_start c_end o_stand o_home o_priceStart o_priceStep o_thrown_cells o_thrown_filled o_nets_cells o_nets_filled)) (run_V (rest := []) X hG hl.1 (mX5_set l dC dI cI cJ a1 a2 (7 : Int32) (10 : Int32) 70 c_loads_cells c_loads_filled x1 (9 : Int32) ((r_7 + y0) - (r_7 + y0) / (24 : Int32) * (24 : Int32)) hz_14) gi_V_X1_47 hd_V_yX5_set ⟨rfl, rfl⟩ rfl ⟨Nat.le_of_ble_eq_true rfl, Nat.le_of_ble_eq_true rfl⟩ [1, 2] (by decide) rfl 1 rfl rfl rfl rfl (Nat.le_of_ble_eq_true rfl) ⟨Nat.le_of_ble_eq_true rfl, Nat.le_of_ble_eq_true rfl⟩ dX1_come_99) hG [1, 2] rfl rfl rfl (fun H locs hG => ?_)
    clear hz_14
    refine lv_aload_n hx hb dX1_come_102 rfl (lv_at hl 4 rfl) ?_
    refine r_get X hG in_X1 rfl 0 (by decide) w_161 0 rfl rfl dX1_come_103 ?_
    refine lv_iload_n hx hb dX1_come_106 rfl (lv_at hl 5 rfl) ?_
    refine lv_bipush (v := (7 : Int32)) hx hb dX1_come_107 (by decide) ?_
    refine lv_iload hx hb dX1_come_109 (lv_at hl 1 rfl) ?_
    obtain ⟨k_loads_cells_15, hz_16, h⟩ := bd1_some h
    refine aft_v (ws' := (W_X1_X3 a0 a1 a2 a3 a4 a5 a6 a7 a8 cI cJ k_loads_cells_15 c_loads_filled c_order c_done c_start c_end o_stand o_home o_priceStart o_priceStep o_thrown_cells o_thrown_filled o_nets_cells o_nets_filled)) (run_V (rest := []) X hG hl.1 (mX5_set l dC dI cI cJ a1 a2 (7 : Int32) (10 : Int32) 70 k_loads_cells_13 c_loads_filled x1 (7 : Int32) (r_9 + x4) hz_16) gi_V_X1_47 hd_V_yX5_set ⟨rfl, rfl⟩ rfl ⟨Nat.le_of_ble_eq_true rfl, Nat.le_of_ble_eq_true rfl⟩ [1, 2] (by decide) rfl 1 rfl rfl rfl rfl (Nat.le_of_ble_eq_true rfl) ⟨Nat.le_of_ble_eq_true rfl, Nat.le_of_ble_eq_true rfl⟩ dX1_come_111) hG [1, 2] rfl rfl rfl (fun H locs hG => ?_)
    clear hz_16
    refine lv_aload_n hx hb dX1_come_114 rfl (lv_at hl 4 rfl) ?_
    refine r_get X hG in_X1 rfl 0 (by decide) w_161 0 rfl rfl dX1_come_115 ?_
    refine lv_iload_n hx hb dX1_come_118 rfl (lv_at hl 5 rfl) ?_
    refine lv_bipush (v := (6 : Int32)) hx hb dX1_come_119 (by decide) ?_
    refine lv_iload hx hb dX1_come_121 (lv_at hl 0 rfl) ?_
    refine lv_if_eq (tgt := 130) hx hb dX1_come_123 (by decide) (fun c_17 => ?_) (fun c_17 => ?_)
    · have h := ite_t h c_17
      refine lv_iconst (v := (1 : Int32)) hx hb dX1_come_130 (by decide) ?_
      exact J131 (1 : Int32) (6 : Int32) x1 (r_9 + x4) r_11 k_loads_cells_15  h  _ _ _ (lv_sub hl [4, 5, 6, 1, 0] rfl) hG
    · have h := ite_f h c_17
      refine lv_iconst (v := (0 : Int32)) hx hb dX1_come_126 (by decide) ?_
      refine lv_goto (tgt := 131) hx hb dX1_come_127 (by decide) ?_
      exact J131 (0 : Int32) (6 : Int32) x1 (r_9 + x4) r_11 k_loads_cells_15  h  _ _ _ (lv_sub hl [4, 5, 6, 1, 0] rfl) hG
  have h := hD
  unfold DX1_come at h
  clear hD
  refine lv_iconst (v := (1 : Int32)) hx hb dX1_come_0 (by decide) ?_
  refine lv_aload_n hx hb dX1_come_1 rfl (lv_at hl 0 rfl) ?_
  refine r_get X hG in_X1 rfl 0 (by decide) w_161 0 rfl rfl dX1_come_2 ?_
  refine lv_iload_n hx hb dX1_come_5 rfl (lv_at hl 1 rfl) ?_
  refine lv_iconst (v := (2 : Int32)) hx hb dX1_come_6 (by decide) ?_
  obtain ⟨r_1, hz_2, h⟩ := bd1_some h
  refine aft_i (ws' := (W_X1_X3 a0 a1 a2 a3 a4 a5 a6 a7 a8 cI cJ c_loads_cells c_loads_filled c_order c_done c_start c_end o_stand o_home o_priceStart o_priceStep o_thrown_cells o_thrown_filled o_nets_cells o_nets_filled)) (run_V (rest := [.int (1 : Int32)]) X hG hl.1 (mX5_get l dC dI cI cJ a1 a2 (7 : Int32) (10 : Int32) 70 c_loads_cells c_loads_filled x1 (2 : Int32) hz_2) gi_V_X1_43 hd_V_yX5_get ⟨rfl, rfl⟩ rfl ⟨Nat.le_of_ble_eq_true rfl, Nat.le_of_ble_eq_true rfl⟩ [1, 2] (by decide) rfl 1 rfl rfl rfl rfl (Nat.le_of_ble_eq_true rfl) ⟨Nat.le_of_ble_eq_true rfl, Nat.le_of_ble_eq_true rfl⟩ dX1_come_7) hG [1, 2] rfl rfl rfl (fun H locs hG => ?_)
  clear hz_2
  refine va_mmax hx hb (X.1.2.2.1.trans hl.1.symm) X.1.2.2.2.1 (X.1.2.2.2.2 _ w_425) (X.1.2.2.2.2 _ w_104) (X.1.2.2.2.2 _ w_46) (X.1.2.2.2.2 _ w_105) (Nat.le_of_ble_eq_true rfl) (Nat.le_of_ble_eq_true rfl) (Nat.le_of_ble_eq_true rfl) (Nat.le_of_ble_eq_true rfl) dX1_come_10 ?_
  refine lv_istore_n (lv' := [(3, .int (if (1 : Int32) < r_1 then r_1 else (1 : Int32))), (0, .ref a0), (1, .int x1), (2, .ref a4)]) hx hb dX1_come_13 rfl hl (by decide) rfl (fun ls hl => ?_)
  refine lv_aload_n hx hb dX1_come_14 rfl (lv_at hl 3 rfl) ?_
  refine r_getN X hG in_X3 rfl 1 (by decide) w_131 4 rfl rfl dX1_come_15 ?_
  refine lv_iload_n hx hb dX1_come_18 rfl (lv_at hl 0 rfl) ?_
  refine lv_iadd hx hb dX1_come_19 ?_
  refine lv_iconst (v := (1 : Int32)) hx hb dX1_come_20 (by decide) ?_
  refine lv_isub hx hb dX1_come_21 ?_
  refine lv_iload_n hx hb dX1_come_22 rfl (lv_at hl 0 rfl) ?_
  obtain ⟨g_3, h⟩ := gd h
  refine lv_idiv hx hb dX1_come_23 g_3 ?_
  refine lv_istore (lv' := [(4, .int (((o_home + (if (1 : Int32) < r_1 then r_1 else (1 : Int32))) - (1 : Int32)) / (if (1 : Int32) < r_1 then r_1 else (1 : Int32)))), (3, .int (if (1 : Int32) < r_1 then r_1 else (1 : Int32))), (0, .ref a0), (1, .int x1), (2, .ref a4)]) hx hb dX1_come_24 hl (by decide) rfl (fun ls hl => ?_)
  refine lv_aload_n hx hb dX1_come_26 rfl (lv_at hl 2 rfl) ?_
  refine r_get X hG in_X1 rfl 0 (by decide) w_161 0 rfl rfl dX1_come_27 ?_
  refine lv_iload_n hx hb dX1_come_30 rfl (lv_at hl 3 rfl) ?_
  refine lv_iconst (v := (3 : Int32)) hx hb dX1_come_31 (by decide) ?_
  obtain ⟨r_4, hz_5, h⟩ := bd1_some h
  refine aft_i (ws' := (W_X1_X3 a0 a1 a2 a3 a4 a5 a6 a7 a8 cI cJ c_loads_cells c_loads_filled c_order c_done c_start c_end o_stand o_home o_priceStart o_priceStep o_thrown_cells o_thrown_filled o_nets_cells o_nets_filled)) (run_V (rest := []) X hG hl.1 (mX5_get l dC dI cI cJ a1 a2 (7 : Int32) (10 : Int32) 70 c_loads_cells c_loads_filled x1 (3 : Int32) hz_5) gi_V_X1_43 hd_V_yX5_get ⟨rfl, rfl⟩ rfl ⟨Nat.le_of_ble_eq_true rfl, Nat.le_of_ble_eq_true rfl⟩ [1, 2] (by decide) rfl 1 rfl rfl rfl rfl (Nat.le_of_ble_eq_true rfl) ⟨Nat.le_of_ble_eq_true rfl, Nat.le_of_ble_eq_true rfl⟩ dX1_come_32) hG [1, 2] rfl rfl rfl (fun H locs hG => ?_)
  clear hz_5
  refine lv_iconst (v := (3 : Int32)) hx hb dX1_come_35 (by decide) ?_
  refine lv_icmp_ne (tgt := 46) hx hb dX1_come_36 (by decide) (fun c_6 => ?_) (fun c_6 => ?_)
  · have h := ite_f h c_6
    refine lv_iconst (v := (0 : Int32)) hx hb dX1_come_46 (by decide) ?_
    exact J47 (0 : Int32) (((o_home + (if (1 : Int32) < r_1 then r_1 else (1 : Int32))) - (1 : Int32)) / (if (1 : Int32) < r_1 then r_1 else (1 : Int32))) c_loads_cells  h  _ _ _ (lv_sub hl [2, 3, 4, 0] rfl) hG
  · have h := ite_t h c_6
    refine lv_iload hx hb dX1_come_39 (lv_at hl 0 rfl) ?_
    refine lv_iconst (v := (4 : Int32)) hx hb dX1_come_41 (by decide) ?_
    refine lv_idiv hx hb dX1_come_42 (by decide) ?_
    refine lv_goto (tgt := 47) hx hb dX1_come_43 (by decide) ?_
    exact J47 ((((o_home + (if (1 : Int32) < r_1 then r_1 else (1 : Int32))) - (1 : Int32)) / (if (1 : Int32) < r_1 then r_1 else (1 : Int32))) / (4 : Int32)) (((o_home + (if (1 : Int32) < r_1 then r_1 else (1 : Int32))) - (1 : Int32)) / (if (1 : Int32) < r_1 then r_1 else (1 : Int32))) c_loads_cells  h  _ _ _ (lv_sub hl [2, 3, 4, 0] rfl) hG
set_option maxRecDepth 100000 in
set_option maxHeartbeats 4000000 in
theorem mX1_bringHome (l : Launch) (dC : Nat → ClassId) (dI : Nat → Nat → Nat) (cI cJ : ClassId) (a0 a1 a2 a3 a4 a5 a6 a7 a8 : Nat) (c_loads_cells : Nat → Int32) (c_loads_filled : Int32) (c_order : Nat → Int32) (c_done : Int32) (c_start : Int32) (c_end : Int32) (o_stand : Int32) (o_home : Int32) (o_priceStart : Int32) (o_priceStep : Int32) (o_thrown_cells : Nat → Int32) (o_thrown_filled : Int32) (o_nets_cells : Nat → Int32) (o_nets_filled : Int32) {n_loads_cells : Nat → Int32} (hD : DX1_bringHome c_loads_cells c_order c_done o_home o_priceStart o_priceStep o_nets_cells o_nets_filled = some n_loads_cells) : Met l yX1_bringHome (WZ yX1_bringHome cX1_bringHome 4 none) (RM 4 96) (PC dC dI cI cJ [.ref a0, .ref a4] (W_X1_X3 a0 a1 a2 a3 a4 a5 a6 a7 a8 cI cJ c_loads_cells c_loads_filled c_order c_done c_start c_end o_stand o_home o_priceStart o_priceStep o_thrown_cells o_thrown_filled o_nets_cells o_nets_filled)) (QV dC dI (W_X1_X3 a0 a1 a2 a3 a4 a5 a6 a7 a8 cI cJ c_loads_cells c_loads_filled c_order c_done c_start c_end o_stand o_home o_priceStart o_priceStep o_thrown_cells o_thrown_filled o_nets_cells o_nets_filled) (W_X1_X3 a0 a1 a2 a3 a4 a5 a6 a7 a8 cI cJ n_loads_cells c_loads_filled c_order c_done c_start c_end o_stand o_home o_priceStart o_priceStep o_thrown_cells o_thrown_filled o_nets_cells o_nets_filled)) 0 0 (FA (W_X1_X3 a0 a1 a2 a3 a4 a5 a6 a7 a8 cI cJ c_loads_cells c_loads_filled c_order c_done c_start c_end o_stand o_home o_priceStart o_priceStep o_thrown_cells o_thrown_filled o_nets_cells o_nets_filled)) := by
  refine r_metV (by decide +kernel) (Nat.le_of_ble_eq_true rfl) ?_
  intro p e s m args below meth c A H0 QQ X ret ls hl hG
  have X : Cx p m c cX1_bringHome 4 s args RX1 dC dI cI cJ meth none := X
  have hx := X.1.1
  have hb := X.1.2.1
  have hl : lv_has ls 4 [(0, .ref a0), (1, .ref a4)] := hl
  have L2 : ∀ (n : Nat) (x2 : Int32) (c_loads_cells : Nat → Int32) (ec_loads_cells : Nat → Int32), DX1_bringHome_L2 c_order c_done o_home o_priceStart o_priceStep o_nets_cells o_nets_filled n x2 c_loads_cells = some ec_loads_cells → (∀ (ls : Array Slot) (H : Heap) (locs : List Loc), lv_has ls 4 [] → G dC dI A H0 (W_X1_X3 a0 a1 a2 a3 a4 a5 a6 a7 a8 cI cJ ec_loads_cells c_loads_filled c_order c_done c_start c_end o_stand o_home o_priceStart o_priceStep o_thrown_cells o_thrown_filled o_nets_cells o_nets_filled) H locs → W p l e (RM 4 96) s m args below meth c H locs 0 0 QQ (F0 m 69 ls [])) → ∀ (ls : Array Slot) (H : Heap) (locs : List Loc), lv_has ls 4 [(0, .ref a0), (1, .ref a4), (2, .int x2)] → G dC dI A H0 (W_X1_X3 a0 a1 a2 a3 a4 a5 a6 a7 a8 cI cJ c_loads_cells c_loads_filled c_order c_done c_start c_end o_stand o_home o_priceStart o_priceStep o_thrown_cells o_thrown_filled o_nets_cells o_nets_filled) H locs → W p l e (RM 4 96) s m args below meth c H locs 0 0 QQ (F0 m 2 ls []) := by
    intro  n
    induction n with
    | zero => intro x2 c_loads_cells ec_loads_cells h; exact it_zero h
    | succ n ih =>
      intro x2 c_loads_cells ec_loads_cells h0 K0 ls H locs hl hG
      obtain ⟨w, h, hi, hr⟩ := it_succ h0
      have h : DX1_bringHome_L2s c_order c_done o_home o_priceStart o_priceStep o_nets_cells o_nets_filled x2 c_loads_cells = some w := h
      have KC : ∀ (x2 : Int32) (c_loads_cells : Nat → Int32), w = .inl (x2, c_loads_cells) → ∀ (ls : Array Slot) (H : Heap) (locs : List Loc), lv_has ls 4 [(0, .ref a0), (1, .ref a4), (2, .int x2)] → G dC dI A H0 (W_X1_X3 a0 a1 a2 a3 a4 a5 a6 a7 a8 cI cJ c_loads_cells c_loads_filled c_order c_done c_start c_end o_stand o_home o_priceStart o_priceStep o_thrown_cells o_thrown_filled o_nets_cells o_nets_filled) H locs → W p l e (RM 4 96) s m args below meth c H locs 0 0 QQ (F0 m 2 ls []) := fun b0 b1 e ls H locs hl hG => ih b0 b1 ec_loads_cells (hi _ e) K0 ls H locs hl hG
      have KX : ∀ (c_loads_cells : Nat → Int32), w = .inr c_loads_cells → ∀ (ls : Array Slot) (H : Heap) (locs : List Loc), lv_has ls 4 [] → G dC dI A H0 (W_X1_X3 a0 a1 a2 a3 a4 a5 a6 a7 a8 cI cJ c_loads_cells c_loads_filled c_order c_done c_start c_end o_stand o_home o_priceStart o_priceStep o_thrown_cells o_thrown_filled o_nets_cells o_nets_filled) H locs → W p l e (RM 4 96) s m args below meth c H locs 0 0 QQ (F0 m 69 ls []) := fun b0 e ls H locs hl hG => by cases hr _ e; exact K0 ls H locs hl hG
      clear h0 hi hr K0 ih
      unfold DX1_bringHome_L2s at h
      refine lv_iload_n hx hb dX1_bringHome_2 rfl (lv_at hl 2 rfl) ?_
      refine lv_aload_n hx hb dX1_bringHome_3 rfl (lv_at hl 0 rfl) ?_
      refine r_get X hG in_X1 rfl 2 (by decide) w_163 0 rfl rfl dX1_bringHome_4 ?_
      refine lv_icmp_ge (tgt := 69) hx hb dX1_bringHome_7 (by decide) (fun c_1 => ?_) (fun c_1 => ?_)
      · have h := ite_t h c_1
        exact KX _ (Option.some.inj h).symm _ _ _ (lv_sub hl [] rfl) hG
      · have h := ite_f h c_1
        refine lv_aload_n hx hb dX1_bringHome_10 rfl (lv_at hl 0 rfl) ?_
        refine r_get X hG in_X1 rfl 1 (by decide) w_162 0 rfl rfl dX1_bringHome_11 ?_
        refine lv_iload_n hx hb dX1_bringHome_14 rfl (lv_at hl 2 rfl) ?_
        obtain ⟨r_2, hz_3, h⟩ := bd1_some h
        refine aft_i (ws' := (W_X1_X3 a0 a1 a2 a3 a4 a5 a6 a7 a8 cI cJ c_loads_cells c_loads_filled c_order c_done c_start c_end o_stand o_home o_priceStart o_priceStep o_thrown_cells o_thrown_filled o_nets_cells o_nets_filled)) (run_SN (rest := []) X hG hl.1 (mX8_at l dC dI cI cJ a3 7 c_order x2 hz_3) gi_N_yX8_at w_384 w_296 w_41 hd_S_yX8_at ⟨rfl, rfl⟩ rfl ⟨Nat.le_of_ble_eq_true rfl, Nat.le_of_ble_eq_true rfl⟩ [3] (by decide) rfl rfl (Nat.le_of_ble_eq_true rfl) ⟨Nat.le_of_ble_eq_true rfl, Nat.le_of_ble_eq_true rfl⟩ dX1_bringHome_15) hG [3] rfl rfl rfl (fun H locs hG => ?_)
        clear hz_3
        refine lv_istore_n (lv' := [(3, .int r_2), (0, .ref a0), (1, .ref a4), (2, .int x2)]) hx hb dX1_bringHome_18 rfl hl (by decide) rfl (fun ls hl => ?_)
        refine lv_aload_n hx hb dX1_bringHome_19 rfl (lv_at hl 1 rfl) ?_
        refine r_get X hG in_X1 rfl 0 (by decide) w_161 0 rfl rfl dX1_bringHome_20 ?_
        refine lv_iload_n hx hb dX1_bringHome_23 rfl (lv_at hl 0 rfl) ?_
        refine lv_bipush (v := (6 : Int32)) hx hb dX1_bringHome_24 (by decide) ?_
        refine lv_iconst (v := (2 : Int32)) hx hb dX1_bringHome_26 (by decide) ?_
        obtain ⟨k_loads_cells_4, hz_5, h⟩ := bd1_some h
        refine aft_v (ws' := (W_X1_X3 a0 a1 a2 a3 a4 a5 a6 a7 a8 cI cJ k_loads_cells_4 c_loads_filled c_order c_done c_start c_end o_stand o_home o_priceStart o_priceStep o_thrown_cells o_thrown_filled o_nets_cells o_nets_filled)) (run_V (rest := []) X hG hl.1 (mX5_set l dC dI cI cJ a1 a2 (7 : Int32) (10 : Int32) 70 c_loads_cells c_loads_filled r_2 (6 : Int32) (2 : Int32) hz_5) gi_V_X1_47 hd_V_yX5_set ⟨rfl, rfl⟩ rfl ⟨Nat.le_of_ble_eq_true rfl, Nat.le_of_ble_eq_true rfl⟩ [1, 2] (by decide) rfl 1 rfl rfl rfl rfl (Nat.le_of_ble_eq_true rfl) ⟨Nat.le_of_ble_eq_true rfl, Nat.le_of_ble_eq_true rfl⟩ dX1_bringHome_27) hG [1, 2] rfl rfl rfl (fun H locs hG => ?_)
        clear hz_5
        refine lv_aload_n hx hb dX1_bringHome_30 rfl (lv_at hl 1 rfl) ?_
        refine r_get X hG in_X1 rfl 0 (by decide) w_161 0 rfl rfl dX1_bringHome_31 ?_
        refine lv_iload_n hx hb dX1_bringHome_34 rfl (lv_at hl 0 rfl) ?_
        refine lv_bipush (v := (8 : Int32)) hx hb dX1_bringHome_35 (by decide) ?_
        refine lv_iconst (v := (0 : Int32)) hx hb dX1_bringHome_37 (by decide) ?_
        obtain ⟨k_loads_cells_6, hz_7, h⟩ := bd1_some h
        refine aft_v (ws' := (W_X1_X3 a0 a1 a2 a3 a4 a5 a6 a7 a8 cI cJ k_loads_cells_6 c_loads_filled c_order c_done c_start c_end o_stand o_home o_priceStart o_priceStep o_thrown_cells o_thrown_filled o_nets_cells o_nets_filled)) (run_V (rest := []) X hG hl.1 (mX5_set l dC dI cI cJ a1 a2 (7 : Int32) (10 : Int32) 70 k_loads_cells_4 c_loads_filled r_2 (8 : Int32) (0 : Int32) hz_7) gi_V_X1_47 hd_V_yX5_set ⟨rfl, rfl⟩ rfl ⟨Nat.le_of_ble_eq_true rfl, Nat.le_of_ble_eq_true rfl⟩ [1, 2] (by decide) rfl 1 rfl rfl rfl rfl (Nat.le_of_ble_eq_true rfl) ⟨Nat.le_of_ble_eq_true rfl, Nat.le_of_ble_eq_true rfl⟩ dX1_bringHome_38) hG [1, 2] rfl rfl rfl (fun H locs hG => ?_)
        clear hz_7
        refine lv_aload_n hx hb dX1_bringHome_41 rfl (lv_at hl 1 rfl) ?_
        refine r_get X hG in_X1 rfl 0 (by decide) w_161 0 rfl rfl dX1_bringHome_42 ?_
        refine lv_iload_n hx hb dX1_bringHome_45 rfl (lv_at hl 0 rfl) ?_
        refine lv_bipush (v := (7 : Int32)) hx hb dX1_bringHome_46 (by decide) ?_
        obtain ⟨r_8, hz_9, h⟩ := bd1_some h
        refine aft_i (ws' := (W_X1_X3 a0 a1 a2 a3 a4 a5 a6 a7 a8 cI cJ k_loads_cells_6 c_loads_filled c_order c_done c_start c_end o_stand o_home o_priceStart o_priceStep o_thrown_cells o_thrown_filled o_nets_cells o_nets_filled)) (run_V (rest := []) X hG hl.1 (mX5_get l dC dI cI cJ a1 a2 (7 : Int32) (10 : Int32) 70 k_loads_cells_6 c_loads_filled r_2 (7 : Int32) hz_9) gi_V_X1_43 hd_V_yX5_get ⟨rfl, rfl⟩ rfl ⟨Nat.le_of_ble_eq_true rfl, Nat.le_of_ble_eq_true rfl⟩ [1, 2] (by decide) rfl 1 rfl rfl rfl rfl (Nat.le_of_ble_eq_true rfl) ⟨Nat.le_of_ble_eq_true rfl, Nat.le_of_ble_eq_true rfl⟩ dX1_bringHome_48) hG [1, 2] rfl rfl rfl (fun H locs hG => ?_)
        clear hz_9
        refine lv_sipush (v := (1000 : Int32)) hx hb dX1_bringHome_51 (by decide) ?_
        refine lv_icmp_ne (tgt := 63) hx hb dX1_bringHome_54 (by decide) (fun c_10 => ?_) (fun c_10 => ?_)
        · have h := ite_f h c_10
          refine lv_iinc (v := (x2 + (1 : Int32))) (lv' := [(2, .int (x2 + (1 : Int32))), (3, .int r_2), (0, .ref a0), (1, .ref a4)]) hx hb dX1_bringHome_63 hl (k := 3) rfl rfl (by decide) rfl (fun ls hl => ?_)
          refine lv_goto (tgt := 2) hx hb dX1_bringHome_66 (by decide) ?_
          exact KC _ _ (Option.some.inj h).symm _ _ _ (lv_sub hl [2, 3, 0] rfl) hG
        · have h := ite_t h c_10
          refine lv_aload_n hx hb dX1_bringHome_57 rfl (lv_at hl 1 rfl) ?_
          refine lv_iload_n hx hb dX1_bringHome_58 rfl (lv_at hl 0 rfl) ?_
          refine lv_aload_n hx hb dX1_bringHome_59 rfl (lv_at hl 2 rfl) ?_
          obtain ⟨k_loads_cells_11, hz_12, h⟩ := bd1_some h
          refine aft_v1 (run_V1 (rest := []) X hG hl.1 (mX1_come l dC dI cI cJ a0 a1 a2 a3 a4 a5 a6 a7 a8 k_loads_cells_6 c_loads_filled c_order c_done c_start c_end o_stand o_home o_priceStart o_priceStep o_thrown_cells o_thrown_filled o_nets_cells o_nets_filled r_2 hz_12) gi_V_X1_105 hd_V_yX1_come ⟨rfl, rfl⟩ rfl ⟨Nat.le_of_ble_eq_true rfl, Nat.le_of_ble_eq_true rfl⟩ 0 rfl rfl rfl rfl (Nat.le_of_ble_eq_true rfl) ⟨Nat.le_of_ble_eq_true rfl, Nat.le_of_ble_eq_true rfl⟩ dX1_bringHome_60) hG rfl (fun H locs hG => ?_)
          clear hz_12
          refine lv_iinc (v := (x2 + (1 : Int32))) (lv' := [(2, .int (x2 + (1 : Int32))), (3, .int r_2), (0, .ref a0), (1, .ref a4)]) hx hb dX1_bringHome_63 hl (k := 3) rfl rfl (by decide) rfl (fun ls hl => ?_)
          refine lv_goto (tgt := 2) hx hb dX1_bringHome_66 (by decide) ?_
          exact KC _ _ (Option.some.inj h).symm _ _ _ (lv_sub hl [2, 3, 0] rfl) hG
  have h := hD
  unfold DX1_bringHome at h
  clear hD
  refine lv_iconst (v := (0 : Int32)) hx hb dX1_bringHome_0 (by decide) ?_
  refine lv_istore_n (lv' := [(2, .int (0 : Int32)), (0, .ref a0), (1, .ref a4)]) hx hb dX1_bringHome_1 rfl hl (by decide) rfl (fun ls hl => ?_)
  obtain ⟨k_loads_cells_13, hz, h⟩ := bd1_some h
  refine L2  FU (0 : Int32) c_loads_cells _ hz (fun ls H locs hl hG => ?_) _ _ _ (lv_sub hl [1, 2, 0] rfl) hG
  clear hz
  cases h
  exact ret _ _ _ _ dX1_bringHome_69 hG
set_option maxRecDepth 100000 in
set_option maxHeartbeats 4000000 in
theorem mX1_lineUp (l : Launch) (dC : Nat → ClassId) (dI : Nat → Nat → Nat) (cI cJ : ClassId) (a0 a1 a2 a3 : Nat) (c_loads_cells : Nat → Int32) (c_loads_filled : Int32) (c_order : Nat → Int32) (c_done : Int32) (c_start : Int32) (c_end : Int32) (x1 : Int32) {n_order : Nat → Int32} {n_done : Int32} (hD : DX1_lineUp x1 c_loads_cells c_order c_done = some (n_order, n_done)) : Met l yX1_lineUp (WZ yX1_lineUp cX1_lineUp 3 none) (RM 1 23) (PC dC dI cI cJ [.ref a0, .int x1] (W_X1 a0 a1 a2 a3 cI cJ c_loads_cells c_loads_filled c_order c_done c_start c_end)) (QV dC dI (W_X1 a0 a1 a2 a3 cI cJ c_loads_cells c_loads_filled c_order c_done c_start c_end) (W_X1 a0 a1 a2 a3 cI cJ c_loads_cells c_loads_filled n_order n_done c_start c_end)) 0 0 (FA (W_X1 a0 a1 a2 a3 cI cJ c_loads_cells c_loads_filled c_order c_done c_start c_end)) := by
  refine r_metV (by decide +kernel) (Nat.le_of_ble_eq_true rfl) ?_
  intro p e s m args below meth c A H0 QQ X ret ls hl hG
  have X : Cx p m c cX1_lineUp 3 s args RX1 dC dI cI cJ meth none := X
  have hx := X.1.1
  have hb := X.1.2.1
  have hl : lv_has ls 3 [(0, .ref a0), (1, .int x1)] := hl
  have L5 : ∀ (c_done : Int32), ∀ (n : Nat) (x2 : Int32) (c_order : Nat → Int32) (ex2 : Int32) (ec_order : Nat → Int32), DX1_lineUp_L5 x1 c_loads_cells n x2 c_order = some (ex2, ec_order) → (∀ (ls : Array Slot) (H : Heap) (locs : List Loc), lv_has ls 3 [(0, .ref a0), (1, .int x1), (2, .int ex2)] → G dC dI A H0 (W_X1 a0 a1 a2 a3 cI cJ c_loads_cells c_loads_filled ec_order c_done c_start c_end) H locs → W p l e (RM 1 23) s m args below meth c H locs 0 0 QQ (F0 m 63 ls [])) → ∀ (ls : Array Slot) (H : Heap) (locs : List Loc), lv_has ls 3 [(0, .ref a0), (1, .int x1), (2, .int x2)] → G dC dI A H0 (W_X1 a0 a1 a2 a3 cI cJ c_loads_cells c_loads_filled c_order c_done c_start c_end) H locs → W p l e (RM 1 23) s m args below meth c H locs 0 0 QQ (F0 m 5 ls []) := by
    intro c_done n
    induction n with
    | zero => intro x2 c_order ex2 ec_order h; exact it_zero h
    | succ n ih =>
      intro x2 c_order ex2 ec_order h0 K0 ls H locs hl hG
      obtain ⟨w, h, hi, hr⟩ := it_succ h0
      have h : DX1_lineUp_L5s x1 c_loads_cells x2 c_order = some w := h
      have KC : ∀ (x2 : Int32) (c_order : Nat → Int32), w = .inl (x2, c_order) → ∀ (ls : Array Slot) (H : Heap) (locs : List Loc), lv_has ls 3 [(0, .ref a0), (1, .int x1), (2, .int x2)] → G dC dI A H0 (W_X1 a0 a1 a2 a3 cI cJ c_loads_cells c_loads_filled c_order c_done c_start c_end) H locs → W p l e (RM 1 23) s m args below meth c H locs 0 0 QQ (F0 m 5 ls []) := fun b0 b1 e ls H locs hl hG => ih b0 b1 ex2 ec_order (hi _ e) K0 ls H locs hl hG
      have KX : ∀ (x2 : Int32) (c_order : Nat → Int32), w = .inr (x2, c_order) → ∀ (ls : Array Slot) (H : Heap) (locs : List Loc), lv_has ls 3 [(0, .ref a0), (1, .int x1), (2, .int x2)] → G dC dI A H0 (W_X1 a0 a1 a2 a3 cI cJ c_loads_cells c_loads_filled c_order c_done c_start c_end) H locs → W p l e (RM 1 23) s m args below meth c H locs 0 0 QQ (F0 m 63 ls []) := fun b0 b1 e ls H locs hl hG => by cases hr _ e; exact K0 ls H locs hl hG
      clear h0 hi hr K0 ih
      unfold DX1_lineUp_L5s at h
      refine lv_iload_n hx hb dX1_lineUp_5 rfl (lv_at hl 2 rfl) ?_
      refine lv_if_le (tgt := 63) hx hb dX1_lineUp_6 (by decide) (fun c_1 => ?_) (fun c_1 => ?_)
      · have h := ite_t h c_1
        exact KX _ _ (Option.some.inj h).symm _ _ _ (lv_sub hl [0, 1, 2] rfl) hG
      · have h := ite_f h c_1
        refine lv_aload_n hx hb dX1_lineUp_9 rfl (lv_at hl 0 rfl) ?_
        refine r_get X hG in_X1 rfl 0 (by decide) w_161 0 rfl rfl dX1_lineUp_10 ?_
        refine lv_aload_n hx hb dX1_lineUp_13 rfl (lv_at hl 0 rfl) ?_
        refine r_get X hG in_X1 rfl 1 (by decide) w_162 0 rfl rfl dX1_lineUp_14 ?_
        refine lv_iload_n hx hb dX1_lineUp_17 rfl (lv_at hl 2 rfl) ?_
        refine lv_iconst (v := (1 : Int32)) hx hb dX1_lineUp_18 (by decide) ?_
        refine lv_isub hx hb dX1_lineUp_19 ?_
        obtain ⟨r_2, hz_3, h⟩ := bd1_some h
        refine aft_i (ws' := (W_X1 a0 a1 a2 a3 cI cJ c_loads_cells c_loads_filled c_order c_done c_start c_end)) (run_SN (rest := [.ref a1]) X hG hl.1 (mX8_at l dC dI cI cJ a3 7 c_order (x2 - (1 : Int32)) hz_3) gi_N_yX8_at w_384 w_296 w_41 hd_S_yX8_at ⟨rfl, rfl⟩ rfl ⟨Nat.le_of_ble_eq_true rfl, Nat.le_of_ble_eq_true rfl⟩ [3] (by decide) rfl rfl (Nat.le_of_ble_eq_true rfl) ⟨Nat.le_of_ble_eq_true rfl, Nat.le_of_ble_eq_true rfl⟩ dX1_lineUp_20) hG [3] rfl rfl rfl (fun H locs hG => ?_)
        clear hz_3
        refine lv_iconst (v := (0 : Int32)) hx hb dX1_lineUp_23 (by decide) ?_
        obtain ⟨r_4, hz_5, h⟩ := bd1_some h
        refine aft_i (ws' := (W_X1 a0 a1 a2 a3 cI cJ c_loads_cells c_loads_filled c_order c_done c_start c_end)) (run_V (rest := []) X hG hl.1 (mX5_get l dC dI cI cJ a1 a2 (7 : Int32) (10 : Int32) 70 c_loads_cells c_loads_filled r_2 (0 : Int32) hz_5) gi_V_X1_43 hd_V_yX5_get ⟨rfl, rfl⟩ rfl ⟨Nat.le_of_ble_eq_true rfl, Nat.le_of_ble_eq_true rfl⟩ [1, 2] (by decide) rfl 1 rfl rfl rfl rfl (Nat.le_of_ble_eq_true rfl) ⟨Nat.le_of_ble_eq_true rfl, Nat.le_of_ble_eq_true rfl⟩ dX1_lineUp_24) hG [1, 2] rfl rfl rfl (fun H locs hG => ?_)
        clear hz_5
        refine lv_aload_n hx hb dX1_lineUp_27 rfl (lv_at hl 0 rfl) ?_
        refine r_get X hG in_X1 rfl 0 (by decide) w_161 0 rfl rfl dX1_lineUp_28 ?_
        refine lv_iload_n hx hb dX1_lineUp_31 rfl (lv_at hl 1 rfl) ?_
        refine lv_iconst (v := (0 : Int32)) hx hb dX1_lineUp_32 (by decide) ?_
        obtain ⟨r_6, hz_7, h⟩ := bd1_some h
        refine aft_i (ws' := (W_X1 a0 a1 a2 a3 cI cJ c_loads_cells c_loads_filled c_order c_done c_start c_end)) (run_V (rest := [.int r_4]) X hG hl.1 (mX5_get l dC dI cI cJ a1 a2 (7 : Int32) (10 : Int32) 70 c_loads_cells c_loads_filled x1 (0 : Int32) hz_7) gi_V_X1_43 hd_V_yX5_get ⟨rfl, rfl⟩ rfl ⟨Nat.le_of_ble_eq_true rfl, Nat.le_of_ble_eq_true rfl⟩ [1, 2] (by decide) rfl 1 rfl rfl rfl rfl (Nat.le_of_ble_eq_true rfl) ⟨Nat.le_of_ble_eq_true rfl, Nat.le_of_ble_eq_true rfl⟩ dX1_lineUp_33) hG [1, 2] rfl rfl rfl (fun H locs hG => ?_)
        clear hz_7
        refine lv_icmp_le (tgt := 63) hx hb dX1_lineUp_36 (by decide) (fun c_8 => ?_) (fun c_8 => ?_)
        · have h := ite_t h c_8
          exact KX _ _ (Option.some.inj h).symm _ _ _ (lv_sub hl [0, 1, 2] rfl) hG
        · have h := ite_f h c_8
          refine lv_aload_n hx hb dX1_lineUp_39 rfl (lv_at hl 0 rfl) ?_
          refine r_get X hG in_X1 rfl 1 (by decide) w_162 0 rfl rfl dX1_lineUp_40 ?_
          refine lv_iload_n hx hb dX1_lineUp_43 rfl (lv_at hl 2 rfl) ?_
          refine lv_aload_n hx hb dX1_lineUp_44 rfl (lv_at hl 0 rfl) ?_
          refine r_get X hG in_X1 rfl 1 (by decide) w_162 0 rfl rfl dX1_lineUp_45 ?_
          refine lv_iload_n hx hb dX1_lineUp_48 rfl (lv_at hl 2 rfl) ?_
          refine lv_iconst (v := (1 : Int32)) hx hb dX1_lineUp_49 (by decide) ?_
          refine lv_isub hx hb dX1_lineUp_50 ?_
          obtain ⟨r_9, hz_10, h⟩ := bd1_some h
          refine aft_i (ws' := (W_X1 a0 a1 a2 a3 cI cJ c_loads_cells c_loads_filled c_order c_done c_start c_end)) (run_SN (rest := [.int x2, .ref a3]) X hG hl.1 (mX8_at l dC dI cI cJ a3 7 c_order (x2 - (1 : Int32)) hz_10) gi_N_yX8_at w_384 w_296 w_41 hd_S_yX8_at ⟨rfl, rfl⟩ rfl ⟨Nat.le_of_ble_eq_true rfl, Nat.le_of_ble_eq_true rfl⟩ [3] (by decide) rfl rfl (Nat.le_of_ble_eq_true rfl) ⟨Nat.le_of_ble_eq_true rfl, Nat.le_of_ble_eq_true rfl⟩ dX1_lineUp_51) hG [3] rfl rfl rfl (fun H locs hG => ?_)
          clear hz_10
          obtain ⟨k_order_11, hz_12, h⟩ := bd1_some h
          refine aft_v (ws' := (W_X1 a0 a1 a2 a3 cI cJ c_loads_cells c_loads_filled k_order_11 c_done c_start c_end)) (run_SN (rest := []) X hG hl.1 (mX8_put l dC dI cI cJ a3 7 c_order x2 r_9 hz_12) gi_N_yX8_put w_385 w_272 w_41 hd_S_yX8_put ⟨rfl, rfl⟩ rfl ⟨Nat.le_of_ble_eq_true rfl, Nat.le_of_ble_eq_true rfl⟩ [3] (by decide) rfl rfl (Nat.le_of_ble_eq_true rfl) ⟨Nat.le_of_ble_eq_true rfl, Nat.le_of_ble_eq_true rfl⟩ dX1_lineUp_54) hG [3] rfl rfl rfl (fun H locs hG => ?_)
          clear hz_12
          refine lv_iinc (v := (x2 + (-1 : Int32))) (lv' := [(2, .int (x2 + (-1 : Int32))), (0, .ref a0), (1, .int x1)]) hx hb dX1_lineUp_57 hl (k := 2) rfl rfl (by decide) rfl (fun ls hl => ?_)
          refine lv_goto (tgt := 5) hx hb dX1_lineUp_60 (by decide) ?_
          exact KC _ _ (Option.some.inj h).symm _ _ _ (lv_sub hl [1, 2, 0] rfl) hG
  have J63 : ∀ (x2 : Int32) (c_order : Nat → Int32) (c_done : Int32), DX1_lineUp_J63 x1 c_order c_done x2 = some (n_order, n_done) → ∀ (ls : Array Slot) (H : Heap) (locs : List Loc), lv_has ls 3 [(0, .ref a0), (1, .int x1), (2, .int x2)] → G dC dI A H0 (W_X1 a0 a1 a2 a3 cI cJ c_loads_cells c_loads_filled c_order c_done c_start c_end) H locs → W p l e (RM 1 23) s m args below meth c H locs 0 0 QQ (F0 m 63 ls []) := by
    intro x2 c_order c_done h  ls H locs hl hG
    unfold DX1_lineUp_J63 at h
    refine lv_aload_n hx hb dX1_lineUp_63 rfl (lv_at hl 0 rfl) ?_
    refine r_get X hG in_X1 rfl 1 (by decide) w_162 0 rfl rfl dX1_lineUp_64 ?_
    refine lv_iload_n hx hb dX1_lineUp_67 rfl (lv_at hl 2 rfl) ?_
    refine lv_iload_n hx hb dX1_lineUp_68 rfl (lv_at hl 1 rfl) ?_
    obtain ⟨k_order_15, hz_16, h⟩ := bd1_some h
    refine aft_v (ws' := (W_X1 a0 a1 a2 a3 cI cJ c_loads_cells c_loads_filled k_order_15 c_done c_start c_end)) (run_SN (rest := []) X hG hl.1 (mX8_put l dC dI cI cJ a3 7 c_order x2 x1 hz_16) gi_N_yX8_put w_385 w_272 w_41 hd_S_yX8_put ⟨rfl, rfl⟩ rfl ⟨Nat.le_of_ble_eq_true rfl, Nat.le_of_ble_eq_true rfl⟩ [3] (by decide) rfl rfl (Nat.le_of_ble_eq_true rfl) ⟨Nat.le_of_ble_eq_true rfl, Nat.le_of_ble_eq_true rfl⟩ dX1_lineUp_69) hG [3] rfl rfl rfl (fun H locs hG => ?_)
    clear hz_16
    refine lv_aload_n hx hb dX1_lineUp_72 rfl (lv_at hl 0 rfl) ?_
    refine lv_dup hx hb dX1_lineUp_73 rfl ?_
    refine r_get X hG in_X1 rfl 2 (by decide) w_163 0 rfl rfl dX1_lineUp_74 ?_
    refine lv_iconst (v := (1 : Int32)) hx hb dX1_lineUp_77 (by decide) ?_
    refine lv_iadd hx hb dX1_lineUp_78 ?_
    refine r_put X hG in_X1 rfl tyX1 tyX1_ok nmX1 2 (by decide) rfl (by decide +kernel) w_163 0 (ws' := (W_X1 a0 a1 a2 a3 cI cJ c_loads_cells c_loads_filled k_order_15 (c_done + (1 : Int32)) c_start c_end)) rfl (Nat.le_of_ble_eq_true rfl) rfl dX1_lineUp_79 (fun H locs hG => ?_)
    cases h
    exact ret _ _ _ _ dX1_lineUp_82 hG
  have h := hD
  unfold DX1_lineUp at h
  clear hD
  refine lv_aload_n hx hb dX1_lineUp_0 rfl (lv_at hl 0 rfl) ?_
  refine r_get X hG in_X1 rfl 2 (by decide) w_163 0 rfl rfl dX1_lineUp_1 ?_
  refine lv_istore_n (lv' := [(2, .int c_done), (0, .ref a0), (1, .int x1)]) hx hb dX1_lineUp_4 rfl hl (by decide) rfl (fun ls hl => ?_)
  obtain ⟨z2_13, k_order_14, hz, h⟩ := bd2_some h
  refine L5 c_done FU c_done c_order _ _ hz (fun ls H locs hl hG => ?_) _ _ _ (lv_sub hl [1, 2, 0] rfl) hG
  clear hz
  exact J63 z2_13 k_order_14 c_done  h  _ _ _ (lv_sub hl [0, 1, 2] rfl) hG
set_option maxRecDepth 100000 in
set_option maxHeartbeats 4000000 in
theorem mX1_fly (l : Launch) (dC : Nat → ClassId) (dI : Nat → Nat → Nat) (cI cJ : ClassId) (a0 a1 a2 a3 a4 a5 a6 a7 a8 : Nat) (c_loads_cells : Nat → Int32) (c_loads_filled : Int32) (c_order : Nat → Int32) (c_done : Int32) (c_start : Int32) (c_end : Int32) (o_stand : Int32) (o_home : Int32) (o_priceStart : Int32) (o_priceStep : Int32) (o_thrown_cells : Nat → Int32) (o_thrown_filled : Int32) (o_nets_cells : Nat → Int32) (o_nets_filled : Int32) (x2 : Int32) {n_loads_cells : Nat → Int32} {n_order : Nat → Int32} {n_done : Int32} {n_start : Int32} {n_end : Int32} (hD : DX1_fly x2 c_loads_cells c_order o_stand o_home o_priceStart o_priceStep o_thrown_cells o_thrown_filled o_nets_cells o_nets_filled = some (n_loads_cells, n_order, n_done, n_start, n_end)) : Met l yX1_fly (WZ yX1_fly cX1_fly 5 none) (RM 5 119) (PC dC dI cI cJ [.ref a0, .ref a4, .int x2] (W_X1_X3 a0 a1 a2 a3 a4 a5 a6 a7 a8 cI cJ c_loads_cells c_loads_filled c_order c_done c_start c_end o_stand o_home o_priceStart o_priceStep o_thrown_cells o_thrown_filled o_nets_cells o_nets_filled)) (QV dC dI (W_X1_X3 a0 a1 a2 a3 a4 a5 a6 a7 a8 cI cJ c_loads_cells c_loads_filled c_order c_done c_start c_end o_stand o_home o_priceStart o_priceStep o_thrown_cells o_thrown_filled o_nets_cells o_nets_filled) (W_X1_X3 a0 a1 a2 a3 a4 a5 a6 a7 a8 cI cJ n_loads_cells c_loads_filled n_order n_done n_start n_end o_stand o_home o_priceStart o_priceStep o_thrown_cells o_thrown_filled o_nets_cells o_nets_filled)) 0 0 (FA (W_X1_X3 a0 a1 a2 a3 a4 a5 a6 a7 a8 cI cJ c_loads_cells c_loads_filled c_order c_done c_start c_end o_stand o_home o_priceStart o_priceStep o_thrown_cells o_thrown_filled o_nets_cells o_nets_filled)) := by
  refine r_metV (by decide +kernel) (Nat.le_of_ble_eq_true rfl) ?_
  intro p e s m args below meth c A H0 QQ X ret ls hl hG
  have X : Cx p m c cX1_fly 5 s args RX1 dC dI cI cJ meth none := X
  have hx := X.1.1
  have hb := X.1.2.1
  have hl : lv_has ls 5 [(0, .ref a0), (1, .ref a4), (2, .int x2)] := hl
  have L21 : ∀ (x3 : Int32) (c_order : Nat → Int32) (c_done : Int32) (c_start : Int32) (c_end : Int32), ∀ (n : Nat) (x4 : Int32) (c_loads_cells : Nat → Int32) (ec_loads_cells : Nat → Int32), DX1_fly_L21 o_thrown_cells x3 n x4 c_loads_cells = some ec_loads_cells → (∀ (ls : Array Slot) (H : Heap) (locs : List Loc), lv_has ls 5 [(0, .ref a0), (1, .ref a4), (2, .int x2), (3, .int x3)] → G dC dI A H0 (W_X1_X3 a0 a1 a2 a3 a4 a5 a6 a7 a8 cI cJ ec_loads_cells c_loads_filled c_order c_done c_start c_end o_stand o_home o_priceStart o_priceStep o_thrown_cells o_thrown_filled o_nets_cells o_nets_filled) H locs → W p l e (RM 5 119) s m args below meth c H locs 0 0 QQ (F0 m 53 ls [])) → ∀ (ls : Array Slot) (H : Heap) (locs : List Loc), lv_has ls 5 [(0, .ref a0), (1, .ref a4), (2, .int x2), (3, .int x3), (4, .int x4)] → G dC dI A H0 (W_X1_X3 a0 a1 a2 a3 a4 a5 a6 a7 a8 cI cJ c_loads_cells c_loads_filled c_order c_done c_start c_end o_stand o_home o_priceStart o_priceStep o_thrown_cells o_thrown_filled o_nets_cells o_nets_filled) H locs → W p l e (RM 5 119) s m args below meth c H locs 0 0 QQ (F0 m 21 ls []) := by
    intro x3 c_order c_done c_start c_end n
    induction n with
    | zero => intro x4 c_loads_cells ec_loads_cells h; exact it_zero h
    | succ n ih =>
      intro x4 c_loads_cells ec_loads_cells h0 K0 ls H locs hl hG
      obtain ⟨w, h, hi, hr⟩ := it_succ h0
      have h : DX1_fly_L21s o_thrown_cells x3 x4 c_loads_cells = some w := h
      have KC : ∀ (x4 : Int32) (c_loads_cells : Nat → Int32), w = .inl (x4, c_loads_cells) → ∀ (ls : Array Slot) (H : Heap) (locs : List Loc), lv_has ls 5 [(0, .ref a0), (1, .ref a4), (2, .int x2), (3, .int x3), (4, .int x4)] → G dC dI A H0 (W_X1_X3 a0 a1 a2 a3 a4 a5 a6 a7 a8 cI cJ c_loads_cells c_loads_filled c_order c_done c_start c_end o_stand o_home o_priceStart o_priceStep o_thrown_cells o_thrown_filled o_nets_cells o_nets_filled) H locs → W p l e (RM 5 119) s m args below meth c H locs 0 0 QQ (F0 m 21 ls []) := fun b0 b1 e ls H locs hl hG => ih b0 b1 ec_loads_cells (hi _ e) K0 ls H locs hl hG
      have KX : ∀ (c_loads_cells : Nat → Int32), w = .inr c_loads_cells → ∀ (ls : Array Slot) (H : Heap) (locs : List Loc), lv_has ls 5 [(0, .ref a0), (1, .ref a4), (2, .int x2), (3, .int x3)] → G dC dI A H0 (W_X1_X3 a0 a1 a2 a3 a4 a5 a6 a7 a8 cI cJ c_loads_cells c_loads_filled c_order c_done c_start c_end o_stand o_home o_priceStart o_priceStep o_thrown_cells o_thrown_filled o_nets_cells o_nets_filled) H locs → W p l e (RM 5 119) s m args below meth c H locs 0 0 QQ (F0 m 53 ls []) := fun b0 e ls H locs hl hG => by cases hr _ e; exact K0 ls H locs hl hG
      clear h0 hi hr K0 ih
      unfold DX1_fly_L21s at h
      refine lv_iload hx hb dX1_fly_21 (lv_at hl 4 rfl) ?_
      refine lv_iconst (v := (4 : Int32)) hx hb dX1_fly_23 (by decide) ?_
      refine lv_icmp_ge (tgt := 53) hx hb dX1_fly_24 (by decide) (fun c_4 => ?_) (fun c_4 => ?_)
      · have h := ite_t h c_4
        exact KX _ (Option.some.inj h).symm _ _ _ (lv_sub hl [0, 1, 2, 3] rfl) hG
      · have h := ite_f h c_4
        refine lv_aload_n hx hb dX1_fly_27 rfl (lv_at hl 0 rfl) ?_
        refine r_get X hG in_X1 rfl 0 (by decide) w_161 0 rfl rfl dX1_fly_28 ?_
        refine lv_iload_n hx hb dX1_fly_31 rfl (lv_at hl 3 rfl) ?_
        refine lv_iload hx hb dX1_fly_32 (lv_at hl 4 rfl) ?_
        refine lv_aload_n hx hb dX1_fly_34 rfl (lv_at hl 1 rfl) ?_
        refine r_getN X hG in_X3 rfl 4 (by decide) w_137 4 rfl rfl dX1_fly_35 ?_
        refine lv_iload_n hx hb dX1_fly_38 rfl (lv_at hl 3 rfl) ?_
        refine lv_iload hx hb dX1_fly_39 (lv_at hl 4 rfl) ?_
        obtain ⟨r_5, hz_6, h⟩ := bd1_some h
        refine aft_i (ws' := (W_X1_X3 a0 a1 a2 a3 a4 a5 a6 a7 a8 cI cJ c_loads_cells c_loads_filled c_order c_done c_start c_end o_stand o_home o_priceStart o_priceStep o_thrown_cells o_thrown_filled o_nets_cells o_nets_filled)) (run_V (rest := [.int x4, .int x3, .ref a1]) X hG hl.1 (mX5_get l dC dI cI cJ a5 a6 (7 : Int32) (4 : Int32) 28 o_thrown_cells o_thrown_filled x3 x4 hz_6) gi_V_X1_43 hd_V_yX5_get ⟨rfl, rfl⟩ rfl ⟨Nat.le_of_ble_eq_true rfl, Nat.le_of_ble_eq_true rfl⟩ [5, 6] (by decide) rfl 5 rfl rfl rfl rfl (Nat.le_of_ble_eq_true rfl) ⟨Nat.le_of_ble_eq_true rfl, Nat.le_of_ble_eq_true rfl⟩ dX1_fly_41) hG [5, 6] rfl rfl rfl (fun H locs hG => ?_)
        clear hz_6
        obtain ⟨k_loads_cells_7, hz_8, h⟩ := bd1_some h
        refine aft_v (ws' := (W_X1_X3 a0 a1 a2 a3 a4 a5 a6 a7 a8 cI cJ k_loads_cells_7 c_loads_filled c_order c_done c_start c_end o_stand o_home o_priceStart o_priceStep o_thrown_cells o_thrown_filled o_nets_cells o_nets_filled)) (run_V (rest := []) X hG hl.1 (mX5_set l dC dI cI cJ a1 a2 (7 : Int32) (10 : Int32) 70 c_loads_cells c_loads_filled x3 x4 r_5 hz_8) gi_V_X1_47 hd_V_yX5_set ⟨rfl, rfl⟩ rfl ⟨Nat.le_of_ble_eq_true rfl, Nat.le_of_ble_eq_true rfl⟩ [1, 2] (by decide) rfl 1 rfl rfl rfl rfl (Nat.le_of_ble_eq_true rfl) ⟨Nat.le_of_ble_eq_true rfl, Nat.le_of_ble_eq_true rfl⟩ dX1_fly_44) hG [1, 2] rfl rfl rfl (fun H locs hG => ?_)
        clear hz_8
        refine lv_iinc (v := (x4 + (1 : Int32))) (lv' := [(4, .int (x4 + (1 : Int32))), (0, .ref a0), (1, .ref a4), (2, .int x2), (3, .int x3)]) hx hb dX1_fly_47 hl (k := 4) rfl rfl (by decide) rfl (fun ls hl => ?_)
        refine lv_goto (tgt := 21) hx hb dX1_fly_50 (by decide) ?_
        exact KC _ _ (Option.some.inj h).symm _ _ _ (lv_sub hl [1, 2, 3, 4, 0] rfl) hG
  have L7 : ∀ (c_start : Int32) (c_end : Int32), ∀ (n : Nat) (x3 : Int32) (c_loads_cells : Nat → Int32) (c_order : Nat → Int32) (c_done : Int32) (ec_loads_cells : Nat → Int32) (ec_order : Nat → Int32) (ec_done : Int32), DX1_fly_L7 x2 o_thrown_cells o_thrown_filled n x3 c_loads_cells c_order c_done = some (ec_loads_cells, ec_order, ec_done) → (∀ (ls : Array Slot) (H : Heap) (locs : List Loc), lv_has ls 5 [(0, .ref a0), (1, .ref a4)] → G dC dI A H0 (W_X1_X3 a0 a1 a2 a3 a4 a5 a6 a7 a8 cI cJ ec_loads_cells c_loads_filled ec_order ec_done c_start c_end o_stand o_home o_priceStart o_priceStep o_thrown_cells o_thrown_filled o_nets_cells o_nets_filled) H locs → W p l e (RM 5 119) s m args below meth c H locs 0 0 QQ (F0 m 72 ls [])) → ∀ (ls : Array Slot) (H : Heap) (locs : List Loc), lv_has ls 5 [(0, .ref a0), (1, .ref a4), (2, .int x2), (3, .int x3)] → G dC dI A H0 (W_X1_X3 a0 a1 a2 a3 a4 a5 a6 a7 a8 cI cJ c_loads_cells c_loads_filled c_order c_done c_start c_end o_stand o_home o_priceStart o_priceStep o_thrown_cells o_thrown_filled o_nets_cells o_nets_filled) H locs → W p l e (RM 5 119) s m args below meth c H locs 0 0 QQ (F0 m 7 ls []) := by
    intro c_start c_end n
    induction n with
    | zero => intro x3 c_loads_cells c_order c_done ec_loads_cells ec_order ec_done h; exact it_zero h
    | succ n ih =>
      intro x3 c_loads_cells c_order c_done ec_loads_cells ec_order ec_done h0 K0 ls H locs hl hG
      obtain ⟨w, h, hi, hr⟩ := it_succ h0
      have h : DX1_fly_L7s x2 o_thrown_cells o_thrown_filled x3 c_loads_cells c_order c_done = some w := h
      have KC : ∀ (x3 : Int32) (c_loads_cells : Nat → Int32) (c_order : Nat → Int32) (c_done : Int32), w = .inl (x3, c_loads_cells, c_order, c_done) → ∀ (ls : Array Slot) (H : Heap) (locs : List Loc), lv_has ls 5 [(0, .ref a0), (1, .ref a4), (2, .int x2), (3, .int x3)] → G dC dI A H0 (W_X1_X3 a0 a1 a2 a3 a4 a5 a6 a7 a8 cI cJ c_loads_cells c_loads_filled c_order c_done c_start c_end o_stand o_home o_priceStart o_priceStep o_thrown_cells o_thrown_filled o_nets_cells o_nets_filled) H locs → W p l e (RM 5 119) s m args below meth c H locs 0 0 QQ (F0 m 7 ls []) := fun b0 b1 b2 b3 e ls H locs hl hG => ih b0 b1 b2 b3 ec_loads_cells ec_order ec_done (hi _ e) K0 ls H locs hl hG
      have KX : ∀ (c_loads_cells : Nat → Int32) (c_order : Nat → Int32) (c_done : Int32), w = .inr (c_loads_cells, c_order, c_done) → ∀ (ls : Array Slot) (H : Heap) (locs : List Loc), lv_has ls 5 [(0, .ref a0), (1, .ref a4)] → G dC dI A H0 (W_X1_X3 a0 a1 a2 a3 a4 a5 a6 a7 a8 cI cJ c_loads_cells c_loads_filled c_order c_done c_start c_end o_stand o_home o_priceStart o_priceStep o_thrown_cells o_thrown_filled o_nets_cells o_nets_filled) H locs → W p l e (RM 5 119) s m args below meth c H locs 0 0 QQ (F0 m 72 ls []) := fun b0 b1 b2 e ls H locs hl hG => by cases hr _ e; exact K0 ls H locs hl hG
      clear h0 hi hr K0 ih
      unfold DX1_fly_L7s at h
      refine lv_iload_n hx hb dX1_fly_7 rfl (lv_at hl 3 rfl) ?_
      refine lv_aload_n hx hb dX1_fly_8 rfl (lv_at hl 1 rfl) ?_
      refine r_getN X hG in_X3 rfl 4 (by decide) w_137 4 rfl rfl dX1_fly_9 ?_
      obtain ⟨r_1, hz_2, h⟩ := bd1_some h
      refine aft_i (ws' := (W_X1_X3 a0 a1 a2 a3 a4 a5 a6 a7 a8 cI cJ c_loads_cells c_loads_filled c_order c_done c_start c_end o_stand o_home o_priceStart o_priceStep o_thrown_cells o_thrown_filled o_nets_cells o_nets_filled)) (run_V (rest := [.int x3]) X hG hl.1 (mX5_rows l dC dI cI cJ a5 a6 (7 : Int32) (4 : Int32) 28 o_thrown_cells o_thrown_filled hz_2) gi_V_X1_39 hd_V_yX5_rows ⟨rfl, rfl⟩ rfl ⟨Nat.le_of_ble_eq_true rfl, Nat.le_of_ble_eq_true rfl⟩ [5, 6] (by decide) rfl 5 rfl rfl rfl rfl (Nat.le_of_ble_eq_true rfl) ⟨Nat.le_of_ble_eq_true rfl, Nat.le_of_ble_eq_true rfl⟩ dX1_fly_12) hG [5, 6] rfl rfl rfl (fun H locs hG => ?_)
      clear hz_2
      refine lv_icmp_ge (tgt := 72) hx hb dX1_fly_15 (by decide) (fun c_3 => ?_) (fun c_3 => ?_)
      · have h := ite_t h c_3
        exact KX _ _ _ (Option.some.inj h).symm _ _ _ (lv_sub hl [0, 1] rfl) hG
      · have h := ite_f h c_3
        refine lv_iconst (v := (0 : Int32)) hx hb dX1_fly_18 (by decide) ?_
        refine lv_istore (lv' := [(4, .int (0 : Int32)), (0, .ref a0), (1, .ref a4), (2, .int x2), (3, .int x3)]) hx hb dX1_fly_19 hl (by decide) rfl (fun ls hl => ?_)
        obtain ⟨k_loads_cells_9, hz, h⟩ := bd1_some h
        refine L21 x3 c_order c_done c_start c_end FU (0 : Int32) c_loads_cells _ hz (fun ls H locs hl hG => ?_) _ _ _ (lv_sub hl [1, 2, 3, 4, 0] rfl) hG
        clear hz
        refine lv_iload_n hx hb dX1_fly_53 rfl (lv_at hl 2 rfl) ?_
        refine lv_iload_n hx hb dX1_fly_54 rfl (lv_at hl 3 rfl) ?_
        refine lv_ishr hx hb dX1_fly_55 ?_
        refine lv_iconst (v := (1 : Int32)) hx hb dX1_fly_56 (by decide) ?_
        refine lv_iand hx hb dX1_fly_57 ?_
        refine lv_if_ne (tgt := 66) hx hb dX1_fly_58 (by decide) (fun c_10 => ?_) (fun c_10 => ?_)
        · have h := ite_f h c_10
          refine lv_iinc (v := (x3 + (1 : Int32))) (lv' := [(3, .int (x3 + (1 : Int32))), (0, .ref a0), (1, .ref a4), (2, .int x2)]) hx hb dX1_fly_66 hl (k := 3) rfl rfl (by decide) rfl (fun ls hl => ?_)
          refine lv_goto (tgt := 7) hx hb dX1_fly_69 (by decide) ?_
          exact KC _ _ _ _ (Option.some.inj h).symm _ _ _ (lv_sub hl [1, 2, 3, 0] rfl) hG
        · have h := ite_t h c_10
          refine lv_aload_n hx hb dX1_fly_61 rfl (lv_at hl 0 rfl) ?_
          refine lv_iload_n hx hb dX1_fly_62 rfl (lv_at hl 3 rfl) ?_
          obtain ⟨k_order_11, k_done_12, hz_13, h⟩ := bd2_some h
          refine aft_v (ws' := (W_X1_X3 a0 a1 a2 a3 a4 a5 a6 a7 a8 cI cJ k_loads_cells_9 c_loads_filled k_order_11 k_done_12 c_start c_end o_stand o_home o_priceStart o_priceStep o_thrown_cells o_thrown_filled o_nets_cells o_nets_filled)) (run_V (rest := []) X hG hl.1 (mX1_lineUp l dC dI cI cJ a0 a1 a2 a3 k_loads_cells_9 c_loads_filled c_order c_done c_start c_end x3 hz_13) gi_V_X1_51 hd_V_yX1_lineUp ⟨rfl, rfl⟩ rfl ⟨Nat.le_of_ble_eq_true rfl, Nat.le_of_ble_eq_true rfl⟩ [0, 1, 2, 3] (by decide) rfl 0 rfl rfl rfl rfl (Nat.le_of_ble_eq_true rfl) ⟨Nat.le_of_ble_eq_true rfl, Nat.le_of_ble_eq_true rfl⟩ dX1_fly_63) hG [0, 1, 2, 3] rfl rfl rfl (fun H locs hG => ?_)
          clear hz_13
          refine lv_iinc (v := (x3 + (1 : Int32))) (lv' := [(3, .int (x3 + (1 : Int32))), (0, .ref a0), (1, .ref a4), (2, .int x2)]) hx hb dX1_fly_66 hl (k := 3) rfl rfl (by decide) rfl (fun ls hl => ?_)
          refine lv_goto (tgt := 7) hx hb dX1_fly_69 (by decide) ?_
          exact KC _ _ _ _ (Option.some.inj h).symm _ _ _ (lv_sub hl [1, 2, 3, 0] rfl) hG
  have h := hD
  unfold DX1_fly at h
  clear hD
  refine lv_aload_n hx hb dX1_fly_0 rfl (lv_at hl 0 rfl) ?_
  refine lv_iconst (v := (0 : Int32)) hx hb dX1_fly_1 (by decide) ?_
  refine r_put X hG in_X1 rfl tyX1 tyX1_ok nmX1 2 (by decide) rfl (by decide +kernel) w_163 0 (ws' := (W_X1_X3 a0 a1 a2 a3 a4 a5 a6 a7 a8 cI cJ c_loads_cells c_loads_filled c_order (0 : Int32) c_start c_end o_stand o_home o_priceStart o_priceStep o_thrown_cells o_thrown_filled o_nets_cells o_nets_filled)) rfl (Nat.le_of_ble_eq_true rfl) rfl dX1_fly_2 (fun H locs hG => ?_)
  refine lv_iconst (v := (0 : Int32)) hx hb dX1_fly_5 (by decide) ?_
  refine lv_istore_n (lv' := [(3, .int (0 : Int32)), (0, .ref a0), (1, .ref a4), (2, .int x2)]) hx hb dX1_fly_6 rfl hl (by decide) rfl (fun ls hl => ?_)
  obtain ⟨k_loads_cells_14, k_order_15, k_done_16, hz, h⟩ := bd3_some h
  refine L7 c_start c_end FU (0 : Int32) c_loads_cells c_order (0 : Int32) _ _ _ hz (fun ls H locs hl hG => ?_) _ _ _ (lv_sub hl [1, 2, 3, 0] rfl) hG
  clear hz
  refine lv_aload_n hx hb dX1_fly_72 rfl (lv_at hl 0 rfl) ?_
  refine lv_aload_n hx hb dX1_fly_73 rfl (lv_at hl 1 rfl) ?_
  refine r_getN X hG in_X3 rfl 0 (by decide) w_128 4 rfl rfl dX1_fly_74 ?_
  obtain ⟨k_loads_cells_17, k_start_18, k_end_19, hz_20, h⟩ := bd3_some h
  refine aft_v (ws' := (W_X1_X3 a0 a1 a2 a3 a4 a5 a6 a7 a8 cI cJ k_loads_cells_17 c_loads_filled k_order_15 k_done_16 k_start_18 k_end_19 o_stand o_home o_priceStart o_priceStep o_thrown_cells o_thrown_filled o_nets_cells o_nets_filled)) (run_V (rest := []) X hG hl.1 (mX1_throwAll l dC dI cI cJ a0 a1 a2 a3 k_loads_cells_14 c_loads_filled k_order_15 k_done_16 c_start c_end o_stand hz_20) gi_V_X1_58 hd_V_yX1_throwAll ⟨rfl, rfl⟩ rfl ⟨Nat.le_of_ble_eq_true rfl, Nat.le_of_ble_eq_true rfl⟩ [0, 1, 2, 3] (by decide) rfl 0 rfl rfl rfl rfl (Nat.le_of_ble_eq_true rfl) ⟨Nat.le_of_ble_eq_true rfl, Nat.le_of_ble_eq_true rfl⟩ dX1_fly_77) hG [0, 1, 2, 3] rfl rfl rfl (fun H locs hG => ?_)
  clear hz_20
  refine lv_aload_n hx hb dX1_fly_80 rfl (lv_at hl 0 rfl) ?_
  refine lv_aload_n hx hb dX1_fly_81 rfl (lv_at hl 1 rfl) ?_
  refine r_getN X hG in_X3 rfl 1 (by decide) w_131 4 rfl rfl dX1_fly_82 ?_
  obtain ⟨k_loads_cells_21, hz_22, h⟩ := bd1_some h
  refine aft_v (ws' := (W_X1_X3 a0 a1 a2 a3 a4 a5 a6 a7 a8 cI cJ k_loads_cells_21 c_loads_filled k_order_15 k_done_16 k_start_18 k_end_19 o_stand o_home o_priceStart o_priceStep o_thrown_cells o_thrown_filled o_nets_cells o_nets_filled)) (run_V (rest := []) X hG hl.1 (mX1_meetAll l dC dI cI cJ a0 a1 a2 a3 k_loads_cells_17 c_loads_filled k_order_15 k_done_16 k_start_18 k_end_19 o_home hz_22) gi_V_X1_64 hd_V_yX1_meetAll ⟨rfl, rfl⟩ rfl ⟨Nat.le_of_ble_eq_true rfl, Nat.le_of_ble_eq_true rfl⟩ [0, 1, 2, 3] (by decide) rfl 0 rfl rfl rfl rfl (Nat.le_of_ble_eq_true rfl) ⟨Nat.le_of_ble_eq_true rfl, Nat.le_of_ble_eq_true rfl⟩ dX1_fly_85) hG [0, 1, 2, 3] rfl rfl rfl (fun H locs hG => ?_)
  clear hz_22
  refine lv_aload_n hx hb dX1_fly_88 rfl (lv_at hl 0 rfl) ?_
  refine lv_aload_n hx hb dX1_fly_89 rfl (lv_at hl 1 rfl) ?_
  obtain ⟨k_loads_cells_23, hz_24, h⟩ := bd1_some h
  refine aft_v1 (run_V1 (rest := []) X hG hl.1 (mX1_bringHome l dC dI cI cJ a0 a1 a2 a3 a4 a5 a6 a7 a8 k_loads_cells_21 c_loads_filled k_order_15 k_done_16 k_start_18 k_end_19 o_stand o_home o_priceStart o_priceStep o_thrown_cells o_thrown_filled o_nets_cells o_nets_filled hz_24) gi_V_X1_67 hd_V_yX1_bringHome ⟨rfl, rfl⟩ rfl ⟨Nat.le_of_ble_eq_true rfl, Nat.le_of_ble_eq_true rfl⟩ 0 rfl rfl rfl rfl (Nat.le_of_ble_eq_true rfl) ⟨Nat.le_of_ble_eq_true rfl, Nat.le_of_ble_eq_true rfl⟩ dX1_fly_90) hG rfl (fun H locs hG => ?_)
  clear hz_24
  cases h
  exact ret _ _ _ _ dX1_fly_93 hG
set_option maxRecDepth 100000 in
set_option maxHeartbeats 4000000 in
theorem mX1_known (l : Launch) (dC : Nat → ClassId) (dI : Nat → Nat → Nat) (cI cJ : ClassId) (a0 a1 a2 a3 : Nat) (c_loads_cells : Nat → Int32) (c_loads_filled : Int32) (c_order : Nat → Int32) (c_done : Int32) (c_start : Int32) (c_end : Int32) (x1 : Int32) (x2 : Int32) {res : Int32} (hD : DX1_known x1 x2 c_loads_cells = some res) : Met l yX1_known (WZ yX1_known cX1_known 3 (some .int)) (RM 1 23) (PC dC dI cI cJ [.ref a0, .int x1, .int x2] (W_X1 a0 a1 a2 a3 cI cJ c_loads_cells c_loads_filled c_order c_done c_start c_end)) (QI dC dI (W_X1 a0 a1 a2 a3 cI cJ c_loads_cells c_loads_filled c_order c_done c_start c_end) (W_X1 a0 a1 a2 a3 cI cJ c_loads_cells c_loads_filled c_order c_done c_start c_end) res) 0 0 (FA (W_X1 a0 a1 a2 a3 cI cJ c_loads_cells c_loads_filled c_order c_done c_start c_end)) := by
  refine r_metI (by decide +kernel) (Nat.le_of_ble_eq_true rfl) ?_
  intro p e s m args below meth c A H0 QQ X ret ls hl hG
  have X : Cx p m c cX1_known 3 s args RX1 dC dI cI cJ meth (some .int) := X
  have hx := X.1.1
  have hb := X.1.2.1
  have hl : lv_has ls 3 [(0, .ref a0), (1, .int x1), (2, .int x2)] := hl
  have h := hD
  unfold DX1_known at h
  clear hD
  refine lv_aload_n hx hb dX1_known_0 rfl (lv_at hl 0 rfl) ?_
  refine r_get X hG in_X1 rfl 0 (by decide) w_161 0 rfl rfl dX1_known_1 ?_
  refine lv_iload_n hx hb dX1_known_4 rfl (lv_at hl 1 rfl) ?_
  refine lv_iload_n hx hb dX1_known_5 rfl (lv_at hl 2 rfl) ?_
  obtain ⟨r_1, hz_2, h⟩ := bd1_some h
  refine aft_i (ws' := (W_X1 a0 a1 a2 a3 cI cJ c_loads_cells c_loads_filled c_order c_done c_start c_end)) (run_V (rest := []) X hG hl.1 (mX5_get l dC dI cI cJ a1 a2 (7 : Int32) (10 : Int32) 70 c_loads_cells c_loads_filled x1 x2 hz_2) gi_V_X1_43 hd_V_yX5_get ⟨rfl, rfl⟩ rfl ⟨Nat.le_of_ble_eq_true rfl, Nat.le_of_ble_eq_true rfl⟩ [1, 2] (by decide) rfl 1 rfl rfl rfl rfl (Nat.le_of_ble_eq_true rfl) ⟨Nat.le_of_ble_eq_true rfl, Nat.le_of_ble_eq_true rfl⟩ dX1_known_6) hG [1, 2] rfl rfl rfl (fun H locs hG => ?_)
  clear hz_2
  cases h
  exact ret _ _ _ _ dX1_known_9 hG
set_option maxRecDepth 100000 in
set_option maxHeartbeats 4000000 in
theorem mX1_farOn (l : Launch) (dC : Nat → ClassId) (dI : Nat → Nat → Nat) (cI cJ : ClassId) (a0 a1 a2 a3 : Nat) (c_loads_cells : Nat → Int32) (c_loads_filled : Int32) (c_order : Nat → Int32) (c_done : Int32) (c_start : Int32) (c_end : Int32) (x1 : Int32) (x2 : Int32) {res : Int32} (hD : DX1_farOn x1 x2 c_loads_cells = some res) : Met l yX1_farOn (WZ yX1_farOn cX1_farOn 5 (some .int)) (RM 1 23) (PC dC dI cI cJ [.ref a0, .int x1, .int x2] (W_X1 a0 a1 a2 a3 cI cJ c_loads_cells c_loads_filled c_order c_done c_start c_end)) (QI dC dI (W_X1 a0 a1 a2 a3 cI cJ c_loads_cells c_loads_filled c_order c_done c_start c_end) (W_X1 a0 a1 a2 a3 cI cJ c_loads_cells c_loads_filled c_order c_done c_start c_end) res) 0 0 (FA (W_X1 a0 a1 a2 a3 cI cJ c_loads_cells c_loads_filled c_order c_done c_start c_end)) := by
  refine r_metI (by decide +kernel) (Nat.le_of_ble_eq_true rfl) ?_
  intro p e s m args below meth c A H0 QQ X ret ls hl hG
  have X : Cx p m c cX1_farOn 5 s args RX1 dC dI cI cJ meth (some .int) := X
  have hx := X.1.1
  have hb := X.1.2.1
  have hl : lv_has ls 5 [(0, .ref a0), (1, .int x1), (2, .int x2)] := hl
  have J35 : ∀ (y0 : Int32) (x3 : Int32), DX1_farOn_J35 x1 c_loads_cells y0 x3 = some res → ∀ (ls : Array Slot) (H : Heap) (locs : List Loc), lv_has ls 5 [(0, .ref a0), (1, .int x1), (3, .int x3)] → G dC dI A H0 (W_X1 a0 a1 a2 a3 cI cJ c_loads_cells c_loads_filled c_order c_done c_start c_end) H locs → W p l e (RM 1 23) s m args below meth c H locs 0 0 QQ (F0 m 35 ls [.int y0]) := by
    intro y0 x3 h  ls H locs hl hG
    unfold DX1_farOn_J35 at h
    refine lv_istore (lv' := [(4, .int y0), (0, .ref a0), (1, .int x1), (3, .int x3)]) hx hb dX1_farOn_35 hl (by decide) rfl (fun ls hl => ?_)
    refine lv_iload hx hb dX1_farOn_37 (lv_at hl 0 rfl) ?_
    refine lv_if_eq (tgt := 56) hx hb dX1_farOn_39 (by decide) (fun c_4 => ?_) (fun c_4 => ?_)
    · have h := ite_t h c_4
      refine lv_bipush (v := (-4 : Int32)) hx hb dX1_farOn_56 (by decide) ?_
      cases h
      exact ret _ _ _ _ dX1_farOn_58 hG
    · have h := ite_f h c_4
      refine lv_iload_n hx hb dX1_farOn_42 rfl (lv_at hl 3 rfl) ?_
      refine lv_aload_n hx hb dX1_farOn_43 rfl (lv_at hl 1 rfl) ?_
      refine r_get X hG in_X1 rfl 0 (by decide) w_161 0 rfl rfl dX1_farOn_44 ?_
      refine lv_iload_n hx hb dX1_farOn_47 rfl (lv_at hl 2 rfl) ?_
      refine lv_iconst (v := (2 : Int32)) hx hb dX1_farOn_48 (by decide) ?_
      obtain ⟨r_5, hz_6, h⟩ := bd1_some h
      refine aft_i (ws' := (W_X1 a0 a1 a2 a3 cI cJ c_loads_cells c_loads_filled c_order c_done c_start c_end)) (run_V (rest := [.int x3]) X hG hl.1 (mX5_get l dC dI cI cJ a1 a2 (7 : Int32) (10 : Int32) 70 c_loads_cells c_loads_filled x1 (2 : Int32) hz_6) gi_V_X1_43 hd_V_yX5_get ⟨rfl, rfl⟩ rfl ⟨Nat.le_of_ble_eq_true rfl, Nat.le_of_ble_eq_true rfl⟩ [1, 2] (by decide) rfl 1 rfl rfl rfl rfl (Nat.le_of_ble_eq_true rfl) ⟨Nat.le_of_ble_eq_true rfl, Nat.le_of_ble_eq_true rfl⟩ dX1_farOn_49) hG [1, 2] rfl rfl rfl (fun H locs hG => ?_)
      clear hz_6
      refine lv_imul hx hb dX1_farOn_52 ?_
      refine lv_goto (tgt := 58) hx hb dX1_farOn_53 (by decide) ?_
      cases h
      exact ret _ _ _ _ dX1_farOn_58 hG
  have h := hD
  unfold DX1_farOn at h
  clear hD
  refine lv_iload_n hx hb dX1_farOn_0 rfl (lv_at hl 2 rfl) ?_
  refine lv_aload_n hx hb dX1_farOn_1 rfl (lv_at hl 0 rfl) ?_
  refine r_get X hG in_X1 rfl 0 (by decide) w_161 0 rfl rfl dX1_farOn_2 ?_
  refine lv_iload_n hx hb dX1_farOn_5 rfl (lv_at hl 1 rfl) ?_
  refine lv_iconst (v := (0 : Int32)) hx hb dX1_farOn_6 (by decide) ?_
  obtain ⟨r_1, hz_2, h⟩ := bd1_some h
  refine aft_i (ws' := (W_X1 a0 a1 a2 a3 cI cJ c_loads_cells c_loads_filled c_order c_done c_start c_end)) (run_V (rest := [.int x2]) X hG hl.1 (mX5_get l dC dI cI cJ a1 a2 (7 : Int32) (10 : Int32) 70 c_loads_cells c_loads_filled x1 (0 : Int32) hz_2) gi_V_X1_43 hd_V_yX5_get ⟨rfl, rfl⟩ rfl ⟨Nat.le_of_ble_eq_true rfl, Nat.le_of_ble_eq_true rfl⟩ [1, 2] (by decide) rfl 1 rfl rfl rfl rfl (Nat.le_of_ble_eq_true rfl) ⟨Nat.le_of_ble_eq_true rfl, Nat.le_of_ble_eq_true rfl⟩ dX1_farOn_7) hG [1, 2] rfl rfl rfl (fun H locs hG => ?_)
  clear hz_2
  refine lv_isub hx hb dX1_farOn_10 ?_
  refine lv_istore_n (lv' := [(3, .int (x2 - r_1)), (0, .ref a0), (1, .int x1), (2, .int x2)]) hx hb dX1_farOn_11 rfl hl (by decide) rfl (fun ls hl => ?_)
  refine lv_iload_n hx hb dX1_farOn_12 rfl (lv_at hl 0 rfl) ?_
  refine lv_if_lt (tgt := 34) hx hb dX1_farOn_13 (by decide) (fun c_3 => ?_) (fun c_3 => ?_)
  · have h := ite_t h c_3
    refine lv_iconst (v := (0 : Int32)) hx hb dX1_farOn_34 (by decide) ?_
    exact J35 (0 : Int32) (x2 - r_1)  h  _ _ _ (lv_sub hl [1, 2, 0] rfl) hG
  · have h := ite_f h c_3
    refine lv_iload_n hx hb dX1_farOn_16 rfl (lv_at hl 3 rfl) ?_
    refine lv_aload_n hx hb dX1_farOn_17 rfl (lv_at hl 1 rfl) ?_
    refine r_get X hG in_X1 rfl 0 (by decide) w_161 0 rfl rfl dX1_farOn_18 ?_
    refine lv_iload_n hx hb dX1_farOn_21 rfl (lv_at hl 2 rfl) ?_
    refine lv_bipush (v := (7 : Int32)) hx hb dX1_farOn_22 (by decide) ?_
    obtain ⟨r_7, hz_8, h⟩ := bd1_some h
    refine aft_i (ws' := (W_X1 a0 a1 a2 a3 cI cJ c_loads_cells c_loads_filled c_order c_done c_start c_end)) (run_V (rest := [.int x2]) X hG hl.1 (mX5_get l dC dI cI cJ a1 a2 (7 : Int32) (10 : Int32) 70 c_loads_cells c_loads_filled x1 (7 : Int32) hz_8) gi_V_X1_43 hd_V_yX5_get ⟨rfl, rfl⟩ rfl ⟨Nat.le_of_ble_eq_true rfl, Nat.le_of_ble_eq_true rfl⟩ [1, 2] (by decide) rfl 1 rfl rfl rfl rfl (Nat.le_of_ble_eq_true rfl) ⟨Nat.le_of_ble_eq_true rfl, Nat.le_of_ble_eq_true rfl⟩ dX1_farOn_24) hG [1, 2] rfl rfl rfl (fun H locs hG => ?_)
    clear hz_8
    refine lv_icmp_ge (tgt := 34) hx hb dX1_farOn_27 (by decide) (fun c_9 => ?_) (fun c_9 => ?_)
    · have h := ite_t h c_9
      refine lv_iconst (v := (0 : Int32)) hx hb dX1_farOn_34 (by decide) ?_
      exact J35 (0 : Int32) (x2 - r_1)  h  _ _ _ (lv_sub hl [1, 2, 0] rfl) hG
    · have h := ite_f h c_9
      refine lv_iconst (v := (1 : Int32)) hx hb dX1_farOn_30 (by decide) ?_
      refine lv_goto (tgt := 35) hx hb dX1_farOn_31 (by decide) ?_
      exact J35 (1 : Int32) (x2 - r_1)  h  _ _ _ (lv_sub hl [1, 2, 0] rfl) hG
set_option maxRecDepth 100000 in
set_option maxHeartbeats 4000000 in
theorem mX1_standBehind (l : Launch) (dC : Nat → ClassId) (dI : Nat → Nat → Nat) (cI cJ : ClassId) (a0 a1 a2 a3 : Nat) (c_loads_cells : Nat → Int32) (c_loads_filled : Int32) (c_order : Nat → Int32) (c_done : Int32) (c_start : Int32) (c_end : Int32) (x1 : Int32) {res : Int32} (hD : DX1_standBehind x1 c_loads_cells c_order c_done c_start = some res) : Met l yX1_standBehind (WZ yX1_standBehind cX1_standBehind 5 (some .int)) (RM 1 23) (PC dC dI cI cJ [.ref a0, .int x1] (W_X1 a0 a1 a2 a3 cI cJ c_loads_cells c_loads_filled c_order c_done c_start c_end)) (QI dC dI (W_X1 a0 a1 a2 a3 cI cJ c_loads_cells c_loads_filled c_order c_done c_start c_end) (W_X1 a0 a1 a2 a3 cI cJ c_loads_cells c_loads_filled c_order c_done c_start c_end) res) 0 0 (FA (W_X1 a0 a1 a2 a3 cI cJ c_loads_cells c_loads_filled c_order c_done c_start c_end)) := by
  refine r_metI (by decide +kernel) (Nat.le_of_ble_eq_true rfl) ?_
  intro p e s m args below meth c A H0 QQ X ret ls hl hG
  have X : Cx p m c cX1_standBehind 5 s args RX1 dC dI cI cJ meth (some .int) := X
  have hx := X.1.1
  have hb := X.1.2.1
  have hl : lv_has ls 5 [(0, .ref a0), (1, .int x1)] := hl
  have L7 : ∀ (n : Nat) (x2 : Int32) (x3 : Int32) (ex2 : Int32), DX1_standBehind_L7 x1 c_loads_cells c_order c_done n x2 x3 = some ex2 → (∀ (ls : Array Slot) (H : Heap) (locs : List Loc), lv_has ls 5 [(2, .int ex2)] → G dC dI A H0 (W_X1 a0 a1 a2 a3 cI cJ c_loads_cells c_loads_filled c_order c_done c_start c_end) H locs → W p l e (RM 1 23) s m args below meth c H locs 0 0 QQ (F0 m 56 ls [])) → ∀ (ls : Array Slot) (H : Heap) (locs : List Loc), lv_has ls 5 [(0, .ref a0), (1, .int x1), (2, .int x2), (3, .int x3)] → G dC dI A H0 (W_X1 a0 a1 a2 a3 cI cJ c_loads_cells c_loads_filled c_order c_done c_start c_end) H locs → W p l e (RM 1 23) s m args below meth c H locs 0 0 QQ (F0 m 7 ls []) := by
    intro  n
    induction n with
    | zero => intro x2 x3 ex2 h; exact it_zero h
    | succ n ih =>
      intro x2 x3 ex2 h0 K0 ls H locs hl hG
      obtain ⟨w, h, hi, hr⟩ := it_succ h0
      have h : DX1_standBehind_L7s x1 c_loads_cells c_order c_done x2 x3 = some w := h
      have KC : ∀ (x2 : Int32) (x3 : Int32), w = .inl (x2, x3) → ∀ (ls : Array Slot) (H : Heap) (locs : List Loc), lv_has ls 5 [(0, .ref a0), (1, .int x1), (2, .int x2), (3, .int x3)] → G dC dI A H0 (W_X1 a0 a1 a2 a3 cI cJ c_loads_cells c_loads_filled c_order c_done c_start c_end) H locs → W p l e (RM 1 23) s m args below meth c H locs 0 0 QQ (F0 m 7 ls []) := fun b0 b1 e ls H locs hl hG => ih b0 b1 ex2 (hi _ e) K0 ls H locs hl hG
      have KX : ∀ (x2 : Int32), w = .inr x2 → ∀ (ls : Array Slot) (H : Heap) (locs : List Loc), lv_has ls 5 [(2, .int x2)] → G dC dI A H0 (W_X1 a0 a1 a2 a3 cI cJ c_loads_cells c_loads_filled c_order c_done c_start c_end) H locs → W p l e (RM 1 23) s m args below meth c H locs 0 0 QQ (F0 m 56 ls []) := fun b0 e ls H locs hl hG => by cases hr _ e; exact K0 ls H locs hl hG
      clear h0 hi hr K0 ih
      unfold DX1_standBehind_L7s at h
      refine lv_iload_n hx hb dX1_standBehind_7 rfl (lv_at hl 3 rfl) ?_
      refine lv_aload_n hx hb dX1_standBehind_8 rfl (lv_at hl 0 rfl) ?_
      refine r_get X hG in_X1 rfl 2 (by decide) w_163 0 rfl rfl dX1_standBehind_9 ?_
      refine lv_icmp_ge (tgt := 56) hx hb dX1_standBehind_12 (by decide) (fun c_1 => ?_) (fun c_1 => ?_)
      · have h := ite_t h c_1
        exact KX _ (Option.some.inj h).symm _ _ _ (lv_sub hl [2] rfl) hG
      · have h := ite_f h c_1
        refine lv_aload_n hx hb dX1_standBehind_15 rfl (lv_at hl 0 rfl) ?_
        refine r_get X hG in_X1 rfl 1 (by decide) w_162 0 rfl rfl dX1_standBehind_16 ?_
        refine lv_iload_n hx hb dX1_standBehind_19 rfl (lv_at hl 3 rfl) ?_
        obtain ⟨r_2, hz_3, h⟩ := bd1_some h
        refine aft_i (ws' := (W_X1 a0 a1 a2 a3 cI cJ c_loads_cells c_loads_filled c_order c_done c_start c_end)) (run_SN (rest := []) X hG hl.1 (mX8_at l dC dI cI cJ a3 7 c_order x3 hz_3) gi_N_yX8_at w_384 w_296 w_41 hd_S_yX8_at ⟨rfl, rfl⟩ rfl ⟨Nat.le_of_ble_eq_true rfl, Nat.le_of_ble_eq_true rfl⟩ [3] (by decide) rfl rfl (Nat.le_of_ble_eq_true rfl) ⟨Nat.le_of_ble_eq_true rfl, Nat.le_of_ble_eq_true rfl⟩ dX1_standBehind_20) hG [3] rfl rfl rfl (fun H locs hG => ?_)
        clear hz_3
        refine lv_istore (lv' := [(4, .int r_2), (0, .ref a0), (1, .int x1), (2, .int x2), (3, .int x3)]) hx hb dX1_standBehind_23 hl (by decide) rfl (fun ls hl => ?_)
        refine lv_aload_n hx hb dX1_standBehind_25 rfl (lv_at hl 1 rfl) ?_
        refine r_get X hG in_X1 rfl 0 (by decide) w_161 0 rfl rfl dX1_standBehind_26 ?_
        refine lv_iload hx hb dX1_standBehind_29 (lv_at hl 0 rfl) ?_
        refine lv_iconst (v := (0 : Int32)) hx hb dX1_standBehind_31 (by decide) ?_
        obtain ⟨r_4, hz_5, h⟩ := bd1_some h
        refine aft_i (ws' := (W_X1 a0 a1 a2 a3 cI cJ c_loads_cells c_loads_filled c_order c_done c_start c_end)) (run_V (rest := []) X hG hl.1 (mX5_get l dC dI cI cJ a1 a2 (7 : Int32) (10 : Int32) 70 c_loads_cells c_loads_filled r_2 (0 : Int32) hz_5) gi_V_X1_43 hd_V_yX5_get ⟨rfl, rfl⟩ rfl ⟨Nat.le_of_ble_eq_true rfl, Nat.le_of_ble_eq_true rfl⟩ [1, 2] (by decide) rfl 1 rfl rfl rfl rfl (Nat.le_of_ble_eq_true rfl) ⟨Nat.le_of_ble_eq_true rfl, Nat.le_of_ble_eq_true rfl⟩ dX1_standBehind_32) hG [1, 2] rfl rfl rfl (fun H locs hG => ?_)
        clear hz_5
        refine lv_iload_n hx hb dX1_standBehind_35 rfl (lv_at hl 2 rfl) ?_
        refine lv_icmp_gt (tgt := 50) hx hb dX1_standBehind_36 (by decide) (fun c_6 => ?_) (fun c_6 => ?_)
        · have h := ite_t h c_6
          refine lv_iinc (v := (x3 + (1 : Int32))) (lv' := [(3, .int (x3 + (1 : Int32))), (4, .int r_2), (0, .ref a0), (1, .int x1), (2, .int x2)]) hx hb dX1_standBehind_50 hl (k := 4) rfl rfl (by decide) rfl (fun ls hl => ?_)
          refine lv_goto (tgt := 7) hx hb dX1_standBehind_53 (by decide) ?_
          exact KC _ _ (Option.some.inj h).symm _ _ _ (lv_sub hl [2, 3, 4, 0] rfl) hG
        · have h := ite_f h c_6
          refine lv_aload_n hx hb dX1_standBehind_39 rfl (lv_at hl 1 rfl) ?_
          refine r_get X hG in_X1 rfl 0 (by decide) w_161 0 rfl rfl dX1_standBehind_40 ?_
          refine lv_iload hx hb dX1_standBehind_43 (lv_at hl 0 rfl) ?_
          refine lv_iconst (v := (5 : Int32)) hx hb dX1_standBehind_45 (by decide) ?_
          obtain ⟨r_7, hz_8, h⟩ := bd1_some h
          refine aft_i (ws' := (W_X1 a0 a1 a2 a3 cI cJ c_loads_cells c_loads_filled c_order c_done c_start c_end)) (run_V (rest := []) X hG hl.1 (mX5_get l dC dI cI cJ a1 a2 (7 : Int32) (10 : Int32) 70 c_loads_cells c_loads_filled r_2 (5 : Int32) hz_8) gi_V_X1_43 hd_V_yX5_get ⟨rfl, rfl⟩ rfl ⟨Nat.le_of_ble_eq_true rfl, Nat.le_of_ble_eq_true rfl⟩ [1, 2] (by decide) rfl 1 rfl rfl rfl rfl (Nat.le_of_ble_eq_true rfl) ⟨Nat.le_of_ble_eq_true rfl, Nat.le_of_ble_eq_true rfl⟩ dX1_standBehind_46) hG [1, 2] rfl rfl rfl (fun H locs hG => ?_)
          clear hz_8
          refine lv_istore_n (lv' := [(2, .int r_7), (4, .int r_2), (0, .ref a0), (1, .int x1), (3, .int x3)]) hx hb dX1_standBehind_49 rfl hl (by decide) rfl (fun ls hl => ?_)
          refine lv_iinc (v := (x3 + (1 : Int32))) (lv' := [(3, .int (x3 + (1 : Int32))), (2, .int r_7), (4, .int r_2), (0, .ref a0), (1, .int x1)]) hx hb dX1_standBehind_50 hl (k := 4) rfl rfl (by decide) rfl (fun ls hl => ?_)
          refine lv_goto (tgt := 7) hx hb dX1_standBehind_53 (by decide) ?_
          exact KC _ _ (Option.some.inj h).symm _ _ _ (lv_sub hl [3, 4, 1, 0] rfl) hG
  have h := hD
  unfold DX1_standBehind at h
  clear hD
  refine lv_aload_n hx hb dX1_standBehind_0 rfl (lv_at hl 0 rfl) ?_
  refine r_get X hG in_X1 rfl 3 (by decide) w_164 0 rfl rfl dX1_standBehind_1 ?_
  refine lv_istore_n (lv' := [(2, .int c_start), (0, .ref a0), (1, .int x1)]) hx hb dX1_standBehind_4 rfl hl (by decide) rfl (fun ls hl => ?_)
  refine lv_iconst (v := (0 : Int32)) hx hb dX1_standBehind_5 (by decide) ?_
  refine lv_istore_n (lv' := [(3, .int (0 : Int32)), (2, .int c_start), (0, .ref a0), (1, .int x1)]) hx hb dX1_standBehind_6 rfl hl (by decide) rfl (fun ls hl => ?_)
  obtain ⟨z2_9, hz, h⟩ := bd1_some h
  refine L7  FU c_start (0 : Int32) _ hz (fun ls H locs hl hG => ?_) _ _ _ (lv_sub hl [2, 3, 1, 0] rfl) hG
  clear hz
  refine lv_iload_n hx hb dX1_standBehind_56 rfl (lv_at hl 0 rfl) ?_
  cases h
  exact ret _ _ _ _ dX1_standBehind_57 hG
set_option maxRecDepth 100000 in
set_option maxHeartbeats 4000000 in
theorem mX1_howMany (l : Launch) (dC : Nat → ClassId) (dI : Nat → Nat → Nat) (cI cJ : ClassId) (a0 a1 a2 a3 : Nat) (c_loads_cells : Nat → Int32) (c_loads_filled : Int32) (c_order : Nat → Int32) (c_done : Int32) (c_start : Int32) (c_end : Int32) (x1 : Int32) {res : Int32} (hD : DX1_howMany x1 c_loads_cells c_order c_done = some res) : Met l yX1_howMany (WZ yX1_howMany cX1_howMany 4 (some .int)) (RM 1 23) (PC dC dI cI cJ [.ref a0, .int x1] (W_X1 a0 a1 a2 a3 cI cJ c_loads_cells c_loads_filled c_order c_done c_start c_end)) (QI dC dI (W_X1 a0 a1 a2 a3 cI cJ c_loads_cells c_loads_filled c_order c_done c_start c_end) (W_X1 a0 a1 a2 a3 cI cJ c_loads_cells c_loads_filled c_order c_done c_start c_end) res) 0 0 (FA (W_X1 a0 a1 a2 a3 cI cJ c_loads_cells c_loads_filled c_order c_done c_start c_end)) := by
  refine r_metI (by decide +kernel) (Nat.le_of_ble_eq_true rfl) ?_
  intro p e s m args below meth c A H0 QQ X ret ls hl hG
  have X : Cx p m c cX1_howMany 4 s args RX1 dC dI cI cJ meth (some .int) := X
  have hx := X.1.1
  have hb := X.1.2.1
  have hl : lv_has ls 4 [(0, .ref a0), (1, .int x1)] := hl
  have L4 : ∀ (n : Nat) (x2 : Int32) (x3 : Int32) (ex2 : Int32), DX1_howMany_L4 x1 c_loads_cells c_order c_done n x2 x3 = some ex2 → (∀ (ls : Array Slot) (H : Heap) (locs : List Loc), lv_has ls 4 [(2, .int ex2)] → G dC dI A H0 (W_X1 a0 a1 a2 a3 cI cJ c_loads_cells c_loads_filled c_order c_done c_start c_end) H locs → W p l e (RM 1 23) s m args below meth c H locs 0 0 QQ (F0 m 42 ls [])) → ∀ (ls : Array Slot) (H : Heap) (locs : List Loc), lv_has ls 4 [(0, .ref a0), (1, .int x1), (2, .int x2), (3, .int x3)] → G dC dI A H0 (W_X1 a0 a1 a2 a3 cI cJ c_loads_cells c_loads_filled c_order c_done c_start c_end) H locs → W p l e (RM 1 23) s m args below meth c H locs 0 0 QQ (F0 m 4 ls []) := by
    intro  n
    induction n with
    | zero => intro x2 x3 ex2 h; exact it_zero h
    | succ n ih =>
      intro x2 x3 ex2 h0 K0 ls H locs hl hG
      obtain ⟨w, h, hi, hr⟩ := it_succ h0
      have h : DX1_howMany_L4s x1 c_loads_cells c_order c_done x2 x3 = some w := h
      have KC : ∀ (x2 : Int32) (x3 : Int32), w = .inl (x2, x3) → ∀ (ls : Array Slot) (H : Heap) (locs : List Loc), lv_has ls 4 [(0, .ref a0), (1, .int x1), (2, .int x2), (3, .int x3)] → G dC dI A H0 (W_X1 a0 a1 a2 a3 cI cJ c_loads_cells c_loads_filled c_order c_done c_start c_end) H locs → W p l e (RM 1 23) s m args below meth c H locs 0 0 QQ (F0 m 4 ls []) := fun b0 b1 e ls H locs hl hG => ih b0 b1 ex2 (hi _ e) K0 ls H locs hl hG
      have KX : ∀ (x2 : Int32), w = .inr x2 → ∀ (ls : Array Slot) (H : Heap) (locs : List Loc), lv_has ls 4 [(2, .int x2)] → G dC dI A H0 (W_X1 a0 a1 a2 a3 cI cJ c_loads_cells c_loads_filled c_order c_done c_start c_end) H locs → W p l e (RM 1 23) s m args below meth c H locs 0 0 QQ (F0 m 42 ls []) := fun b0 e ls H locs hl hG => by cases hr _ e; exact K0 ls H locs hl hG
      clear h0 hi hr K0 ih
      unfold DX1_howMany_L4s at h
      refine lv_iload_n hx hb dX1_howMany_4 rfl (lv_at hl 3 rfl) ?_
      refine lv_aload_n hx hb dX1_howMany_5 rfl (lv_at hl 0 rfl) ?_
      refine r_get X hG in_X1 rfl 2 (by decide) w_163 0 rfl rfl dX1_howMany_6 ?_
      refine lv_icmp_ge (tgt := 42) hx hb dX1_howMany_9 (by decide) (fun c_1 => ?_) (fun c_1 => ?_)
      · have h := ite_t h c_1
        exact KX _ (Option.some.inj h).symm _ _ _ (lv_sub hl [2] rfl) hG
      · have h := ite_f h c_1
        refine lv_aload_n hx hb dX1_howMany_12 rfl (lv_at hl 0 rfl) ?_
        refine r_get X hG in_X1 rfl 0 (by decide) w_161 0 rfl rfl dX1_howMany_13 ?_
        refine lv_aload_n hx hb dX1_howMany_16 rfl (lv_at hl 0 rfl) ?_
        refine r_get X hG in_X1 rfl 1 (by decide) w_162 0 rfl rfl dX1_howMany_17 ?_
        refine lv_iload_n hx hb dX1_howMany_20 rfl (lv_at hl 3 rfl) ?_
        obtain ⟨r_2, hz_3, h⟩ := bd1_some h
        refine aft_i (ws' := (W_X1 a0 a1 a2 a3 cI cJ c_loads_cells c_loads_filled c_order c_done c_start c_end)) (run_SN (rest := [.ref a1]) X hG hl.1 (mX8_at l dC dI cI cJ a3 7 c_order x3 hz_3) gi_N_yX8_at w_384 w_296 w_41 hd_S_yX8_at ⟨rfl, rfl⟩ rfl ⟨Nat.le_of_ble_eq_true rfl, Nat.le_of_ble_eq_true rfl⟩ [3] (by decide) rfl rfl (Nat.le_of_ble_eq_true rfl) ⟨Nat.le_of_ble_eq_true rfl, Nat.le_of_ble_eq_true rfl⟩ dX1_howMany_21) hG [3] rfl rfl rfl (fun H locs hG => ?_)
        clear hz_3
        refine lv_bipush (v := (6 : Int32)) hx hb dX1_howMany_24 (by decide) ?_
        obtain ⟨r_4, hz_5, h⟩ := bd1_some h
        refine aft_i (ws' := (W_X1 a0 a1 a2 a3 cI cJ c_loads_cells c_loads_filled c_order c_done c_start c_end)) (run_V (rest := []) X hG hl.1 (mX5_get l dC dI cI cJ a1 a2 (7 : Int32) (10 : Int32) 70 c_loads_cells c_loads_filled r_2 (6 : Int32) hz_5) gi_V_X1_43 hd_V_yX5_get ⟨rfl, rfl⟩ rfl ⟨Nat.le_of_ble_eq_true rfl, Nat.le_of_ble_eq_true rfl⟩ [1, 2] (by decide) rfl 1 rfl rfl rfl rfl (Nat.le_of_ble_eq_true rfl) ⟨Nat.le_of_ble_eq_true rfl, Nat.le_of_ble_eq_true rfl⟩ dX1_howMany_26) hG [1, 2] rfl rfl rfl (fun H locs hG => ?_)
        clear hz_5
        refine lv_iload_n hx hb dX1_howMany_29 rfl (lv_at hl 1 rfl) ?_
        refine lv_icmp_ne (tgt := 36) hx hb dX1_howMany_30 (by decide) (fun c_6 => ?_) (fun c_6 => ?_)
        · have h := ite_f h c_6
          refine lv_iinc (v := (x3 + (1 : Int32))) (lv' := [(3, .int (x3 + (1 : Int32))), (0, .ref a0), (1, .int x1), (2, .int x2)]) hx hb dX1_howMany_36 hl (k := 3) rfl rfl (by decide) rfl (fun ls hl => ?_)
          refine lv_goto (tgt := 4) hx hb dX1_howMany_39 (by decide) ?_
          exact KC _ _ (Option.some.inj h).symm _ _ _ (lv_sub hl [1, 2, 3, 0] rfl) hG
        · have h := ite_t h c_6
          refine lv_iinc (v := (x2 + (1 : Int32))) (lv' := [(2, .int (x2 + (1 : Int32))), (0, .ref a0), (1, .int x1), (3, .int x3)]) hx hb dX1_howMany_33 hl (k := 2) rfl rfl (by decide) rfl (fun ls hl => ?_)
          refine lv_iinc (v := (x3 + (1 : Int32))) (lv' := [(3, .int (x3 + (1 : Int32))), (2, .int (x2 + (1 : Int32))), (0, .ref a0), (1, .int x1)]) hx hb dX1_howMany_36 hl (k := 3) rfl rfl (by decide) rfl (fun ls hl => ?_)
          refine lv_goto (tgt := 4) hx hb dX1_howMany_39 (by decide) ?_
          exact KC _ _ (Option.some.inj h).symm _ _ _ (lv_sub hl [2, 3, 1, 0] rfl) hG
  have h := hD
  unfold DX1_howMany at h
  clear hD
  refine lv_iconst (v := (0 : Int32)) hx hb dX1_howMany_0 (by decide) ?_
  refine lv_istore_n (lv' := [(2, .int (0 : Int32)), (0, .ref a0), (1, .int x1)]) hx hb dX1_howMany_1 rfl hl (by decide) rfl (fun ls hl => ?_)
  refine lv_iconst (v := (0 : Int32)) hx hb dX1_howMany_2 (by decide) ?_
  refine lv_istore_n (lv' := [(3, .int (0 : Int32)), (2, .int (0 : Int32)), (0, .ref a0), (1, .int x1)]) hx hb dX1_howMany_3 rfl hl (by decide) rfl (fun ls hl => ?_)
  obtain ⟨z2_7, hz, h⟩ := bd1_some h
  refine L4  FU (0 : Int32) (0 : Int32) _ hz (fun ls H locs hl hG => ?_) _ _ _ (lv_sub hl [2, 3, 1, 0] rfl) hG
  clear hz
  refine lv_iload_n hx hb dX1_howMany_42 rfl (lv_at hl 0 rfl) ?_
  cases h
  exact ret _ _ _ _ dX1_howMany_43 hG
