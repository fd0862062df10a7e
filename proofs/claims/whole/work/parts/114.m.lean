/-! CONTRACTS, laid by wip/gen/lay.py: yX9_speed, yX9_undo, yX9_bestAim, yX9_bestDay, yX9_net, yX9_bits -/
set_option maxRecDepth 100000 in
set_option maxHeartbeats 4000000 in
theorem mX9_speed (l : Launch) (dC : Nat → ClassId) (dI : Nat → Nat → Nat) (cI cJ : ClassId) (a : Nat → Nat) (c_length : Int32) (c_text : Nat → Int32) (c_stands : Nat → Int32) (c_homeFar : Nat → Int32) (c_nets : Nat → Int32) (c_netAt : Nat → Int32) (c_netWide : Nat → Int32) (c_netFrom : Nat → Int32) (c_netTo : Nat → Int32) (c_priceX : Nat → Int32) (c_priceY : Nat → Int32) (c_many : Nat → Int32) (c_days : Nat → Int32) (c_aims : Nat → Int32) (c_speeds : Nat → Int32) (c_kinds : Nat → Int32) (c_keptMany : Int32) (c_undoMany : Int32) (c_undos : Nat → Int32) (c_spot : Int32) (c_told : Nat → Int32) (c_to : Nat → Int32) (c_stood : Nat → Int32) (c_home : Nat → Int32) (c_lost : Nat → Int32) (c_out : Int32) (c_fewest : Nat → Int32) (c_ways : Nat → Int64) (c_next : Nat → Int64) (c_held : Nat → Int32) (x1 : Int32) (x2 : Int32) {res : Int32} {n_speeds : Nat → Int32} {n_undoMany : Int32} {n_undos : Nat → Int32} (hD : DX9_speed x1 x2 c_many c_speeds c_undoMany c_undos = some (res, n_speeds, n_undoMany, n_undos)) : Met l yX9_speed (WZ yX9_speed cX9_speed 4 (some .int)) (RM 2 46) (PC dC dI cI cJ [.ref (a 0), .int x1, .int x2] (W_X9 a cI cJ c_length c_text c_stands c_homeFar c_nets c_netAt c_netWide c_netFrom c_netTo c_priceX c_priceY c_many c_days c_aims c_speeds c_kinds c_keptMany c_undoMany c_undos c_spot c_told c_to c_stood c_home c_lost c_out c_fewest c_ways c_next c_held)) (QI dC dI (W_X9 a cI cJ c_length c_text c_stands c_homeFar c_nets c_netAt c_netWide c_netFrom c_netTo c_priceX c_priceY c_many c_days c_aims c_speeds c_kinds c_keptMany c_undoMany c_undos c_spot c_told c_to c_stood c_home c_lost c_out c_fewest c_ways c_next c_held) (W_X9 a cI cJ c_length c_text c_stands c_homeFar c_nets c_netAt c_netWide c_netFrom c_netTo c_priceX c_priceY c_many c_days c_aims n_speeds c_kinds c_keptMany n_undoMany n_undos c_spot c_told c_to c_stood c_home c_lost c_out c_fewest c_ways c_next c_held) res) 0 0 (FA (W_X9 a cI cJ c_length c_text c_stands c_homeFar c_nets c_netAt c_netWide c_netFrom c_netTo c_priceX c_priceY c_many c_days c_aims c_speeds c_kinds c_keptMany c_undoMany c_undos c_spot c_told c_to c_stood c_home c_lost c_out c_fewest c_ways c_next c_held)) := by
  refine r_metI (by decide +kernel) (Nat.le_of_ble_eq_true rfl) ?_
  intro p e s m args below meth c A H0 QQ X ret ls hl hG
  have X : Cx p m c cX9_speed 4 s args RX9 dC dI cI cJ meth (some .int) := X
  have hx := X.1.1
  have hb := X.1.2.1
  have hl : lv_has ls 4 [(0, .ref (a 0)), (1, .int x1), (2, .int x2)] := hl
  have h := hD
  unfold DX9_speed at h
  clear hD
  refine lv_aload_n hx hb dX9_speed_0 rfl (lv_at hl 0 rfl) ?_
  refine lv_iload_n hx hb dX9_speed_1 rfl (lv_at hl 1 rfl) ?_
  obtain ⟨r_1, hz_2, h⟩ := bd1_some h
  refine aft_i1 (run_V1 (rest := []) X hG hl.1 (mX9_isThrow l dC dI cI cJ a c_length c_text c_stands c_homeFar c_nets c_netAt c_netWide c_netFrom c_netTo c_priceX c_priceY c_many c_days c_aims c_speeds c_kinds c_keptMany c_undoMany c_undos c_spot c_told c_to c_stood c_home c_lost c_out c_fewest c_ways c_next c_held x1 hz_2) gi_V_X9_182 hd_V_yX9_isThrow ⟨rfl, rfl⟩ rfl ⟨Nat.le_of_ble_eq_true rfl, Nat.le_of_ble_eq_true rfl⟩ 0 rfl rfl rfl rfl (Nat.le_of_ble_eq_true rfl) ⟨Nat.le_of_ble_eq_true rfl, Nat.le_of_ble_eq_true rfl⟩ dX9_speed_2) hG rfl (fun H locs hG => ?_)
  clear hz_2
  refine lv_if_eq (tgt := 20) hx hb dX9_speed_5 (by decide) (fun c_3 => ?_) (fun c_3 => ?_)
  · have h := ite_t h c_3
    refine lv_iconst (v := (-1 : Int32)) hx hb dX9_speed_20 (by decide) ?_
    cases h
    exact ret _ _ _ _ dX9_speed_21 hG
  · have h := ite_f h c_3
    refine lv_iload_n hx hb dX9_speed_8 rfl (lv_at hl 2 rfl) ?_
    refine lv_i2l (v := (x2.toInt64)) hx hb dX9_speed_9 rfl ?_
    refine lv_lconst (v := (1 : Int64)) hx hb dX9_speed_10 (by decide) ?_
    refine lv_ldc2 (v := (6 : Int64)) hx hb X.1.2.2.2.1 (X.1.2.2.2.2 _ w_760) dX9_speed_11 ?_
    obtain ⟨r_4, hz_5, h⟩ := bd1_some h
    refine aft_i (ws' := (W_X9 a cI cJ c_length c_text c_stands c_homeFar c_nets c_netAt c_netWide c_netFrom c_netTo c_priceX c_priceY c_many c_days c_aims c_speeds c_kinds c_keptMany c_undoMany c_undos c_spot c_told c_to c_stood c_home c_lost c_out c_fewest c_ways c_next c_held)) (run_S (rest := []) X hG hl.1 (mX9_in l dC dI cI cJ (x2.toInt64) (1 : Int64) (6 : Int64) hz_5) gi_S_X9_92 hd_S_yX9_in ⟨rfl, rfl⟩ rfl ⟨Nat.le_of_ble_eq_true rfl, Nat.le_of_ble_eq_true rfl⟩ [] (by decide) rfl rfl (Nat.le_of_ble_eq_true rfl) ⟨Nat.le_of_ble_eq_true rfl, Nat.le_of_ble_eq_true rfl⟩ dX9_speed_14) hG [] rfl rfl rfl (fun H locs hG => ?_)
    clear hz_5
    refine lv_if_ne (tgt := 22) hx hb dX9_speed_17 (by decide) (fun c_6 => ?_) (fun c_6 => ?_)
    · have h := ite_f h c_6
      refine lv_aload_n hx hb dX9_speed_22 rfl (lv_at hl 0 rfl) ?_
      refine lv_iconst (v := (2 : Int32)) hx hb dX9_speed_23 (by decide) ?_
      refine lv_iload_n hx hb dX9_speed_24 rfl (lv_at hl 1 rfl) ?_
      refine lv_aload_n hx hb dX9_speed_25 rfl (lv_at hl 0 rfl) ?_
      refine r_get X hG in_X9 rfl 14 (by decide) w_645 0 rfl rfl dX9_speed_26 ?_
      refine lv_iload_n hx hb dX9_speed_29 rfl (lv_at hl 1 rfl) ?_
      obtain ⟨g_7, h⟩ := gd h
      refine r_iald X hG 14 rfl g_7 dX9_speed_30 ?_
      obtain ⟨r_8, k_undoMany_9, k_undos_10, hz_11, h⟩ := bd3_some h
      refine aft_i1 (run_V1 (rest := []) X hG hl.1 (mX9_note l dC dI cI cJ a c_length c_text c_stands c_homeFar c_nets c_netAt c_netWide c_netFrom c_netTo c_priceX c_priceY c_many c_days c_aims c_speeds c_kinds c_keptMany c_undoMany c_undos c_spot c_told c_to c_stood c_home c_lost c_out c_fewest c_ways c_next c_held (2 : Int32) x1 (c_speeds x1.toNatClampNeg) hz_11) gi_V_X9_206 hd_V_yX9_note ⟨rfl, rfl⟩ rfl ⟨Nat.le_of_ble_eq_true rfl, Nat.le_of_ble_eq_true rfl⟩ 0 rfl rfl rfl rfl (Nat.le_of_ble_eq_true rfl) ⟨Nat.le_of_ble_eq_true rfl, Nat.le_of_ble_eq_true rfl⟩ dX9_speed_31) hG rfl (fun H locs hG => ?_)
      clear hz_11
      refine lv_istore_n (lv' := [(3, .int r_8), (0, .ref (a 0)), (1, .int x1), (2, .int x2)]) hx hb dX9_speed_34 rfl hl (by decide) rfl (fun ls hl => ?_)
      refine lv_aload_n hx hb dX9_speed_35 rfl (lv_at hl 1 rfl) ?_
      refine r_get X hG in_X9 rfl 14 (by decide) w_645 0 rfl rfl dX9_speed_36 ?_
      refine lv_iload_n hx hb dX9_speed_39 rfl (lv_at hl 2 rfl) ?_
      refine lv_iload_n hx hb dX9_speed_40 rfl (lv_at hl 3 rfl) ?_
      obtain ⟨g_12, h⟩ := gd h
      refine r_iast X hG 14 (ws' := (W_X9 a cI cJ c_length c_text c_stands c_homeFar c_nets c_netAt c_netWide c_netFrom c_netTo c_priceX c_priceY c_many c_days c_aims (upd c_speeds x1.toNatClampNeg x2) c_kinds c_keptMany k_undoMany_9 k_undos_10 c_spot c_told c_to c_stood c_home c_lost c_out c_fewest c_ways c_next c_held)) rfl g_12 rfl dX9_speed_41 (fun H locs hG => ?_)
      refine lv_iload_n hx hb dX9_speed_42 rfl (lv_at hl 0 rfl) ?_
      cases h
      exact ret _ _ _ _ dX9_speed_43 hG
    · have h := ite_t h c_6
      refine lv_iconst (v := (-1 : Int32)) hx hb dX9_speed_20 (by decide) ?_
      cases h
      exact ret _ _ _ _ dX9_speed_21 hG
set_option maxRecDepth 100000 in
set_option maxHeartbeats 4000000 in
theorem mX9_undo (l : Launch) (dC : Nat → ClassId) (dI : Nat → Nat → Nat) (cI cJ : ClassId) (a : Nat → Nat) (c_length : Int32) (c_text : Nat → Int32) (c_stands : Nat → Int32) (c_homeFar : Nat → Int32) (c_nets : Nat → Int32) (c_netAt : Nat → Int32) (c_netWide : Nat → Int32) (c_netFrom : Nat → Int32) (c_netTo : Nat → Int32) (c_priceX : Nat → Int32) (c_priceY : Nat → Int32) (c_many : Nat → Int32) (c_days : Nat → Int32) (c_aims : Nat → Int32) (c_speeds : Nat → Int32) (c_kinds : Nat → Int32) (c_keptMany : Int32) (c_undoMany : Int32) (c_undos : Nat → Int32) (c_spot : Int32) (c_told : Nat → Int32) (c_to : Nat → Int32) (c_stood : Nat → Int32) (c_home : Nat → Int32) (c_lost : Nat → Int32) (c_out : Int32) (c_fewest : Nat → Int32) (c_ways : Nat → Int64) (c_next : Nat → Int64) (c_held : Nat → Int32) {res : Int32} {n_days : Nat → Int32} {n_aims : Nat → Int32} {n_speeds : Nat → Int32} {n_undoMany : Int32} (hD : DX9_undo c_days c_aims c_speeds c_undoMany c_undos = some (res, n_days, n_aims, n_speeds, n_undoMany)) : Met l yX9_undo (WZ yX9_undo cX9_undo 4 (some .int)) (RM 0 0) (PC dC dI cI cJ [.ref (a 0)] (W_X9 a cI cJ c_length c_text c_stands c_homeFar c_nets c_netAt c_netWide c_netFrom c_netTo c_priceX c_priceY c_many c_days c_aims c_speeds c_kinds c_keptMany c_undoMany c_undos c_spot c_told c_to c_stood c_home c_lost c_out c_fewest c_ways c_next c_held)) (QI dC dI (W_X9 a cI cJ c_length c_text c_stands c_homeFar c_nets c_netAt c_netWide c_netFrom c_netTo c_priceX c_priceY c_many c_days c_aims c_speeds c_kinds c_keptMany c_undoMany c_undos c_spot c_told c_to c_stood c_home c_lost c_out c_fewest c_ways c_next c_held) (W_X9 a cI cJ c_length c_text c_stands c_homeFar c_nets c_netAt c_netWide c_netFrom c_netTo c_priceX c_priceY c_many n_days n_aims n_speeds c_kinds c_keptMany n_undoMany c_undos c_spot c_told c_to c_stood c_home c_lost c_out c_fewest c_ways c_next c_held) res) 0 0 (FA (W_X9 a cI cJ c_length c_text c_stands c_homeFar c_nets c_netAt c_netWide c_netFrom c_netTo c_priceX c_priceY c_many c_days c_aims c_speeds c_kinds c_keptMany c_undoMany c_undos c_spot c_told c_to c_stood c_home c_lost c_out c_fewest c_ways c_next c_held)) := by
  refine r_metI (by decide +kernel) (Nat.le_of_ble_eq_true rfl) ?_
  intro p e s m args below meth c A H0 QQ X ret ls hl hG
  have X : Cx p m c cX9_undo 4 s args RX9 dC dI cI cJ meth (some .int) := X
  have hx := X.1.1
  have hb := X.1.2.1
  have hl : lv_has ls 4 [(0, .ref (a 0))] := hl
  have h := hD
  unfold DX9_undo at h
  clear hD
  refine lv_aload_n hx hb dX9_undo_0 rfl (lv_at hl 0 rfl) ?_
  refine r_get X hG in_X9 rfl 17 (by decide) w_648 0 rfl rfl dX9_undo_1 ?_
  refine lv_if_ne (tgt := 10) hx hb dX9_undo_4 (by decide) (fun c_1 => ?_) (fun c_1 => ?_)
  · have h := ite_f h c_1
    refine lv_aload_n hx hb dX9_undo_10 rfl (lv_at hl 0 rfl) ?_
    refine lv_dup hx hb dX9_undo_11 rfl ?_
    refine r_get X hG in_X9 rfl 17 (by decide) w_648 0 rfl rfl dX9_undo_12 ?_
    refine lv_iconst (v := (1 : Int32)) hx hb dX9_undo_15 (by decide) ?_
    refine lv_isub hx hb dX9_undo_16 ?_
    refine r_put X hG in_X9 rfl tyX9 tyX9_ok nmX9 17 (by decide) rfl (by decide +kernel) w_648 0 (ws' := (W_X9 a cI cJ c_length c_text c_stands c_homeFar c_nets c_netAt c_netWide c_netFrom c_netTo c_priceX c_priceY c_many c_days c_aims c_speeds c_kinds c_keptMany (c_undoMany - (1 : Int32)) c_undos c_spot c_told c_to c_stood c_home c_lost c_out c_fewest c_ways c_next c_held)) rfl (Nat.le_of_ble_eq_true rfl) rfl dX9_undo_17 (fun H locs hG => ?_)
    refine lv_aload_n hx hb dX9_undo_20 rfl (lv_at hl 0 rfl) ?_
    refine r_get X hG in_X9 rfl 18 (by decide) w_649 0 rfl rfl dX9_undo_21 ?_
    refine lv_iconst (v := (3 : Int32)) hx hb dX9_undo_24 (by decide) ?_
    refine lv_aload_n hx hb dX9_undo_25 rfl (lv_at hl 0 rfl) ?_
    refine r_get X hG in_X9 rfl 17 (by decide) w_648 0 rfl rfl dX9_undo_26 ?_
    refine lv_imul hx hb dX9_undo_29 ?_
    obtain ⟨g_2, h⟩ := gd h
    refine r_iald X hG 16 rfl g_2 dX9_undo_30 ?_
    refine lv_istore_n (lv' := [(1, .int (c_undos ((3 : Int32) * (c_undoMany - (1 : Int32))).toNatClampNeg)), (0, .ref (a 0))]) hx hb dX9_undo_31 rfl hl (by decide) rfl (fun ls hl => ?_)
    refine lv_aload_n hx hb dX9_undo_32 rfl (lv_at hl 1 rfl) ?_
    refine r_get X hG in_X9 rfl 18 (by decide) w_649 0 rfl rfl dX9_undo_33 ?_
    refine lv_iconst (v := (3 : Int32)) hx hb dX9_undo_36 (by decide) ?_
    refine lv_aload_n hx hb dX9_undo_37 rfl (lv_at hl 1 rfl) ?_
    refine r_get X hG in_X9 rfl 17 (by decide) w_648 0 rfl rfl dX9_undo_38 ?_
    refine lv_imul hx hb dX9_undo_41 ?_
    refine lv_iconst (v := (1 : Int32)) hx hb dX9_undo_42 (by decide) ?_
    refine lv_iadd hx hb dX9_undo_43 ?_
    obtain ⟨g_3, h⟩ := gd h
    refine r_iald X hG 16 rfl g_3 dX9_undo_44 ?_
    refine lv_istore_n (lv' := [(2, .int (c_undos (((3 : Int32) * (c_undoMany - (1 : Int32))) + (1 : Int32)).toNatClampNeg)), (1, .int (c_undos ((3 : Int32) * (c_undoMany - (1 : Int32))).toNatClampNeg)), (0, .ref (a 0))]) hx hb dX9_undo_45 rfl hl (by decide) rfl (fun ls hl => ?_)
    refine lv_aload_n hx hb dX9_undo_46 rfl (lv_at hl 2 rfl) ?_
    refine r_get X hG in_X9 rfl 18 (by decide) w_649 0 rfl rfl dX9_undo_47 ?_
    refine lv_iconst (v := (3 : Int32)) hx hb dX9_undo_50 (by decide) ?_
    refine lv_aload_n hx hb dX9_undo_51 rfl (lv_at hl 2 rfl) ?_
    refine r_get X hG in_X9 rfl 17 (by decide) w_648 0 rfl rfl dX9_undo_52 ?_
    refine lv_imul hx hb dX9_undo_55 ?_
    refine lv_iconst (v := (2 : Int32)) hx hb dX9_undo_56 (by decide) ?_
    refine lv_iadd hx hb dX9_undo_57 ?_
    obtain ⟨g_4, h⟩ := gd h
    refine r_iald X hG 16 rfl g_4 dX9_undo_58 ?_
    refine lv_istore_n (lv' := [(3, .int (c_undos (((3 : Int32) * (c_undoMany - (1 : Int32))) + (2 : Int32)).toNatClampNeg)), (2, .int (c_undos (((3 : Int32) * (c_undoMany - (1 : Int32))) + (1 : Int32)).toNatClampNeg)), (1, .int (c_undos ((3 : Int32) * (c_undoMany - (1 : Int32))).toNatClampNeg)), (0, .ref (a 0))]) hx hb dX9_undo_59 rfl hl (by decide) rfl (fun ls hl => ?_)
    refine lv_iload_n hx hb dX9_undo_60 rfl (lv_at hl 2 rfl) ?_
    refine lv_if_ne (tgt := 74) hx hb dX9_undo_61 (by decide) (fun c_5 => ?_) (fun c_5 => ?_)
    · have h := ite_f h c_5
      refine lv_iload_n hx hb dX9_undo_74 rfl (lv_at hl 2 rfl) ?_
      refine lv_iconst (v := (1 : Int32)) hx hb dX9_undo_75 (by decide) ?_
      refine lv_icmp_ne (tgt := 89) hx hb dX9_undo_76 (by decide) (fun c_6 => ?_) (fun c_6 => ?_)
      · have h := ite_f h c_6
        refine lv_aload_n hx hb dX9_undo_89 rfl (lv_at hl 3 rfl) ?_
        refine r_get X hG in_X9 rfl 14 (by decide) w_645 0 rfl rfl dX9_undo_90 ?_
        refine lv_iload_n hx hb dX9_undo_93 rfl (lv_at hl 1 rfl) ?_
        refine lv_iload_n hx hb dX9_undo_94 rfl (lv_at hl 0 rfl) ?_
        obtain ⟨g_7, h⟩ := gd h
        refine r_iast X hG 14 (ws' := (W_X9 a cI cJ c_length c_text c_stands c_homeFar c_nets c_netAt c_netWide c_netFrom c_netTo c_priceX c_priceY c_many c_days c_aims (upd c_speeds (c_undos (((3 : Int32) * (c_undoMany - (1 : Int32))) + (1 : Int32)).toNatClampNeg).toNatClampNeg (c_undos (((3 : Int32) * (c_undoMany - (1 : Int32))) + (2 : Int32)).toNatClampNeg)) c_kinds c_keptMany (c_undoMany - (1 : Int32)) c_undos c_spot c_told c_to c_stood c_home c_lost c_out c_fewest c_ways c_next c_held)) rfl g_7 rfl dX9_undo_95 (fun H locs hG => ?_)
        refine lv_aload_n hx hb dX9_undo_96 rfl (lv_at hl 3 rfl) ?_
        refine r_get X hG in_X9 rfl 17 (by decide) w_648 0 rfl rfl dX9_undo_97 ?_
        cases h
        exact ret _ _ _ _ dX9_undo_100 hG
      · have h := ite_t h c_6
        refine lv_aload_n hx hb dX9_undo_79 rfl (lv_at hl 3 rfl) ?_
        refine r_get X hG in_X9 rfl 12 (by decide) w_643 0 rfl rfl dX9_undo_80 ?_
        refine lv_iload_n hx hb dX9_undo_83 rfl (lv_at hl 1 rfl) ?_
        refine lv_iload_n hx hb dX9_undo_84 rfl (lv_at hl 0 rfl) ?_
        obtain ⟨g_8, h⟩ := gd h
        refine r_iast X hG 12 (ws' := (W_X9 a cI cJ c_length c_text c_stands c_homeFar c_nets c_netAt c_netWide c_netFrom c_netTo c_priceX c_priceY c_many (upd c_days (c_undos (((3 : Int32) * (c_undoMany - (1 : Int32))) + (1 : Int32)).toNatClampNeg).toNatClampNeg (c_undos (((3 : Int32) * (c_undoMany - (1 : Int32))) + (2 : Int32)).toNatClampNeg)) c_aims c_speeds c_kinds c_keptMany (c_undoMany - (1 : Int32)) c_undos c_spot c_told c_to c_stood c_home c_lost c_out c_fewest c_ways c_next c_held)) rfl g_8 rfl dX9_undo_85 (fun H locs hG => ?_)
        refine lv_goto (tgt := 96) hx hb dX9_undo_86 (by decide) ?_
        refine lv_aload_n hx hb dX9_undo_96 rfl (lv_at hl 3 rfl) ?_
        refine r_get X hG in_X9 rfl 17 (by decide) w_648 0 rfl rfl dX9_undo_97 ?_
        cases h
        exact ret _ _ _ _ dX9_undo_100 hG
    · have h := ite_t h c_5
      refine lv_aload_n hx hb dX9_undo_64 rfl (lv_at hl 3 rfl) ?_
      refine r_get X hG in_X9 rfl 13 (by decide) w_644 0 rfl rfl dX9_undo_65 ?_
      refine lv_iload_n hx hb dX9_undo_68 rfl (lv_at hl 1 rfl) ?_
      refine lv_iload_n hx hb dX9_undo_69 rfl (lv_at hl 0 rfl) ?_
      obtain ⟨g_9, h⟩ := gd h
      refine r_iast X hG 13 (ws' := (W_X9 a cI cJ c_length c_text c_stands c_homeFar c_nets c_netAt c_netWide c_netFrom c_netTo c_priceX c_priceY c_many c_days (upd c_aims (c_undos (((3 : Int32) * (c_undoMany - (1 : Int32))) + (1 : Int32)).toNatClampNeg).toNatClampNeg (c_undos (((3 : Int32) * (c_undoMany - (1 : Int32))) + (2 : Int32)).toNatClampNeg)) c_speeds c_kinds c_keptMany (c_undoMany - (1 : Int32)) c_undos c_spot c_told c_to c_stood c_home c_lost c_out c_fewest c_ways c_next c_held)) rfl g_9 rfl dX9_undo_70 (fun H locs hG => ?_)
      refine lv_goto (tgt := 96) hx hb dX9_undo_71 (by decide) ?_
      refine lv_aload_n hx hb dX9_undo_96 rfl (lv_at hl 3 rfl) ?_
      refine r_get X hG in_X9 rfl 17 (by decide) w_648 0 rfl rfl dX9_undo_97 ?_
      cases h
      exact ret _ _ _ _ dX9_undo_100 hG
  · have h := ite_t h c_1
    refine lv_bipush (v := (-2 : Int32)) hx hb dX9_undo_7 (by decide) ?_
    cases h
    exact ret _ _ _ _ dX9_undo_9 hG
set_option maxRecDepth 100000 in
set_option maxHeartbeats 4000000 in
theorem mX9_bestAim (l : Launch) (dC : Nat → ClassId) (dI : Nat → Nat → Nat) (cI cJ : ClassId) (a : Nat → Nat) (c_length : Int32) (c_text : Nat → Int32) (c_stands : Nat → Int32) (c_homeFar : Nat → Int32) (c_nets : Nat → Int32) (c_netAt : Nat → Int32) (c_netWide : Nat → Int32) (c_netFrom : Nat → Int32) (c_netTo : Nat → Int32) (c_priceX : Nat → Int32) (c_priceY : Nat → Int32) (c_many : Nat → Int32) (c_days : Nat → Int32) (c_aims : Nat → Int32) (c_speeds : Nat → Int32) (c_kinds : Nat → Int32) (c_keptMany : Int32) (c_undoMany : Int32) (c_undos : Nat → Int32) (c_spot : Int32) (c_told : Nat → Int32) (c_to : Nat → Int32) (c_stood : Nat → Int32) (c_home : Nat → Int32) (c_lost : Nat → Int32) (c_out : Int32) (c_fewest : Nat → Int32) (c_ways : Nat → Int64) (c_next : Nat → Int64) (c_held : Nat → Int32) (x1 : Int32) (x2 : Int32) {res : Int32} {n_aims : Nat → Int32} {n_to : Nat → Int32} {n_stood : Nat → Int32} {n_home : Nat → Int32} {n_lost : Nat → Int32} {n_out : Int32} (hD : DX9_bestAim x1 x2 c_stands c_homeFar c_nets c_netAt c_netWide c_netFrom c_netTo c_many c_days c_aims c_speeds c_kinds c_to c_stood c_home c_lost c_out = some (res, n_aims, n_to, n_stood, n_home, n_lost, n_out)) : Met l yX9_bestAim (WZ yX9_bestAim cX9_bestAim 8 (some .int)) (RM 5 109) (PC dC dI cI cJ [.ref (a 0), .int x1, .int x2] (W_X9 a cI cJ c_length c_text c_stands c_homeFar c_nets c_netAt c_netWide c_netFrom c_netTo c_priceX c_priceY c_many c_days c_aims c_speeds c_kinds c_keptMany c_undoMany c_undos c_spot c_told c_to c_stood c_home c_lost c_out c_fewest c_ways c_next c_held)) (QI dC dI (W_X9 a cI cJ c_length c_text c_stands c_homeFar c_nets c_netAt c_netWide c_netFrom c_netTo c_priceX c_priceY c_many c_days c_aims c_speeds c_kinds c_keptMany c_undoMany c_undos c_spot c_told c_to c_stood c_home c_lost c_out c_fewest c_ways c_next c_held) (W_X9 a cI cJ c_length c_text c_stands c_homeFar c_nets c_netAt c_netWide c_netFrom c_netTo c_priceX c_priceY c_many c_days n_aims c_speeds c_kinds c_keptMany c_undoMany c_undos c_spot c_told n_to n_stood n_home n_lost n_out c_fewest c_ways c_next c_held) res) 0 0 (FA (W_X9 a cI cJ c_length c_text c_stands c_homeFar c_nets c_netAt c_netWide c_netFrom c_netTo c_priceX c_priceY c_many c_days c_aims c_speeds c_kinds c_keptMany c_undoMany c_undos c_spot c_told c_to c_stood c_home c_lost c_out c_fewest c_ways c_next c_held)) := by
  refine r_metI (by decide +kernel) (Nat.le_of_ble_eq_true rfl) ?_
  intro p e s m args below meth c A H0 QQ X ret ls hl hG
  have X : Cx p m c cX9_bestAim 8 s args RX9 dC dI cI cJ meth (some .int) := X
  have hx := X.1.1
  have hb := X.1.2.1
  have hl : lv_has ls 8 [(0, .ref (a 0)), (1, .int x1), (2, .int x2)] := hl
  have J78 : ∀ (y0 : Int32) (x3 : Int32) (x5 : Int32) (x6 : Int32) (x7 : Int32) (c_aims : Nat → Int32) (c_to : Nat → Int32) (c_stood : Nat → Int32) (c_home : Nat → Int32) (c_lost : Nat → Int32) (c_out : Int32), ∀ (w : (Int32 × Int32 × Int32 × (Nat → Int32) × (Nat → Int32) × (Nat → Int32) × (Nat → Int32) × (Nat → Int32) × Int32) ⊕ (Int32 × Int32 × (Nat → Int32) × (Nat → Int32) × (Nat → Int32) × (Nat → Int32) × (Nat → Int32) × Int32)), DX9_bestAim_J78 c_aims c_to c_stood c_home c_lost c_out y0 x5 x6 x7 = some w → (∀ (x4 : Int32) (x5 : Int32) (x6 : Int32) (c_aims : Nat → Int32) (c_to : Nat → Int32) (c_stood : Nat → Int32) (c_home : Nat → Int32) (c_lost : Nat → Int32) (c_out : Int32), w = .inl (x4, x5, x6, c_aims, c_to, c_stood, c_home, c_lost, c_out) → ∀ (ls : Array Slot) (H : Heap) (locs : List Loc), lv_has ls 8 [(0, .ref (a 0)), (1, .int x1), (2, .int x2), (3, .int x3), (4, .int x4), (5, .int x5), (6, .int x6)] → G dC dI A H0 (W_X9 a cI cJ c_length c_text c_stands c_homeFar c_nets c_netAt c_netWide c_netFrom c_netTo c_priceX c_priceY c_many c_days c_aims c_speeds c_kinds c_keptMany c_undoMany c_undos c_spot c_told c_to c_stood c_home c_lost c_out c_fewest c_ways c_next c_held) H locs → W p l e (RM 5 109) s m args below meth c H locs 0 0 QQ (F0 m 37 ls [])) → (∀ (x4 : Int32) (x5 : Int32) (c_aims : Nat → Int32) (c_to : Nat → Int32) (c_stood : Nat → Int32) (c_home : Nat → Int32) (c_lost : Nat → Int32) (c_out : Int32), w = .inr (x4, x5, c_aims, c_to, c_stood, c_home, c_lost, c_out) → ∀ (ls : Array Slot) (H : Heap) (locs : List Loc), lv_has ls 8 [(0, .ref (a 0)), (1, .int x1), (2, .int x2), (3, .int x3), (4, .int x4), (5, .int x5)] → G dC dI A H0 (W_X9 a cI cJ c_length c_text c_stands c_homeFar c_nets c_netAt c_netWide c_netFrom c_netTo c_priceX c_priceY c_many c_days c_aims c_speeds c_kinds c_keptMany c_undoMany c_undos c_spot c_told c_to c_stood c_home c_lost c_out c_fewest c_ways c_next c_held) H locs → W p l e (RM 5 109) s m args below meth c H locs 0 0 QQ (F0 m 102 ls [])) → ∀ (ls : Array Slot) (H : Heap) (locs : List Loc), lv_has ls 8 [(0, .ref (a 0)), (1, .int x1), (2, .int x2), (3, .int x3), (5, .int x5), (6, .int x6), (7, .int x7)] → G dC dI A H0 (W_X9 a cI cJ c_length c_text c_stands c_homeFar c_nets c_netAt c_netWide c_netFrom c_netTo c_priceX c_priceY c_many c_days c_aims c_speeds c_kinds c_keptMany c_undoMany c_undos c_spot c_told c_to c_stood c_home c_lost c_out c_fewest c_ways c_next c_held) H locs → W p l e (RM 5 109) s m args below meth c H locs 0 0 QQ (F0 m 78 ls [.int y0]) := by
    intro y0 x3 x5 x6 x7 c_aims c_to c_stood c_home c_lost c_out w h KC KX ls H locs hl hG
    unfold DX9_bestAim_J78 at h
    refine lv_istore (lv' := [(4, .int y0), (0, .ref (a 0)), (1, .int x1), (2, .int x2), (3, .int x3), (5, .int x5), (6, .int x6), (7, .int x7)]) hx hb dX9_bestAim_78 hl (by decide) rfl (fun ls hl => ?_)
    refine lv_iload hx hb dX9_bestAim_80 (lv_at hl 7 rfl) ?_
    refine lv_iload hx hb dX9_bestAim_82 (lv_at hl 5 rfl) ?_
    refine lv_icmp_le (tgt := 92) hx hb dX9_bestAim_84 (by decide) (fun c_19 => ?_) (fun c_19 => ?_)
    · have h := ite_t h c_19
      refine lv_iload hx hb dX9_bestAim_92 (lv_at hl 5 rfl) ?_
      refine lv_istore (lv' := [(5, .int x5), (4, .int y0), (0, .ref (a 0)), (1, .int x1), (2, .int x2), (3, .int x3), (6, .int x6), (7, .int x7)]) hx hb dX9_bestAim_94 hl (by decide) rfl (fun ls hl => ?_)
      refine lv_iinc (v := (x6 + (1 : Int32))) (lv' := [(6, .int (x6 + (1 : Int32))), (5, .int x5), (4, .int y0), (0, .ref (a 0)), (1, .int x1), (2, .int x2), (3, .int x3), (7, .int x7)]) hx hb dX9_bestAim_96 hl (k := 6) rfl rfl (by decide) rfl (fun ls hl => ?_)
      refine lv_goto (tgt := 37) hx hb dX9_bestAim_99 (by decide) ?_
      exact KC _ _ _ _ _ _ _ _ _ (Option.some.inj h).symm _ _ _ (lv_sub hl [3, 4, 5, 6, 2, 1, 0] rfl) hG
    · have h := ite_f h c_19
      refine lv_iload hx hb dX9_bestAim_87 (lv_at hl 7 rfl) ?_
      refine lv_goto (tgt := 94) hx hb dX9_bestAim_89 (by decide) ?_
      refine lv_istore (lv' := [(5, .int x7), (4, .int y0), (0, .ref (a 0)), (1, .int x1), (2, .int x2), (3, .int x3), (6, .int x6), (7, .int x7)]) hx hb dX9_bestAim_94 hl (by decide) rfl (fun ls hl => ?_)
      refine lv_iinc (v := (x6 + (1 : Int32))) (lv' := [(6, .int (x6 + (1 : Int32))), (5, .int x7), (4, .int y0), (0, .ref (a 0)), (1, .int x1), (2, .int x2), (3, .int x3), (7, .int x7)]) hx hb dX9_bestAim_96 hl (k := 6) rfl rfl (by decide) rfl (fun ls hl => ?_)
      refine lv_goto (tgt := 37) hx hb dX9_bestAim_99 (by decide) ?_
      exact KC _ _ _ _ _ _ _ _ _ (Option.some.inj h).symm _ _ _ (lv_sub hl [3, 4, 5, 6, 2, 1, 0] rfl) hG
  have L37 : ∀ (x3 : Int32), ∀ (n : Nat) (x4 : Int32) (x5 : Int32) (x6 : Int32) (c_aims : Nat → Int32) (c_to : Nat → Int32) (c_stood : Nat → Int32) (c_home : Nat → Int32) (c_lost : Nat → Int32) (c_out : Int32) (ex4 : Int32) (ex5 : Int32) (ec_aims : Nat → Int32) (ec_to : Nat → Int32) (ec_stood : Nat → Int32) (ec_home : Nat → Int32) (ec_lost : Nat → Int32) (ec_out : Int32), DX9_bestAim_L37 x1 c_stands c_homeFar c_nets c_netAt c_netWide c_netFrom c_netTo c_many c_days c_speeds c_kinds n x4 x5 x6 c_aims c_to c_stood c_home c_lost c_out = some (ex4, ex5, ec_aims, ec_to, ec_stood, ec_home, ec_lost, ec_out) → (∀ (ls : Array Slot) (H : Heap) (locs : List Loc), lv_has ls 8 [(0, .ref (a 0)), (1, .int x1), (2, .int x2), (3, .int x3), (4, .int ex4), (5, .int ex5)] → G dC dI A H0 (W_X9 a cI cJ c_length c_text c_stands c_homeFar c_nets c_netAt c_netWide c_netFrom c_netTo c_priceX c_priceY c_many c_days ec_aims c_speeds c_kinds c_keptMany c_undoMany c_undos c_spot c_told ec_to ec_stood ec_home ec_lost ec_out c_fewest c_ways c_next c_held) H locs → W p l e (RM 5 109) s m args below meth c H locs 0 0 QQ (F0 m 102 ls [])) → ∀ (ls : Array Slot) (H : Heap) (locs : List Loc), lv_has ls 8 [(0, .ref (a 0)), (1, .int x1), (2, .int x2), (3, .int x3), (4, .int x4), (5, .int x5), (6, .int x6)] → G dC dI A H0 (W_X9 a cI cJ c_length c_text c_stands c_homeFar c_nets c_netAt c_netWide c_netFrom c_netTo c_priceX c_priceY c_many c_days c_aims c_speeds c_kinds c_keptMany c_undoMany c_undos c_spot c_told c_to c_stood c_home c_lost c_out c_fewest c_ways c_next c_held) H locs → W p l e (RM 5 109) s m args below meth c H locs 0 0 QQ (F0 m 37 ls []) := by
    intro x3 n
    induction n with
    | zero => intro x4 x5 x6 c_aims c_to c_stood c_home c_lost c_out ex4 ex5 ec_aims ec_to ec_stood ec_home ec_lost ec_out h; exact it_zero h
    | succ n ih =>
      intro x4 x5 x6 c_aims c_to c_stood c_home c_lost c_out ex4 ex5 ec_aims ec_to ec_stood ec_home ec_lost ec_out h0 K0 ls H locs hl hG
      obtain ⟨w, h, hi, hr⟩ := it_succ h0
      have h : DX9_bestAim_L37s x1 c_stands c_homeFar c_nets c_netAt c_netWide c_netFrom c_netTo c_many c_days c_speeds c_kinds x4 x5 x6 c_aims c_to c_stood c_home c_lost c_out = some w := h
      have KC : ∀ (x4 : Int32) (x5 : Int32) (x6 : Int32) (c_aims : Nat → Int32) (c_to : Nat → Int32) (c_stood : Nat → Int32) (c_home : Nat → Int32) (c_lost : Nat → Int32) (c_out : Int32), w = .inl (x4, x5, x6, c_aims, c_to, c_stood, c_home, c_lost, c_out) → ∀ (ls : Array Slot) (H : Heap) (locs : List Loc), lv_has ls 8 [(0, .ref (a 0)), (1, .int x1), (2, .int x2), (3, .int x3), (4, .int x4), (5, .int x5), (6, .int x6)] → G dC dI A H0 (W_X9 a cI cJ c_length c_text c_stands c_homeFar c_nets c_netAt c_netWide c_netFrom c_netTo c_priceX c_priceY c_many c_days c_aims c_speeds c_kinds c_keptMany c_undoMany c_undos c_spot c_told c_to c_stood c_home c_lost c_out c_fewest c_ways c_next c_held) H locs → W p l e (RM 5 109) s m args below meth c H locs 0 0 QQ (F0 m 37 ls []) := fun b0 b1 b2 b3 b4 b5 b6 b7 b8 e ls H locs hl hG => ih b0 b1 b2 b3 b4 b5 b6 b7 b8 ex4 ex5 ec_aims ec_to ec_stood ec_home ec_lost ec_out (hi _ e) K0 ls H locs hl hG
      have KX : ∀ (x4 : Int32) (x5 : Int32) (c_aims : Nat → Int32) (c_to : Nat → Int32) (c_stood : Nat → Int32) (c_home : Nat → Int32) (c_lost : Nat → Int32) (c_out : Int32), w = .inr (x4, x5, c_aims, c_to, c_stood, c_home, c_lost, c_out) → ∀ (ls : Array Slot) (H : Heap) (locs : List Loc), lv_has ls 8 [(0, .ref (a 0)), (1, .int x1), (2, .int x2), (3, .int x3), (4, .int x4), (5, .int x5)] → G dC dI A H0 (W_X9 a cI cJ c_length c_text c_stands c_homeFar c_nets c_netAt c_netWide c_netFrom c_netTo c_priceX c_priceY c_many c_days c_aims c_speeds c_kinds c_keptMany c_undoMany c_undos c_spot c_told c_to c_stood c_home c_lost c_out c_fewest c_ways c_next c_held) H locs → W p l e (RM 5 109) s m args below meth c H locs 0 0 QQ (F0 m 102 ls []) := fun b0 b1 b2 b3 b4 b5 b6 b7 e ls H locs hl hG => by cases hr _ e; exact K0 ls H locs hl hG
      clear h0 hi hr K0 ih
      unfold DX9_bestAim_L37s at h
      refine lv_iload hx hb dX9_bestAim_37 (lv_at hl 6 rfl) ?_
      refine lv_bipush (v := (24 : Int32)) hx hb dX9_bestAim_39 (by decide) ?_
      refine lv_icmp_ge (tgt := 102) hx hb dX9_bestAim_41 (by decide) (fun c_8 => ?_) (fun c_8 => ?_)
      · have h := ite_t h c_8
        exact KX _ _ _ _ _ _ _ _ (Option.some.inj h).symm _ _ _ (lv_sub hl [0, 1, 2, 3, 4, 5] rfl) hG
      · have h := ite_f h c_8
        refine lv_aload_n hx hb dX9_bestAim_44 rfl (lv_at hl 0 rfl) ?_
        refine r_get X hG in_X9 rfl 13 (by decide) w_644 0 rfl rfl dX9_bestAim_45 ?_
        refine lv_iload_n hx hb dX9_bestAim_48 rfl (lv_at hl 1 rfl) ?_
        refine lv_iload hx hb dX9_bestAim_49 (lv_at hl 6 rfl) ?_
        obtain ⟨g_9, h⟩ := gd h
        refine r_iast X hG 13 (ws' := (W_X9 a cI cJ c_length c_text c_stands c_homeFar c_nets c_netAt c_netWide c_netFrom c_netTo c_priceX c_priceY c_many c_days (upd c_aims x1.toNatClampNeg x6) c_speeds c_kinds c_keptMany c_undoMany c_undos c_spot c_told c_to c_stood c_home c_lost c_out c_fewest c_ways c_next c_held)) rfl g_9 rfl dX9_bestAim_51 (fun H locs hG => ?_)
        refine lv_aload_n hx hb dX9_bestAim_52 rfl (lv_at hl 0 rfl) ?_
        refine lv_iconst (v := (0 : Int32)) hx hb dX9_bestAim_53 (by decide) ?_
        obtain ⟨k_to_10, k_stood_11, k_home_12, k_lost_13, k_out_14, hz_15, h⟩ := bd5_some h
        refine aft_v1 (run_V1 (rest := []) X hG hl.1 (mX9_go l dC dI cI cJ a c_length c_text c_stands c_homeFar c_nets c_netAt c_netWide c_netFrom c_netTo c_priceX c_priceY c_many c_days (upd c_aims x1.toNatClampNeg x6) c_speeds c_kinds c_keptMany c_undoMany c_undos c_spot c_told c_to c_stood c_home c_lost c_out c_fewest c_ways c_next c_held (0 : Int32) hz_15) gi_V_X9_185 hd_V_yX9_go ⟨rfl, rfl⟩ rfl ⟨Nat.le_of_ble_eq_true rfl, Nat.le_of_ble_eq_true rfl⟩ 0 rfl rfl rfl rfl (Nat.le_of_ble_eq_true rfl) ⟨Nat.le_of_ble_eq_true rfl, Nat.le_of_ble_eq_true rfl⟩ dX9_bestAim_54) hG rfl (fun H locs hG => ?_)
        clear hz_15
        refine lv_aload_n hx hb dX9_bestAim_57 rfl (lv_at hl 0 rfl) ?_
        refine lv_iconst (v := (0 : Int32)) hx hb dX9_bestAim_58 (by decide) ?_
        obtain ⟨r_16, hz_17, h⟩ := bd1_some h
        refine aft_i1 (run_V1 (rest := []) X hG hl.1 (mX9_howMany l dC dI cI cJ a c_length c_text c_stands c_homeFar c_nets c_netAt c_netWide c_netFrom c_netTo c_priceX c_priceY c_many c_days (upd c_aims x1.toNatClampNeg x6) c_speeds c_kinds c_keptMany c_undoMany c_undos c_spot c_told k_to_10 k_stood_11 k_home_12 k_lost_13 k_out_14 c_fewest c_ways c_next c_held (0 : Int32) hz_17) gi_V_X9_198 hd_V_yX9_howMany ⟨rfl, rfl⟩ rfl ⟨Nat.le_of_ble_eq_true rfl, Nat.le_of_ble_eq_true rfl⟩ 0 rfl rfl rfl rfl (Nat.le_of_ble_eq_true rfl) ⟨Nat.le_of_ble_eq_true rfl, Nat.le_of_ble_eq_true rfl⟩ dX9_bestAim_59) hG rfl (fun H locs hG => ?_)
        clear hz_17
        refine lv_istore (lv' := [(7, .int r_16), (0, .ref (a 0)), (1, .int x1), (2, .int x2), (3, .int x3), (4, .int x4), (5, .int x5), (6, .int x6)]) hx hb dX9_bestAim_62 hl (by decide) rfl (fun ls hl => ?_)
        refine lv_iload hx hb dX9_bestAim_64 (lv_at hl 0 rfl) ?_
        refine lv_iload hx hb dX9_bestAim_66 (lv_at hl 6 rfl) ?_
        refine lv_icmp_le (tgt := 76) hx hb dX9_bestAim_68 (by decide) (fun c_18 => ?_) (fun c_18 => ?_)
        · have h := ite_t h c_18
          refine lv_iload hx hb dX9_bestAim_76 (lv_at hl 5 rfl) ?_
          exact J78 x4 x3 x5 x6 r_16 (upd c_aims x1.toNatClampNeg x6) k_to_10 k_stood_11 k_home_12 k_lost_13 k_out_14 _ h KC KX _ _ _ (lv_sub hl [1, 2, 3, 4, 6, 7, 0] rfl) hG
        · have h := ite_f h c_18
          refine lv_iload hx hb dX9_bestAim_71 (lv_at hl 7 rfl) ?_
          refine lv_goto (tgt := 78) hx hb dX9_bestAim_73 (by decide) ?_
          exact J78 x6 x3 x5 x6 r_16 (upd c_aims x1.toNatClampNeg x6) k_to_10 k_stood_11 k_home_12 k_lost_13 k_out_14 _ h KC KX _ _ _ (lv_sub hl [1, 2, 3, 4, 6, 7, 0] rfl) hG
  have h := hD
  unfold DX9_bestAim at h
  clear hD
  refine lv_aload_n hx hb dX9_bestAim_0 rfl (lv_at hl 0 rfl) ?_
  refine lv_iload_n hx hb dX9_bestAim_1 rfl (lv_at hl 1 rfl) ?_
  obtain ⟨r_1, hz_2, h⟩ := bd1_some h
  refine aft_i1 (run_V1 (rest := []) X hG hl.1 (mX9_isThrow l dC dI cI cJ a c_length c_text c_stands c_homeFar c_nets c_netAt c_netWide c_netFrom c_netTo c_priceX c_priceY c_many c_days c_aims c_speeds c_kinds c_keptMany c_undoMany c_undos c_spot c_told c_to c_stood c_home c_lost c_out c_fewest c_ways c_next c_held x1 hz_2) gi_V_X9_182 hd_V_yX9_isThrow ⟨rfl, rfl⟩ rfl ⟨Nat.le_of_ble_eq_true rfl, Nat.le_of_ble_eq_true rfl⟩ 0 rfl rfl rfl rfl (Nat.le_of_ble_eq_true rfl) ⟨Nat.le_of_ble_eq_true rfl, Nat.le_of_ble_eq_true rfl⟩ dX9_bestAim_2) hG rfl (fun H locs hG => ?_)
  clear hz_2
  refine lv_if_eq (tgt := 18) hx hb dX9_bestAim_5 (by decide) (fun c_3 => ?_) (fun c_3 => ?_)
  · have h := ite_t h c_3
    refine lv_iconst (v := (-1 : Int32)) hx hb dX9_bestAim_18 (by decide) ?_
    cases h
    exact ret _ _ _ _ dX9_bestAim_19 hG
  · have h := ite_f h c_3
    refine lv_iload_n hx hb dX9_bestAim_8 rfl (lv_at hl 2 rfl) ?_
    refine lv_i2l (v := (x2.toInt64)) hx hb dX9_bestAim_9 rfl ?_
    refine lv_lconst (v := (0 : Int64)) hx hb dX9_bestAim_10 (by decide) ?_
    refine lv_lconst (v := (1 : Int64)) hx hb dX9_bestAim_11 (by decide) ?_
    obtain ⟨r_4, hz_5, h⟩ := bd1_some h
    refine aft_i (ws' := (W_X9 a cI cJ c_length c_text c_stands c_homeFar c_nets c_netAt c_netWide c_netFrom c_netTo c_priceX c_priceY c_many c_days c_aims c_speeds c_kinds c_keptMany c_undoMany c_undos c_spot c_told c_to c_stood c_home c_lost c_out c_fewest c_ways c_next c_held)) (run_S (rest := []) X hG hl.1 (mX9_in l dC dI cI cJ (x2.toInt64) (0 : Int64) (1 : Int64) hz_5) gi_S_X9_92 hd_S_yX9_in ⟨rfl, rfl⟩ rfl ⟨Nat.le_of_ble_eq_true rfl, Nat.le_of_ble_eq_true rfl⟩ [] (by decide) rfl rfl (Nat.le_of_ble_eq_true rfl) ⟨Nat.le_of_ble_eq_true rfl, Nat.le_of_ble_eq_true rfl⟩ dX9_bestAim_12) hG [] rfl rfl rfl (fun H locs hG => ?_)
    clear hz_5
    refine lv_if_ne (tgt := 20) hx hb dX9_bestAim_15 (by decide) (fun c_6 => ?_) (fun c_6 => ?_)
    · have h := ite_f h c_6
      refine lv_aload_n hx hb dX9_bestAim_20 rfl (lv_at hl 0 rfl) ?_
      refine r_get X hG in_X9 rfl 13 (by decide) w_644 0 rfl rfl dX9_bestAim_21 ?_
      refine lv_iload_n hx hb dX9_bestAim_24 rfl (lv_at hl 1 rfl) ?_
      obtain ⟨g_7, h⟩ := gd h
      refine r_iald X hG 13 rfl g_7 dX9_bestAim_25 ?_
      refine lv_istore_n (lv' := [(3, .int (c_aims x1.toNatClampNeg)), (0, .ref (a 0)), (1, .int x1), (2, .int x2)]) hx hb dX9_bestAim_26 rfl hl (by decide) rfl (fun ls hl => ?_)
      refine lv_iconst (v := (0 : Int32)) hx hb dX9_bestAim_27 (by decide) ?_
      refine lv_istore (lv' := [(4, .int (0 : Int32)), (3, .int (c_aims x1.toNatClampNeg)), (0, .ref (a 0)), (1, .int x1), (2, .int x2)]) hx hb dX9_bestAim_28 hl (by decide) rfl (fun ls hl => ?_)
      refine lv_bipush (v := (-4 : Int32)) hx hb dX9_bestAim_30 (by decide) ?_
      refine lv_istore (lv' := [(5, .int (-4 : Int32)), (4, .int (0 : Int32)), (3, .int (c_aims x1.toNatClampNeg)), (0, .ref (a 0)), (1, .int x1), (2, .int x2)]) hx hb dX9_bestAim_32 hl (by decide) rfl (fun ls hl => ?_)
      refine lv_iconst (v := (0 : Int32)) hx hb dX9_bestAim_34 (by decide) ?_
      refine lv_istore (lv' := [(6, .int (0 : Int32)), (5, .int (-4 : Int32)), (4, .int (0 : Int32)), (3, .int (c_aims x1.toNatClampNeg)), (0, .ref (a 0)), (1, .int x1), (2, .int x2)]) hx hb dX9_bestAim_35 hl (by decide) rfl (fun ls hl => ?_)
      obtain ⟨z4_20, z5_21, k_aims_22, k_to_23, k_stood_24, k_home_25, k_lost_26, k_out_27, hz, h⟩ := bd8_some h
      refine L37 (c_aims x1.toNatClampNeg) FU (0 : Int32) (-4 : Int32) (0 : Int32) c_aims c_to c_stood c_home c_lost c_out _ _ _ _ _ _ _ _ hz (fun ls H locs hl hG => ?_) _ _ _ (lv_sub hl [4, 5, 6, 3, 2, 1, 0] rfl) hG
      clear hz
      refine lv_aload_n hx hb dX9_bestAim_102 rfl (lv_at hl 0 rfl) ?_
      refine r_get X hG in_X9 rfl 13 (by decide) w_644 0 rfl rfl dX9_bestAim_103 ?_
      refine lv_iload_n hx hb dX9_bestAim_106 rfl (lv_at hl 1 rfl) ?_
      refine lv_iload_n hx hb dX9_bestAim_107 rfl (lv_at hl 3 rfl) ?_
      obtain ⟨g_28, h⟩ := gd h
      refine r_iast X hG 13 (ws' := (W_X9 a cI cJ c_length c_text c_stands c_homeFar c_nets c_netAt c_netWide c_netFrom c_netTo c_priceX c_priceY c_many c_days (upd k_aims_22 x1.toNatClampNeg (c_aims x1.toNatClampNeg)) c_speeds c_kinds c_keptMany c_undoMany c_undos c_spot c_told k_to_23 k_stood_24 k_home_25 k_lost_26 k_out_27 c_fewest c_ways c_next c_held)) rfl g_28 rfl dX9_bestAim_108 (fun H locs hG => ?_)
      refine lv_iload_n hx hb dX9_bestAim_109 rfl (lv_at hl 2 rfl) ?_
      refine lv_if_ne (tgt := 118) hx hb dX9_bestAim_110 (by decide) (fun c_29 => ?_) (fun c_29 => ?_)
      · have h := ite_f h c_29
        refine lv_iload hx hb dX9_bestAim_118 (lv_at hl 5 rfl) ?_
        cases h
        exact ret _ _ _ _ dX9_bestAim_120 hG
      · have h := ite_t h c_29
        refine lv_iload hx hb dX9_bestAim_113 (lv_at hl 4 rfl) ?_
        refine lv_goto (tgt := 120) hx hb dX9_bestAim_115 (by decide) ?_
        cases h
        exact ret _ _ _ _ dX9_bestAim_120 hG
    · have h := ite_t h c_6
      refine lv_iconst (v := (-1 : Int32)) hx hb dX9_bestAim_18 (by decide) ?_
      cases h
      exact ret _ _ _ _ dX9_bestAim_19 hG
set_option maxRecDepth 100000 in
set_option maxHeartbeats 4000000 in
theorem mX9_bestDay (l : Launch) (dC : Nat → ClassId) (dI : Nat → Nat → Nat) (cI cJ : ClassId) (a : Nat → Nat) (c_length : Int32) (c_text : Nat → Int32) (c_stands : Nat → Int32) (c_homeFar : Nat → Int32) (c_nets : Nat → Int32) (c_netAt : Nat → Int32) (c_netWide : Nat → Int32) (c_netFrom : Nat → Int32) (c_netTo : Nat → Int32) (c_priceX : Nat → Int32) (c_priceY : Nat → Int32) (c_many : Nat → Int32) (c_days : Nat → Int32) (c_aims : Nat → Int32) (c_speeds : Nat → Int32) (c_kinds : Nat → Int32) (c_keptMany : Int32) (c_undoMany : Int32) (c_undos : Nat → Int32) (c_spot : Int32) (c_told : Nat → Int32) (c_to : Nat → Int32) (c_stood : Nat → Int32) (c_home : Nat → Int32) (c_lost : Nat → Int32) (c_out : Int32) (c_fewest : Nat → Int32) (c_ways : Nat → Int64) (c_next : Nat → Int64) (c_held : Nat → Int32) (x1 : Int32) (x2 : Int32) {res : Int32} {n_days : Nat → Int32} {n_to : Nat → Int32} {n_stood : Nat → Int32} {n_home : Nat → Int32} {n_lost : Nat → Int32} {n_out : Int32} (hD : DX9_bestDay x1 x2 c_stands c_homeFar c_nets c_netAt c_netWide c_netFrom c_netTo c_priceX c_priceY c_many c_days c_aims c_speeds c_kinds c_to c_stood c_home c_lost c_out = some (res, n_days, n_to, n_stood, n_home, n_lost, n_out)) : Met l yX9_bestDay (WZ yX9_bestDay cX9_bestDay 8 (some .int)) (RM 5 107) (PC dC dI cI cJ [.ref (a 0), .int x1, .int x2] (W_X9 a cI cJ c_length c_text c_stands c_homeFar c_nets c_netAt c_netWide c_netFrom c_netTo c_priceX c_priceY c_many c_days c_aims c_speeds c_kinds c_keptMany c_undoMany c_undos c_spot c_told c_to c_stood c_home c_lost c_out c_fewest c_ways c_next c_held)) (QI dC dI (W_X9 a cI cJ c_length c_text c_stands c_homeFar c_nets c_netAt c_netWide c_netFrom c_netTo c_priceX c_priceY c_many c_days c_aims c_speeds c_kinds c_keptMany c_undoMany c_undos c_spot c_told c_to c_stood c_home c_lost c_out c_fewest c_ways c_next c_held) (W_X9 a cI cJ c_length c_text c_stands c_homeFar c_nets c_netAt c_netWide c_netFrom c_netTo c_priceX c_priceY c_many n_days c_aims c_speeds c_kinds c_keptMany c_undoMany c_undos c_spot c_told n_to n_stood n_home n_lost n_out c_fewest c_ways c_next c_held) res) 0 0 (FA (W_X9 a cI cJ c_length c_text c_stands c_homeFar c_nets c_netAt c_netWide c_netFrom c_netTo c_priceX c_priceY c_many c_days c_aims c_speeds c_kinds c_keptMany c_undoMany c_undos c_spot c_told c_to c_stood c_home c_lost c_out c_fewest c_ways c_next c_held)) := by
  refine r_metI (by decide +kernel) (Nat.le_of_ble_eq_true rfl) ?_
  intro p e s m args below meth c A H0 QQ X ret ls hl hG
  have X : Cx p m c cX9_bestDay 8 s args RX9 dC dI cI cJ meth (some .int) := X
  have hx := X.1.1
  have hb := X.1.2.1
  have hl : lv_has ls 8 [(0, .ref (a 0)), (1, .int x1), (2, .int x2)] := hl
  have J78 : ∀ (y0 : Int32) (x3 : Int32) (x5 : Int32) (x6 : Int32) (x7 : Int32) (c_days : Nat → Int32) (c_to : Nat → Int32) (c_stood : Nat → Int32) (c_home : Nat → Int32) (c_lost : Nat → Int32) (c_out : Int32), ∀ (w : (Int32 × Int32 × Int32 × (Nat → Int32) × (Nat → Int32) × (Nat → Int32) × (Nat → Int32) × (Nat → Int32) × Int32) ⊕ (Int32 × Int32 × (Nat → Int32) × (Nat → Int32) × (Nat → Int32) × (Nat → Int32) × (Nat → Int32) × Int32)), DX9_bestDay_J78 c_days c_to c_stood c_home c_lost c_out y0 x5 x6 x7 = some w → (∀ (x4 : Int32) (x5 : Int32) (x6 : Int32) (c_days : Nat → Int32) (c_to : Nat → Int32) (c_stood : Nat → Int32) (c_home : Nat → Int32) (c_lost : Nat → Int32) (c_out : Int32), w = .inl (x4, x5, x6, c_days, c_to, c_stood, c_home, c_lost, c_out) → ∀ (ls : Array Slot) (H : Heap) (locs : List Loc), lv_has ls 8 [(0, .ref (a 0)), (1, .int x1), (2, .int x2), (3, .int x3), (4, .int x4), (5, .int x5), (6, .int x6)] → G dC dI A H0 (W_X9 a cI cJ c_length c_text c_stands c_homeFar c_nets c_netAt c_netWide c_netFrom c_netTo c_priceX c_priceY c_many c_days c_aims c_speeds c_kinds c_keptMany c_undoMany c_undos c_spot c_told c_to c_stood c_home c_lost c_out c_fewest c_ways c_next c_held) H locs → W p l e (RM 5 107) s m args below meth c H locs 0 0 QQ (F0 m 37 ls [])) → (∀ (x4 : Int32) (x5 : Int32) (c_days : Nat → Int32) (c_to : Nat → Int32) (c_stood : Nat → Int32) (c_home : Nat → Int32) (c_lost : Nat → Int32) (c_out : Int32), w = .inr (x4, x5, c_days, c_to, c_stood, c_home, c_lost, c_out) → ∀ (ls : Array Slot) (H : Heap) (locs : List Loc), lv_has ls 8 [(0, .ref (a 0)), (1, .int x1), (2, .int x2), (3, .int x3), (4, .int x4), (5, .int x5)] → G dC dI A H0 (W_X9 a cI cJ c_length c_text c_stands c_homeFar c_nets c_netAt c_netWide c_netFrom c_netTo c_priceX c_priceY c_many c_days c_aims c_speeds c_kinds c_keptMany c_undoMany c_undos c_spot c_told c_to c_stood c_home c_lost c_out c_fewest c_ways c_next c_held) H locs → W p l e (RM 5 107) s m args below meth c H locs 0 0 QQ (F0 m 102 ls [])) → ∀ (ls : Array Slot) (H : Heap) (locs : List Loc), lv_has ls 8 [(0, .ref (a 0)), (1, .int x1), (2, .int x2), (3, .int x3), (5, .int x5), (6, .int x6), (7, .int x7)] → G dC dI A H0 (W_X9 a cI cJ c_length c_text c_stands c_homeFar c_nets c_netAt c_netWide c_netFrom c_netTo c_priceX c_priceY c_many c_days c_aims c_speeds c_kinds c_keptMany c_undoMany c_undos c_spot c_told c_to c_stood c_home c_lost c_out c_fewest c_ways c_next c_held) H locs → W p l e (RM 5 107) s m args below meth c H locs 0 0 QQ (F0 m 78 ls [.int y0]) := by
    intro y0 x3 x5 x6 x7 c_days c_to c_stood c_home c_lost c_out w h KC KX ls H locs hl hG
    unfold DX9_bestDay_J78 at h
    refine lv_istore (lv' := [(4, .int y0), (0, .ref (a 0)), (1, .int x1), (2, .int x2), (3, .int x3), (5, .int x5), (6, .int x6), (7, .int x7)]) hx hb dX9_bestDay_78 hl (by decide) rfl (fun ls hl => ?_)
    refine lv_iload hx hb dX9_bestDay_80 (lv_at hl 7 rfl) ?_
    refine lv_iload hx hb dX9_bestDay_82 (lv_at hl 5 rfl) ?_
    refine lv_icmp_le (tgt := 92) hx hb dX9_bestDay_84 (by decide) (fun c_19 => ?_) (fun c_19 => ?_)
    · have h := ite_t h c_19
      refine lv_iload hx hb dX9_bestDay_92 (lv_at hl 5 rfl) ?_
      refine lv_istore (lv' := [(5, .int x5), (4, .int y0), (0, .ref (a 0)), (1, .int x1), (2, .int x2), (3, .int x3), (6, .int x6), (7, .int x7)]) hx hb dX9_bestDay_94 hl (by decide) rfl (fun ls hl => ?_)
      refine lv_iinc (v := (x6 + (1 : Int32))) (lv' := [(6, .int (x6 + (1 : Int32))), (5, .int x5), (4, .int y0), (0, .ref (a 0)), (1, .int x1), (2, .int x2), (3, .int x3), (7, .int x7)]) hx hb dX9_bestDay_96 hl (k := 6) rfl rfl (by decide) rfl (fun ls hl => ?_)
      refine lv_goto (tgt := 37) hx hb dX9_bestDay_99 (by decide) ?_
      exact KC _ _ _ _ _ _ _ _ _ (Option.some.inj h).symm _ _ _ (lv_sub hl [3, 4, 5, 6, 2, 1, 0] rfl) hG
    · have h := ite_f h c_19
      refine lv_iload hx hb dX9_bestDay_87 (lv_at hl 7 rfl) ?_
      refine lv_goto (tgt := 94) hx hb dX9_bestDay_89 (by decide) ?_
      refine lv_istore (lv' := [(5, .int x7), (4, .int y0), (0, .ref (a 0)), (1, .int x1), (2, .int x2), (3, .int x3), (6, .int x6), (7, .int x7)]) hx hb dX9_bestDay_94 hl (by decide) rfl (fun ls hl => ?_)
      refine lv_iinc (v := (x6 + (1 : Int32))) (lv' := [(6, .int (x6 + (1 : Int32))), (5, .int x7), (4, .int y0), (0, .ref (a 0)), (1, .int x1), (2, .int x2), (3, .int x3), (7, .int x7)]) hx hb dX9_bestDay_96 hl (k := 6) rfl rfl (by decide) rfl (fun ls hl => ?_)
      refine lv_goto (tgt := 37) hx hb dX9_bestDay_99 (by decide) ?_
      exact KC _ _ _ _ _ _ _ _ _ (Option.some.inj h).symm _ _ _ (lv_sub hl [3, 4, 5, 6, 2, 1, 0] rfl) hG
  have L37 : ∀ (x3 : Int32), ∀ (n : Nat) (x4 : Int32) (x5 : Int32) (x6 : Int32) (c_days : Nat → Int32) (c_to : Nat → Int32) (c_stood : Nat → Int32) (c_home : Nat → Int32) (c_lost : Nat → Int32) (c_out : Int32) (ex4 : Int32) (ex5 : Int32) (ec_days : Nat → Int32) (ec_to : Nat → Int32) (ec_stood : Nat → Int32) (ec_home : Nat → Int32) (ec_lost : Nat → Int32) (ec_out : Int32), DX9_bestDay_L37 x1 c_stands c_homeFar c_nets c_netAt c_netWide c_netFrom c_netTo c_priceX c_priceY c_many c_aims c_speeds c_kinds n x4 x5 x6 c_days c_to c_stood c_home c_lost c_out = some (ex4, ex5, ec_days, ec_to, ec_stood, ec_home, ec_lost, ec_out) → (∀ (ls : Array Slot) (H : Heap) (locs : List Loc), lv_has ls 8 [(0, .ref (a 0)), (1, .int x1), (2, .int x2), (3, .int x3), (4, .int ex4), (5, .int ex5)] → G dC dI A H0 (W_X9 a cI cJ c_length c_text c_stands c_homeFar c_nets c_netAt c_netWide c_netFrom c_netTo c_priceX c_priceY c_many ec_days c_aims c_speeds c_kinds c_keptMany c_undoMany c_undos c_spot c_told ec_to ec_stood ec_home ec_lost ec_out c_fewest c_ways c_next c_held) H locs → W p l e (RM 5 107) s m args below meth c H locs 0 0 QQ (F0 m 102 ls [])) → ∀ (ls : Array Slot) (H : Heap) (locs : List Loc), lv_has ls 8 [(0, .ref (a 0)), (1, .int x1), (2, .int x2), (3, .int x3), (4, .int x4), (5, .int x5), (6, .int x6)] → G dC dI A H0 (W_X9 a cI cJ c_length c_text c_stands c_homeFar c_nets c_netAt c_netWide c_netFrom c_netTo c_priceX c_priceY c_many c_days c_aims c_speeds c_kinds c_keptMany c_undoMany c_undos c_spot c_told c_to c_stood c_home c_lost c_out c_fewest c_ways c_next c_held) H locs → W p l e (RM 5 107) s m args below meth c H locs 0 0 QQ (F0 m 37 ls []) := by
    intro x3 n
    induction n with
    | zero => intro x4 x5 x6 c_days c_to c_stood c_home c_lost c_out ex4 ex5 ec_days ec_to ec_stood ec_home ec_lost ec_out h; exact it_zero h
    | succ n ih =>
      intro x4 x5 x6 c_days c_to c_stood c_home c_lost c_out ex4 ex5 ec_days ec_to ec_stood ec_home ec_lost ec_out h0 K0 ls H locs hl hG
      obtain ⟨w, h, hi, hr⟩ := it_succ h0
      have h : DX9_bestDay_L37s x1 c_stands c_homeFar c_nets c_netAt c_netWide c_netFrom c_netTo c_priceX c_priceY c_many c_aims c_speeds c_kinds x4 x5 x6 c_days c_to c_stood c_home c_lost c_out = some w := h
      have KC : ∀ (x4 : Int32) (x5 : Int32) (x6 : Int32) (c_days : Nat → Int32) (c_to : Nat → Int32) (c_stood : Nat → Int32) (c_home : Nat → Int32) (c_lost : Nat → Int32) (c_out : Int32), w = .inl (x4, x5, x6, c_days, c_to, c_stood, c_home, c_lost, c_out) → ∀ (ls : Array Slot) (H : Heap) (locs : List Loc), lv_has ls 8 [(0, .ref (a 0)), (1, .int x1), (2, .int x2), (3, .int x3), (4, .int x4), (5, .int x5), (6, .int x6)] → G dC dI A H0 (W_X9 a cI cJ c_length c_text c_stands c_homeFar c_nets c_netAt c_netWide c_netFrom c_netTo c_priceX c_priceY c_many c_days c_aims c_speeds c_kinds c_keptMany c_undoMany c_undos c_spot c_told c_to c_stood c_home c_lost c_out c_fewest c_ways c_next c_held) H locs → W p l e (RM 5 107) s m args below meth c H locs 0 0 QQ (F0 m 37 ls []) := fun b0 b1 b2 b3 b4 b5 b6 b7 b8 e ls H locs hl hG => ih b0 b1 b2 b3 b4 b5 b6 b7 b8 ex4 ex5 ec_days ec_to ec_stood ec_home ec_lost ec_out (hi _ e) K0 ls H locs hl hG
      have KX : ∀ (x4 : Int32) (x5 : Int32) (c_days : Nat → Int32) (c_to : Nat → Int32) (c_stood : Nat → Int32) (c_home : Nat → Int32) (c_lost : Nat → Int32) (c_out : Int32), w = .inr (x4, x5, c_days, c_to, c_stood, c_home, c_lost, c_out) → ∀ (ls : Array Slot) (H : Heap) (locs : List Loc), lv_has ls 8 [(0, .ref (a 0)), (1, .int x1), (2, .int x2), (3, .int x3), (4, .int x4), (5, .int x5)] → G dC dI A H0 (W_X9 a cI cJ c_length c_text c_stands c_homeFar c_nets c_netAt c_netWide c_netFrom c_netTo c_priceX c_priceY c_many c_days c_aims c_speeds c_kinds c_keptMany c_undoMany c_undos c_spot c_told c_to c_stood c_home c_lost c_out c_fewest c_ways c_next c_held) H locs → W p l e (RM 5 107) s m args below meth c H locs 0 0 QQ (F0 m 102 ls []) := fun b0 b1 b2 b3 b4 b5 b6 b7 e ls H locs hl hG => by cases hr _ e; exact K0 ls H locs hl hG
      clear h0 hi hr K0 ih
      unfold DX9_bestDay_L37s at h
      refine lv_iload hx hb dX9_bestDay_37 (lv_at hl 6 rfl) ?_
      refine lv_bipush (v := (40 : Int32)) hx hb dX9_bestDay_39 (by decide) ?_
      refine lv_icmp_gt (tgt := 102) hx hb dX9_bestDay_41 (by decide) (fun c_8 => ?_) (fun c_8 => ?_)
      · have h := ite_t h c_8
        exact KX _ _ _ _ _ _ _ _ (Option.some.inj h).symm _ _ _ (lv_sub hl [0, 1, 2, 3, 4, 5] rfl) hG
      · have h := ite_f h c_8
        refine lv_aload_n hx hb dX9_bestDay_44 rfl (lv_at hl 0 rfl) ?_
        refine r_get X hG in_X9 rfl 12 (by decide) w_643 0 rfl rfl dX9_bestDay_45 ?_
        refine lv_iload_n hx hb dX9_bestDay_48 rfl (lv_at hl 1 rfl) ?_
        refine lv_iload hx hb dX9_bestDay_49 (lv_at hl 6 rfl) ?_
        obtain ⟨g_9, h⟩ := gd h
        refine r_iast X hG 12 (ws' := (W_X9 a cI cJ c_length c_text c_stands c_homeFar c_nets c_netAt c_netWide c_netFrom c_netTo c_priceX c_priceY c_many (upd c_days x1.toNatClampNeg x6) c_aims c_speeds c_kinds c_keptMany c_undoMany c_undos c_spot c_told c_to c_stood c_home c_lost c_out c_fewest c_ways c_next c_held)) rfl g_9 rfl dX9_bestDay_51 (fun H locs hG => ?_)
        refine lv_aload_n hx hb dX9_bestDay_52 rfl (lv_at hl 0 rfl) ?_
        refine lv_iconst (v := (0 : Int32)) hx hb dX9_bestDay_53 (by decide) ?_
        obtain ⟨k_to_10, k_stood_11, k_home_12, k_lost_13, k_out_14, hz_15, h⟩ := bd5_some h
        refine aft_v1 (run_V1 (rest := []) X hG hl.1 (mX9_go l dC dI cI cJ a c_length c_text c_stands c_homeFar c_nets c_netAt c_netWide c_netFrom c_netTo c_priceX c_priceY c_many (upd c_days x1.toNatClampNeg x6) c_aims c_speeds c_kinds c_keptMany c_undoMany c_undos c_spot c_told c_to c_stood c_home c_lost c_out c_fewest c_ways c_next c_held (0 : Int32) hz_15) gi_V_X9_185 hd_V_yX9_go ⟨rfl, rfl⟩ rfl ⟨Nat.le_of_ble_eq_true rfl, Nat.le_of_ble_eq_true rfl⟩ 0 rfl rfl rfl rfl (Nat.le_of_ble_eq_true rfl) ⟨Nat.le_of_ble_eq_true rfl, Nat.le_of_ble_eq_true rfl⟩ dX9_bestDay_54) hG rfl (fun H locs hG => ?_)
        clear hz_15
        refine lv_aload_n hx hb dX9_bestDay_57 rfl (lv_at hl 0 rfl) ?_
        refine lv_iload_n hx hb dX9_bestDay_58 rfl (lv_at hl 1 rfl) ?_
        obtain ⟨r_16, hz_17, h⟩ := bd1_some h
        refine aft_i1 (run_V1 (rest := []) X hG hl.1 (mX9_paidOf l dC dI cI cJ a c_length c_text c_stands c_homeFar c_nets c_netAt c_netWide c_netFrom c_netTo c_priceX c_priceY c_many (upd c_days x1.toNatClampNeg x6) c_aims c_speeds c_kinds c_keptMany c_undoMany c_undos c_spot c_told k_to_10 k_stood_11 k_home_12 k_lost_13 k_out_14 c_fewest c_ways c_next c_held x1 hz_17) gi_V_X9_188 hd_V_yX9_paidOf ⟨rfl, rfl⟩ rfl ⟨Nat.le_of_ble_eq_true rfl, Nat.le_of_ble_eq_true rfl⟩ 0 rfl rfl rfl rfl (Nat.le_of_ble_eq_true rfl) ⟨Nat.le_of_ble_eq_true rfl, Nat.le_of_ble_eq_true rfl⟩ dX9_bestDay_59) hG rfl (fun H locs hG => ?_)
        clear hz_17
        refine lv_istore (lv' := [(7, .int r_16), (0, .ref (a 0)), (1, .int x1), (2, .int x2), (3, .int x3), (4, .int x4), (5, .int x5), (6, .int x6)]) hx hb dX9_bestDay_62 hl (by decide) rfl (fun ls hl => ?_)
        refine lv_iload hx hb dX9_bestDay_64 (lv_at hl 0 rfl) ?_
        refine lv_iload hx hb dX9_bestDay_66 (lv_at hl 6 rfl) ?_
        refine lv_icmp_le (tgt := 76) hx hb dX9_bestDay_68 (by decide) (fun c_18 => ?_) (fun c_18 => ?_)
        · have h := ite_t h c_18
          refine lv_iload hx hb dX9_bestDay_76 (lv_at hl 5 rfl) ?_
          exact J78 x4 x3 x5 x6 r_16 (upd c_days x1.toNatClampNeg x6) k_to_10 k_stood_11 k_home_12 k_lost_13 k_out_14 _ h KC KX _ _ _ (lv_sub hl [1, 2, 3, 4, 6, 7, 0] rfl) hG
        · have h := ite_f h c_18
          refine lv_iload hx hb dX9_bestDay_71 (lv_at hl 7 rfl) ?_
          refine lv_goto (tgt := 78) hx hb dX9_bestDay_73 (by decide) ?_
          exact J78 x6 x3 x5 x6 r_16 (upd c_days x1.toNatClampNeg x6) k_to_10 k_stood_11 k_home_12 k_lost_13 k_out_14 _ h KC KX _ _ _ (lv_sub hl [1, 2, 3, 4, 6, 7, 0] rfl) hG
  have h := hD
  unfold DX9_bestDay at h
  clear hD
  refine lv_aload_n hx hb dX9_bestDay_0 rfl (lv_at hl 0 rfl) ?_
  refine lv_iload_n hx hb dX9_bestDay_1 rfl (lv_at hl 1 rfl) ?_
  obtain ⟨r_1, hz_2, h⟩ := bd1_some h
  refine aft_i1 (run_V1 (rest := []) X hG hl.1 (mX9_isThrow l dC dI cI cJ a c_length c_text c_stands c_homeFar c_nets c_netAt c_netWide c_netFrom c_netTo c_priceX c_priceY c_many c_days c_aims c_speeds c_kinds c_keptMany c_undoMany c_undos c_spot c_told c_to c_stood c_home c_lost c_out c_fewest c_ways c_next c_held x1 hz_2) gi_V_X9_182 hd_V_yX9_isThrow ⟨rfl, rfl⟩ rfl ⟨Nat.le_of_ble_eq_true rfl, Nat.le_of_ble_eq_true rfl⟩ 0 rfl rfl rfl rfl (Nat.le_of_ble_eq_true rfl) ⟨Nat.le_of_ble_eq_true rfl, Nat.le_of_ble_eq_true rfl⟩ dX9_bestDay_2) hG rfl (fun H locs hG => ?_)
  clear hz_2
  refine lv_if_eq (tgt := 18) hx hb dX9_bestDay_5 (by decide) (fun c_3 => ?_) (fun c_3 => ?_)
  · have h := ite_t h c_3
    refine lv_iconst (v := (-1 : Int32)) hx hb dX9_bestDay_18 (by decide) ?_
    cases h
    exact ret _ _ _ _ dX9_bestDay_19 hG
  · have h := ite_f h c_3
    refine lv_iload_n hx hb dX9_bestDay_8 rfl (lv_at hl 2 rfl) ?_
    refine lv_i2l (v := (x2.toInt64)) hx hb dX9_bestDay_9 rfl ?_
    refine lv_lconst (v := (0 : Int64)) hx hb dX9_bestDay_10 (by decide) ?_
    refine lv_lconst (v := (1 : Int64)) hx hb dX9_bestDay_11 (by decide) ?_
    obtain ⟨r_4, hz_5, h⟩ := bd1_some h
    refine aft_i (ws' := (W_X9 a cI cJ c_length c_text c_stands c_homeFar c_nets c_netAt c_netWide c_netFrom c_netTo c_priceX c_priceY c_many c_days c_aims c_speeds c_kinds c_keptMany c_undoMany c_undos c_spot c_told c_to c_stood c_home c_lost c_out c_fewest c_ways c_next c_held)) (run_S (rest := []) X hG hl.1 (mX9_in l dC dI cI cJ (x2.toInt64) (0 : Int64) (1 : Int64) hz_5) gi_S_X9_92 hd_S_yX9_in ⟨rfl, rfl⟩ rfl ⟨Nat.le_of_ble_eq_true rfl, Nat.le_of_ble_eq_true rfl⟩ [] (by decide) rfl rfl (Nat.le_of_ble_eq_true rfl) ⟨Nat.le_of_ble_eq_true rfl, Nat.le_of_ble_eq_true rfl⟩ dX9_bestDay_12) hG [] rfl rfl rfl (fun H locs hG => ?_)
    clear hz_5
    refine lv_if_ne (tgt := 20) hx hb dX9_bestDay_15 (by decide) (fun c_6 => ?_) (fun c_6 => ?_)
    · have h := ite_f h c_6
      refine lv_aload_n hx hb dX9_bestDay_20 rfl (lv_at hl 0 rfl) ?_
      refine r_get X hG in_X9 rfl 12 (by decide) w_643 0 rfl rfl dX9_bestDay_21 ?_
      refine lv_iload_n hx hb dX9_bestDay_24 rfl (lv_at hl 1 rfl) ?_
      obtain ⟨g_7, h⟩ := gd h
      refine r_iald X hG 12 rfl g_7 dX9_bestDay_25 ?_
      refine lv_istore_n (lv' := [(3, .int (c_days x1.toNatClampNeg)), (0, .ref (a 0)), (1, .int x1), (2, .int x2)]) hx hb dX9_bestDay_26 rfl hl (by decide) rfl (fun ls hl => ?_)
      refine lv_bipush (v := (-4 : Int32)) hx hb dX9_bestDay_27 (by decide) ?_
      refine lv_istore (lv' := [(4, .int (-4 : Int32)), (3, .int (c_days x1.toNatClampNeg)), (0, .ref (a 0)), (1, .int x1), (2, .int x2)]) hx hb dX9_bestDay_29 hl (by decide) rfl (fun ls hl => ?_)
      refine lv_iconst (v := (0 : Int32)) hx hb dX9_bestDay_31 (by decide) ?_
      refine lv_istore (lv' := [(5, .int (0 : Int32)), (4, .int (-4 : Int32)), (3, .int (c_days x1.toNatClampNeg)), (0, .ref (a 0)), (1, .int x1), (2, .int x2)]) hx hb dX9_bestDay_32 hl (by decide) rfl (fun ls hl => ?_)
      refine lv_iconst (v := (0 : Int32)) hx hb dX9_bestDay_34 (by decide) ?_
      refine lv_istore (lv' := [(6, .int (0 : Int32)), (5, .int (0 : Int32)), (4, .int (-4 : Int32)), (3, .int (c_days x1.toNatClampNeg)), (0, .ref (a 0)), (1, .int x1), (2, .int x2)]) hx hb dX9_bestDay_35 hl (by decide) rfl (fun ls hl => ?_)
      obtain ⟨z4_20, z5_21, k_days_22, k_to_23, k_stood_24, k_home_25, k_lost_26, k_out_27, hz, h⟩ := bd8_some h
      refine L37 (c_days x1.toNatClampNeg) FU (-4 : Int32) (0 : Int32) (0 : Int32) c_days c_to c_stood c_home c_lost c_out _ _ _ _ _ _ _ _ hz (fun ls H locs hl hG => ?_) _ _ _ (lv_sub hl [4, 5, 6, 3, 2, 1, 0] rfl) hG
      clear hz
      refine lv_aload_n hx hb dX9_bestDay_102 rfl (lv_at hl 0 rfl) ?_
      refine r_get X hG in_X9 rfl 12 (by decide) w_643 0 rfl rfl dX9_bestDay_103 ?_
      refine lv_iload_n hx hb dX9_bestDay_106 rfl (lv_at hl 1 rfl) ?_
      refine lv_iload_n hx hb dX9_bestDay_107 rfl (lv_at hl 3 rfl) ?_
      obtain ⟨g_28, h⟩ := gd h
      refine r_iast X hG 12 (ws' := (W_X9 a cI cJ c_length c_text c_stands c_homeFar c_nets c_netAt c_netWide c_netFrom c_netTo c_priceX c_priceY c_many (upd k_days_22 x1.toNatClampNeg (c_days x1.toNatClampNeg)) c_aims c_speeds c_kinds c_keptMany c_undoMany c_undos c_spot c_told k_to_23 k_stood_24 k_home_25 k_lost_26 k_out_27 c_fewest c_ways c_next c_held)) rfl g_28 rfl dX9_bestDay_108 (fun H locs hG => ?_)
      refine lv_iload hx hb dX9_bestDay_109 (lv_at hl 4 rfl) ?_
      refine lv_if_ge (tgt := 119) hx hb dX9_bestDay_111 (by decide) (fun c_29 => ?_) (fun c_29 => ?_)
      · have h := ite_t h c_29
        refine lv_iload_n hx hb dX9_bestDay_119 rfl (lv_at hl 2 rfl) ?_
        refine lv_if_ne (tgt := 128) hx hb dX9_bestDay_120 (by decide) (fun c_30 => ?_) (fun c_30 => ?_)
        · have h := ite_f h c_30
          refine lv_iload hx hb dX9_bestDay_128 (lv_at hl 5 rfl) ?_
          cases h
          exact ret _ _ _ _ dX9_bestDay_130 hG
        · have h := ite_t h c_30
          refine lv_iload hx hb dX9_bestDay_123 (lv_at hl 4 rfl) ?_
          refine lv_goto (tgt := 130) hx hb dX9_bestDay_125 (by decide) ?_
          cases h
          exact ret _ _ _ _ dX9_bestDay_130 hG
      · have h := ite_f h c_29
        refine lv_bipush (v := (-4 : Int32)) hx hb dX9_bestDay_114 (by decide) ?_
        refine lv_goto (tgt := 130) hx hb dX9_bestDay_116 (by decide) ?_
        cases h
        exact ret _ _ _ _ dX9_bestDay_130 hG
    · have h := ite_t h c_6
      refine lv_iconst (v := (-1 : Int32)) hx hb dX9_bestDay_18 (by decide) ?_
      cases h
      exact ret _ _ _ _ dX9_bestDay_19 hG
set_option maxRecDepth 100000 in
set_option maxHeartbeats 4000000 in
theorem mX9_net (l : Launch) (dC : Nat → ClassId) (dI : Nat → Nat → Nat) (cI cJ : ClassId) (a : Nat → Nat) (c_length : Int32) (c_text : Nat → Int32) (c_stands : Nat → Int32) (c_homeFar : Nat → Int32) (c_nets : Nat → Int32) (c_netAt : Nat → Int32) (c_netWide : Nat → Int32) (c_netFrom : Nat → Int32) (c_netTo : Nat → Int32) (c_priceX : Nat → Int32) (c_priceY : Nat → Int32) (c_many : Nat → Int32) (c_days : Nat → Int32) (c_aims : Nat → Int32) (c_speeds : Nat → Int32) (c_kinds : Nat → Int32) (c_keptMany : Int32) (c_undoMany : Int32) (c_undos : Nat → Int32) (c_spot : Int32) (c_told : Nat → Int32) (c_to : Nat → Int32) (c_stood : Nat → Int32) (c_home : Nat → Int32) (c_lost : Nat → Int32) (c_out : Int32) (c_fewest : Nat → Int32) (c_ways : Nat → Int64) (c_next : Nat → Int64) (c_held : Nat → Int32) (x1 : Int32) (x2 : Int32) {res : Int32} {n_nets : Nat → Int32} {n_netAt : Nat → Int32} {n_netWide : Nat → Int32} {n_netFrom : Nat → Int32} {n_netTo : Nat → Int32} {n_to : Nat → Int32} {n_stood : Nat → Int32} {n_home : Nat → Int32} {n_lost : Nat → Int32} {n_out : Int32} (hD : DX9_net x1 x2 c_stands c_homeFar c_nets c_netAt c_netWide c_netFrom c_netTo c_many c_days c_aims c_speeds c_kinds c_to c_stood c_home c_lost c_out = some (res, n_nets, n_netAt, n_netWide, n_netFrom, n_netTo, n_to, n_stood, n_home, n_lost, n_out)) : Met l yX9_net (WZ yX9_net cX9_net 8 (some .int)) (RM 5 109) (PC dC dI cI cJ [.ref (a 0), .int x1, .int x2] (W_X9 a cI cJ c_length c_text c_stands c_homeFar c_nets c_netAt c_netWide c_netFrom c_netTo c_priceX c_priceY c_many c_days c_aims c_speeds c_kinds c_keptMany c_undoMany c_undos c_spot c_told c_to c_stood c_home c_lost c_out c_fewest c_ways c_next c_held)) (QI dC dI (W_X9 a cI cJ c_length c_text c_stands c_homeFar c_nets c_netAt c_netWide c_netFrom c_netTo c_priceX c_priceY c_many c_days c_aims c_speeds c_kinds c_keptMany c_undoMany c_undos c_spot c_told c_to c_stood c_home c_lost c_out c_fewest c_ways c_next c_held) (W_X9 a cI cJ c_length c_text c_stands c_homeFar n_nets n_netAt n_netWide n_netFrom n_netTo c_priceX c_priceY c_many c_days c_aims c_speeds c_kinds c_keptMany c_undoMany c_undos c_spot c_told n_to n_stood n_home n_lost n_out c_fewest c_ways c_next c_held) res) 0 0 (FA (W_X9 a cI cJ c_length c_text c_stands c_homeFar c_nets c_netAt c_netWide c_netFrom c_netTo c_priceX c_priceY c_many c_days c_aims c_speeds c_kinds c_keptMany c_undoMany c_undos c_spot c_told c_to c_stood c_home c_lost c_out c_fewest c_ways c_next c_held)) := by
  refine r_metI (by decide +kernel) (Nat.le_of_ble_eq_true rfl) ?_
  intro p e s m args below meth c A H0 QQ X ret ls hl hG
  have X : Cx p m c cX9_net 8 s args RX9 dC dI cI cJ meth (some .int) := X
  have hx := X.1.1
  have hb := X.1.2.1
  have hl : lv_has ls 8 [(0, .ref (a 0)), (1, .int x1), (2, .int x2)] := hl
  have J115 : ∀ (y0 : Int32) (x3 : Int32) (x5 : Int32) (x6 : Int32) (x7 : Int32) (c_nets : Nat → Int32) (c_netAt : Nat → Int32) (c_netWide : Nat → Int32) (c_netFrom : Nat → Int32) (c_netTo : Nat → Int32) (c_to : Nat → Int32) (c_stood : Nat → Int32) (c_home : Nat → Int32) (c_lost : Nat → Int32) (c_out : Int32), ∀ (w : (Int32 × Int32 × Int32 × (Nat → Int32)) ⊕ (Int32 × Int32 × (Nat → Int32))), DX9_net_J115 c_netAt y0 x5 x6 x7 = some w → (∀ (x4 : Int32) (x5 : Int32) (x6 : Int32) (c_netAt : Nat → Int32), w = .inl (x4, x5, x6, c_netAt) → ∀ (ls : Array Slot) (H : Heap) (locs : List Loc), lv_has ls 8 [(0, .ref (a 0)), (2, .int x2), (3, .int x3), (4, .int x4), (5, .int x5), (6, .int x6)] → G dC dI A H0 (W_X9 a cI cJ c_length c_text c_stands c_homeFar c_nets c_netAt c_netWide c_netFrom c_netTo c_priceX c_priceY c_many c_days c_aims c_speeds c_kinds c_keptMany c_undoMany c_undos c_spot c_told c_to c_stood c_home c_lost c_out c_fewest c_ways c_next c_held) H locs → W p l e (RM 5 109) s m args below meth c H locs 0 0 QQ (F0 m 79 ls [])) → (∀ (x4 : Int32) (x5 : Int32) (c_netAt : Nat → Int32), w = .inr (x4, x5, c_netAt) → ∀ (ls : Array Slot) (H : Heap) (locs : List Loc), lv_has ls 8 [(0, .ref (a 0)), (2, .int x2), (4, .int x4), (5, .int x5)] → G dC dI A H0 (W_X9 a cI cJ c_length c_text c_stands c_homeFar c_nets c_netAt c_netWide c_netFrom c_netTo c_priceX c_priceY c_many c_days c_aims c_speeds c_kinds c_keptMany c_undoMany c_undos c_spot c_told c_to c_stood c_home c_lost c_out c_fewest c_ways c_next c_held) H locs → W p l e (RM 5 109) s m args below meth c H locs 0 0 QQ (F0 m 139 ls [])) → ∀ (ls : Array Slot) (H : Heap) (locs : List Loc), lv_has ls 8 [(0, .ref (a 0)), (2, .int x2), (3, .int x3), (5, .int x5), (6, .int x6), (7, .int x7)] → G dC dI A H0 (W_X9 a cI cJ c_length c_text c_stands c_homeFar c_nets c_netAt c_netWide c_netFrom c_netTo c_priceX c_priceY c_many c_days c_aims c_speeds c_kinds c_keptMany c_undoMany c_undos c_spot c_told c_to c_stood c_home c_lost c_out c_fewest c_ways c_next c_held) H locs → W p l e (RM 5 109) s m args below meth c H locs 0 0 QQ (F0 m 115 ls [.int y0]) := by
    intro y0 x3 x5 x6 x7 c_nets c_netAt c_netWide c_netFrom c_netTo c_to c_stood c_home c_lost c_out w h KC KX ls H locs hl hG
    unfold DX9_net_J115 at h
    refine lv_istore (lv' := [(4, .int y0), (0, .ref (a 0)), (2, .int x2), (3, .int x3), (5, .int x5), (6, .int x6), (7, .int x7)]) hx hb dX9_net_115 hl (by decide) rfl (fun ls hl => ?_)
    refine lv_iload hx hb dX9_net_117 (lv_at hl 6 rfl) ?_
    refine lv_iload hx hb dX9_net_119 (lv_at hl 4 rfl) ?_
    refine lv_icmp_le (tgt := 129) hx hb dX9_net_121 (by decide) (fun c_21 => ?_) (fun c_21 => ?_)
    · have h := ite_t h c_21
      refine lv_iload hx hb dX9_net_129 (lv_at hl 4 rfl) ?_
      refine lv_istore (lv' := [(5, .int x5), (4, .int y0), (0, .ref (a 0)), (2, .int x2), (3, .int x3), (6, .int x6), (7, .int x7)]) hx hb dX9_net_131 hl (by decide) rfl (fun ls hl => ?_)
      refine lv_iinc (v := (x6 + (1 : Int32))) (lv' := [(6, .int (x6 + (1 : Int32))), (5, .int x5), (4, .int y0), (0, .ref (a 0)), (2, .int x2), (3, .int x3), (7, .int x7)]) hx hb dX9_net_133 hl (k := 5) rfl rfl (by decide) rfl (fun ls hl => ?_)
      refine lv_goto (tgt := 79) hx hb dX9_net_136 (by decide) ?_
      exact KC _ _ _ _ (Option.some.inj h).symm _ _ _ (lv_sub hl [3, 4, 5, 2, 1, 0] rfl) hG
    · have h := ite_f h c_21
      refine lv_iload hx hb dX9_net_124 (lv_at hl 6 rfl) ?_
      refine lv_goto (tgt := 131) hx hb dX9_net_126 (by decide) ?_
      refine lv_istore (lv' := [(5, .int x7), (4, .int y0), (0, .ref (a 0)), (2, .int x2), (3, .int x3), (6, .int x6), (7, .int x7)]) hx hb dX9_net_131 hl (by decide) rfl (fun ls hl => ?_)
      refine lv_iinc (v := (x6 + (1 : Int32))) (lv' := [(6, .int (x6 + (1 : Int32))), (5, .int x7), (4, .int y0), (0, .ref (a 0)), (2, .int x2), (3, .int x3), (7, .int x7)]) hx hb dX9_net_133 hl (k := 5) rfl rfl (by decide) rfl (fun ls hl => ?_)
      refine lv_goto (tgt := 79) hx hb dX9_net_136 (by decide) ?_
      exact KC _ _ _ _ (Option.some.inj h).symm _ _ _ (lv_sub hl [3, 4, 5, 2, 1, 0] rfl) hG
  have L79 : ∀ (x3 : Int32) (c_nets : Nat → Int32) (c_netWide : Nat → Int32) (c_netFrom : Nat → Int32) (c_netTo : Nat → Int32) (c_to : Nat → Int32) (c_stood : Nat → Int32) (c_home : Nat → Int32) (c_lost : Nat → Int32) (c_out : Int32), ∀ (n : Nat) (x4 : Int32) (x5 : Int32) (x6 : Int32) (c_netAt : Nat → Int32) (ex4 : Int32) (ex5 : Int32) (ec_netAt : Nat → Int32), DX9_net_L79 c_nets c_netWide c_netFrom c_netTo c_many c_days c_kinds c_to c_home c_lost x3 n x4 x5 x6 c_netAt = some (ex4, ex5, ec_netAt) → (∀ (ls : Array Slot) (H : Heap) (locs : List Loc), lv_has ls 8 [(0, .ref (a 0)), (2, .int x2), (4, .int ex4), (5, .int ex5)] → G dC dI A H0 (W_X9 a cI cJ c_length c_text c_stands c_homeFar c_nets ec_netAt c_netWide c_netFrom c_netTo c_priceX c_priceY c_many c_days c_aims c_speeds c_kinds c_keptMany c_undoMany c_undos c_spot c_told c_to c_stood c_home c_lost c_out c_fewest c_ways c_next c_held) H locs → W p l e (RM 5 109) s m args below meth c H locs 0 0 QQ (F0 m 139 ls [])) → ∀ (ls : Array Slot) (H : Heap) (locs : List Loc), lv_has ls 8 [(0, .ref (a 0)), (2, .int x2), (3, .int x3), (4, .int x4), (5, .int x5), (6, .int x6)] → G dC dI A H0 (W_X9 a cI cJ c_length c_text c_stands c_homeFar c_nets c_netAt c_netWide c_netFrom c_netTo c_priceX c_priceY c_many c_days c_aims c_speeds c_kinds c_keptMany c_undoMany c_undos c_spot c_told c_to c_stood c_home c_lost c_out c_fewest c_ways c_next c_held) H locs → W p l e (RM 5 109) s m args below meth c H locs 0 0 QQ (F0 m 79 ls []) := by
    intro x3 c_nets c_netWide c_netFrom c_netTo c_to c_stood c_home c_lost c_out n
    induction n with
    | zero => intro x4 x5 x6 c_netAt ex4 ex5 ec_netAt h; exact it_zero h
    | succ n ih =>
      intro x4 x5 x6 c_netAt ex4 ex5 ec_netAt h0 K0 ls H locs hl hG
      obtain ⟨w, h, hi, hr⟩ := it_succ h0
      have h : DX9_net_L79s c_nets c_netWide c_netFrom c_netTo c_many c_days c_kinds c_to c_home c_lost x3 x4 x5 x6 c_netAt = some w := h
      have KC : ∀ (x4 : Int32) (x5 : Int32) (x6 : Int32) (c_netAt : Nat → Int32), w = .inl (x4, x5, x6, c_netAt) → ∀ (ls : Array Slot) (H : Heap) (locs : List Loc), lv_has ls 8 [(0, .ref (a 0)), (2, .int x2), (3, .int x3), (4, .int x4), (5, .int x5), (6, .int x6)] → G dC dI A H0 (W_X9 a cI cJ c_length c_text c_stands c_homeFar c_nets c_netAt c_netWide c_netFrom c_netTo c_priceX c_priceY c_many c_days c_aims c_speeds c_kinds c_keptMany c_undoMany c_undos c_spot c_told c_to c_stood c_home c_lost c_out c_fewest c_ways c_next c_held) H locs → W p l e (RM 5 109) s m args below meth c H locs 0 0 QQ (F0 m 79 ls []) := fun b0 b1 b2 b3 e ls H locs hl hG => ih b0 b1 b2 b3 ex4 ex5 ec_netAt (hi _ e) K0 ls H locs hl hG
      have KX : ∀ (x4 : Int32) (x5 : Int32) (c_netAt : Nat → Int32), w = .inr (x4, x5, c_netAt) → ∀ (ls : Array Slot) (H : Heap) (locs : List Loc), lv_has ls 8 [(0, .ref (a 0)), (2, .int x2), (4, .int x4), (5, .int x5)] → G dC dI A H0 (W_X9 a cI cJ c_length c_text c_stands c_homeFar c_nets c_netAt c_netWide c_netFrom c_netTo c_priceX c_priceY c_many c_days c_aims c_speeds c_kinds c_keptMany c_undoMany c_undos c_spot c_told c_to c_stood c_home c_lost c_out c_fewest c_ways c_next c_held) H locs → W p l e (RM 5 109) s m args below meth c H locs 0 0 QQ (F0 m 139 ls []) := fun b0 b1 b2 e ls H locs hl hG => by cases hr _ e; exact K0 ls H locs hl hG
      clear h0 hi hr K0 ih
      unfold DX9_net_L79s at h
      refine lv_iload hx hb dX9_net_79 (lv_at hl 5 rfl) ?_
      refine lv_bipush (v := (24 : Int32)) hx hb dX9_net_81 (by decide) ?_
      refine lv_icmp_ge (tgt := 139) hx hb dX9_net_83 (by decide) (fun c_16 => ?_) (fun c_16 => ?_)
      · have h := ite_t h c_16
        exact KX _ _ _ (Option.some.inj h).symm _ _ _ (lv_sub hl [0, 1, 3, 4] rfl) hG
      · have h := ite_f h c_16
        refine lv_aload_n hx hb dX9_net_86 rfl (lv_at hl 0 rfl) ?_
        refine r_get X hG in_X9 rfl 5 (by decide) w_636 0 rfl rfl dX9_net_87 ?_
        refine lv_iload_n hx hb dX9_net_90 rfl (lv_at hl 2 rfl) ?_
        refine lv_iload hx hb dX9_net_91 (lv_at hl 5 rfl) ?_
        obtain ⟨g_17, h⟩ := gd h
        refine r_iast X hG 5 (ws' := (W_X9 a cI cJ c_length c_text c_stands c_homeFar c_nets (upd c_netAt x3.toNatClampNeg x6) c_netWide c_netFrom c_netTo c_priceX c_priceY c_many c_days c_aims c_speeds c_kinds c_keptMany c_undoMany c_undos c_spot c_told c_to c_stood c_home c_lost c_out c_fewest c_ways c_next c_held)) rfl g_17 rfl dX9_net_93 (fun H locs hG => ?_)
        refine lv_aload_n hx hb dX9_net_94 rfl (lv_at hl 0 rfl) ?_
        refine lv_iconst (v := (0 : Int32)) hx hb dX9_net_95 (by decide) ?_
        obtain ⟨r_18, hz_19, h⟩ := bd1_some h
        refine aft_i1 (run_V1 (rest := []) X hG hl.1 (mX9_howMany l dC dI cI cJ a c_length c_text c_stands c_homeFar c_nets (upd c_netAt x3.toNatClampNeg x6) c_netWide c_netFrom c_netTo c_priceX c_priceY c_many c_days c_aims c_speeds c_kinds c_keptMany c_undoMany c_undos c_spot c_told c_to c_stood c_home c_lost c_out c_fewest c_ways c_next c_held (0 : Int32) hz_19) gi_V_X9_198 hd_V_yX9_howMany ⟨rfl, rfl⟩ rfl ⟨Nat.le_of_ble_eq_true rfl, Nat.le_of_ble_eq_true rfl⟩ 0 rfl rfl rfl rfl (Nat.le_of_ble_eq_true rfl) ⟨Nat.le_of_ble_eq_true rfl, Nat.le_of_ble_eq_true rfl⟩ dX9_net_96) hG rfl (fun H locs hG => ?_)
        clear hz_19
        refine lv_istore (lv' := [(7, .int r_18), (0, .ref (a 0)), (2, .int x2), (3, .int x3), (4, .int x4), (5, .int x5), (6, .int x6)]) hx hb dX9_net_99 hl (by decide) rfl (fun ls hl => ?_)
        refine lv_iload hx hb dX9_net_101 (lv_at hl 0 rfl) ?_
        refine lv_iload hx hb dX9_net_103 (lv_at hl 5 rfl) ?_
        refine lv_icmp_le (tgt := 113) hx hb dX9_net_105 (by decide) (fun c_20 => ?_) (fun c_20 => ?_)
        · have h := ite_t h c_20
          refine lv_iload hx hb dX9_net_113 (lv_at hl 4 rfl) ?_
          exact J115 x4 x3 x5 x6 r_18 c_nets (upd c_netAt x3.toNatClampNeg x6) c_netWide c_netFrom c_netTo c_to c_stood c_home c_lost c_out _ h KC KX _ _ _ (lv_sub hl [1, 2, 3, 5, 6, 0] rfl) hG
        · have h := ite_f h c_20
          refine lv_iload hx hb dX9_net_108 (lv_at hl 6 rfl) ?_
          refine lv_goto (tgt := 115) hx hb dX9_net_110 (by decide) ?_
          exact J115 x6 x3 x5 x6 r_18 c_nets (upd c_netAt x3.toNatClampNeg x6) c_netWide c_netFrom c_netTo c_to c_stood c_home c_lost c_out _ h KC KX _ _ _ (lv_sub hl [1, 2, 3, 5, 6, 0] rfl) hG
  have h := hD
  unfold DX9_net at h
  clear hD
  refine lv_iload_n hx hb dX9_net_0 rfl (lv_at hl 1 rfl) ?_
  refine lv_i2l (v := (x1.toInt64)) hx hb dX9_net_1 rfl ?_
  refine lv_lconst (v := (0 : Int64)) hx hb dX9_net_2 (by decide) ?_
  refine lv_ldc2 (v := (3 : Int64)) hx hb X.1.2.2.2.1 (X.1.2.2.2.2 _ w_850) dX9_net_3 ?_
  obtain ⟨r_1, hz_2, h⟩ := bd1_some h
  refine aft_i (ws' := (W_X9 a cI cJ c_length c_text c_stands c_homeFar c_nets c_netAt c_netWide c_netFrom c_netTo c_priceX c_priceY c_many c_days c_aims c_speeds c_kinds c_keptMany c_undoMany c_undos c_spot c_told c_to c_stood c_home c_lost c_out c_fewest c_ways c_next c_held)) (run_S (rest := []) X hG hl.1 (mX9_in l dC dI cI cJ (x1.toInt64) (0 : Int64) (3 : Int64) hz_2) gi_S_X9_92 hd_S_yX9_in ⟨rfl, rfl⟩ rfl ⟨Nat.le_of_ble_eq_true rfl, Nat.le_of_ble_eq_true rfl⟩ [] (by decide) rfl rfl (Nat.le_of_ble_eq_true rfl) ⟨Nat.le_of_ble_eq_true rfl, Nat.le_of_ble_eq_true rfl⟩ dX9_net_6) hG [] rfl rfl rfl (fun H locs hG => ?_)
  clear hz_2
  refine lv_if_eq (tgt := 22) hx hb dX9_net_9 (by decide) (fun c_3 => ?_) (fun c_3 => ?_)
  · have h := ite_t h c_3
    refine lv_iconst (v := (-1 : Int32)) hx hb dX9_net_22 (by decide) ?_
    cases h
    exact ret _ _ _ _ dX9_net_23 hG
  · have h := ite_f h c_3
    refine lv_iload_n hx hb dX9_net_12 rfl (lv_at hl 2 rfl) ?_
    refine lv_i2l (v := (x2.toInt64)) hx hb dX9_net_13 rfl ?_
    refine lv_lconst (v := (0 : Int64)) hx hb dX9_net_14 (by decide) ?_
    refine lv_lconst (v := (1 : Int64)) hx hb dX9_net_15 (by decide) ?_
    obtain ⟨r_4, hz_5, h⟩ := bd1_some h
    refine aft_i (ws' := (W_X9 a cI cJ c_length c_text c_stands c_homeFar c_nets c_netAt c_netWide c_netFrom c_netTo c_priceX c_priceY c_many c_days c_aims c_speeds c_kinds c_keptMany c_undoMany c_undos c_spot c_told c_to c_stood c_home c_lost c_out c_fewest c_ways c_next c_held)) (run_S (rest := []) X hG hl.1 (mX9_in l dC dI cI cJ (x2.toInt64) (0 : Int64) (1 : Int64) hz_5) gi_S_X9_92 hd_S_yX9_in ⟨rfl, rfl⟩ rfl ⟨Nat.le_of_ble_eq_true rfl, Nat.le_of_ble_eq_true rfl⟩ [] (by decide) rfl rfl (Nat.le_of_ble_eq_true rfl) ⟨Nat.le_of_ble_eq_true rfl, Nat.le_of_ble_eq_true rfl⟩ dX9_net_16) hG [] rfl rfl rfl (fun H locs hG => ?_)
    clear hz_5
    refine lv_if_ne (tgt := 24) hx hb dX9_net_19 (by decide) (fun c_6 => ?_) (fun c_6 => ?_)
    · have h := ite_f h c_6
      refine lv_aload_n hx hb dX9_net_24 rfl (lv_at hl 0 rfl) ?_
      refine lv_iconst (v := (0 : Int32)) hx hb dX9_net_25 (by decide) ?_
      obtain ⟨k_to_7, k_stood_8, k_home_9, k_lost_10, k_out_11, hz_12, h⟩ := bd5_some h
      refine aft_v1 (run_V1 (rest := []) X hG hl.1 (mX9_go l dC dI cI cJ a c_length c_text c_stands c_homeFar c_nets c_netAt c_netWide c_netFrom c_netTo c_priceX c_priceY c_many c_days c_aims c_speeds c_kinds c_keptMany c_undoMany c_undos c_spot c_told c_to c_stood c_home c_lost c_out c_fewest c_ways c_next c_held (0 : Int32) hz_12) gi_V_X9_185 hd_V_yX9_go ⟨rfl, rfl⟩ rfl ⟨Nat.le_of_ble_eq_true rfl, Nat.le_of_ble_eq_true rfl⟩ 0 rfl rfl rfl rfl (Nat.le_of_ble_eq_true rfl) ⟨Nat.le_of_ble_eq_true rfl, Nat.le_of_ble_eq_true rfl⟩ dX9_net_26) hG rfl (fun H locs hG => ?_)
      clear hz_12
      refine lv_aload_n hx hb dX9_net_29 rfl (lv_at hl 0 rfl) ?_
      refine r_get X hG in_X9 rfl 4 (by decide) w_635 0 rfl rfl dX9_net_30 ?_
      refine lv_iconst (v := (0 : Int32)) hx hb dX9_net_33 (by decide) ?_
      refine r_iald X hG 4 rfl (vpd (by decide)) dX9_net_34 ?_
      refine lv_istore_n (lv' := [(3, .int (c_nets (0 : Int32).toNatClampNeg)), (0, .ref (a 0)), (1, .int x1), (2, .int x2)]) hx hb dX9_net_35 rfl hl (by decide) rfl (fun ls hl => ?_)
      refine lv_aload_n hx hb dX9_net_36 rfl (lv_at hl 1 rfl) ?_
      refine r_get X hG in_X9 rfl 6 (by decide) w_637 0 rfl rfl dX9_net_37 ?_
      refine lv_iload_n hx hb dX9_net_40 rfl (lv_at hl 0 rfl) ?_
      refine lv_iload_n hx hb dX9_net_41 rfl (lv_at hl 2 rfl) ?_
      obtain ⟨g_13, h⟩ := gd h
      refine r_iast X hG 6 (ws' := (W_X9 a cI cJ c_length c_text c_stands c_homeFar c_nets c_netAt (upd c_netWide (c_nets (0 : Int32).toNatClampNeg).toNatClampNeg x1) c_netFrom c_netTo c_priceX c_priceY c_many c_days c_aims c_speeds c_kinds c_keptMany c_undoMany c_undos c_spot c_told k_to_7 k_stood_8 k_home_9 k_lost_10 k_out_11 c_fewest c_ways c_next c_held)) rfl g_13 rfl dX9_net_42 (fun H locs hG => ?_)
      refine lv_aload_n hx hb dX9_net_43 rfl (lv_at hl 1 rfl) ?_
      refine r_get X hG in_X9 rfl 7 (by decide) w_638 0 rfl rfl dX9_net_44 ?_
      refine lv_iload_n hx hb dX9_net_47 rfl (lv_at hl 0 rfl) ?_
      refine lv_iconst (v := (0 : Int32)) hx hb dX9_net_48 (by decide) ?_
      obtain ⟨g_14, h⟩ := gd h
      refine r_iast X hG 7 (ws' := (W_X9 a cI cJ c_length c_text c_stands c_homeFar c_nets c_netAt (upd c_netWide (c_nets (0 : Int32).toNatClampNeg).toNatClampNeg x1) (upd c_netFrom (c_nets (0 : Int32).toNatClampNeg).toNatClampNeg (0 : Int32)) c_netTo c_priceX c_priceY c_many c_days c_aims c_speeds c_kinds c_keptMany c_undoMany c_undos c_spot c_told k_to_7 k_stood_8 k_home_9 k_lost_10 k_out_11 c_fewest c_ways c_next c_held)) rfl g_14 rfl dX9_net_49 (fun H locs hG => ?_)
      refine lv_aload_n hx hb dX9_net_50 rfl (lv_at hl 1 rfl) ?_
      refine r_get X hG in_X9 rfl 8 (by decide) w_639 0 rfl rfl dX9_net_51 ?_
      refine lv_iload_n hx hb dX9_net_54 rfl (lv_at hl 0 rfl) ?_
      refine lv_sipush (v := (10000 : Int32)) hx hb dX9_net_55 (by decide) ?_
      obtain ⟨g_15, h⟩ := gd h
      refine r_iast X hG 8 (ws' := (W_X9 a cI cJ c_length c_text c_stands c_homeFar c_nets c_netAt (upd c_netWide (c_nets (0 : Int32).toNatClampNeg).toNatClampNeg x1) (upd c_netFrom (c_nets (0 : Int32).toNatClampNeg).toNatClampNeg (0 : Int32)) (upd c_netTo (c_nets (0 : Int32).toNatClampNeg).toNatClampNeg (10000 : Int32)) c_priceX c_priceY c_many c_days c_aims c_speeds c_kinds c_keptMany c_undoMany c_undos c_spot c_told k_to_7 k_stood_8 k_home_9 k_lost_10 k_out_11 c_fewest c_ways c_next c_held)) rfl g_15 rfl dX9_net_58 (fun H locs hG => ?_)
      refine lv_aload_n hx hb dX9_net_59 rfl (lv_at hl 1 rfl) ?_
      refine r_get X hG in_X9 rfl 4 (by decide) w_635 0 rfl rfl dX9_net_60 ?_
      refine lv_iconst (v := (0 : Int32)) hx hb dX9_net_63 (by decide) ?_
      refine lv_dup2_11 hx hb dX9_net_64 rfl rfl ?_
      refine r_iald X hG 4 rfl (vpd (by decide)) dX9_net_65 ?_
      refine lv_iconst (v := (1 : Int32)) hx hb dX9_net_66 (by decide) ?_
      refine lv_iadd hx hb dX9_net_67 ?_
      refine r_iast X hG 4 (ws' := (W_X9 a cI cJ c_length c_text c_stands c_homeFar (upd c_nets (0 : Int32).toNatClampNeg ((c_nets (0 : Int32).toNatClampNeg) + (1 : Int32))) c_netAt (upd c_netWide (c_nets (0 : Int32).toNatClampNeg).toNatClampNeg x1) (upd c_netFrom (c_nets (0 : Int32).toNatClampNeg).toNatClampNeg (0 : Int32)) (upd c_netTo (c_nets (0 : Int32).toNatClampNeg).toNatClampNeg (10000 : Int32)) c_priceX c_priceY c_many c_days c_aims c_speeds c_kinds c_keptMany c_undoMany c_undos c_spot c_told k_to_7 k_stood_8 k_home_9 k_lost_10 k_out_11 c_fewest c_ways c_next c_held)) rfl (vpd (by decide)) rfl dX9_net_68 (fun H locs hG => ?_)
      refine lv_iconst (v := (0 : Int32)) hx hb dX9_net_69 (by decide) ?_
      refine lv_istore (lv' := [(4, .int (0 : Int32)), (3, .int (c_nets (0 : Int32).toNatClampNeg)), (0, .ref (a 0)), (1, .int x1), (2, .int x2)]) hx hb dX9_net_70 hl (by decide) rfl (fun ls hl => ?_)
      refine lv_bipush (v := (-4 : Int32)) hx hb dX9_net_72 (by decide) ?_
      refine lv_istore (lv' := [(5, .int (-4 : Int32)), (4, .int (0 : Int32)), (3, .int (c_nets (0 : Int32).toNatClampNeg)), (0, .ref (a 0)), (1, .int x1), (2, .int x2)]) hx hb dX9_net_74 hl (by decide) rfl (fun ls hl => ?_)
      refine lv_iconst (v := (0 : Int32)) hx hb dX9_net_76 (by decide) ?_
      refine lv_istore (lv' := [(6, .int (0 : Int32)), (5, .int (-4 : Int32)), (4, .int (0 : Int32)), (3, .int (c_nets (0 : Int32).toNatClampNeg)), (0, .ref (a 0)), (1, .int x1), (2, .int x2)]) hx hb dX9_net_77 hl (by decide) rfl (fun ls hl => ?_)
      obtain ⟨z4_22, z5_23, k_netAt_24, hz, h⟩ := bd3_some h
      refine L79 (c_nets (0 : Int32).toNatClampNeg) (upd c_nets (0 : Int32).toNatClampNeg ((c_nets (0 : Int32).toNatClampNeg) + (1 : Int32))) (upd c_netWide (c_nets (0 : Int32).toNatClampNeg).toNatClampNeg x1) (upd c_netFrom (c_nets (0 : Int32).toNatClampNeg).toNatClampNeg (0 : Int32)) (upd c_netTo (c_nets (0 : Int32).toNatClampNeg).toNatClampNeg (10000 : Int32)) k_to_7 k_stood_8 k_home_9 k_lost_10 k_out_11 FU (0 : Int32) (-4 : Int32) (0 : Int32) c_netAt _ _ _ hz (fun ls H locs hl hG => ?_) _ _ _ (lv_sub hl [4, 6, 3, 2, 1, 0] rfl) hG
      clear hz
      refine lv_aload_n hx hb dX9_net_139 rfl (lv_at hl 0 rfl) ?_
      refine r_get X hG in_X9 rfl 4 (by decide) w_635 0 rfl rfl dX9_net_140 ?_
      refine lv_iconst (v := (0 : Int32)) hx hb dX9_net_143 (by decide) ?_
      refine lv_dup2_11 hx hb dX9_net_144 rfl rfl ?_
      refine r_iald X hG 4 rfl (vpd (by decide)) dX9_net_145 ?_
      refine lv_iconst (v := (1 : Int32)) hx hb dX9_net_146 (by decide) ?_
      refine lv_isub hx hb dX9_net_147 ?_
      refine r_iast X hG 4 (ws' := (W_X9 a cI cJ c_length c_text c_stands c_homeFar (upd (upd c_nets (0 : Int32).toNatClampNeg ((c_nets (0 : Int32).toNatClampNeg) + (1 : Int32))) (0 : Int32).toNatClampNeg (((upd c_nets (0 : Int32).toNatClampNeg ((c_nets (0 : Int32).toNatClampNeg) + (1 : Int32))) (0 : Int32).toNatClampNeg) - (1 : Int32))) k_netAt_24 (upd c_netWide (c_nets (0 : Int32).toNatClampNeg).toNatClampNeg x1) (upd c_netFrom (c_nets (0 : Int32).toNatClampNeg).toNatClampNeg (0 : Int32)) (upd c_netTo (c_nets (0 : Int32).toNatClampNeg).toNatClampNeg (10000 : Int32)) c_priceX c_priceY c_many c_days c_aims c_speeds c_kinds c_keptMany c_undoMany c_undos c_spot c_told k_to_7 k_stood_8 k_home_9 k_lost_10 k_out_11 c_fewest c_ways c_next c_held)) rfl (vpd (by decide)) rfl dX9_net_148 (fun H locs hG => ?_)
      refine lv_iload_n hx hb dX9_net_149 rfl (lv_at hl 1 rfl) ?_
      refine lv_if_ne (tgt := 158) hx hb dX9_net_150 (by decide) (fun c_25 => ?_) (fun c_25 => ?_)
      · have h := ite_f h c_25
        refine lv_iload hx hb dX9_net_158 (lv_at hl 3 rfl) ?_
        cases h
        exact ret _ _ _ _ dX9_net_160 hG
      · have h := ite_t h c_25
        refine lv_iload hx hb dX9_net_153 (lv_at hl 2 rfl) ?_
        refine lv_goto (tgt := 160) hx hb dX9_net_155 (by decide) ?_
        cases h
        exact ret _ _ _ _ dX9_net_160 hG
    · have h := ite_t h c_6
      refine lv_iconst (v := (-1 : Int32)) hx hb dX9_net_22 (by decide) ?_
      cases h
      exact ret _ _ _ _ dX9_net_23 hG
set_option maxRecDepth 100000 in
set_option maxHeartbeats 4000000 in
theorem mX9_bits (l : Launch) (dC : Nat → ClassId) (dI : Nat → Nat → Nat) (cI cJ : ClassId) (x0 : Int32) {res : Int32} (hD : DX9_bits x0 = some res) : Met l yX9_bits (WZ yX9_bits cX9_bits 3 (some .int)) (RM 0 0) (PC dC dI cI cJ [.int x0] []) (QI dC dI [] [] res) 0 0 (FA []) := by
  refine r_metI (by decide +kernel) (Nat.le_of_ble_eq_true rfl) ?_
  intro p e s m args below meth c A H0 QQ X ret ls hl hG
  have X : Cx p m c cX9_bits 3 s args RX9 dC dI cI cJ meth (some .int) := X
  have hx := X.1.1
  have hb := X.1.2.1
  have hl : lv_has ls 3 [(0, .int x0)] := hl
  have L4 : ∀ (n : Nat) (x1 : Int32) (x2 : Int32) (ex1 : Int32), DX9_bits_L4 n x1 x2 = some ex1 → (∀ (ls : Array Slot) (H : Heap) (locs : List Loc), lv_has ls 3 [(1, .int ex1)] → G dC dI A H0 [] H locs → W p l e (RM 0 0) s m args below meth c H locs 0 0 QQ (F0 m 20 ls [])) → ∀ (ls : Array Slot) (H : Heap) (locs : List Loc), lv_has ls 3 [(1, .int x1), (2, .int x2)] → G dC dI A H0 [] H locs → W p l e (RM 0 0) s m args below meth c H locs 0 0 QQ (F0 m 4 ls []) := by
    intro  n
    induction n with
    | zero => intro x1 x2 ex1 h; exact it_zero h
    | succ n ih =>
      intro x1 x2 ex1 h0 K0 ls H locs hl hG
      obtain ⟨w, h, hi, hr⟩ := it_succ h0
      have h : DX9_bits_L4s x1 x2 = some w := h
      have KC : ∀ (x1 : Int32) (x2 : Int32), w = .inl (x1, x2) → ∀ (ls : Array Slot) (H : Heap) (locs : List Loc), lv_has ls 3 [(1, .int x1), (2, .int x2)] → G dC dI A H0 [] H locs → W p l e (RM 0 0) s m args below meth c H locs 0 0 QQ (F0 m 4 ls []) := fun b0 b1 e ls H locs hl hG => ih b0 b1 ex1 (hi _ e) K0 ls H locs hl hG
      have KX : ∀ (x1 : Int32), w = .inr x1 → ∀ (ls : Array Slot) (H : Heap) (locs : List Loc), lv_has ls 3 [(1, .int x1)] → G dC dI A H0 [] H locs → W p l e (RM 0 0) s m args below meth c H locs 0 0 QQ (F0 m 20 ls []) := fun b0 e ls H locs hl hG => by cases hr _ e; exact K0 ls H locs hl hG
      clear h0 hi hr K0 ih
      unfold DX9_bits_L4s at h
      refine lv_iload_n hx hb dX9_bits_4 rfl (lv_at hl 1 rfl) ?_
      refine lv_if_eq (tgt := 20) hx hb dX9_bits_5 (by decide) (fun c_1 => ?_) (fun c_1 => ?_)
      · have h := ite_t h c_1
        exact KX _ (Option.some.inj h).symm _ _ _ (lv_sub hl [0] rfl) hG
      · have h := ite_f h c_1
        refine lv_iinc (v := (x1 + (1 : Int32))) (lv' := [(1, .int (x1 + (1 : Int32))), (2, .int x2)]) hx hb dX9_bits_8 hl (k := 0) rfl rfl (by decide) rfl (fun ls hl => ?_)
        refine lv_iload_n hx hb dX9_bits_11 rfl (lv_at hl 1 rfl) ?_
        refine lv_iload_n hx hb dX9_bits_12 rfl (lv_at hl 1 rfl) ?_
        refine lv_iconst (v := (1 : Int32)) hx hb dX9_bits_13 (by decide) ?_
        refine lv_isub hx hb dX9_bits_14 ?_
        refine lv_iand hx hb dX9_bits_15 ?_
        refine lv_istore_n (lv' := [(2, .int (x2 &&& (x2 - (1 : Int32)))), (1, .int (x1 + (1 : Int32)))]) hx hb dX9_bits_16 rfl hl (by decide) rfl (fun ls hl => ?_)
        refine lv_goto (tgt := 4) hx hb dX9_bits_17 (by decide) ?_
        exact KC _ _ (Option.some.inj h).symm _ _ _ (lv_sub hl [1, 0] rfl) hG
  have h := hD
  unfold DX9_bits at h
  clear hD
  refine lv_iconst (v := (0 : Int32)) hx hb dX9_bits_0 (by decide) ?_
  refine lv_istore_n (lv' := [(1, .int (0 : Int32)), (0, .int x0)]) hx hb dX9_bits_1 rfl hl (by decide) rfl (fun ls hl => ?_)
  refine lv_iload_n hx hb dX9_bits_2 rfl (lv_at hl 1 rfl) ?_
  refine lv_istore_n (lv' := [(2, .int x0), (1, .int (0 : Int32)), (0, .int x0)]) hx hb dX9_bits_3 rfl hl (by decide) rfl (fun ls hl => ?_)
  obtain ⟨z1_2, hz, h⟩ := bd1_some h
  refine L4  FU (0 : Int32) x0 _ hz (fun ls H locs hl hG => ?_) _ _ _ (lv_sub hl [1, 0] rfl) hG
  clear hz
  refine lv_iload_n hx hb dX9_bits_20 rfl (lv_at hl 0 rfl) ?_
  cases h
  exact ret _ _ _ _ dX9_bits_21 hG
