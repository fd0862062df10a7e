/-! a constructor -/
set_option maxRecDepth 100000 in
set_option maxHeartbeats 4000000 in
theorem iX5_7_10 (l : Launch) (dC : Nat → ClassId) (dI : Nat → Nat → Nat) (cI cJ : ClassId) (h0 sz : Nat) : Met l yX5_init (WZ yX5_init cX5_init 3 none) (RMC 1 14 1 70) (PCN dC dI cI cJ [.ref h0, .int (7 : Int32), .int (10 : Int32)] [(h0, .inr (5, [.null, .int 0, .int 0, .int 0]))] sz) (QN dC dI [(h0, .inr (5, [.null, .int 0, .int 0, .int 0]))] (fun u => (W_X5 h0 (u 0) cI cJ (7 : Int32) (10 : Int32) 70 (fun _ => (0 : Int32)) (0 : Int32))) sz) 1 70 (va_A [(h0, .inr (5, [.null, .int 0, .int 0, .int 0]))] sz) := by
  refine r_metC (by decide +kernel) rfl (Nat.le_of_ble_eq_true rfl) ?_
  intro p e s m args below meth c A H0 QQ X hin hA ret ls hl hG
  have X : Cx p m c cX5_init 3 s args RX5 dC dI cI cJ meth none := X
  have hx := X.1.1
  have hb := X.1.2.1
  have hl : lv_has ls 3 [(0, .ref h0), (1, .int (7 : Int32)), (2, .int (10 : Int32))] := hl
  have hG : G dC dI A H0 [(h0, .inr (5, [.null, .int 0, .int 0, .int 0]))] H0 [] := hG
  refine lv_aload_n hx hb dX5_init_0 rfl (lv_at hl 0 rfl) ?_
  refine r_obj X hl.1 w_102 w_60 w_61 dX5_init_1 (Nat.le_of_ble_eq_true rfl) (Nat.le_of_ble_eq_true rfl) ?_
  refine lv_aload_n hx hb dX5_init_4 rfl (lv_at hl 0 rfl) ?_
  refine lv_iconst (v := (0 : Int32)) hx hb dX5_init_5 (by decide) ?_
  refine lv_iload_n hx hb dX5_init_6 rfl (lv_at hl 1 rfl) ?_
  refine va_mmax hx hb (X.1.2.2.1.trans hl.1.symm) X.1.2.2.2.1 (X.1.2.2.2.2 _ w_103) (X.1.2.2.2.2 _ w_104) (X.1.2.2.2.2 _ w_46) (X.1.2.2.2.2 _ w_105) (Nat.le_of_ble_eq_true rfl) (Nat.le_of_ble_eq_true rfl) (Nat.le_of_ble_eq_true rfl) (Nat.le_of_ble_eq_true rfl) dX5_init_7 ?_
  refine lv_topi (fun y ey => ?_)
  obtain rfl : y = (7 : Int32) := ey.trans (by decide)
  clear ey
  refine r_putF (ty := .int) X hG hin in_X5 rfl tyX5 tyX5_ok nmX5 1 (by decide) rfl rfl (by decide +kernel) rfl rfl w_107 0 (ws' := [(h0, .inr (5, [.null, .int (7 : Int32), .int 0, .int 0]))]) rfl (Nat.le_of_ble_eq_true rfl) rfl dX5_init_10 (fun H locs hG => ?_)
  refine lv_aload_n hx hb dX5_init_13 rfl (lv_at hl 0 rfl) ?_
  refine lv_iconst (v := (0 : Int32)) hx hb dX5_init_14 (by decide) ?_
  refine lv_iload_n hx hb dX5_init_15 rfl (lv_at hl 2 rfl) ?_
  refine va_mmax hx hb (X.1.2.2.1.trans hl.1.symm) X.1.2.2.2.1 (X.1.2.2.2.2 _ w_103) (X.1.2.2.2.2 _ w_104) (X.1.2.2.2.2 _ w_46) (X.1.2.2.2.2 _ w_105) (Nat.le_of_ble_eq_true rfl) (Nat.le_of_ble_eq_true rfl) (Nat.le_of_ble_eq_true rfl) (Nat.le_of_ble_eq_true rfl) dX5_init_16 ?_
  refine lv_topi (fun y ey => ?_)
  obtain rfl : y = (10 : Int32) := ey.trans (by decide)
  clear ey
  refine r_putF (ty := .int) X hG hin in_X5 rfl tyX5 tyX5_ok nmX5 2 (by decide) rfl rfl (by decide +kernel) rfl rfl w_108 0 (ws' := [(h0, .inr (5, [.null, .int (7 : Int32), .int (10 : Int32), .int 0]))]) rfl (Nat.le_of_ble_eq_true rfl) rfl dX5_init_19 (fun H locs hG => ?_)
  refine lv_aload_n hx hb dX5_init_22 rfl (lv_at hl 0 rfl) ?_
  refine lv_aload_n hx hb dX5_init_23 rfl (lv_at hl 0 rfl) ?_
  refine r_get X hG in_X5 rfl 1 (by decide) w_107 0 rfl rfl dX5_init_24 ?_
  refine lv_aload_n hx hb dX5_init_27 rfl (lv_at hl 0 rfl) ?_
  refine r_get X hG in_X5 rfl 2 (by decide) w_108 0 rfl rfl dX5_init_28 ?_
  refine lv_imul hx hb dX5_init_31 ?_
  refine lv_topi (fun y ey => ?_)
  obtain rfl : y = (70 : Int32) := ey.trans (by decide)
  clear ey
  refine r_newI (N' := 70) X hG hA w_77 (by decide) (by decide) (Nat.le_of_ble_eq_true rfl) (Nat.le_of_ble_eq_true rfl) (Nat.le_of_ble_eq_true rfl) dX5_init_32 (fun q1 H hG => ?_)
  have hG : G dC dI A H0 [(h0, .inr (5, [.null, .int (7 : Int32), .int (10 : Int32), .int 0])), (q1, .inl (cI, 70, .inl (fun _ => (0 : Int32))))] H _ := hG
  refine r_putF (ty := .array .int) X hG hin in_X5 rfl tyX5 tyX5_ok nmX5 0 (by decide) rfl rfl (by decide +kernel) rfl rfl w_106 0 (ws' := [(h0, .inr (5, [.ref q1, .int (7 : Int32), .int (10 : Int32), .int 0])), (q1, .inl (cI, 70, .inl (fun _ => (0 : Int32))))]) rfl (Nat.le_of_ble_eq_true rfl) rfl dX5_init_34 (fun H locs hG => ?_)
  refine lv_aload_n hx hb dX5_init_37 rfl (lv_at hl 0 rfl) ?_
  refine lv_iconst (v := (0 : Int32)) hx hb dX5_init_38 (by decide) ?_
  refine r_put X hG in_X5 rfl tyX5 tyX5_ok nmX5 3 (by decide) rfl (by decide +kernel) w_109 0 (ws' := [(h0, .inr (5, [.ref q1, .int (7 : Int32), .int (10 : Int32), .int (0 : Int32)])), (q1, .inl (cI, 70, .inl (fun _ => (0 : Int32))))]) rfl (Nat.le_of_ble_eq_true rfl) rfl dX5_init_39 (fun H locs hG => ?_)
  have hG := hG.perm (wc := ((fun u => (W_X5 h0 (u 0) cI cJ (7 : Int32) (10 : Int32) 70 (fun _ => (0 : Int32)) (0 : Int32)))) (fun k => [q1].getD k 0)) [0, 1] (by decide) rfl
  exact ret _ _ _ _ (fun k => [q1].getD k 0) dX5_init_42 hG
