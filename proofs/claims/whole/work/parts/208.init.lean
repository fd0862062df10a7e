/-! a constructor -/
set_option maxRecDepth 100000 in
set_option maxHeartbeats 4000000 in
theorem iX0 (l : Launch) (dC : Nat → ClassId) (dI : Nat → Nat → Nat) (cI cJ : ClassId) (h0 sz : Nat) : Met l yX0_init (WZ yX0_init cX0_init 1 none) (RMC 1 12 3 24) (PCN dC dI cI cJ [.ref h0] [(h0, .inr (0, [.null, .null, .null, .int 0]))] sz) (QN dC dI [(h0, .inr (0, [.null, .null, .null, .int 0]))] (fun u => (W_X0 h0 (u 0) (u 1) (u 2) cI cJ (fun _ => (0 : Int32)) (fun _ => (0 : Int32)) (fun _ => (0 : Int32)) (0 : Int32))) sz) 3 24 (va_A [(h0, .inr (0, [.null, .null, .null, .int 0]))] sz) := by
  refine r_metC (by decide +kernel) rfl (Nat.le_of_ble_eq_true rfl) ?_
  intro p e s m args below meth c A H0 QQ X hin hA ret ls hl hG
  have X : Cx p m c cX0_init 1 s args RX0 dC dI cI cJ meth none := X
  have hx := X.1.1
  have hb := X.1.2.1
  have hl : lv_has ls 1 [(0, .ref h0)] := hl
  have hG : G dC dI A H0 [(h0, .inr (0, [.null, .null, .null, .int 0]))] H0 [] := hG
  refine lv_aload_n hx hb dX0_init_0 rfl (lv_at hl 0 rfl) ?_
  refine r_obj X hl.1 w_183 w_60 w_61 dX0_init_1 (Nat.le_of_ble_eq_true rfl) (Nat.le_of_ble_eq_true rfl) ?_
  refine lv_aload_n hx hb dX0_init_4 rfl (lv_at hl 0 rfl) ?_
  refine lv_bipush (v := (8 : Int32)) hx hb dX0_init_5 (by decide) ?_
  refine r_newI (N' := 8) X hG hA w_77 (by decide) (by decide) (Nat.le_of_ble_eq_true rfl) (Nat.le_of_ble_eq_true rfl) (Nat.le_of_ble_eq_true rfl) dX0_init_7 (fun q1 H hG => ?_)
  have hG : G dC dI A H0 [(h0, .inr (0, [.null, .null, .null, .int 0])), (q1, .inl (cI, 8, .inl (fun _ => (0 : Int32))))] H _ := hG
  refine r_putF (ty := .array .int) X hG hin in_X0 rfl tyX0 tyX0_ok nmX0 0 (by decide) rfl rfl (by decide +kernel) rfl rfl w_184 0 (ws' := [(h0, .inr (0, [.ref q1, .null, .null, .int 0])), (q1, .inl (cI, 8, .inl (fun _ => (0 : Int32))))]) rfl (Nat.le_of_ble_eq_true rfl) rfl dX0_init_9 (fun H locs hG => ?_)
  refine lv_aload_n hx hb dX0_init_12 rfl (lv_at hl 0 rfl) ?_
  refine lv_bipush (v := (8 : Int32)) hx hb dX0_init_13 (by decide) ?_
  refine r_newI (N' := 8) X hG hA w_77 (by decide) (by decide) (Nat.le_of_ble_eq_true rfl) (Nat.le_of_ble_eq_true rfl) (Nat.le_of_ble_eq_true rfl) dX0_init_15 (fun q2 H hG => ?_)
  have hG : G dC dI A H0 [(h0, .inr (0, [.ref q1, .null, .null, .int 0])), (q1, .inl (cI, 8, .inl (fun _ => (0 : Int32)))), (q2, .inl (cI, 8, .inl (fun _ => (0 : Int32))))] H _ := hG
  refine r_putF (ty := .array .int) X hG hin in_X0 rfl tyX0 tyX0_ok nmX0 1 (by decide) rfl rfl (by decide +kernel) rfl rfl w_185 0 (ws' := [(h0, .inr (0, [.ref q1, .ref q2, .null, .int 0])), (q1, .inl (cI, 8, .inl (fun _ => (0 : Int32)))), (q2, .inl (cI, 8, .inl (fun _ => (0 : Int32))))]) rfl (Nat.le_of_ble_eq_true rfl) rfl dX0_init_17 (fun H locs hG => ?_)
  refine lv_aload_n hx hb dX0_init_20 rfl (lv_at hl 0 rfl) ?_
  refine lv_bipush (v := (8 : Int32)) hx hb dX0_init_21 (by decide) ?_
  refine r_newI (N' := 8) X hG hA w_77 (by decide) (by decide) (Nat.le_of_ble_eq_true rfl) (Nat.le_of_ble_eq_true rfl) (Nat.le_of_ble_eq_true rfl) dX0_init_23 (fun q3 H hG => ?_)
  have hG : G dC dI A H0 [(h0, .inr (0, [.ref q1, .ref q2, .null, .int 0])), (q1, .inl (cI, 8, .inl (fun _ => (0 : Int32)))), (q2, .inl (cI, 8, .inl (fun _ => (0 : Int32)))), (q3, .inl (cI, 8, .inl (fun _ => (0 : Int32))))] H _ := hG
  refine r_putF (ty := .array .int) X hG hin in_X0 rfl tyX0 tyX0_ok nmX0 2 (by decide) rfl rfl (by decide +kernel) rfl rfl w_186 0 (ws' := [(h0, .inr (0, [.ref q1, .ref q2, .ref q3, .int 0])), (q1, .inl (cI, 8, .inl (fun _ => (0 : Int32)))), (q2, .inl (cI, 8, .inl (fun _ => (0 : Int32)))), (q3, .inl (cI, 8, .inl (fun _ => (0 : Int32))))]) rfl (Nat.le_of_ble_eq_true rfl) rfl dX0_init_25 (fun H locs hG => ?_)
  refine lv_aload_n hx hb dX0_init_28 rfl (lv_at hl 0 rfl) ?_
  refine lv_iconst (v := (0 : Int32)) hx hb dX0_init_29 (by decide) ?_
  refine r_put X hG in_X0 rfl tyX0 tyX0_ok nmX0 3 (by decide) rfl (by decide +kernel) w_187 0 (ws' := [(h0, .inr (0, [.ref q1, .ref q2, .ref q3, .int (0 : Int32)])), (q1, .inl (cI, 8, .inl (fun _ => (0 : Int32)))), (q2, .inl (cI, 8, .inl (fun _ => (0 : Int32)))), (q3, .inl (cI, 8, .inl (fun _ => (0 : Int32))))]) rfl (Nat.le_of_ble_eq_true rfl) rfl dX0_init_30 (fun H locs hG => ?_)
  have hG := hG.perm (wc := ((fun u => (W_X0 h0 (u 0) (u 1) (u 2) cI cJ (fun _ => (0 : Int32)) (fun _ => (0 : Int32)) (fun _ => (0 : Int32)) (0 : Int32)))) (fun k => [q1, q2, q3].getD k 0)) [0, 1, 2, 3] (by decide) rfl
  exact ret _ _ _ _ (fun k => [q1, q2, q3].getD k 0) dX0_init_33 hG
