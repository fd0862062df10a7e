/-! a constructor -/
set_option maxRecDepth 100000 in
set_option maxHeartbeats 4000000 in
theorem iX6 (l : Launch) (dC : Nat → ClassId) (dI : Nat → Nat → Nat) (cI cJ : ClassId) (h0 sz : Nat) : Met l yX6_init (WZ yX6_init cX6_init 1 none) (RMC 1 12 1 300) (PCN dC dI cI cJ [.ref h0] [(h0, .inr (6, [.null, .int 0]))] sz) (QN dC dI [(h0, .inr (6, [.null, .int 0]))] (fun u => (W_X6 h0 (u 0) cI cJ (fun _ => (0 : Int32)) (0 : Int32))) sz) 1 300 (va_A [(h0, .inr (6, [.null, .int 0]))] sz) := by
  refine r_metC (by decide +kernel) rfl (Nat.le_of_ble_eq_true rfl) ?_
  intro p e s m args below meth c A H0 QQ X hin hA ret ls hl hG
  have X : Cx p m c cX6_init 1 s args RX6 dC dI cI cJ meth none := X
  have hx := X.1.1
  have hb := X.1.2.1
  have hl : lv_has ls 1 [(0, .ref h0)] := hl
  have hG : G dC dI A H0 [(h0, .inr (6, [.null, .int 0]))] H0 [] := hG
  refine lv_aload_n hx hb dX6_init_0 rfl (lv_at hl 0 rfl) ?_
  refine r_obj X hl.1 w_67 w_60 w_61 dX6_init_1 (Nat.le_of_ble_eq_true rfl) (Nat.le_of_ble_eq_true rfl) ?_
  refine lv_aload_n hx hb dX6_init_4 rfl (lv_at hl 0 rfl) ?_
  refine lv_sipush (v := (300 : Int32)) hx hb dX6_init_5 (by decide) ?_
  refine r_newI (N' := 300) X hG hA w_77 (by decide) (by decide) (Nat.le_of_ble_eq_true rfl) (Nat.le_of_ble_eq_true rfl) (Nat.le_of_ble_eq_true rfl) dX6_init_8 (fun q1 H hG => ?_)
  have hG : G dC dI A H0 [(h0, .inr (6, [.null, .int 0])), (q1, .inl (cI, 300, .inl (fun _ => (0 : Int32))))] H _ := hG
  refine r_putF (ty := .array .int) X hG hin in_X6 rfl tyX6 tyX6_ok nmX6 0 (by decide) rfl rfl (by decide +kernel) rfl rfl w_68 0 (ws' := [(h0, .inr (6, [.ref q1, .int 0])), (q1, .inl (cI, 300, .inl (fun _ => (0 : Int32))))]) rfl (Nat.le_of_ble_eq_true rfl) rfl dX6_init_10 (fun H locs hG => ?_)
  refine lv_aload_n hx hb dX6_init_13 rfl (lv_at hl 0 rfl) ?_
  refine lv_iconst (v := (0 : Int32)) hx hb dX6_init_14 (by decide) ?_
  refine r_put X hG in_X6 rfl tyX6 tyX6_ok nmX6 1 (by decide) rfl (by decide +kernel) w_69 0 (ws' := [(h0, .inr (6, [.ref q1, .int (0 : Int32)])), (q1, .inl (cI, 300, .inl (fun _ => (0 : Int32))))]) rfl (Nat.le_of_ble_eq_true rfl) rfl dX6_init_15 (fun H locs hG => ?_)
  have hG := hG.perm (wc := ((fun u => (W_X6 h0 (u 0) cI cJ (fun _ => (0 : Int32)) (0 : Int32)))) (fun k => [q1].getD k 0)) [0, 1] (by decide) rfl
  exact ret _ _ _ _ (fun k => [q1].getD k 0) dX6_init_18 hG
