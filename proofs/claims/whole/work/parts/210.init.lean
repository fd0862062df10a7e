/-! a constructor -/
set_option maxRecDepth 100000 in
set_option maxHeartbeats 4000000 in
theorem iX7 (l : Launch) (dC : Nat → ClassId) (dI : Nat → Nat → Nat) (cI cJ : ClassId) (h0 sz : Nat) : Met l yX7_init (WZ yX7_init cX7_init 1 none) (RMC 1 12 1 24) (PCN dC dI cI cJ [.ref h0] [(h0, .inr (7, [.null]))] sz) (QN dC dI [(h0, .inr (7, [.null]))] (fun u => (W_X7 h0 (u 0) cI cJ (fun _ => (0 : Int32)))) sz) 1 24 (va_A [(h0, .inr (7, [.null]))] sz) := by
  refine r_metC (by decide +kernel) rfl (Nat.le_of_ble_eq_true rfl) ?_
  intro p e s m args below meth c A H0 QQ X hin hA ret ls hl hG
  have X : Cx p m c cX7_init 1 s args RX7 dC dI cI cJ meth none := X
  have hx := X.1.1
  have hb := X.1.2.1
  have hl : lv_has ls 1 [(0, .ref h0)] := hl
  have hG : G dC dI A H0 [(h0, .inr (7, [.null]))] H0 [] := hG
  refine lv_aload_n hx hb dX7_init_0 rfl (lv_at hl 0 rfl) ?_
  refine r_obj X hl.1 w_222 w_60 w_61 dX7_init_1 (Nat.le_of_ble_eq_true rfl) (Nat.le_of_ble_eq_true rfl) ?_
  refine lv_aload_n hx hb dX7_init_4 rfl (lv_at hl 0 rfl) ?_
  refine lv_bipush (v := (24 : Int32)) hx hb dX7_init_5 (by decide) ?_
  refine r_newI (N' := 24) X hG hA w_77 (by decide) (by decide) (Nat.le_of_ble_eq_true rfl) (Nat.le_of_ble_eq_true rfl) (Nat.le_of_ble_eq_true rfl) dX7_init_7 (fun q1 H hG => ?_)
  have hG : G dC dI A H0 [(h0, .inr (7, [.null])), (q1, .inl (cI, 24, .inl (fun _ => (0 : Int32))))] H _ := hG
  refine r_putF (ty := .array .int) X hG hin in_X7 rfl tyX7 tyX7_ok nmX7 0 (by decide) rfl rfl (by decide +kernel) rfl rfl w_223 0 (ws' := [(h0, .inr (7, [.ref q1])), (q1, .inl (cI, 24, .inl (fun _ => (0 : Int32))))]) rfl (Nat.le_of_ble_eq_true rfl) rfl dX7_init_9 (fun H locs hG => ?_)
  have hG := hG.perm (wc := ((fun u => (W_X7 h0 (u 0) cI cJ (fun _ => (0 : Int32))))) (fun k => [q1].getD k 0)) [0, 1] (by decide) rfl
  exact ret _ _ _ _ (fun k => [q1].getD k 0) dX7_init_12 hG
