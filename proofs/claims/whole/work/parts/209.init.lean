/-! a constructor -/
set_option maxRecDepth 100000 in
set_option maxHeartbeats 4000000 in
theorem iX2 (l : Launch) (dC : Nat → ClassId) (dI : Nat → Nat → Nat) (cI cJ : ClassId) (h0 sz : Nat) : Met l yX2_init (WZ yX2_init cX2_init 1 none) (RMC 2 36 4 64) (PCN dC dI cI cJ [.ref h0] [(h0, .inr (2, [.null, .null, .int 0]))] sz) (QN dC dI [(h0, .inr (2, [.null, .null, .int 0]))] (fun u => (W_X2 h0 (u 0) (u 1) (u 2) (u 3) cI cJ (fun _ => (0 : Int32)) (0 : Int32) (fun _ => (0 : Int32)) (0 : Int32) (0 : Int32))) sz) 4 64 (va_A [(h0, .inr (2, [.null, .null, .int 0]))] sz) := by
  refine r_metC (by decide +kernel) rfl (Nat.le_of_ble_eq_true rfl) ?_
  intro p e s m args below meth c A H0 QQ X hin hA ret ls hl hG
  have X : Cx p m c cX2_init 1 s args RX2 dC dI cI cJ meth none := X
  have hx := X.1.1
  have hb := X.1.2.1
  have hl : lv_has ls 1 [(0, .ref h0)] := hl
  have hG : G dC dI A H0 [(h0, .inr (2, [.null, .null, .int 0]))] H0 [] := hG
  refine lv_aload_n hx hb dX2_init_0 rfl (lv_at hl 0 rfl) ?_
  refine r_obj X hl.1 w_203 w_60 w_61 dX2_init_1 (Nat.le_of_ble_eq_true rfl) (Nat.le_of_ble_eq_true rfl) ?_
  refine lv_aload_n hx hb dX2_init_4 rfl (lv_at hl 0 rfl) ?_
  refine r_new (ci := 5) (fs := [.null, .int 0, .int 0, .int 0]) X hG hA in_X5 tyX5 tyX5_ok rfl (fun j hj => by rcases (show j = 0 ∨ j = 1 ∨ j = 2 ∨ j = 3 by omega) with rfl | rfl | rfl | rfl <;> rfl) w_204 w_98 w_45 (Nat.le_of_ble_eq_true rfl) (Nat.le_of_ble_eq_true rfl) dX2_init_5 (fun q1 H hG => ?_)
  have hG : G dC dI A H0 [(h0, .inr (2, [.null, .null, .int 0])), (q1, .inr (5, [.null, .int 0, .int 0, .int 0]))] H _ := hG
  refine lv_dup hx hb dX2_init_8 rfl ?_
  refine lv_bipush (v := (7 : Int32)) hx hb dX2_init_9 (by decide) ?_
  refine lv_iconst (v := (4 : Int32)) hx hb dX2_init_11 (by decide) ?_
  refine aft_c (wr := [(h0, .inr (2, [.null, .null, .int 0]))]) (run_I (rest := [.ref q1, .ref h0]) X hG hl.1 (iX5_7_4 l dC dI cI cJ q1 H.size) gi_N_yX5_init w_205 w_100 w_45 rfl hd_S_yX5_init ⟨rfl, rfl⟩ rfl ⟨Nat.le_of_ble_eq_true rfl, Nat.le_of_ble_eq_true rfl⟩ [1] (by decide) rfl rfl (Nat.le_of_ble_eq_true rfl) ⟨Nat.le_of_ble_eq_true rfl, Nat.le_of_ble_eq_true rfl⟩ dX2_init_12) hG hA [1] [0] rfl rfl (by decide) (by decide) (fun u2 H locs hG => ?_)
  have hG : G dC dI A H0 [(h0, .inr (2, [.null, .null, .int 0])), (q1, .inr (5, [.ref (u2 0), .int (7 : Int32), .int (4 : Int32), .int (0 : Int32)])), ((u2 0), .inl (cI, 28, .inl (fun _ => (0 : Int32))))] H _ := hG
  refine r_putF (ty := .object "ThrownHome$Table") X hG hin in_X2 rfl tyX2 tyX2_ok nmX2 0 (by decide) rfl rfl (by decide +kernel) rfl rfl w_206 0 (ws' := [(h0, .inr (2, [.ref q1, .null, .int 0])), (q1, .inr (5, [.ref (u2 0), .int (7 : Int32), .int (4 : Int32), .int (0 : Int32)])), ((u2 0), .inl (cI, 28, .inl (fun _ => (0 : Int32))))]) rfl (Nat.le_of_ble_eq_true rfl) rfl dX2_init_15 (fun H locs hG => ?_)
  refine lv_aload_n hx hb dX2_init_18 rfl (lv_at hl 0 rfl) ?_
  refine r_new (ci := 5) (fs := [.null, .int 0, .int 0, .int 0]) X hG hA in_X5 tyX5 tyX5_ok rfl (fun j hj => by rcases (show j = 0 ∨ j = 1 ∨ j = 2 ∨ j = 3 by omega) with rfl | rfl | rfl | rfl <;> rfl) w_204 w_98 w_45 (Nat.le_of_ble_eq_true rfl) (Nat.le_of_ble_eq_true rfl) dX2_init_19 (fun q3 H hG => ?_)
  have hG : G dC dI A H0 [(h0, .inr (2, [.ref q1, .null, .int 0])), (q1, .inr (5, [.ref (u2 0), .int (7 : Int32), .int (4 : Int32), .int (0 : Int32)])), ((u2 0), .inl (cI, 28, .inl (fun _ => (0 : Int32)))), (q3, .inr (5, [.null, .int 0, .int 0, .int 0]))] H _ := hG
  refine lv_dup hx hb dX2_init_22 rfl ?_
  refine lv_bipush (v := (7 : Int32)) hx hb dX2_init_23 (by decide) ?_
  refine lv_iconst (v := (4 : Int32)) hx hb dX2_init_25 (by decide) ?_
  refine aft_c (wr := [(h0, .inr (2, [.ref q1, .null, .int 0])), (q1, .inr (5, [.ref (u2 0), .int (7 : Int32), .int (4 : Int32), .int (0 : Int32)])), ((u2 0), .inl (cI, 28, .inl (fun _ => (0 : Int32))))]) (run_I (rest := [.ref q3, .ref h0]) X hG hl.1 (iX5_7_4 l dC dI cI cJ q3 H.size) gi_N_yX5_init w_205 w_100 w_45 rfl hd_S_yX5_init ⟨rfl, rfl⟩ rfl ⟨Nat.le_of_ble_eq_true rfl, Nat.le_of_ble_eq_true rfl⟩ [3] (by decide) rfl rfl (Nat.le_of_ble_eq_true rfl) ⟨Nat.le_of_ble_eq_true rfl, Nat.le_of_ble_eq_true rfl⟩ dX2_init_26) hG hA [3] [0, 1, 2] rfl rfl (by decide) (by decide) (fun u4 H locs hG => ?_)
  have hG : G dC dI A H0 [(h0, .inr (2, [.ref q1, .null, .int 0])), (q1, .inr (5, [.ref (u2 0), .int (7 : Int32), .int (4 : Int32), .int (0 : Int32)])), ((u2 0), .inl (cI, 28, .inl (fun _ => (0 : Int32)))), (q3, .inr (5, [.ref (u4 0), .int (7 : Int32), .int (4 : Int32), .int (0 : Int32)])), ((u4 0), .inl (cI, 28, .inl (fun _ => (0 : Int32))))] H _ := hG
  refine r_putF (ty := .object "ThrownHome$Table") X hG hin in_X2 rfl tyX2 tyX2_ok nmX2 1 (by decide) rfl rfl (by decide +kernel) rfl rfl w_207 0 (ws' := [(h0, .inr (2, [.ref q1, .ref q3, .int 0])), (q1, .inr (5, [.ref (u2 0), .int (7 : Int32), .int (4 : Int32), .int (0 : Int32)])), ((u2 0), .inl (cI, 28, .inl (fun _ => (0 : Int32)))), (q3, .inr (5, [.ref (u4 0), .int (7 : Int32), .int (4 : Int32), .int (0 : Int32)])), ((u4 0), .inl (cI, 28, .inl (fun _ => (0 : Int32))))]) rfl (Nat.le_of_ble_eq_true rfl) rfl dX2_init_29 (fun H locs hG => ?_)
  refine lv_aload_n hx hb dX2_init_32 rfl (lv_at hl 0 rfl) ?_
  refine lv_iconst (v := (0 : Int32)) hx hb dX2_init_33 (by decide) ?_
  refine r_put X hG in_X2 rfl tyX2 tyX2_ok nmX2 2 (by decide) rfl (by decide +kernel) w_208 0 (ws' := [(h0, .inr (2, [.ref q1, .ref q3, .int (0 : Int32)])), (q1, .inr (5, [.ref (u2 0), .int (7 : Int32), .int (4 : Int32), .int (0 : Int32)])), ((u2 0), .inl (cI, 28, .inl (fun _ => (0 : Int32)))), (q3, .inr (5, [.ref (u4 0), .int (7 : Int32), .int (4 : Int32), .int (0 : Int32)])), ((u4 0), .inl (cI, 28, .inl (fun _ => (0 : Int32))))]) rfl (Nat.le_of_ble_eq_true rfl) rfl dX2_init_34 (fun H locs hG => ?_)
  have hG := hG.perm (wc := ((fun u => (W_X2 h0 (u 0) (u 1) (u 2) (u 3) cI cJ (fun _ => (0 : Int32)) (0 : Int32) (fun _ => (0 : Int32)) (0 : Int32) (0 : Int32)))) (fun k => [q1, (u2 0), q3, (u4 0)].getD k 0)) [0, 1, 2, 3, 4] (by decide) rfl
  exact ret _ _ _ _ (fun k => [q1, (u2 0), q3, (u4 0)].getD k 0) dX2_init_37 hG
