/-! a constructor -/
set_option maxRecDepth 100000 in
set_option maxHeartbeats 4000000 in
theorem iX1 (l : Launch) (dC : Nat → ClassId) (dI : Nat → Nat → Nat) (cI cJ : ClassId) (h0 sz : Nat) : Met l yX1_init (WZ yX1_init cX1_init 1 none) (RMC 2 36 3 81) (PCN dC dI cI cJ [.ref h0] [(h0, .inr (1, [.null, .null, .int 0, .int 0, .int 0]))] sz) (QN dC dI [(h0, .inr (1, [.null, .null, .int 0, .int 0, .int 0]))] (fun u => (W_X1 h0 (u 0) (u 1) (u 2) cI cJ (fun _ => (0 : Int32)) (0 : Int32) (fun _ => (0 : Int32)) (0 : Int32) (0 : Int32) (0 : Int32))) sz) 3 81 (va_A [(h0, .inr (1, [.null, .null, .int 0, .int 0, .int 0]))] sz) := by
  refine r_metC (by decide +kernel) rfl (Nat.le_of_ble_eq_true rfl) ?_
  intro p e s m args below meth c A H0 QQ X hin hA ret ls hl hG
  have X : Cx p m c cX1_init 1 s args RX1 dC dI cI cJ meth none := X
  have hx := X.1.1
  have hb := X.1.2.1
  have hl : lv_has ls 1 [(0, .ref h0)] := hl
  have hG : G dC dI A H0 [(h0, .inr (1, [.null, .null, .int 0, .int 0, .int 0]))] H0 [] := hG
  refine lv_aload_n hx hb dX1_init_0 rfl (lv_at hl 0 rfl) ?_
  refine r_obj X hl.1 w_158 w_60 w_61 dX1_init_1 (Nat.le_of_ble_eq_true rfl) (Nat.le_of_ble_eq_true rfl) ?_
  refine lv_aload_n hx hb dX1_init_4 rfl (lv_at hl 0 rfl) ?_
  refine r_new (ci := 5) (fs := [.null, .int 0, .int 0, .int 0]) X hG hA in_X5 tyX5 tyX5_ok rfl (fun j hj => by rcases (show j = 0 ∨ j = 1 ∨ j = 2 ∨ j = 3 by omega) with rfl | rfl | rfl | rfl <;> rfl) w_159 w_98 w_45 (Nat.le_of_ble_eq_true rfl) (Nat.le_of_ble_eq_true rfl) dX1_init_5 (fun q1 H hG => ?_)
  have hG : G dC dI A H0 [(h0, .inr (1, [.null, .null, .int 0, .int 0, .int 0])), (q1, .inr (5, [.null, .int 0, .int 0, .int 0]))] H _ := hG
  refine lv_dup hx hb dX1_init_8 rfl ?_
  refine lv_bipush (v := (7 : Int32)) hx hb dX1_init_9 (by decide) ?_
  refine lv_bipush (v := (10 : Int32)) hx hb dX1_init_11 (by decide) ?_
  refine aft_c (wr := [(h0, .inr (1, [.null, .null, .int 0, .int 0, .int 0]))]) (run_I (rest := [.ref q1, .ref h0]) X hG hl.1 (iX5_7_10 l dC dI cI cJ q1 H.size) gi_N_yX5_init w_160 w_100 w_45 rfl hd_S_yX5_init ⟨rfl, rfl⟩ rfl ⟨Nat.le_of_ble_eq_true rfl, Nat.le_of_ble_eq_true rfl⟩ [1] (by decide) rfl rfl (Nat.le_of_ble_eq_true rfl) ⟨Nat.le_of_ble_eq_true rfl, Nat.le_of_ble_eq_true rfl⟩ dX1_init_13) hG hA [1] [0] rfl rfl (by decide) (by decide) (fun u2 H locs hG => ?_)
  have hG : G dC dI A H0 [(h0, .inr (1, [.null, .null, .int 0, .int 0, .int 0])), (q1, .inr (5, [.ref (u2 0), .int (7 : Int32), .int (10 : Int32), .int (0 : Int32)])), ((u2 0), .inl (cI, 70, .inl (fun _ => (0 : Int32))))] H _ := hG
  refine r_putF (ty := .object "ThrownHome$Table") X hG hin in_X1 rfl tyX1 tyX1_ok nmX1 0 (by decide) rfl rfl (by decide +kernel) rfl rfl w_161 0 (ws' := [(h0, .inr (1, [.ref q1, .null, .int 0, .int 0, .int 0])), (q1, .inr (5, [.ref (u2 0), .int (7 : Int32), .int (10 : Int32), .int (0 : Int32)])), ((u2 0), .inl (cI, 70, .inl (fun _ => (0 : Int32))))]) rfl (Nat.le_of_ble_eq_true rfl) rfl dX1_init_16 (fun H locs hG => ?_)
  refine lv_aload_n hx hb dX1_init_19 rfl (lv_at hl 0 rfl) ?_
  refine lv_bipush (v := (7 : Int32)) hx hb dX1_init_20 (by decide) ?_
  refine r_newI (N' := 7) X hG hA w_77 (by decide) (by decide) (Nat.le_of_ble_eq_true rfl) (Nat.le_of_ble_eq_true rfl) (Nat.le_of_ble_eq_true rfl) dX1_init_22 (fun q3 H hG => ?_)
  have hG : G dC dI A H0 [(h0, .inr (1, [.ref q1, .null, .int 0, .int 0, .int 0])), (q1, .inr (5, [.ref (u2 0), .int (7 : Int32), .int (10 : Int32), .int (0 : Int32)])), ((u2 0), .inl (cI, 70, .inl (fun _ => (0 : Int32)))), (q3, .inl (cI, 7, .inl (fun _ => (0 : Int32))))] H _ := hG
  refine r_putF (ty := .array .int) X hG hin in_X1 rfl tyX1 tyX1_ok nmX1 1 (by decide) rfl rfl (by decide +kernel) rfl rfl w_162 0 (ws' := [(h0, .inr (1, [.ref q1, .ref q3, .int 0, .int 0, .int 0])), (q1, .inr (5, [.ref (u2 0), .int (7 : Int32), .int (10 : Int32), .int (0 : Int32)])), ((u2 0), .inl (cI, 70, .inl (fun _ => (0 : Int32)))), (q3, .inl (cI, 7, .inl (fun _ => (0 : Int32))))]) rfl (Nat.le_of_ble_eq_true rfl) rfl dX1_init_24 (fun H locs hG => ?_)
  refine lv_aload_n hx hb dX1_init_27 rfl (lv_at hl 0 rfl) ?_
  refine lv_iconst (v := (0 : Int32)) hx hb dX1_init_28 (by decide) ?_
  refine r_put X hG in_X1 rfl tyX1 tyX1_ok nmX1 2 (by decide) rfl (by decide +kernel) w_163 0 (ws' := [(h0, .inr (1, [.ref q1, .ref q3, .int (0 : Int32), .int 0, .int 0])), (q1, .inr (5, [.ref (u2 0), .int (7 : Int32), .int (10 : Int32), .int (0 : Int32)])), ((u2 0), .inl (cI, 70, .inl (fun _ => (0 : Int32)))), (q3, .inl (cI, 7, .inl (fun _ => (0 : Int32))))]) rfl (Nat.le_of_ble_eq_true rfl) rfl dX1_init_29 (fun H locs hG => ?_)
  refine lv_aload_n hx hb dX1_init_32 rfl (lv_at hl 0 rfl) ?_
  refine lv_iconst (v := (0 : Int32)) hx hb dX1_init_33 (by decide) ?_
  refine r_put X hG in_X1 rfl tyX1 tyX1_ok nmX1 3 (by decide) rfl (by decide +kernel) w_164 0 (ws' := [(h0, .inr (1, [.ref q1, .ref q3, .int (0 : Int32), .int (0 : Int32), .int 0])), (q1, .inr (5, [.ref (u2 0), .int (7 : Int32), .int (10 : Int32), .int (0 : Int32)])), ((u2 0), .inl (cI, 70, .inl (fun _ => (0 : Int32)))), (q3, .inl (cI, 7, .inl (fun _ => (0 : Int32))))]) rfl (Nat.le_of_ble_eq_true rfl) rfl dX1_init_34 (fun H locs hG => ?_)
  refine lv_aload_n hx hb dX1_init_37 rfl (lv_at hl 0 rfl) ?_
  refine lv_iconst (v := (0 : Int32)) hx hb dX1_init_38 (by decide) ?_
  refine r_put X hG in_X1 rfl tyX1 tyX1_ok nmX1 4 (by decide) rfl (by decide +kernel) w_165 0 (ws' := [(h0, .inr (1, [.ref q1, .ref q3, .int (0 : Int32), .int (0 : Int32), .int (0 : Int32)])), (q1, .inr (5, [.ref (u2 0), .int (7 : Int32), .int (10 : Int32), .int (0 : Int32)])), ((u2 0), .inl (cI, 70, .inl (fun _ => (0 : Int32)))), (q3, .inl (cI, 7, .inl (fun _ => (0 : Int32))))]) rfl (Nat.le_of_ble_eq_true rfl) rfl dX1_init_39 (fun H locs hG => ?_)
  have hG := hG.perm (wc := ((fun u => (W_X1 h0 (u 0) (u 1) (u 2) cI cJ (fun _ => (0 : Int32)) (0 : Int32) (fun _ => (0 : Int32)) (0 : Int32) (0 : Int32) (0 : Int32)))) (fun k => [q1, (u2 0), q3].getD k 0)) [0, 1, 2, 3] (by decide) rfl
  exact ret _ _ _ _ (fun k => [q1, (u2 0), q3].getD k 0) dX1_init_42 hG
