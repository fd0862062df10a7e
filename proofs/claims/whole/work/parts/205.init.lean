/-! a constructor -/
set_option maxRecDepth 100000 in
set_option maxHeartbeats 4000000 in
theorem iX3 (l : Launch) (dC : Nat → ClassId) (dI : Nat → Nat → Nat) (cI cJ : ClassId) (h0 sz : Nat) : Met l yX3_init (WZ yX3_init cX3_init 1 none) (RMC 2 40 4 56) (PCN dC dI cI cJ [.ref h0] [(h0, .inr (3, [.int 0, .int 0, .int 0, .int 0, .null, .null]))] sz) (QN dC dI [(h0, .inr (3, [.int 0, .int 0, .int 0, .int 0, .null, .null]))] (fun u => (W_X3 h0 (u 0) (u 1) (u 2) (u 3) cI cJ (0 : Int32) (12 : Int32) (0 : Int32) (7 : Int32) (fun _ => (0 : Int32)) (0 : Int32) (fun _ => (0 : Int32)) (0 : Int32))) sz) 4 56 (va_A [(h0, .inr (3, [.int 0, .int 0, .int 0, .int 0, .null, .null]))] sz) := by
  refine r_metC (by decide +kernel) rfl (Nat.le_of_ble_eq_true rfl) ?_
  intro p e s m args below meth c A H0 QQ X hin hA ret ls hl hG
  have X : Cx p m c cX3_init 1 s args RX3 dC dI cI cJ meth none := X
  have hx := X.1.1
  have hb := X.1.2.1
  have hl : lv_has ls 1 [(0, .ref h0)] := hl
  have hG : G dC dI A H0 [(h0, .inr (3, [.int 0, .int 0, .int 0, .int 0, .null, .null]))] H0 [] := hG
  refine lv_aload_n hx hb dX3_init_0 rfl (lv_at hl 0 rfl) ?_
  refine r_obj X hl.1 w_96 w_60 w_61 dX3_init_1 (Nat.le_of_ble_eq_true rfl) (Nat.le_of_ble_eq_true rfl) ?_
  refine lv_aload_n hx hb dX3_init_4 rfl (lv_at hl 0 rfl) ?_
  refine r_new (ci := 5) (fs := [.null, .int 0, .int 0, .int 0]) X hG hA in_X5 tyX5 tyX5_ok rfl (fun j hj => by rcases (show j = 0 ∨ j = 1 ∨ j = 2 ∨ j = 3 by omega) with rfl | rfl | rfl | rfl <;> rfl) w_97 w_98 w_45 (Nat.le_of_ble_eq_true rfl) (Nat.le_of_ble_eq_true rfl) dX3_init_5 (fun q1 H hG => ?_)
  have hG : G dC dI A H0 [(h0, .inr (3, [.int 0, .int 0, .int 0, .int 0, .null, .null])), (q1, .inr (5, [.null, .int 0, .int 0, .int 0]))] H _ := hG
  refine lv_dup hx hb dX3_init_8 rfl ?_
  refine lv_bipush (v := (7 : Int32)) hx hb dX3_init_9 (by decide) ?_
  refine lv_iconst (v := (4 : Int32)) hx hb dX3_init_11 (by decide) ?_
  refine aft_c (wr := [(h0, .inr (3, [.int 0, .int 0, .int 0, .int 0, .null, .null]))]) (run_I (rest := [.ref q1, .ref h0]) X hG hl.1 (iX5_7_4 l dC dI cI cJ q1 H.size) gi_N_yX5_init w_99 w_100 w_45 rfl hd_S_yX5_init ⟨rfl, rfl⟩ rfl ⟨Nat.le_of_ble_eq_true rfl, Nat.le_of_ble_eq_true rfl⟩ [1] (by decide) rfl rfl (Nat.le_of_ble_eq_true rfl) ⟨Nat.le_of_ble_eq_true rfl, Nat.le_of_ble_eq_true rfl⟩ dX3_init_12) hG hA [1] [0] rfl rfl (by decide) (by decide) (fun u2 H locs hG => ?_)
  have hG : G dC dI A H0 [(h0, .inr (3, [.int 0, .int 0, .int 0, .int 0, .null, .null])), (q1, .inr (5, [.ref (u2 0), .int (7 : Int32), .int (4 : Int32), .int (0 : Int32)])), ((u2 0), .inl (cI, 28, .inl (fun _ => (0 : Int32))))] H _ := hG
  refine r_putF (ty := .object "ThrownHome$Table") X hG hin in_X3 rfl tyX3 tyX3_ok nmX3 4 (by decide) rfl rfl (by decide +kernel) rfl rfl w_135 0 (ws' := [(h0, .inr (3, [.int 0, .int 0, .int 0, .int 0, .ref q1, .null])), (q1, .inr (5, [.ref (u2 0), .int (7 : Int32), .int (4 : Int32), .int (0 : Int32)])), ((u2 0), .inl (cI, 28, .inl (fun _ => (0 : Int32))))]) rfl (Nat.le_of_ble_eq_true rfl) rfl dX3_init_15 (fun H locs hG => ?_)
  refine lv_aload_n hx hb dX3_init_18 rfl (lv_at hl 0 rfl) ?_
  refine r_new (ci := 5) (fs := [.null, .int 0, .int 0, .int 0]) X hG hA in_X5 tyX5 tyX5_ok rfl (fun j hj => by rcases (show j = 0 ∨ j = 1 ∨ j = 2 ∨ j = 3 by omega) with rfl | rfl | rfl | rfl <;> rfl) w_97 w_98 w_45 (Nat.le_of_ble_eq_true rfl) (Nat.le_of_ble_eq_true rfl) dX3_init_19 (fun q3 H hG => ?_)
  have hG : G dC dI A H0 [(h0, .inr (3, [.int 0, .int 0, .int 0, .int 0, .ref q1, .null])), (q1, .inr (5, [.ref (u2 0), .int (7 : Int32), .int (4 : Int32), .int (0 : Int32)])), ((u2 0), .inl (cI, 28, .inl (fun _ => (0 : Int32)))), (q3, .inr (5, [.null, .int 0, .int 0, .int 0]))] H _ := hG
  refine lv_dup hx hb dX3_init_22 rfl ?_
  refine lv_iconst (v := (5 : Int32)) hx hb dX3_init_23 (by decide) ?_
  refine lv_iconst (v := (4 : Int32)) hx hb dX3_init_24 (by decide) ?_
  refine aft_c (wr := [(h0, .inr (3, [.int 0, .int 0, .int 0, .int 0, .ref q1, .null])), (q1, .inr (5, [.ref (u2 0), .int (7 : Int32), .int (4 : Int32), .int (0 : Int32)])), ((u2 0), .inl (cI, 28, .inl (fun _ => (0 : Int32))))]) (run_I (rest := [.ref q3, .ref h0]) X hG hl.1 (iX5_5_4 l dC dI cI cJ q3 H.size) gi_N_yX5_init w_99 w_100 w_45 rfl hd_S_yX5_init ⟨rfl, rfl⟩ rfl ⟨Nat.le_of_ble_eq_true rfl, Nat.le_of_ble_eq_true rfl⟩ [3] (by decide) rfl rfl (Nat.le_of_ble_eq_true rfl) ⟨Nat.le_of_ble_eq_true rfl, Nat.le_of_ble_eq_true rfl⟩ dX3_init_25) hG hA [3] [0, 1, 2] rfl rfl (by decide) (by decide) (fun u4 H locs hG => ?_)
  have hG : G dC dI A H0 [(h0, .inr (3, [.int 0, .int 0, .int 0, .int 0, .ref q1, .null])), (q1, .inr (5, [.ref (u2 0), .int (7 : Int32), .int (4 : Int32), .int (0 : Int32)])), ((u2 0), .inl (cI, 28, .inl (fun _ => (0 : Int32)))), (q3, .inr (5, [.ref (u4 0), .int (5 : Int32), .int (4 : Int32), .int (0 : Int32)])), ((u4 0), .inl (cI, 20, .inl (fun _ => (0 : Int32))))] H _ := hG
  refine r_putF (ty := .object "ThrownHome$Table") X hG hin in_X3 rfl tyX3 tyX3_ok nmX3 5 (by decide) rfl rfl (by decide +kernel) rfl rfl w_138 0 (ws' := [(h0, .inr (3, [.int 0, .int 0, .int 0, .int 0, .ref q1, .ref q3])), (q1, .inr (5, [.ref (u2 0), .int (7 : Int32), .int (4 : Int32), .int (0 : Int32)])), ((u2 0), .inl (cI, 28, .inl (fun _ => (0 : Int32)))), (q3, .inr (5, [.ref (u4 0), .int (5 : Int32), .int (4 : Int32), .int (0 : Int32)])), ((u4 0), .inl (cI, 20, .inl (fun _ => (0 : Int32))))]) rfl (Nat.le_of_ble_eq_true rfl) rfl dX3_init_28 (fun H locs hG => ?_)
  refine lv_aload_n hx hb dX3_init_31 rfl (lv_at hl 0 rfl) ?_
  have hz5 : DX3_makeBare = some ((0 : Int32), (12 : Int32), (0 : Int32), (7 : Int32), (0 : Int32), (0 : Int32)) := by
    rfl
  refine aft_v (ws' := [(h0, .inr (3, [.int (0 : Int32), .int (12 : Int32), .int (0 : Int32), .int (7 : Int32), .ref q1, .ref q3])), (q1, .inr (5, [.ref (u2 0), .int (7 : Int32), .int (4 : Int32), .int (0 : Int32)])), ((u2 0), .inl (cI, 28, .inl (fun _ => (0 : Int32)))), (q3, .inr (5, [.ref (u4 0), .int (5 : Int32), .int (4 : Int32), .int (0 : Int32)])), ((u4 0), .inl (cI, 20, .inl (fun _ => (0 : Int32))))]) (run_V (rest := []) X hG hl.1 (mX3_makeBare l dC dI cI cJ h0 q1 (u2 0) q3 (u4 0) 0 0 0 0 (fun _ => (0 : Int32)) (0 : Int32) (fun _ => (0 : Int32)) (0 : Int32) hz5) gi_V_X3_23 hd_V_yX3_makeBare ⟨rfl, rfl⟩ rfl ⟨Nat.le_of_ble_eq_true rfl, Nat.le_of_ble_eq_true rfl⟩ [0, 1, 2, 3, 4] (by decide) rfl 0 rfl rfl rfl rfl (Nat.le_of_ble_eq_true rfl) ⟨Nat.le_of_ble_eq_true rfl, Nat.le_of_ble_eq_true rfl⟩ dX3_init_32) hG [0, 1, 2, 3, 4] rfl rfl rfl (fun H locs hG => ?_)
  have hG := hG.perm (wc := ((fun u => (W_X3 h0 (u 0) (u 1) (u 2) (u 3) cI cJ (0 : Int32) (12 : Int32) (0 : Int32) (7 : Int32) (fun _ => (0 : Int32)) (0 : Int32) (fun _ => (0 : Int32)) (0 : Int32)))) (fun k => [q1, (u2 0), q3, (u4 0)].getD k 0)) [0, 1, 2, 3, 4] (by decide) rfl
  exact ret _ _ _ _ (fun k => [q1, (u2 0), q3, (u4 0)].getD k 0) dX3_init_35 hG
