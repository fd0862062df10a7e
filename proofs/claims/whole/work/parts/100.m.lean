/-! CONTRACTS, laid by wip/gen/lay.py: yX0_forget, yX8_put, yX8_at, yX0_dropOldest, yX0_note, yX5_set, yX0_takeBack, yX5_rows, yX5_get, yX1_turnBy, yJ9_floorMod_7cf53, yX1_throwAll -/
set_option maxRecDepth 100000 in
set_option maxHeartbeats 4000000 in
theorem mX0_forget (l : Launch) (dC : Nat → ClassId) (dI : Nat → Nat → Nat) (cI cJ : ClassId) (a0 a1 a2 a3 : Nat) (c_who : Nat → Int32) (c_column : Nat → Int32) (c_was : Nat → Int32) (c_held : Int32) {n_held : Int32} (hD : DX0_forget = some n_held) : Met l yX0_forget (WZ yX0_forget cX0_forget 1 none) (RM 0 0) (PC dC dI cI cJ [.ref a0] (W_X0 a0 a1 a2 a3 cI cJ c_who c_column c_was c_held)) (QV dC dI (W_X0 a0 a1 a2 a3 cI cJ c_who c_column c_was c_held) (W_X0 a0 a1 a2 a3 cI cJ c_who c_column c_was n_held)) 0 0 (FA (W_X0 a0 a1 a2 a3 cI cJ c_who c_column c_was c_held)) := by
  refine r_metV (by decide +kernel) (Nat.le_of_ble_eq_true rfl) ?_
  intro p e s m args below meth c A H0 QQ X ret ls hl hG
  have X : Cx p m c cX0_forget 1 s args RX0 dC dI cI cJ meth none := X
  have hx := X.1.1
  have hb := X.1.2.1
  have hl : lv_has ls 1 [(0, .ref a0)] := hl
  have h := hD
  unfold DX0_forget at h
  clear hD
  refine lv_aload_n hx hb dX0_forget_0 rfl (lv_at hl 0 rfl) ?_
  refine lv_iconst (v := (0 : Int32)) hx hb dX0_forget_1 (by decide) ?_
  refine r_put X hG in_X0 rfl tyX0 tyX0_ok nmX0 3 (by decide) rfl (by decide +kernel) w_187 0 (ws' := (W_X0 a0 a1 a2 a3 cI cJ c_who c_column c_was (0 : Int32))) rfl (Nat.le_of_ble_eq_true rfl) rfl dX0_forget_2 (fun H locs hG => ?_)
  cases h
  exact ret _ _ _ _ dX0_forget_5 hG
set_option maxRecDepth 100000 in
set_option maxHeartbeats 4000000 in
theorem mX8_put (l : Launch) (dC : Nat → ClassId) (dI : Nat → Nat → Nat) (cI cJ : ClassId) (a0 : Nat) (pn : Nat) (c_row : Nat → Int32) (x1 : Int32) (x2 : Int32) {n_row : Nat → Int32} (hD : DX8_put x1 x2 pn c_row = some n_row) : Met l yX8_put (WZ yX8_put cX8_put 3 none) (RM 0 0) (PC dC dI cI cJ [.ref a0, .int x1, .int x2] (W_A a0 cI cJ pn c_row)) (QV dC dI (W_A a0 cI cJ pn c_row) (W_A a0 cI cJ pn n_row)) 0 0 (FA (W_A a0 cI cJ pn c_row)) := by
  refine r_metV (by decide +kernel) (Nat.le_of_ble_eq_true rfl) ?_
  intro p e s m args below meth c A H0 QQ X ret ls hl hG
  have X : Cx p m c cX8_put 3 s args RX8 dC dI cI cJ meth none := X
  have hx := X.1.1
  have hb := X.1.2.1
  have hl : lv_has ls 3 [(0, .ref a0), (1, .int x1), (2, .int x2)] := hl
  have h := hD
  unfold DX8_put at h
  clear hD
  refine lv_iload_n hx hb dX8_put_0 rfl (lv_at hl 1 rfl) ?_
  refine lv_if_lt (tgt := 14) hx hb dX8_put_1 (by decide) (fun c_1 => ?_) (fun c_1 => ?_)
  · have h := ite_t h c_1
    cases h
    exact ret _ _ _ _ dX8_put_14 hG
  · have h := ite_f h c_1
    refine lv_iload_n hx hb dX8_put_4 rfl (lv_at hl 1 rfl) ?_
    refine lv_aload_n hx hb dX8_put_5 rfl (lv_at hl 0 rfl) ?_
    refine r_alen X hG 0 rfl dX8_put_6 ?_
    refine lv_icmp_ge (tgt := 14) hx hb dX8_put_7 (by decide) (fun c_2 => ?_) (fun c_2 => ?_)
    · have h := ite_t h c_2
      cases h
      exact ret _ _ _ _ dX8_put_14 hG
    · have h := ite_f h c_2
      refine lv_aload_n hx hb dX8_put_10 rfl (lv_at hl 0 rfl) ?_
      refine lv_iload_n hx hb dX8_put_11 rfl (lv_at hl 1 rfl) ?_
      refine lv_iload_n hx hb dX8_put_12 rfl (lv_at hl 2 rfl) ?_
      obtain ⟨g_3, h⟩ := gd h
      refine r_iast X hG 0 (ws' := (W_A a0 cI cJ pn (upd c_row x1.toNatClampNeg x2))) rfl g_3 rfl dX8_put_13 (fun H locs hG => ?_)
      cases h
      exact ret _ _ _ _ dX8_put_14 hG
set_option maxRecDepth 100000 in
set_option maxHeartbeats 4000000 in
theorem mX8_at (l : Launch) (dC : Nat → ClassId) (dI : Nat → Nat → Nat) (cI cJ : ClassId) (a0 : Nat) (pn : Nat) (c_row : Nat → Int32) (x1 : Int32) {res : Int32} (hD : DX8_at x1 pn c_row = some res) : Met l yX8_at (WZ yX8_at cX8_at 2 (some .int)) (RM 0 0) (PC dC dI cI cJ [.ref a0, .int x1] (W_A a0 cI cJ pn c_row)) (QI dC dI (W_A a0 cI cJ pn c_row) (W_A a0 cI cJ pn c_row) res) 0 0 (FA (W_A a0 cI cJ pn c_row)) := by
  refine r_metI (by decide +kernel) (Nat.le_of_ble_eq_true rfl) ?_
  intro p e s m args below meth c A H0 QQ X ret ls hl hG
  have X : Cx p m c cX8_at 2 s args RX8 dC dI cI cJ meth (some .int) := X
  have hx := X.1.1
  have hb := X.1.2.1
  have hl : lv_has ls 2 [(0, .ref a0), (1, .int x1)] := hl
  have h := hD
  unfold DX8_at at h
  clear hD
  refine lv_iload_n hx hb dX8_at_0 rfl (lv_at hl 1 rfl) ?_
  refine lv_if_lt (tgt := 16) hx hb dX8_at_1 (by decide) (fun c_1 => ?_) (fun c_1 => ?_)
  · have h := ite_t h c_1
    refine lv_iconst (v := (0 : Int32)) hx hb dX8_at_16 (by decide) ?_
    cases h
    exact ret _ _ _ _ dX8_at_17 hG
  · have h := ite_f h c_1
    refine lv_iload_n hx hb dX8_at_4 rfl (lv_at hl 1 rfl) ?_
    refine lv_aload_n hx hb dX8_at_5 rfl (lv_at hl 0 rfl) ?_
    refine r_alen X hG 0 rfl dX8_at_6 ?_
    refine lv_icmp_ge (tgt := 16) hx hb dX8_at_7 (by decide) (fun c_2 => ?_) (fun c_2 => ?_)
    · have h := ite_t h c_2
      refine lv_iconst (v := (0 : Int32)) hx hb dX8_at_16 (by decide) ?_
      cases h
      exact ret _ _ _ _ dX8_at_17 hG
    · have h := ite_f h c_2
      refine lv_aload_n hx hb dX8_at_10 rfl (lv_at hl 0 rfl) ?_
      refine lv_iload_n hx hb dX8_at_11 rfl (lv_at hl 1 rfl) ?_
      obtain ⟨g_3, h⟩ := gd h
      refine r_iald X hG 0 rfl g_3 dX8_at_12 ?_
      refine lv_goto (tgt := 17) hx hb dX8_at_13 (by decide) ?_
      cases h
      exact ret _ _ _ _ dX8_at_17 hG
set_option maxRecDepth 100000 in
set_option maxHeartbeats 4000000 in
theorem mX0_dropOldest (l : Launch) (dC : Nat → ClassId) (dI : Nat → Nat → Nat) (cI cJ : ClassId) (a0 a1 a2 a3 : Nat) (c_who : Nat → Int32) (c_column : Nat → Int32) (c_was : Nat → Int32) (c_held : Int32) {n_who : Nat → Int32} {n_column : Nat → Int32} {n_was : Nat → Int32} {n_held : Int32} (hD : DX0_dropOldest c_who c_column c_was c_held = some (n_who, n_column, n_was, n_held)) : Met l yX0_dropOldest (WZ yX0_dropOldest cX0_dropOldest 2 none) (RM 1 22) (PC dC dI cI cJ [.ref a0] (W_X0 a0 a1 a2 a3 cI cJ c_who c_column c_was c_held)) (QV dC dI (W_X0 a0 a1 a2 a3 cI cJ c_who c_column c_was c_held) (W_X0 a0 a1 a2 a3 cI cJ n_who n_column n_was n_held)) 0 0 (FA (W_X0 a0 a1 a2 a3 cI cJ c_who c_column c_was c_held)) := by
  refine r_metV (by decide +kernel) (Nat.le_of_ble_eq_true rfl) ?_
  intro p e s m args below meth c A H0 QQ X ret ls hl hG
  have X : Cx p m c cX0_dropOldest 2 s args RX0 dC dI cI cJ meth none := X
  have hx := X.1.1
  have hb := X.1.2.1
  have hl : lv_has ls 2 [(0, .ref a0)] := hl
  have L2 : ∀ (c_held : Int32), ∀ (n : Nat) (x1 : Int32) (c_who : Nat → Int32) (c_column : Nat → Int32) (c_was : Nat → Int32) (ec_who : Nat → Int32) (ec_column : Nat → Int32) (ec_was : Nat → Int32), DX0_dropOldest_L2 c_held n x1 c_who c_column c_was = some (ec_who, ec_column, ec_was) → (∀ (ls : Array Slot) (H : Heap) (locs : List Loc), lv_has ls 2 [(0, .ref a0)] → G dC dI A H0 (W_X0 a0 a1 a2 a3 cI cJ ec_who ec_column ec_was c_held) H locs → W p l e (RM 1 22) s m args below meth c H locs 0 0 QQ (F0 m 70 ls [])) → ∀ (ls : Array Slot) (H : Heap) (locs : List Loc), lv_has ls 2 [(0, .ref a0), (1, .int x1)] → G dC dI A H0 (W_X0 a0 a1 a2 a3 cI cJ c_who c_column c_was c_held) H locs → W p l e (RM 1 22) s m args below meth c H locs 0 0 QQ (F0 m 2 ls []) := by
    intro c_held n
    induction n with
    | zero => intro x1 c_who c_column c_was ec_who ec_column ec_was h; exact it_zero h
    | succ n ih =>
      intro x1 c_who c_column c_was ec_who ec_column ec_was h0 K0 ls H locs hl hG
      obtain ⟨w, h, hi, hr⟩ := it_succ h0
      have h : DX0_dropOldest_L2s c_held x1 c_who c_column c_was = some w := h
      have KC : ∀ (x1 : Int32) (c_who : Nat → Int32) (c_column : Nat → Int32) (c_was : Nat → Int32), w = .inl (x1, c_who, c_column, c_was) → ∀ (ls : Array Slot) (H : Heap) (locs : List Loc), lv_has ls 2 [(0, .ref a0), (1, .int x1)] → G dC dI A H0 (W_X0 a0 a1 a2 a3 cI cJ c_who c_column c_was c_held) H locs → W p l e (RM 1 22) s m args below meth c H locs 0 0 QQ (F0 m 2 ls []) := fun b0 b1 b2 b3 e ls H locs hl hG => ih b0 b1 b2 b3 ec_who ec_column ec_was (hi _ e) K0 ls H locs hl hG
      have KX : ∀ (c_who : Nat → Int32) (c_column : Nat → Int32) (c_was : Nat → Int32), w = .inr (c_who, c_column, c_was) → ∀ (ls : Array Slot) (H : Heap) (locs : List Loc), lv_has ls 2 [(0, .ref a0)] → G dC dI A H0 (W_X0 a0 a1 a2 a3 cI cJ c_who c_column c_was c_held) H locs → W p l e (RM 1 22) s m args below meth c H locs 0 0 QQ (F0 m 70 ls []) := fun b0 b1 b2 e ls H locs hl hG => by cases hr _ e; exact K0 ls H locs hl hG
      clear h0 hi hr K0 ih
      unfold DX0_dropOldest_L2s at h
      refine lv_iload_n hx hb dX0_dropOldest_2 rfl (lv_at hl 1 rfl) ?_
      refine lv_aload_n hx hb dX0_dropOldest_3 rfl (lv_at hl 0 rfl) ?_
      refine r_get X hG in_X0 rfl 3 (by decide) w_187 0 rfl rfl dX0_dropOldest_4 ?_
      refine lv_icmp_ge (tgt := 70) hx hb dX0_dropOldest_7 (by decide) (fun c_1 => ?_) (fun c_1 => ?_)
      · have h := ite_t h c_1
        exact KX _ _ _ (Option.some.inj h).symm _ _ _ (lv_sub hl [0] rfl) hG
      · have h := ite_f h c_1
        refine lv_aload_n hx hb dX0_dropOldest_10 rfl (lv_at hl 0 rfl) ?_
        refine r_get X hG in_X0 rfl 0 (by decide) w_184 0 rfl rfl dX0_dropOldest_11 ?_
        refine lv_iload_n hx hb dX0_dropOldest_14 rfl (lv_at hl 1 rfl) ?_
        refine lv_iconst (v := (1 : Int32)) hx hb dX0_dropOldest_15 (by decide) ?_
        refine lv_isub hx hb dX0_dropOldest_16 ?_
        refine lv_aload_n hx hb dX0_dropOldest_17 rfl (lv_at hl 0 rfl) ?_
        refine r_get X hG in_X0 rfl 0 (by decide) w_184 0 rfl rfl dX0_dropOldest_18 ?_
        refine lv_iload_n hx hb dX0_dropOldest_21 rfl (lv_at hl 1 rfl) ?_
        obtain ⟨r_2, hz_3, h⟩ := bd1_some h
        refine aft_i (ws' := (W_X0 a0 a1 a2 a3 cI cJ c_who c_column c_was c_held)) (run_SN (rest := [.int (x1 - (1 : Int32)), .ref a1]) X hG hl.1 (mX8_at l dC dI cI cJ a1 8 c_who x1 hz_3) gi_N_yX8_at w_495 w_296 w_41 hd_S_yX8_at ⟨rfl, rfl⟩ rfl ⟨Nat.le_of_ble_eq_true rfl, Nat.le_of_ble_eq_true rfl⟩ [1] (by decide) rfl rfl (Nat.le_of_ble_eq_true rfl) ⟨Nat.le_of_ble_eq_true rfl, Nat.le_of_ble_eq_true rfl⟩ dX0_dropOldest_22) hG [1] rfl rfl rfl (fun H locs hG => ?_)
        clear hz_3
        obtain ⟨k_who_4, hz_5, h⟩ := bd1_some h
        refine aft_v (ws' := (W_X0 a0 a1 a2 a3 cI cJ k_who_4 c_column c_was c_held)) (run_SN (rest := []) X hG hl.1 (mX8_put l dC dI cI cJ a1 8 c_who (x1 - (1 : Int32)) r_2 hz_5) gi_N_yX8_put w_496 w_272 w_41 hd_S_yX8_put ⟨rfl, rfl⟩ rfl ⟨Nat.le_of_ble_eq_true rfl, Nat.le_of_ble_eq_true rfl⟩ [1] (by decide) rfl rfl (Nat.le_of_ble_eq_true rfl) ⟨Nat.le_of_ble_eq_true rfl, Nat.le_of_ble_eq_true rfl⟩ dX0_dropOldest_25) hG [1] rfl rfl rfl (fun H locs hG => ?_)
        clear hz_5
        refine lv_aload_n hx hb dX0_dropOldest_28 rfl (lv_at hl 0 rfl) ?_
        refine r_get X hG in_X0 rfl 1 (by decide) w_185 0 rfl rfl dX0_dropOldest_29 ?_
        refine lv_iload_n hx hb dX0_dropOldest_32 rfl (lv_at hl 1 rfl) ?_
        refine lv_iconst (v := (1 : Int32)) hx hb dX0_dropOldest_33 (by decide) ?_
        refine lv_isub hx hb dX0_dropOldest_34 ?_
        refine lv_aload_n hx hb dX0_dropOldest_35 rfl (lv_at hl 0 rfl) ?_
        refine r_get X hG in_X0 rfl 1 (by decide) w_185 0 rfl rfl dX0_dropOldest_36 ?_
        refine lv_iload_n hx hb dX0_dropOldest_39 rfl (lv_at hl 1 rfl) ?_
        obtain ⟨r_6, hz_7, h⟩ := bd1_some h
        refine aft_i (ws' := (W_X0 a0 a1 a2 a3 cI cJ k_who_4 c_column c_was c_held)) (run_SN (rest := [.int (x1 - (1 : Int32)), .ref a2]) X hG hl.1 (mX8_at l dC dI cI cJ a2 8 c_column x1 hz_7) gi_N_yX8_at w_495 w_296 w_41 hd_S_yX8_at ⟨rfl, rfl⟩ rfl ⟨Nat.le_of_ble_eq_true rfl, Nat.le_of_ble_eq_true rfl⟩ [2] (by decide) rfl rfl (Nat.le_of_ble_eq_true rfl) ⟨Nat.le_of_ble_eq_true rfl, Nat.le_of_ble_eq_true rfl⟩ dX0_dropOldest_40) hG [2] rfl rfl rfl (fun H locs hG => ?_)
        clear hz_7
        obtain ⟨k_column_8, hz_9, h⟩ := bd1_some h
        refine aft_v (ws' := (W_X0 a0 a1 a2 a3 cI cJ k_who_4 k_column_8 c_was c_held)) (run_SN (rest := []) X hG hl.1 (mX8_put l dC dI cI cJ a2 8 c_column (x1 - (1 : Int32)) r_6 hz_9) gi_N_yX8_put w_496 w_272 w_41 hd_S_yX8_put ⟨rfl, rfl⟩ rfl ⟨Nat.le_of_ble_eq_true rfl, Nat.le_of_ble_eq_true rfl⟩ [2] (by decide) rfl rfl (Nat.le_of_ble_eq_true rfl) ⟨Nat.le_of_ble_eq_true rfl, Nat.le_of_ble_eq_true rfl⟩ dX0_dropOldest_43) hG [2] rfl rfl rfl (fun H locs hG => ?_)
        clear hz_9
        refine lv_aload_n hx hb dX0_dropOldest_46 rfl (lv_at hl 0 rfl) ?_
        refine r_get X hG in_X0 rfl 2 (by decide) w_186 0 rfl rfl dX0_dropOldest_47 ?_
        refine lv_iload_n hx hb dX0_dropOldest_50 rfl (lv_at hl 1 rfl) ?_
        refine lv_iconst (v := (1 : Int32)) hx hb dX0_dropOldest_51 (by decide) ?_
        refine lv_isub hx hb dX0_dropOldest_52 ?_
        refine lv_aload_n hx hb dX0_dropOldest_53 rfl (lv_at hl 0 rfl) ?_
        refine r_get X hG in_X0 rfl 2 (by decide) w_186 0 rfl rfl dX0_dropOldest_54 ?_
        refine lv_iload_n hx hb dX0_dropOldest_57 rfl (lv_at hl 1 rfl) ?_
        obtain ⟨r_10, hz_11, h⟩ := bd1_some h
        refine aft_i (ws' := (W_X0 a0 a1 a2 a3 cI cJ k_who_4 k_column_8 c_was c_held)) (run_SN (rest := [.int (x1 - (1 : Int32)), .ref a3]) X hG hl.1 (mX8_at l dC dI cI cJ a3 8 c_was x1 hz_11) gi_N_yX8_at w_495 w_296 w_41 hd_S_yX8_at ⟨rfl, rfl⟩ rfl ⟨Nat.le_of_ble_eq_true rfl, Nat.le_of_ble_eq_true rfl⟩ [3] (by decide) rfl rfl (Nat.le_of_ble_eq_true rfl) ⟨Nat.le_of_ble_eq_true rfl, Nat.le_of_ble_eq_true rfl⟩ dX0_dropOldest_58) hG [3] rfl rfl rfl (fun H locs hG => ?_)
        clear hz_11
        obtain ⟨k_was_12, hz_13, h⟩ := bd1_some h
        refine aft_v (ws' := (W_X0 a0 a1 a2 a3 cI cJ k_who_4 k_column_8 k_was_12 c_held)) (run_SN (rest := []) X hG hl.1 (mX8_put l dC dI cI cJ a3 8 c_was (x1 - (1 : Int32)) r_10 hz_13) gi_N_yX8_put w_496 w_272 w_41 hd_S_yX8_put ⟨rfl, rfl⟩ rfl ⟨Nat.le_of_ble_eq_true rfl, Nat.le_of_ble_eq_true rfl⟩ [3] (by decide) rfl rfl (Nat.le_of_ble_eq_true rfl) ⟨Nat.le_of_ble_eq_true rfl, Nat.le_of_ble_eq_true rfl⟩ dX0_dropOldest_61) hG [3] rfl rfl rfl (fun H locs hG => ?_)
        clear hz_13
        refine lv_iinc (v := (x1 + (1 : Int32))) (lv' := [(1, .int (x1 + (1 : Int32))), (0, .ref a0)]) hx hb dX0_dropOldest_64 hl (k := 1) rfl rfl (by decide) rfl (fun ls hl => ?_)
        refine lv_goto (tgt := 2) hx hb dX0_dropOldest_67 (by decide) ?_
        exact KC _ _ _ _ (Option.some.inj h).symm _ _ _ (lv_sub hl [1, 0] rfl) hG
  have h := hD
  unfold DX0_dropOldest at h
  clear hD
  refine lv_iconst (v := (1 : Int32)) hx hb dX0_dropOldest_0 (by decide) ?_
  refine lv_istore_n (lv' := [(1, .int (1 : Int32)), (0, .ref a0)]) hx hb dX0_dropOldest_1 rfl hl (by decide) rfl (fun ls hl => ?_)
  obtain ⟨k_who_14, k_column_15, k_was_16, hz, h⟩ := bd3_some h
  refine L2 c_held FU (1 : Int32) c_who c_column c_was _ _ _ hz (fun ls H locs hl hG => ?_) _ _ _ (lv_sub hl [1, 0] rfl) hG
  clear hz
  refine lv_aload_n hx hb dX0_dropOldest_70 rfl (lv_at hl 0 rfl) ?_
  refine lv_dup hx hb dX0_dropOldest_71 rfl ?_
  refine r_get X hG in_X0 rfl 3 (by decide) w_187 0 rfl rfl dX0_dropOldest_72 ?_
  refine lv_iconst (v := (1 : Int32)) hx hb dX0_dropOldest_75 (by decide) ?_
  refine lv_isub hx hb dX0_dropOldest_76 ?_
  refine r_put X hG in_X0 rfl tyX0 tyX0_ok nmX0 3 (by decide) rfl (by decide +kernel) w_187 0 (ws' := (W_X0 a0 a1 a2 a3 cI cJ k_who_14 k_column_15 k_was_16 (c_held - (1 : Int32)))) rfl (Nat.le_of_ble_eq_true rfl) rfl dX0_dropOldest_77 (fun H locs hG => ?_)
  cases h
  exact ret _ _ _ _ dX0_dropOldest_80 hG
set_option maxRecDepth 100000 in
set_option maxHeartbeats 4000000 in
theorem mX0_note (l : Launch) (dC : Nat → ClassId) (dI : Nat → Nat → Nat) (cI cJ : ClassId) (a0 a1 a2 a3 : Nat) (c_who : Nat → Int32) (c_column : Nat → Int32) (c_was : Nat → Int32) (c_held : Int32) (x1 : Int32) (x2 : Int32) (x3 : Int32) {n_who : Nat → Int32} {n_column : Nat → Int32} {n_was : Nat → Int32} {n_held : Int32} (hD : DX0_note x1 x2 x3 c_who c_column c_was c_held = some (n_who, n_column, n_was, n_held)) : Met l yX0_note (WZ yX0_note cX0_note 4 none) (RM 2 43) (PC dC dI cI cJ [.ref a0, .int x1, .int x2, .int x3] (W_X0 a0 a1 a2 a3 cI cJ c_who c_column c_was c_held)) (QV dC dI (W_X0 a0 a1 a2 a3 cI cJ c_who c_column c_was c_held) (W_X0 a0 a1 a2 a3 cI cJ n_who n_column n_was n_held)) 0 0 (FA (W_X0 a0 a1 a2 a3 cI cJ c_who c_column c_was c_held)) := by
  refine r_metV (by decide +kernel) (Nat.le_of_ble_eq_true rfl) ?_
  intro p e s m args below meth c A H0 QQ X ret ls hl hG
  have X : Cx p m c cX0_note 4 s args RX0 dC dI cI cJ meth none := X
  have hx := X.1.1
  have hb := X.1.2.1
  have hl : lv_has ls 4 [(0, .ref a0), (1, .int x1), (2, .int x2), (3, .int x3)] := hl
  have J13 : ∀ (c_who : Nat → Int32) (c_column : Nat → Int32) (c_was : Nat → Int32) (c_held : Int32), DX0_note_J13 x1 x2 x3 c_who c_column c_was c_held = some (n_who, n_column, n_was, n_held) → ∀ (ls : Array Slot) (H : Heap) (locs : List Loc), lv_has ls 4 [(0, .ref a0), (1, .int x1), (2, .int x2), (3, .int x3)] → G dC dI A H0 (W_X0 a0 a1 a2 a3 cI cJ c_who c_column c_was c_held) H locs → W p l e (RM 2 43) s m args below meth c H locs 0 0 QQ (F0 m 13 ls []) := by
    intro c_who c_column c_was c_held h  ls H locs hl hG
    unfold DX0_note_J13 at h
    refine lv_aload_n hx hb dX0_note_13 rfl (lv_at hl 0 rfl) ?_
    refine r_get X hG in_X0 rfl 0 (by decide) w_184 0 rfl rfl dX0_note_14 ?_
    refine lv_aload_n hx hb dX0_note_17 rfl (lv_at hl 0 rfl) ?_
    refine r_get X hG in_X0 rfl 3 (by decide) w_187 0 rfl rfl dX0_note_18 ?_
    refine lv_iload_n hx hb dX0_note_21 rfl (lv_at hl 1 rfl) ?_
    obtain ⟨k_who_2, hz_3, h⟩ := bd1_some h
    refine aft_v (ws' := (W_X0 a0 a1 a2 a3 cI cJ k_who_2 c_column c_was c_held)) (run_SN (rest := []) X hG hl.1 (mX8_put l dC dI cI cJ a1 8 c_who c_held x1 hz_3) gi_N_yX8_put w_496 w_272 w_41 hd_S_yX8_put ⟨rfl, rfl⟩ rfl ⟨Nat.le_of_ble_eq_true rfl, Nat.le_of_ble_eq_true rfl⟩ [1] (by decide) rfl rfl (Nat.le_of_ble_eq_true rfl) ⟨Nat.le_of_ble_eq_true rfl, Nat.le_of_ble_eq_true rfl⟩ dX0_note_22) hG [1] rfl rfl rfl (fun H locs hG => ?_)
    clear hz_3
    refine lv_aload_n hx hb dX0_note_25 rfl (lv_at hl 0 rfl) ?_
    refine r_get X hG in_X0 rfl 1 (by decide) w_185 0 rfl rfl dX0_note_26 ?_
    refine lv_aload_n hx hb dX0_note_29 rfl (lv_at hl 0 rfl) ?_
    refine r_get X hG in_X0 rfl 3 (by decide) w_187 0 rfl rfl dX0_note_30 ?_
    refine lv_iload_n hx hb dX0_note_33 rfl (lv_at hl 2 rfl) ?_
    obtain ⟨k_column_4, hz_5, h⟩ := bd1_some h
    refine aft_v (ws' := (W_X0 a0 a1 a2 a3 cI cJ k_who_2 k_column_4 c_was c_held)) (run_SN (rest := []) X hG hl.1 (mX8_put l dC dI cI cJ a2 8 c_column c_held x2 hz_5) gi_N_yX8_put w_496 w_272 w_41 hd_S_yX8_put ⟨rfl, rfl⟩ rfl ⟨Nat.le_of_ble_eq_true rfl, Nat.le_of_ble_eq_true rfl⟩ [2] (by decide) rfl rfl (Nat.le_of_ble_eq_true rfl) ⟨Nat.le_of_ble_eq_true rfl, Nat.le_of_ble_eq_true rfl⟩ dX0_note_34) hG [2] rfl rfl rfl (fun H locs hG => ?_)
    clear hz_5
    refine lv_aload_n hx hb dX0_note_37 rfl (lv_at hl 0 rfl) ?_
    refine r_get X hG in_X0 rfl 2 (by decide) w_186 0 rfl rfl dX0_note_38 ?_
    refine lv_aload_n hx hb dX0_note_41 rfl (lv_at hl 0 rfl) ?_
    refine r_get X hG in_X0 rfl 3 (by decide) w_187 0 rfl rfl dX0_note_42 ?_
    refine lv_iload_n hx hb dX0_note_45 rfl (lv_at hl 3 rfl) ?_
    obtain ⟨k_was_6, hz_7, h⟩ := bd1_some h
    refine aft_v (ws' := (W_X0 a0 a1 a2 a3 cI cJ k_who_2 k_column_4 k_was_6 c_held)) (run_SN (rest := []) X hG hl.1 (mX8_put l dC dI cI cJ a3 8 c_was c_held x3 hz_7) gi_N_yX8_put w_496 w_272 w_41 hd_S_yX8_put ⟨rfl, rfl⟩ rfl ⟨Nat.le_of_ble_eq_true rfl, Nat.le_of_ble_eq_true rfl⟩ [3] (by decide) rfl rfl (Nat.le_of_ble_eq_true rfl) ⟨Nat.le_of_ble_eq_true rfl, Nat.le_of_ble_eq_true rfl⟩ dX0_note_46) hG [3] rfl rfl rfl (fun H locs hG => ?_)
    clear hz_7
    refine lv_aload_n hx hb dX0_note_49 rfl (lv_at hl 0 rfl) ?_
    refine lv_dup hx hb dX0_note_50 rfl ?_
    refine r_get X hG in_X0 rfl 3 (by decide) w_187 0 rfl rfl dX0_note_51 ?_
    refine lv_iconst (v := (1 : Int32)) hx hb dX0_note_54 (by decide) ?_
    refine lv_iadd hx hb dX0_note_55 ?_
    refine r_put X hG in_X0 rfl tyX0 tyX0_ok nmX0 3 (by decide) rfl (by decide +kernel) w_187 0 (ws' := (W_X0 a0 a1 a2 a3 cI cJ k_who_2 k_column_4 k_was_6 (c_held + (1 : Int32)))) rfl (Nat.le_of_ble_eq_true rfl) rfl dX0_note_56 (fun H locs hG => ?_)
    cases h
    exact ret _ _ _ _ dX0_note_59 hG
  have h := hD
  unfold DX0_note at h
  clear hD
  refine lv_aload_n hx hb dX0_note_0 rfl (lv_at hl 0 rfl) ?_
  refine r_get X hG in_X0 rfl 3 (by decide) w_187 0 rfl rfl dX0_note_1 ?_
  refine lv_bipush (v := (8 : Int32)) hx hb dX0_note_4 (by decide) ?_
  refine lv_icmp_ne (tgt := 13) hx hb dX0_note_6 (by decide) (fun c_1 => ?_) (fun c_1 => ?_)
  · have h := ite_f h c_1
    exact J13 c_who c_column c_was c_held  h  _ _ _ (lv_sub hl [0, 1, 2, 3] rfl) hG
  · have h := ite_t h c_1
    refine lv_aload_n hx hb dX0_note_9 rfl (lv_at hl 0 rfl) ?_
    obtain ⟨k_who_8, k_column_9, k_was_10, k_held_11, hz_12, h⟩ := bd4_some h
    refine aft_v1 (run_V1 (rest := []) X hG hl.1 (mX0_dropOldest l dC dI cI cJ a0 a1 a2 a3 c_who c_column c_was c_held hz_12) gi_V_X0_25 hd_V_yX0_dropOldest ⟨rfl, rfl⟩ rfl ⟨Nat.le_of_ble_eq_true rfl, Nat.le_of_ble_eq_true rfl⟩ 0 rfl rfl rfl rfl (Nat.le_of_ble_eq_true rfl) ⟨Nat.le_of_ble_eq_true rfl, Nat.le_of_ble_eq_true rfl⟩ dX0_note_10) hG rfl (fun H locs hG => ?_)
    clear hz_12
    exact J13 k_who_8 k_column_9 k_was_10 k_held_11  h  _ _ _ (lv_sub hl [0, 1, 2, 3] rfl) hG
set_option maxRecDepth 100000 in
set_option maxHeartbeats 4000000 in
theorem mX5_set (l : Launch) (dC : Nat → ClassId) (dI : Nat → Nat → Nat) (cI cJ : ClassId) (a0 a1 : Nat) (pm : Int32) (pw : Int32) (pn : Nat) (c_cells : Nat → Int32) (c_filled : Int32) (x1 : Int32) (x2 : Int32) (x3 : Int32) {n_cells : Nat → Int32} (hD : DX5_set x1 x2 x3 pm pw pn c_cells = some n_cells) : Met l yX5_set (WZ yX5_set cX5_set 4 none) (RM 0 0) (PC dC dI cI cJ [.ref a0, .int x1, .int x2, .int x3] (W_X5 a0 a1 cI cJ pm pw pn c_cells c_filled)) (QV dC dI (W_X5 a0 a1 cI cJ pm pw pn c_cells c_filled) (W_X5 a0 a1 cI cJ pm pw pn n_cells c_filled)) 0 0 (FA (W_X5 a0 a1 cI cJ pm pw pn c_cells c_filled)) := by
  refine r_metV (by decide +kernel) (Nat.le_of_ble_eq_true rfl) ?_
  intro p e s m args below meth c A H0 QQ X ret ls hl hG
  have X : Cx p m c cX5_set 4 s args RX5 dC dI cI cJ meth none := X
  have hx := X.1.1
  have hb := X.1.2.1
  have hl : lv_has ls 4 [(0, .ref a0), (1, .int x1), (2, .int x2), (3, .int x3)] := hl
  have h := hD
  unfold DX5_set at h
  clear hD
  refine lv_iload_n hx hb dX5_set_0 rfl (lv_at hl 1 rfl) ?_
  refine lv_if_lt (tgt := 38) hx hb dX5_set_1 (by decide) (fun c_1 => ?_) (fun c_1 => ?_)
  · have h := ite_t h c_1
    cases h
    exact ret _ _ _ _ dX5_set_38 hG
  · have h := ite_f h c_1
    refine lv_iload_n hx hb dX5_set_4 rfl (lv_at hl 1 rfl) ?_
    refine lv_aload_n hx hb dX5_set_5 rfl (lv_at hl 0 rfl) ?_
    refine r_get X hG in_X5 rfl 1 (by decide) w_107 0 rfl rfl dX5_set_6 ?_
    refine lv_icmp_ge (tgt := 38) hx hb dX5_set_9 (by decide) (fun c_2 => ?_) (fun c_2 => ?_)
    · have h := ite_t h c_2
      cases h
      exact ret _ _ _ _ dX5_set_38 hG
    · have h := ite_f h c_2
      refine lv_iload_n hx hb dX5_set_12 rfl (lv_at hl 2 rfl) ?_
      refine lv_if_lt (tgt := 38) hx hb dX5_set_13 (by decide) (fun c_3 => ?_) (fun c_3 => ?_)
      · have h := ite_t h c_3
        cases h
        exact ret _ _ _ _ dX5_set_38 hG
      · have h := ite_f h c_3
        refine lv_iload_n hx hb dX5_set_16 rfl (lv_at hl 2 rfl) ?_
        refine lv_aload_n hx hb dX5_set_17 rfl (lv_at hl 0 rfl) ?_
        refine r_get X hG in_X5 rfl 2 (by decide) w_108 0 rfl rfl dX5_set_18 ?_
        refine lv_icmp_ge (tgt := 38) hx hb dX5_set_21 (by decide) (fun c_4 => ?_) (fun c_4 => ?_)
        · have h := ite_t h c_4
          cases h
          exact ret _ _ _ _ dX5_set_38 hG
        · have h := ite_f h c_4
          refine lv_aload_n hx hb dX5_set_24 rfl (lv_at hl 0 rfl) ?_
          refine r_get X hG in_X5 rfl 0 (by decide) w_106 0 rfl rfl dX5_set_25 ?_
          refine lv_iload_n hx hb dX5_set_28 rfl (lv_at hl 1 rfl) ?_
          refine lv_aload_n hx hb dX5_set_29 rfl (lv_at hl 0 rfl) ?_
          refine r_get X hG in_X5 rfl 2 (by decide) w_108 0 rfl rfl dX5_set_30 ?_
          refine lv_imul hx hb dX5_set_33 ?_
          refine lv_iload_n hx hb dX5_set_34 rfl (lv_at hl 2 rfl) ?_
          refine lv_iadd hx hb dX5_set_35 ?_
          refine lv_iload_n hx hb dX5_set_36 rfl (lv_at hl 3 rfl) ?_
          obtain ⟨g_5, h⟩ := gd h
          refine r_iast X hG 1 (ws' := (W_X5 a0 a1 cI cJ pm pw pn (upd c_cells ((x1 * pw) + x2).toNatClampNeg x3) c_filled)) rfl g_5 rfl dX5_set_37 (fun H locs hG => ?_)
          cases h
          exact ret _ _ _ _ dX5_set_38 hG
set_option maxRecDepth 100000 in
set_option maxHeartbeats 4000000 in
theorem mX0_takeBack (l : Launch) (dC : Nat → ClassId) (dI : Nat → Nat → Nat) (cI cJ : ClassId) (a0 a1 a2 a3 a4 a5 : Nat) (c_who : Nat → Int32) (c_column : Nat → Int32) (c_was : Nat → Int32) (c_held : Int32) (o_cells : Nat → Int32) (o_filled : Int32) {res : Int32} {n_held : Int32} {n_cells : Nat → Int32} (hD : DX0_takeBack c_who c_column c_was c_held o_cells = some (res, n_held, n_cells)) : Met l yX0_takeBack (WZ yX0_takeBack cX0_takeBack 2 (some .boolean)) (RM 1 23) (PC dC dI cI cJ [.ref a0, .ref a4] (W_X0_X5 a0 a1 a2 a3 a4 a5 cI cJ c_who c_column c_was c_held o_cells o_filled)) (QI dC dI (W_X0_X5 a0 a1 a2 a3 a4 a5 cI cJ c_who c_column c_was c_held o_cells o_filled) (W_X0_X5 a0 a1 a2 a3 a4 a5 cI cJ c_who c_column c_was n_held n_cells o_filled) res) 0 0 (FA (W_X0_X5 a0 a1 a2 a3 a4 a5 cI cJ c_who c_column c_was c_held o_cells o_filled)) := by
  refine r_metZ (by decide +kernel) (Nat.le_of_ble_eq_true rfl) ?_
  intro p e s m args below meth c A H0 QQ X ret ls hl hG
  have X : Cx p m c cX0_takeBack 2 s args RX0 dC dI cI cJ meth (some .boolean) := X
  have hx := X.1.1
  have hb := X.1.2.1
  have hl : lv_has ls 2 [(0, .ref a0), (1, .ref a4)] := hl
  have h := hD
  unfold DX0_takeBack at h
  clear hD
  refine lv_aload_n hx hb dX0_takeBack_0 rfl (lv_at hl 0 rfl) ?_
  refine r_get X hG in_X0 rfl 3 (by decide) w_187 0 rfl rfl dX0_takeBack_1 ?_
  refine lv_if_ne (tgt := 9) hx hb dX0_takeBack_4 (by decide) (fun c_1 => ?_) (fun c_1 => ?_)
  · have h := ite_f h c_1
    refine lv_aload_n hx hb dX0_takeBack_9 rfl (lv_at hl 0 rfl) ?_
    refine lv_dup hx hb dX0_takeBack_10 rfl ?_
    refine r_get X hG in_X0 rfl 3 (by decide) w_187 0 rfl rfl dX0_takeBack_11 ?_
    refine lv_iconst (v := (1 : Int32)) hx hb dX0_takeBack_14 (by decide) ?_
    refine lv_isub hx hb dX0_takeBack_15 ?_
    refine r_put X hG in_X0 rfl tyX0 tyX0_ok nmX0 3 (by decide) rfl (by decide +kernel) w_187 0 (ws' := (W_X0_X5 a0 a1 a2 a3 a4 a5 cI cJ c_who c_column c_was (c_held - (1 : Int32)) o_cells o_filled)) rfl (Nat.le_of_ble_eq_true rfl) rfl dX0_takeBack_16 (fun H locs hG => ?_)
    refine lv_aload_n hx hb dX0_takeBack_19 rfl (lv_at hl 1 rfl) ?_
    refine lv_aload_n hx hb dX0_takeBack_20 rfl (lv_at hl 0 rfl) ?_
    refine r_get X hG in_X0 rfl 0 (by decide) w_184 0 rfl rfl dX0_takeBack_21 ?_
    refine lv_aload_n hx hb dX0_takeBack_24 rfl (lv_at hl 0 rfl) ?_
    refine r_get X hG in_X0 rfl 3 (by decide) w_187 0 rfl rfl dX0_takeBack_25 ?_
    obtain ⟨r_2, hz_3, h⟩ := bd1_some h
    refine aft_i (ws' := (W_X0_X5 a0 a1 a2 a3 a4 a5 cI cJ c_who c_column c_was (c_held - (1 : Int32)) o_cells o_filled)) (run_SN (rest := [.ref a4]) X hG hl.1 (mX8_at l dC dI cI cJ a1 8 c_who (c_held - (1 : Int32)) hz_3) gi_N_yX8_at w_495 w_296 w_41 hd_S_yX8_at ⟨rfl, rfl⟩ rfl ⟨Nat.le_of_ble_eq_true rfl, Nat.le_of_ble_eq_true rfl⟩ [1] (by decide) rfl rfl (Nat.le_of_ble_eq_true rfl) ⟨Nat.le_of_ble_eq_true rfl, Nat.le_of_ble_eq_true rfl⟩ dX0_takeBack_28) hG [1] rfl rfl rfl (fun H locs hG => ?_)
    clear hz_3
    refine lv_aload_n hx hb dX0_takeBack_31 rfl (lv_at hl 0 rfl) ?_
    refine r_get X hG in_X0 rfl 1 (by decide) w_185 0 rfl rfl dX0_takeBack_32 ?_
    refine lv_aload_n hx hb dX0_takeBack_35 rfl (lv_at hl 0 rfl) ?_
    refine r_get X hG in_X0 rfl 3 (by decide) w_187 0 rfl rfl dX0_takeBack_36 ?_
    obtain ⟨r_4, hz_5, h⟩ := bd1_some h
    refine aft_i (ws' := (W_X0_X5 a0 a1 a2 a3 a4 a5 cI cJ c_who c_column c_was (c_held - (1 : Int32)) o_cells o_filled)) (run_SN (rest := [.int r_2, .ref a4]) X hG hl.1 (mX8_at l dC dI cI cJ a2 8 c_column (c_held - (1 : Int32)) hz_5) gi_N_yX8_at w_495 w_296 w_41 hd_S_yX8_at ⟨rfl, rfl⟩ rfl ⟨Nat.le_of_ble_eq_true rfl, Nat.le_of_ble_eq_true rfl⟩ [2] (by decide) rfl rfl (Nat.le_of_ble_eq_true rfl) ⟨Nat.le_of_ble_eq_true rfl, Nat.le_of_ble_eq_true rfl⟩ dX0_takeBack_39) hG [2] rfl rfl rfl (fun H locs hG => ?_)
    clear hz_5
    refine lv_aload_n hx hb dX0_takeBack_42 rfl (lv_at hl 0 rfl) ?_
    refine r_get X hG in_X0 rfl 2 (by decide) w_186 0 rfl rfl dX0_takeBack_43 ?_
    refine lv_aload_n hx hb dX0_takeBack_46 rfl (lv_at hl 0 rfl) ?_
    refine r_get X hG in_X0 rfl 3 (by decide) w_187 0 rfl rfl dX0_takeBack_47 ?_
    obtain ⟨r_6, hz_7, h⟩ := bd1_some h
    refine aft_i (ws' := (W_X0_X5 a0 a1 a2 a3 a4 a5 cI cJ c_who c_column c_was (c_held - (1 : Int32)) o_cells o_filled)) (run_SN (rest := [.int r_4, .int r_2, .ref a4]) X hG hl.1 (mX8_at l dC dI cI cJ a3 8 c_was (c_held - (1 : Int32)) hz_7) gi_N_yX8_at w_495 w_296 w_41 hd_S_yX8_at ⟨rfl, rfl⟩ rfl ⟨Nat.le_of_ble_eq_true rfl, Nat.le_of_ble_eq_true rfl⟩ [3] (by decide) rfl rfl (Nat.le_of_ble_eq_true rfl) ⟨Nat.le_of_ble_eq_true rfl, Nat.le_of_ble_eq_true rfl⟩ dX0_takeBack_50) hG [3] rfl rfl rfl (fun H locs hG => ?_)
    clear hz_7
    obtain ⟨k_cells_8, hz_9, h⟩ := bd1_some h
    refine aft_v (ws' := (W_X0_X5 a0 a1 a2 a3 a4 a5 cI cJ c_who c_column c_was (c_held - (1 : Int32)) k_cells_8 o_filled)) (run_V (rest := []) X hG hl.1 (mX5_set l dC dI cI cJ a4 a5 (7 : Int32) (4 : Int32) 28 o_cells o_filled r_2 r_4 r_6 hz_9) gi_V_X0_36 hd_V_yX5_set ⟨rfl, rfl⟩ rfl ⟨Nat.le_of_ble_eq_true rfl, Nat.le_of_ble_eq_true rfl⟩ [4, 5] (by decide) rfl 4 rfl rfl rfl rfl (Nat.le_of_ble_eq_true rfl) ⟨Nat.le_of_ble_eq_true rfl, Nat.le_of_ble_eq_true rfl⟩ dX0_takeBack_53) hG [4, 5] rfl rfl rfl (fun H locs hG => ?_)
    clear hz_9
    refine lv_iconst (v := (1 : Int32)) hx hb dX0_takeBack_56 (by decide) ?_
    cases h
    exact ret _ _ _ _ dX0_takeBack_57 (by decide) hG
  · have h := ite_t h c_1
    refine lv_iconst (v := (0 : Int32)) hx hb dX0_takeBack_7 (by decide) ?_
    cases h
    exact ret _ _ _ _ dX0_takeBack_8 (by decide) hG
set_option maxRecDepth 100000 in
set_option maxHeartbeats 4000000 in
theorem mX5_rows (l : Launch) (dC : Nat → ClassId) (dI : Nat → Nat → Nat) (cI cJ : ClassId) (a0 a1 : Nat) (pm : Int32) (pw : Int32) (pn : Nat) (c_cells : Nat → Int32) (c_filled : Int32) {res : Int32} (hD : DX5_rows c_filled = some res) : Met l yX5_rows (WZ yX5_rows cX5_rows 1 (some .int)) (RM 0 0) (PC dC dI cI cJ [.ref a0] (W_X5 a0 a1 cI cJ pm pw pn c_cells c_filled)) (QI dC dI (W_X5 a0 a1 cI cJ pm pw pn c_cells c_filled) (W_X5 a0 a1 cI cJ pm pw pn c_cells c_filled) res) 0 0 (FA (W_X5 a0 a1 cI cJ pm pw pn c_cells c_filled)) := by
  refine r_metI (by decide +kernel) (Nat.le_of_ble_eq_true rfl) ?_
  intro p e s m args below meth c A H0 QQ X ret ls hl hG
  have X : Cx p m c cX5_rows 1 s args RX5 dC dI cI cJ meth (some .int) := X
  have hx := X.1.1
  have hb := X.1.2.1
  have hl : lv_has ls 1 [(0, .ref a0)] := hl
  have h := hD
  unfold DX5_rows at h
  clear hD
  refine lv_aload_n hx hb dX5_rows_0 rfl (lv_at hl 0 rfl) ?_
  refine r_get X hG in_X5 rfl 3 (by decide) w_109 0 rfl rfl dX5_rows_1 ?_
  cases h
  exact ret _ _ _ _ dX5_rows_4 hG
set_option maxRecDepth 100000 in
set_option maxHeartbeats 4000000 in
theorem mX5_get (l : Launch) (dC : Nat → ClassId) (dI : Nat → Nat → Nat) (cI cJ : ClassId) (a0 a1 : Nat) (pm : Int32) (pw : Int32) (pn : Nat) (c_cells : Nat → Int32) (c_filled : Int32) (x1 : Int32) (x2 : Int32) {res : Int32} (hD : DX5_get x1 x2 pm pw pn c_cells = some res) : Met l yX5_get (WZ yX5_get cX5_get 4 (some .int)) (RM 0 0) (PC dC dI cI cJ [.ref a0, .int x1, .int x2] (W_X5 a0 a1 cI cJ pm pw pn c_cells c_filled)) (QI dC dI (W_X5 a0 a1 cI cJ pm pw pn c_cells c_filled) (W_X5 a0 a1 cI cJ pm pw pn c_cells c_filled) res) 0 0 (FA (W_X5 a0 a1 cI cJ pm pw pn c_cells c_filled)) := by
  refine r_metI (by decide +kernel) (Nat.le_of_ble_eq_true rfl) ?_
  intro p e s m args below meth c A H0 QQ X ret ls hl hG
  have X : Cx p m c cX5_get 4 s args RX5 dC dI cI cJ meth (some .int) := X
  have hx := X.1.1
  have hb := X.1.2.1
  have hl : lv_has ls 4 [(0, .ref a0), (1, .int x1), (2, .int x2)] := hl
  have J29 : ∀ (y0 : Int32), DX5_get_J29 pw pn x1 x2 c_cells y0 = some res → ∀ (ls : Array Slot) (H : Heap) (locs : List Loc), lv_has ls 4 [(0, .ref a0), (1, .int x1), (2, .int x2)] → G dC dI A H0 (W_X5 a0 a1 cI cJ pm pw pn c_cells c_filled) H locs → W p l e (RM 0 0) s m args below meth c H locs 0 0 QQ (F0 m 29 ls [.int y0]) := by
    intro y0 h  ls H locs hl hG
    unfold DX5_get_J29 at h
    refine lv_istore_n (lv' := [(3, .int y0), (0, .ref a0), (1, .int x1), (2, .int x2)]) hx hb dX5_get_29 rfl hl (by decide) rfl (fun ls hl => ?_)
    refine lv_iload_n hx hb dX5_get_30 rfl (lv_at hl 0 rfl) ?_
    refine lv_if_eq (tgt := 50) hx hb dX5_get_31 (by decide) (fun c_2 => ?_) (fun c_2 => ?_)
    · have h := ite_t h c_2
      refine lv_iconst (v := (0 : Int32)) hx hb dX5_get_50 (by decide) ?_
      cases h
      exact ret _ _ _ _ dX5_get_51 hG
    · have h := ite_f h c_2
      refine lv_aload_n hx hb dX5_get_34 rfl (lv_at hl 1 rfl) ?_
      refine r_get X hG in_X5 rfl 0 (by decide) w_106 0 rfl rfl dX5_get_35 ?_
      refine lv_iload_n hx hb dX5_get_38 rfl (lv_at hl 2 rfl) ?_
      refine lv_aload_n hx hb dX5_get_39 rfl (lv_at hl 1 rfl) ?_
      refine r_get X hG in_X5 rfl 2 (by decide) w_108 0 rfl rfl dX5_get_40 ?_
      refine lv_imul hx hb dX5_get_43 ?_
      refine lv_iload_n hx hb dX5_get_44 rfl (lv_at hl 3 rfl) ?_
      refine lv_iadd hx hb dX5_get_45 ?_
      obtain ⟨g_3, h⟩ := gd h
      refine r_iald X hG 1 rfl g_3 dX5_get_46 ?_
      refine lv_goto (tgt := 51) hx hb dX5_get_47 (by decide) ?_
      cases h
      exact ret _ _ _ _ dX5_get_51 hG
  have h := hD
  unfold DX5_get at h
  clear hD
  refine lv_iload_n hx hb dX5_get_0 rfl (lv_at hl 1 rfl) ?_
  refine lv_if_lt (tgt := 28) hx hb dX5_get_1 (by decide) (fun c_1 => ?_) (fun c_1 => ?_)
  · have h := ite_t h c_1
    refine lv_iconst (v := (0 : Int32)) hx hb dX5_get_28 (by decide) ?_
    exact J29 (0 : Int32)  h  _ _ _ (lv_sub hl [0, 1, 2] rfl) hG
  · have h := ite_f h c_1
    refine lv_iload_n hx hb dX5_get_4 rfl (lv_at hl 1 rfl) ?_
    refine lv_aload_n hx hb dX5_get_5 rfl (lv_at hl 0 rfl) ?_
    refine r_get X hG in_X5 rfl 1 (by decide) w_107 0 rfl rfl dX5_get_6 ?_
    refine lv_icmp_ge (tgt := 28) hx hb dX5_get_9 (by decide) (fun c_4 => ?_) (fun c_4 => ?_)
    · have h := ite_t h c_4
      refine lv_iconst (v := (0 : Int32)) hx hb dX5_get_28 (by decide) ?_
      exact J29 (0 : Int32)  h  _ _ _ (lv_sub hl [0, 1, 2] rfl) hG
    · have h := ite_f h c_4
      refine lv_iload_n hx hb dX5_get_12 rfl (lv_at hl 2 rfl) ?_
      refine lv_if_lt (tgt := 28) hx hb dX5_get_13 (by decide) (fun c_5 => ?_) (fun c_5 => ?_)
      · have h := ite_t h c_5
        refine lv_iconst (v := (0 : Int32)) hx hb dX5_get_28 (by decide) ?_
        exact J29 (0 : Int32)  h  _ _ _ (lv_sub hl [0, 1, 2] rfl) hG
      · have h := ite_f h c_5
        refine lv_iload_n hx hb dX5_get_16 rfl (lv_at hl 2 rfl) ?_
        refine lv_aload_n hx hb dX5_get_17 rfl (lv_at hl 0 rfl) ?_
        refine r_get X hG in_X5 rfl 2 (by decide) w_108 0 rfl rfl dX5_get_18 ?_
        refine lv_icmp_ge (tgt := 28) hx hb dX5_get_21 (by decide) (fun c_6 => ?_) (fun c_6 => ?_)
        · have h := ite_t h c_6
          refine lv_iconst (v := (0 : Int32)) hx hb dX5_get_28 (by decide) ?_
          exact J29 (0 : Int32)  h  _ _ _ (lv_sub hl [0, 1, 2] rfl) hG
        · have h := ite_f h c_6
          refine lv_iconst (v := (1 : Int32)) hx hb dX5_get_24 (by decide) ?_
          refine lv_goto (tgt := 29) hx hb dX5_get_25 (by decide) ?_
          exact J29 (1 : Int32)  h  _ _ _ (lv_sub hl [0, 1, 2] rfl) hG
set_option maxRecDepth 100000 in
set_option maxHeartbeats 4000000 in
theorem mX1_turnBy (l : Launch) (dC : Nat → ClassId) (dI : Nat → Nat → Nat) (cI cJ : ClassId) (a0 a1 a2 a3 : Nat) (c_loads_cells : Nat → Int32) (c_loads_filled : Int32) (c_order : Nat → Int32) (c_done : Int32) (c_start : Int32) (c_end : Int32) (x1 : Int32) {res : Int32} (hD : DX1_turnBy x1 c_loads_cells = some res) : Met l yX1_turnBy (WZ yX1_turnBy cX1_turnBy 2 (some .int)) (RM 1 23) (PC dC dI cI cJ [.ref a0, .int x1] (W_X1 a0 a1 a2 a3 cI cJ c_loads_cells c_loads_filled c_order c_done c_start c_end)) (QI dC dI (W_X1 a0 a1 a2 a3 cI cJ c_loads_cells c_loads_filled c_order c_done c_start c_end) (W_X1 a0 a1 a2 a3 cI cJ c_loads_cells c_loads_filled c_order c_done c_start c_end) res) 0 0 (FA (W_X1 a0 a1 a2 a3 cI cJ c_loads_cells c_loads_filled c_order c_done c_start c_end)) := by
  refine r_metI (by decide +kernel) (Nat.le_of_ble_eq_true rfl) ?_
  intro p e s m args below meth c A H0 QQ X ret ls hl hG
  have X : Cx p m c cX1_turnBy 2 s args RX1 dC dI cI cJ meth (some .int) := X
  have hx := X.1.1
  have hb := X.1.2.1
  have hl : lv_has ls 2 [(0, .ref a0), (1, .int x1)] := hl
  have h := hD
  unfold DX1_turnBy at h
  clear hD
  refine lv_aload_n hx hb dX1_turnBy_0 rfl (lv_at hl 0 rfl) ?_
  refine r_get X hG in_X1 rfl 0 (by decide) w_161 0 rfl rfl dX1_turnBy_1 ?_
  refine lv_iload_n hx hb dX1_turnBy_4 rfl (lv_at hl 1 rfl) ?_
  refine lv_iconst (v := (3 : Int32)) hx hb dX1_turnBy_5 (by decide) ?_
  obtain ⟨r_1, hz_2, h⟩ := bd1_some h
  refine aft_i (ws' := (W_X1 a0 a1 a2 a3 cI cJ c_loads_cells c_loads_filled c_order c_done c_start c_end)) (run_V (rest := []) X hG hl.1 (mX5_get l dC dI cI cJ a1 a2 (7 : Int32) (10 : Int32) 70 c_loads_cells c_loads_filled x1 (3 : Int32) hz_2) gi_V_X1_43 hd_V_yX5_get ⟨rfl, rfl⟩ rfl ⟨Nat.le_of_ble_eq_true rfl, Nat.le_of_ble_eq_true rfl⟩ [1, 2] (by decide) rfl 1 rfl rfl rfl rfl (Nat.le_of_ble_eq_true rfl) ⟨Nat.le_of_ble_eq_true rfl, Nat.le_of_ble_eq_true rfl⟩ dX1_turnBy_6) hG [1, 2] rfl rfl rfl (fun H locs hG => ?_)
  clear hz_2
  rcases Decidable.em (r_1 = (1 : Int32)) with c_3 | c_3
  · have h := ite_t h c_3
    refine lv_lookup (off := 27) (tgt := 36) hx hb dX1_turnBy_9 (by decide) (by rw [c_3] <;> decide) (by decide) ?_
    refine lv_iconst (v := (2 : Int32)) hx hb dX1_turnBy_36 (by decide) ?_
    refine lv_aload_n hx hb dX1_turnBy_37 rfl (lv_at hl 0 rfl) ?_
    refine r_get X hG in_X1 rfl 0 (by decide) w_161 0 rfl rfl dX1_turnBy_38 ?_
    refine lv_iload_n hx hb dX1_turnBy_41 rfl (lv_at hl 1 rfl) ?_
    refine lv_iconst (v := (2 : Int32)) hx hb dX1_turnBy_42 (by decide) ?_
    obtain ⟨r_4, hz_5, h⟩ := bd1_some h
    refine aft_i (ws' := (W_X1 a0 a1 a2 a3 cI cJ c_loads_cells c_loads_filled c_order c_done c_start c_end)) (run_V (rest := [.int (2 : Int32)]) X hG hl.1 (mX5_get l dC dI cI cJ a1 a2 (7 : Int32) (10 : Int32) 70 c_loads_cells c_loads_filled x1 (2 : Int32) hz_5) gi_V_X1_43 hd_V_yX5_get ⟨rfl, rfl⟩ rfl ⟨Nat.le_of_ble_eq_true rfl, Nat.le_of_ble_eq_true rfl⟩ [1, 2] (by decide) rfl 1 rfl rfl rfl rfl (Nat.le_of_ble_eq_true rfl) ⟨Nat.le_of_ble_eq_true rfl, Nat.le_of_ble_eq_true rfl⟩ dX1_turnBy_43) hG [1, 2] rfl rfl rfl (fun H locs hG => ?_)
    clear hz_5
    refine lv_imul hx hb dX1_turnBy_46 ?_
    cases h
    exact ret _ _ _ _ dX1_turnBy_47 hG
  · have h := ite_f h c_3
    rcases Decidable.em (r_1 = (2 : Int32)) with c_6 | c_6
    · have h := ite_t h c_6
      refine lv_lookup (off := 39) (tgt := 48) hx hb dX1_turnBy_9 (by decide) (by rw [c_6] <;> decide) (by decide) ?_
      refine lv_iconst (v := (0 : Int32)) hx hb dX1_turnBy_48 (by decide) ?_
      cases h
      exact ret _ _ _ _ dX1_turnBy_49 hG
    · have h := ite_f h c_6
      refine lv_lookup (off := 41) (tgt := 50) hx hb dX1_turnBy_9 (by decide) (by rw [lv_osw c_3 (a := 1) rfl, lv_osw c_6 (a := 2) rfl] <;> rfl) (by decide) ?_
      refine lv_aload_n hx hb dX1_turnBy_50 rfl (lv_at hl 0 rfl) ?_
      refine r_get X hG in_X1 rfl 0 (by decide) w_161 0 rfl rfl dX1_turnBy_51 ?_
      refine lv_iload_n hx hb dX1_turnBy_54 rfl (lv_at hl 1 rfl) ?_
      refine lv_iconst (v := (2 : Int32)) hx hb dX1_turnBy_55 (by decide) ?_
      obtain ⟨r_7, hz_8, h⟩ := bd1_some h
      refine aft_i (ws' := (W_X1 a0 a1 a2 a3 cI cJ c_loads_cells c_loads_filled c_order c_done c_start c_end)) (run_V (rest := []) X hG hl.1 (mX5_get l dC dI cI cJ a1 a2 (7 : Int32) (10 : Int32) 70 c_loads_cells c_loads_filled x1 (2 : Int32) hz_8) gi_V_X1_43 hd_V_yX5_get ⟨rfl, rfl⟩ rfl ⟨Nat.le_of_ble_eq_true rfl, Nat.le_of_ble_eq_true rfl⟩ [1, 2] (by decide) rfl 1 rfl rfl rfl rfl (Nat.le_of_ble_eq_true rfl) ⟨Nat.le_of_ble_eq_true rfl, Nat.le_of_ble_eq_true rfl⟩ dX1_turnBy_56) hG [1, 2] rfl rfl rfl (fun H locs hG => ?_)
      clear hz_8
      cases h
      exact ret _ _ _ _ dX1_turnBy_59 hG
set_option maxRecDepth 100000 in
set_option maxHeartbeats 4000000 in
theorem mJ9_floorMod_7cf53 (l : Launch) (dC : Nat → ClassId) (dI : Nat → Nat → Nat) (cI cJ : ClassId) (x0 : Int32) (x1 : Int32) {res : Int32} (hD : DJ9_floorMod_7cf53 x0 x1 = some res) : Met l yJ9_floorMod_7cf53 (WZ yJ9_floorMod_7cf53 cJ9_floorMod_7cf53 3 (some .int)) (RM 0 0) (PC dC dI cI cJ [.int x0, .int x1] []) (QI dC dI [] [] res) 0 0 (FA []) := by
  refine r_metI (by decide +kernel) (Nat.le_of_ble_eq_true rfl) ?_
  intro p e s m args below meth c A H0 QQ X ret ls hl hG
  have X : Cx p m c cJ9_floorMod_7cf53 3 s args RJ9 dC dI cI cJ meth (some .int) := X
  have hx := X.1.1
  have hb := X.1.2.1
  have hl : lv_has ls 3 [(0, .int x0), (1, .int x1)] := hl
  have h := hD
  unfold DJ9_floorMod_7cf53 at h
  clear hD
  refine lv_iload_n hx hb dJ9_floorMod_7cf53_0 rfl (lv_at hl 0 rfl) ?_
  refine lv_iload_n hx hb dJ9_floorMod_7cf53_1 rfl (lv_at hl 1 rfl) ?_
  obtain ⟨g_1, h⟩ := gd h
  refine lv_irem hx hb dJ9_floorMod_7cf53_2 g_1 ?_
  refine lv_istore_n (lv' := [(2, .int (x0 - x0 / x1 * x1)), (0, .int x0), (1, .int x1)]) hx hb dJ9_floorMod_7cf53_3 rfl hl (by decide) rfl (fun ls hl => ?_)
  refine lv_iload_n hx hb dJ9_floorMod_7cf53_4 rfl (lv_at hl 1 rfl) ?_
  refine lv_iload_n hx hb dJ9_floorMod_7cf53_5 rfl (lv_at hl 2 rfl) ?_
  refine lv_ixor hx hb dJ9_floorMod_7cf53_6 ?_
  refine lv_if_ge (tgt := 18) hx hb dJ9_floorMod_7cf53_7 (by decide) (fun c_2 => ?_) (fun c_2 => ?_)
  · have h := ite_t h c_2
    refine lv_iload_n hx hb dJ9_floorMod_7cf53_18 rfl (lv_at hl 0 rfl) ?_
    cases h
    exact ret _ _ _ _ dJ9_floorMod_7cf53_19 hG
  · have h := ite_f h c_2
    refine lv_iload_n hx hb dJ9_floorMod_7cf53_10 rfl (lv_at hl 0 rfl) ?_
    refine lv_if_eq (tgt := 18) hx hb dJ9_floorMod_7cf53_11 (by decide) (fun c_3 => ?_) (fun c_3 => ?_)
    · have h := ite_t h c_3
      refine lv_iload_n hx hb dJ9_floorMod_7cf53_18 rfl (lv_at hl 0 rfl) ?_
      cases h
      exact ret _ _ _ _ dJ9_floorMod_7cf53_19 hG
    · have h := ite_f h c_3
      refine lv_iload_n hx hb dJ9_floorMod_7cf53_14 rfl (lv_at hl 0 rfl) ?_
      refine lv_iload_n hx hb dJ9_floorMod_7cf53_15 rfl (lv_at hl 2 rfl) ?_
      refine lv_iadd hx hb dJ9_floorMod_7cf53_16 ?_
      cases h
      exact ret _ _ _ _ dJ9_floorMod_7cf53_17 hG
set_option maxRecDepth 100000 in
set_option maxHeartbeats 4000000 in
theorem mX1_throwAll (l : Launch) (dC : Nat → ClassId) (dI : Nat → Nat → Nat) (cI cJ : ClassId) (a0 a1 a2 a3 : Nat) (c_loads_cells : Nat → Int32) (c_loads_filled : Int32) (c_order : Nat → Int32) (c_done : Int32) (c_start : Int32) (c_end : Int32) (x1 : Int32) {n_loads_cells : Nat → Int32} {n_start : Int32} {n_end : Int32} (hD : DX1_throwAll x1 c_loads_cells c_order c_done = some (n_loads_cells, n_start, n_end)) : Met l yX1_throwAll (WZ yX1_throwAll cX1_throwAll 4 none) (RM 2 44) (PC dC dI cI cJ [.ref a0, .int x1] (W_X1 a0 a1 a2 a3 cI cJ c_loads_cells c_loads_filled c_order c_done c_start c_end)) (QV dC dI (W_X1 a0 a1 a2 a3 cI cJ c_loads_cells c_loads_filled c_order c_done c_start c_end) (W_X1 a0 a1 a2 a3 cI cJ n_loads_cells c_loads_filled c_order c_done n_start n_end)) 0 0 (FA (W_X1 a0 a1 a2 a3 cI cJ c_loads_cells c_loads_filled c_order c_done c_start c_end)) := by
  refine r_metV (by decide +kernel) (Nat.le_of_ble_eq_true rfl) ?_
  intro p e s m args below meth c A H0 QQ X ret ls hl hG
  have X : Cx p m c cX1_throwAll 4 s args RX1 dC dI cI cJ meth none := X
  have hx := X.1.1
  have hb := X.1.2.1
  have hl : lv_has ls 4 [(0, .ref a0), (1, .int x1)] := hl
  have L12 : ∀ (c_start : Int32), ∀ (n : Nat) (x2 : Int32) (c_loads_cells : Nat → Int32) (c_end : Int32) (ec_loads_cells : Nat → Int32) (ec_end : Int32), DX1_throwAll_L12 c_order c_done n x2 c_loads_cells c_end = some (ec_loads_cells, ec_end) → (∀ (ls : Array Slot) (H : Heap) (locs : List Loc), lv_has ls 4 [] → G dC dI A H0 (W_X1 a0 a1 a2 a3 cI cJ ec_loads_cells c_loads_filled c_order c_done c_start ec_end) H locs → W p l e (RM 2 44) s m args below meth c H locs 0 0 QQ (F0 m 106 ls [])) → ∀ (ls : Array Slot) (H : Heap) (locs : List Loc), lv_has ls 4 [(0, .ref a0), (2, .int x2)] → G dC dI A H0 (W_X1 a0 a1 a2 a3 cI cJ c_loads_cells c_loads_filled c_order c_done c_start c_end) H locs → W p l e (RM 2 44) s m args below meth c H locs 0 0 QQ (F0 m 12 ls []) := by
    intro c_start n
    induction n with
    | zero => intro x2 c_loads_cells c_end ec_loads_cells ec_end h; exact it_zero h
    | succ n ih =>
      intro x2 c_loads_cells c_end ec_loads_cells ec_end h0 K0 ls H locs hl hG
      obtain ⟨w, h, hi, hr⟩ := it_succ h0
      have h : DX1_throwAll_L12s c_order c_done x2 c_loads_cells c_end = some w := h
      have KC : ∀ (x2 : Int32) (c_loads_cells : Nat → Int32) (c_end : Int32), w = .inl (x2, c_loads_cells, c_end) → ∀ (ls : Array Slot) (H : Heap) (locs : List Loc), lv_has ls 4 [(0, .ref a0), (2, .int x2)] → G dC dI A H0 (W_X1 a0 a1 a2 a3 cI cJ c_loads_cells c_loads_filled c_order c_done c_start c_end) H locs → W p l e (RM 2 44) s m args below meth c H locs 0 0 QQ (F0 m 12 ls []) := fun b0 b1 b2 e ls H locs hl hG => ih b0 b1 b2 ec_loads_cells ec_end (hi _ e) K0 ls H locs hl hG
      have KX : ∀ (c_loads_cells : Nat → Int32) (c_end : Int32), w = .inr (c_loads_cells, c_end) → ∀ (ls : Array Slot) (H : Heap) (locs : List Loc), lv_has ls 4 [] → G dC dI A H0 (W_X1 a0 a1 a2 a3 cI cJ c_loads_cells c_loads_filled c_order c_done c_start c_end) H locs → W p l e (RM 2 44) s m args below meth c H locs 0 0 QQ (F0 m 106 ls []) := fun b0 b1 e ls H locs hl hG => by cases hr _ e; exact K0 ls H locs hl hG
      clear h0 hi hr K0 ih
      unfold DX1_throwAll_L12s at h
      refine lv_iload_n hx hb dX1_throwAll_12 rfl (lv_at hl 1 rfl) ?_
      refine lv_aload_n hx hb dX1_throwAll_13 rfl (lv_at hl 0 rfl) ?_
      refine r_get X hG in_X1 rfl 2 (by decide) w_163 0 rfl rfl dX1_throwAll_14 ?_
      refine lv_icmp_ge (tgt := 106) hx hb dX1_throwAll_17 (by decide) (fun c_1 => ?_) (fun c_1 => ?_)
      · have h := ite_t h c_1
        exact KX _ _ (Option.some.inj h).symm _ _ _ (lv_sub hl [] rfl) hG
      · have h := ite_f h c_1
        refine lv_aload_n hx hb dX1_throwAll_20 rfl (lv_at hl 0 rfl) ?_
        refine r_get X hG in_X1 rfl 1 (by decide) w_162 0 rfl rfl dX1_throwAll_21 ?_
        refine lv_iload_n hx hb dX1_throwAll_24 rfl (lv_at hl 1 rfl) ?_
        obtain ⟨r_2, hz_3, h⟩ := bd1_some h
        refine aft_i (ws' := (W_X1 a0 a1 a2 a3 cI cJ c_loads_cells c_loads_filled c_order c_done c_start c_end)) (run_SN (rest := []) X hG hl.1 (mX8_at l dC dI cI cJ a3 7 c_order x2 hz_3) gi_N_yX8_at w_384 w_296 w_41 hd_S_yX8_at ⟨rfl, rfl⟩ rfl ⟨Nat.le_of_ble_eq_true rfl, Nat.le_of_ble_eq_true rfl⟩ [3] (by decide) rfl rfl (Nat.le_of_ble_eq_true rfl) ⟨Nat.le_of_ble_eq_true rfl, Nat.le_of_ble_eq_true rfl⟩ dX1_throwAll_25) hG [3] rfl rfl rfl (fun H locs hG => ?_)
        clear hz_3
        refine lv_istore_n (lv' := [(3, .int r_2), (0, .ref a0), (2, .int x2)]) hx hb dX1_throwAll_28 rfl hl (by decide) rfl (fun ls hl => ?_)
        refine lv_aload_n hx hb dX1_throwAll_29 rfl (lv_at hl 1 rfl) ?_
        refine r_get X hG in_X1 rfl 0 (by decide) w_161 0 rfl rfl dX1_throwAll_30 ?_
        refine lv_iload_n hx hb dX1_throwAll_33 rfl (lv_at hl 0 rfl) ?_
        refine lv_iconst (v := (4 : Int32)) hx hb dX1_throwAll_34 (by decide) ?_
        refine lv_aload_n hx hb dX1_throwAll_35 rfl (lv_at hl 1 rfl) ?_
        refine r_get X hG in_X1 rfl 4 (by decide) w_165 0 rfl rfl dX1_throwAll_36 ?_
        refine lv_aload_n hx hb dX1_throwAll_39 rfl (lv_at hl 1 rfl) ?_
        refine r_get X hG in_X1 rfl 0 (by decide) w_161 0 rfl rfl dX1_throwAll_40 ?_
        refine lv_iload_n hx hb dX1_throwAll_43 rfl (lv_at hl 0 rfl) ?_
        refine lv_iconst (v := (1 : Int32)) hx hb dX1_throwAll_44 (by decide) ?_
        obtain ⟨r_4, hz_5, h⟩ := bd1_some h
        refine aft_i (ws' := (W_X1 a0 a1 a2 a3 cI cJ c_loads_cells c_loads_filled c_order c_done c_start c_end)) (run_V (rest := [.int c_end, .int (4 : Int32), .int r_2, .ref a1]) X hG hl.1 (mX5_get l dC dI cI cJ a1 a2 (7 : Int32) (10 : Int32) 70 c_loads_cells c_loads_filled r_2 (1 : Int32) hz_5) gi_V_X1_43 hd_V_yX5_get ⟨rfl, rfl⟩ rfl ⟨Nat.le_of_ble_eq_true rfl, Nat.le_of_ble_eq_true rfl⟩ [1, 2] (by decide) rfl 1 rfl rfl rfl rfl (Nat.le_of_ble_eq_true rfl) ⟨Nat.le_of_ble_eq_true rfl, Nat.le_of_ble_eq_true rfl⟩ dX1_throwAll_45) hG [1, 2] rfl rfl rfl (fun H locs hG => ?_)
        clear hz_5
        refine lv_iadd hx hb dX1_throwAll_48 ?_
        refine lv_bipush (v := (24 : Int32)) hx hb dX1_throwAll_49 (by decide) ?_
        refine lv_irem hx hb dX1_throwAll_51 (by decide) ?_
        obtain ⟨k_loads_cells_6, hz_7, h⟩ := bd1_some h
        refine aft_v (ws' := (W_X1 a0 a1 a2 a3 cI cJ k_loads_cells_6 c_loads_filled c_order c_done c_start c_end)) (run_V (rest := []) X hG hl.1 (mX5_set l dC dI cI cJ a1 a2 (7 : Int32) (10 : Int32) 70 c_loads_cells c_loads_filled r_2 (4 : Int32) ((c_end + r_4) - (c_end + r_4) / (24 : Int32) * (24 : Int32)) hz_7) gi_V_X1_47 hd_V_yX5_set ⟨rfl, rfl⟩ rfl ⟨Nat.le_of_ble_eq_true rfl, Nat.le_of_ble_eq_true rfl⟩ [1, 2] (by decide) rfl 1 rfl rfl rfl rfl (Nat.le_of_ble_eq_true rfl) ⟨Nat.le_of_ble_eq_true rfl, Nat.le_of_ble_eq_true rfl⟩ dX1_throwAll_52) hG [1, 2] rfl rfl rfl (fun H locs hG => ?_)
        clear hz_7
        refine lv_aload_n hx hb dX1_throwAll_55 rfl (lv_at hl 1 rfl) ?_
        refine lv_aload_n hx hb dX1_throwAll_56 rfl (lv_at hl 1 rfl) ?_
        refine r_get X hG in_X1 rfl 4 (by decide) w_165 0 rfl rfl dX1_throwAll_57 ?_
        refine lv_aload_n hx hb dX1_throwAll_60 rfl (lv_at hl 1 rfl) ?_
        refine lv_iload_n hx hb dX1_throwAll_61 rfl (lv_at hl 0 rfl) ?_
        obtain ⟨r_8, hz_9, h⟩ := bd1_some h
        refine aft_i1 (run_V1 (rest := [.int c_end, .ref a0]) X hG hl.1 (mX1_turnBy l dC dI cI cJ a0 a1 a2 a3 k_loads_cells_6 c_loads_filled c_order c_done c_start c_end r_2 hz_9) gi_V_X1_79 hd_V_yX1_turnBy ⟨rfl, rfl⟩ rfl ⟨Nat.le_of_ble_eq_true rfl, Nat.le_of_ble_eq_true rfl⟩ 0 rfl rfl rfl rfl (Nat.le_of_ble_eq_true rfl) ⟨Nat.le_of_ble_eq_true rfl, Nat.le_of_ble_eq_true rfl⟩ dX1_throwAll_62) hG rfl (fun H locs hG => ?_)
        clear hz_9
        refine lv_isub hx hb dX1_throwAll_65 ?_
        refine lv_bipush (v := (24 : Int32)) hx hb dX1_throwAll_66 (by decide) ?_
        obtain ⟨r_10, hz_11, h⟩ := bd1_some h
        refine aft_i (ws' := (W_X1 a0 a1 a2 a3 cI cJ k_loads_cells_6 c_loads_filled c_order c_done c_start c_end)) (run_S (rest := [.ref a0]) X hG hl.1 (mJ9_floorMod_7cf53 l dC dI cI cJ (c_end - r_8) (24 : Int32) hz_11) gi_S_X1_83 hd_S_yJ9_floorMod_7cf53 ⟨rfl, rfl⟩ rfl ⟨Nat.le_of_ble_eq_true rfl, Nat.le_of_ble_eq_true rfl⟩ [] (by decide) rfl rfl (Nat.le_of_ble_eq_true rfl) ⟨Nat.le_of_ble_eq_true rfl, Nat.le_of_ble_eq_true rfl⟩ dX1_throwAll_68) hG [] rfl rfl rfl (fun H locs hG => ?_)
        clear hz_11
        refine r_put X hG in_X1 rfl tyX1 tyX1_ok nmX1 4 (by decide) rfl (by decide +kernel) w_165 0 (ws' := (W_X1 a0 a1 a2 a3 cI cJ k_loads_cells_6 c_loads_filled c_order c_done c_start r_10)) rfl (Nat.le_of_ble_eq_true rfl) rfl dX1_throwAll_71 (fun H locs hG => ?_)
        refine lv_aload_n hx hb dX1_throwAll_74 rfl (lv_at hl 1 rfl) ?_
        refine r_get X hG in_X1 rfl 0 (by decide) w_161 0 rfl rfl dX1_throwAll_75 ?_
        refine lv_iload_n hx hb dX1_throwAll_78 rfl (lv_at hl 0 rfl) ?_
        refine lv_iconst (v := (5 : Int32)) hx hb dX1_throwAll_79 (by decide) ?_
        refine lv_aload_n hx hb dX1_throwAll_80 rfl (lv_at hl 1 rfl) ?_
        refine r_get X hG in_X1 rfl 4 (by decide) w_165 0 rfl rfl dX1_throwAll_81 ?_
        obtain ⟨k_loads_cells_12, hz_13, h⟩ := bd1_some h
        refine aft_v (ws' := (W_X1 a0 a1 a2 a3 cI cJ k_loads_cells_12 c_loads_filled c_order c_done c_start r_10)) (run_V (rest := []) X hG hl.1 (mX5_set l dC dI cI cJ a1 a2 (7 : Int32) (10 : Int32) 70 k_loads_cells_6 c_loads_filled r_2 (5 : Int32) r_10 hz_13) gi_V_X1_47 hd_V_yX5_set ⟨rfl, rfl⟩ rfl ⟨Nat.le_of_ble_eq_true rfl, Nat.le_of_ble_eq_true rfl⟩ [1, 2] (by decide) rfl 1 rfl rfl rfl rfl (Nat.le_of_ble_eq_true rfl) ⟨Nat.le_of_ble_eq_true rfl, Nat.le_of_ble_eq_true rfl⟩ dX1_throwAll_84) hG [1, 2] rfl rfl rfl (fun H locs hG => ?_)
        clear hz_13
        refine lv_aload_n hx hb dX1_throwAll_87 rfl (lv_at hl 1 rfl) ?_
        refine r_get X hG in_X1 rfl 0 (by decide) w_161 0 rfl rfl dX1_throwAll_88 ?_
        refine lv_iload_n hx hb dX1_throwAll_91 rfl (lv_at hl 0 rfl) ?_
        refine lv_bipush (v := (7 : Int32)) hx hb dX1_throwAll_92 (by decide) ?_
        refine lv_sipush (v := (1000 : Int32)) hx hb dX1_throwAll_94 (by decide) ?_
        obtain ⟨k_loads_cells_14, hz_15, h⟩ := bd1_some h
        refine aft_v (ws' := (W_X1 a0 a1 a2 a3 cI cJ k_loads_cells_14 c_loads_filled c_order c_done c_start r_10)) (run_V (rest := []) X hG hl.1 (mX5_set l dC dI cI cJ a1 a2 (7 : Int32) (10 : Int32) 70 k_loads_cells_12 c_loads_filled r_2 (7 : Int32) (1000 : Int32) hz_15) gi_V_X1_47 hd_V_yX5_set ⟨rfl, rfl⟩ rfl ⟨Nat.le_of_ble_eq_true rfl, Nat.le_of_ble_eq_true rfl⟩ [1, 2] (by decide) rfl 1 rfl rfl rfl rfl (Nat.le_of_ble_eq_true rfl) ⟨Nat.le_of_ble_eq_true rfl, Nat.le_of_ble_eq_true rfl⟩ dX1_throwAll_97) hG [1, 2] rfl rfl rfl (fun H locs hG => ?_)
        clear hz_15
        refine lv_iinc (v := (x2 + (1 : Int32))) (lv' := [(2, .int (x2 + (1 : Int32))), (3, .int r_2), (0, .ref a0)]) hx hb dX1_throwAll_100 hl (k := 2) rfl rfl (by decide) rfl (fun ls hl => ?_)
        refine lv_goto (tgt := 12) hx hb dX1_throwAll_103 (by decide) ?_
        exact KC _ _ _ (Option.some.inj h).symm _ _ _ (lv_sub hl [2, 0] rfl) hG
  have h := hD
  unfold DX1_throwAll at h
  clear hD
  refine lv_aload_n hx hb dX1_throwAll_0 rfl (lv_at hl 0 rfl) ?_
  refine lv_iload_n hx hb dX1_throwAll_1 rfl (lv_at hl 1 rfl) ?_
  refine r_put X hG in_X1 rfl tyX1 tyX1_ok nmX1 3 (by decide) rfl (by decide +kernel) w_164 0 (ws' := (W_X1 a0 a1 a2 a3 cI cJ c_loads_cells c_loads_filled c_order c_done x1 c_end)) rfl (Nat.le_of_ble_eq_true rfl) rfl dX1_throwAll_2 (fun H locs hG => ?_)
  refine lv_aload_n hx hb dX1_throwAll_5 rfl (lv_at hl 0 rfl) ?_
  refine lv_iload_n hx hb dX1_throwAll_6 rfl (lv_at hl 1 rfl) ?_
  refine r_put X hG in_X1 rfl tyX1 tyX1_ok nmX1 4 (by decide) rfl (by decide +kernel) w_165 0 (ws' := (W_X1 a0 a1 a2 a3 cI cJ c_loads_cells c_loads_filled c_order c_done x1 x1)) rfl (Nat.le_of_ble_eq_true rfl) rfl dX1_throwAll_7 (fun H locs hG => ?_)
  refine lv_iconst (v := (0 : Int32)) hx hb dX1_throwAll_10 (by decide) ?_
  refine lv_istore_n (lv' := [(2, .int (0 : Int32)), (0, .ref a0), (1, .int x1)]) hx hb dX1_throwAll_11 rfl hl (by decide) rfl (fun ls hl => ?_)
  obtain ⟨k_loads_cells_16, k_end_17, hz, h⟩ := bd2_some h
  refine L12 x1 FU (0 : Int32) c_loads_cells x1 _ _ hz (fun ls H locs hl hG => ?_) _ _ _ (lv_sub hl [1, 0] rfl) hG
  clear hz
  cases h
  exact ret _ _ _ _ dX1_throwAll_106 hG
