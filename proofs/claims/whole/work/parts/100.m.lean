/-! CONTRACTS, laid by wip/gen/lay.py: yX0_forget, yX8_put, yX8_at, yX0_dropOldest, yX0_note, yX5_set, yX0_takeBack, yX5_rows, yX5_get, yX1_turnBy, yJ9_floorMod_7cf53, yX1_throwAll, yX8_meetingDay, yX1_meetingOf, yX1_nextMeeting, yX1_loseOn, yX1_meetAll, yX8_apart, yX3_catches, yX3_priceOn, yX1_come, yX1_bringHome, yX1_lineUp, yX1_fly, yX1_known, yX1_farOn, yX1_standBehind, yX1_howMany, yX1_paidInAll, yX1_caughtWith, yX2_forget, yX5_takeOver, yX2_take, yX2_giveBack, yX5_empty, yX3_makeBare, yX3_takeOver, yX8_within -/
set_option maxRecDepth 100000 in
set_option maxHeartbeats 4000000 in
theorem mX0_forget (l : Launch) (dC : Nat → ClassId) (dI : Nat → Nat → Nat) (cI cJ : ClassId) (a0 a1 a2 a3 : Nat) (c_who : Nat → Int32) (c_column : Nat → Int32) (c_was : Nat → Int32) (c_held : Int32) {n_held : Int32} (hD : DX0_forget = some n_held) : Met l yX0_forget (WZ yX0_forget cX0_forget 1 none) (RM 0 0) (PC dC dI cI cJ [.ref a0] (W_X0 a0 a1 a2 a3 cI cJ c_who c_column c_was c_held)) (QV dC dI (W_X0 a0 a1 a2 a3 cI cJ c_who c_column c_was c_held) (W_X0 a0 a1 a2 a3 cI cJ c_who c_column c_was n_held)) 0 0 (FA (W_X0 a0 a1 a2 a3 cI cJ c_who c_column c_was c_held)) := by
  refine r_metV (by decide +kernel) (Nat.le_of_ble_eq_true rfl) ?_
  intro p e s m args below meth c A H0 QQ X ret ls hl hG
  have X : Cx p m c cX0_forget 1 s args RX0 dC dI cI cJ meth none := X
  have hx := X.1.1
  have hb := X.1.2.1
  have hl : lv_has ls 1 [(0, .ref a0)] := hl
  have h := hD
  unfold DX0_forget at h
  clear hD
  refine lv_aload_n hx hb dX0_forget_0 rfl (lv_at hl 0 rfl) ?_
  refine lv_iconst (v := (0 : Int32)) hx hb dX0_forget_1 (by decide) ?_
  refine r_put X hG in_X0 rfl tyX0 tyX0_ok nmX0 3 (by decide) rfl (by decide +kernel) w_187 0 (ws' := (W_X0 a0 a1 a2 a3 cI cJ c_who c_column c_was (0 : Int32))) rfl (Nat.le_of_ble_eq_true rfl) rfl dX0_forget_2 (fun H locs hG => ?_)
  cases h
  exact ret _ _ _ _ dX0_forget_5 hG
set_option maxRecDepth 100000 in
set_option maxHeartbeats 4000000 in
theorem mX8_put (l : Launch) (dC : Nat → ClassId) (dI : Nat → Nat → Nat) (cI cJ : ClassId) (a0 : Nat) (pn : Nat) (c_row : Nat → Int32) (x1 : Int32) (x2 : Int32) {n_row : Nat → Int32} (hD : DX8_put x1 x2 pn c_row = some n_row) : Met l yX8_put (WZ yX8_put cX8_put 3 none) (RM 0 0) (PC dC dI cI cJ [.ref a0, .int x1, .int x2] (W_A a0 cI cJ pn c_row)) (QV dC dI (W_A a0 cI cJ pn c_row) (W_A a0 cI cJ pn n_row)) 0 0 (FA (W_A a0 cI cJ pn c_row)) := by
  refine r_metV (by decide +kernel) (Nat.le_of_ble_eq_true rfl) ?_
  intro p e s m args below meth c A H0 QQ X ret ls hl hG
  have X : Cx p m c cX8_put 3 s args RX8 dC dI cI cJ meth none := X
  have hx := X.1.1
  have hb := X.1.2.1
  have hl : lv_has ls 3 [(0, .ref a0), (1, .int x1), (2, .int x2)] := hl
  have h := hD
  unfold DX8_put at h
  clear hD
  refine lv_iload_n hx hb dX8_put_0 rfl (lv_at hl 1 rfl) ?_
  refine lv_if_lt (tgt := 14) hx hb dX8_put_1 (by decide) (fun c_1 => ?_) (fun c_1 => ?_)
  · have h := ite_t h c_1
    cases h
    exact ret _ _ _ _ dX8_put_14 hG
  · have h := ite_f h c_1
    refine lv_iload_n hx hb dX8_put_4 rfl (lv_at hl 1 rfl) ?_
    refine lv_aload_n hx hb dX8_put_5 rfl (lv_at hl 0 rfl) ?_
    refine r_alen X hG 0 rfl dX8_put_6 ?_
    refine lv_icmp_ge (tgt := 14) hx hb dX8_put_7 (by decide) (fun c_2 => ?_) (fun c_2 => ?_)
    · have h := ite_t h c_2
      cases h
      exact ret _ _ _ _ dX8_put_14 hG
    · have h := ite_f h c_2
      refine lv_aload_n hx hb dX8_put_10 rfl (lv_at hl 0 rfl) ?_
      refine lv_iload_n hx hb dX8_put_11 rfl (lv_at hl 1 rfl) ?_
      refine lv_iload_n hx hb dX8_put_12 rfl (lv_at hl 2 rfl) ?_
      obtain ⟨g_3, h⟩ := gd h
      refine r_iast X hG 0 (ws' := (W_A a0 cI cJ pn (upd c_row x1.toNatClampNeg x2))) rfl g_3 rfl dX8_put_13 (fun H locs hG => ?_)
      cases h
      exact ret _ _ _ _ dX8_put_14 hG
set_option maxRecDepth 100000 in
set_option maxHeartbeats 4000000 in
theorem mX8_at (l : Launch) (dC : Nat → ClassId) (dI : Nat → Nat → Nat) (cI cJ : ClassId) (a0 : Nat) (pn : Nat) (c_row : Nat → Int32) (x1 : Int32) {res : Int32} (hD : DX8_at x1 pn c_row = some res) : Met l yX8_at (WZ yX8_at cX8_at 2 (some .int)) (RM 0 0) (PC dC dI cI cJ [.ref a0, .int x1] (W_A a0 cI cJ pn c_row)) (QI dC dI (W_A a0 cI cJ pn c_row) (W_A a0 cI cJ pn c_row) res) 0 0 (FA (W_A a0 cI cJ pn c_row)) := by
  refine r_metI (by decide +kernel) (Nat.le_of_ble_eq_true rfl) ?_
  intro p e s m args below meth c A H0 QQ X ret ls hl hG
  have X : Cx p m c cX8_at 2 s args RX8 dC dI cI cJ meth (some .int) := X
  have hx := X.1.1
  have hb := X.1.2.1
  have hl : lv_has ls 2 [(0, .ref a0), (1, .int x1)] := hl
  have h := hD
  unfold DX8_at at h
  clear hD
  refine lv_iload_n hx hb dX8_at_0 rfl (lv_at hl 1 rfl) ?_
  refine lv_if_lt (tgt := 16) hx hb dX8_at_1 (by decide) (fun c_1 => ?_) (fun c_1 => ?_)
  · have h := ite_t h c_1
    refine lv_iconst (v := (0 : Int32)) hx hb dX8_at_16 (by decide) ?_
    cases h
    exact ret _ _ _ _ dX8_at_17 hG
  · have h := ite_f h c_1
    refine lv_iload_n hx hb dX8_at_4 rfl (lv_at hl 1 rfl) ?_
    refine lv_aload_n hx hb dX8_at_5 rfl (lv_at hl 0 rfl) ?_
    refine r_alen X hG 0 rfl dX8_at_6 ?_
    refine lv_icmp_ge (tgt := 16) hx hb dX8_at_7 (by decide) (fun c_2 => ?_) (fun c_2 => ?_)
    · have h := ite_t h c_2
      refine lv_iconst (v := (0 : Int32)) hx hb dX8_at_16 (by decide) ?_
      cases h
      exact ret _ _ _ _ dX8_at_17 hG
    · have h := ite_f h c_2
      refine lv_aload_n hx hb dX8_at_10 rfl (lv_at hl 0 rfl) ?_
      refine lv_iload_n hx hb dX8_at_11 rfl (lv_at hl 1 rfl) ?_
      obtain ⟨g_3, h⟩ := gd h
      refine r_iald X hG 0 rfl g_3 dX8_at_12 ?_
      refine lv_goto (tgt := 17) hx hb dX8_at_13 (by decide) ?_
      cases h
      exact ret _ _ _ _ dX8_at_17 hG
set_option maxRecDepth 100000 in
set_option maxHeartbeats 4000000 in
theorem mX0_dropOldest (l : Launch) (dC : Nat → ClassId) (dI : Nat → Nat → Nat) (cI cJ : ClassId) (a0 a1 a2 a3 : Nat) (c_who : Nat → Int32) (c_column : Nat → Int32) (c_was : Nat → Int32) (c_held : Int32) {n_who : Nat → Int32} {n_column : Nat → Int32} {n_was : Nat → Int32} {n_held : Int32} (hD : DX0_dropOldest c_who c_column c_was c_held = some (n_who, n_column, n_was, n_held)) : Met l yX0_dropOldest (WZ yX0_dropOldest cX0_dropOldest 2 none) (RM 1 22) (PC dC dI cI cJ [.ref a0] (W_X0 a0 a1 a2 a3 cI cJ c_who c_column c_was c_held)) (QV dC dI (W_X0 a0 a1 a2 a3 cI cJ c_who c_column c_was c_held) (W_X0 a0 a1 a2 a3 cI cJ n_who n_column n_was n_held)) 0 0 (FA (W_X0 a0 a1 a2 a3 cI cJ c_who c_column c_was c_held)) := by
  refine r_metV (by decide +kernel) (Nat.le_of_ble_eq_true rfl) ?_
  intro p e s m args below meth c A H0 QQ X ret ls hl hG
  have X : Cx p m c cX0_dropOldest 2 s args RX0 dC dI cI cJ meth none := X
  have hx := X.1.1
  have hb := X.1.2.1
  have hl : lv_has ls 2 [(0, .ref a0)] := hl
  have L2 : ∀ (c_held : Int32), ∀ (n : Nat) (x1 : Int32) (c_who : Nat → Int32) (c_column : Nat → Int32) (c_was : Nat → Int32) (ec_who : Nat → Int32) (ec_column : Nat → Int32) (ec_was : Nat → Int32), DX0_dropOldest_L2 c_held n x1 c_who c_column c_was = some (ec_who, ec_column, ec_was) → (∀ (ls : Array Slot) (H : Heap) (locs : List Loc), lv_has ls 2 [(0, .ref a0)] → G dC dI A H0 (W_X0 a0 a1 a2 a3 cI cJ ec_who ec_column ec_was c_held) H locs → W p l e (RM 1 22) s m args below meth c H locs 0 0 QQ (F0 m 70 ls [])) → ∀ (ls : Array Slot) (H : Heap) (locs : List Loc), lv_has ls 2 [(0, .ref a0), (1, .int x1)] → G dC dI A H0 (W_X0 a0 a1 a2 a3 cI cJ c_who c_column c_was c_held) H locs → W p l e (RM 1 22) s m args below meth c H locs 0 0 QQ (F0 m 2 ls []) := by
    intro c_held n
    induction n with
    | zero => intro x1 c_who c_column c_was ec_who ec_column ec_was h; exact it_zero h
    | succ n ih =>
      intro x1 c_who c_column c_was ec_who ec_column ec_was h0 K0 ls H locs hl hG
      obtain ⟨w, h, hi, hr⟩ := it_succ h0
      have h : DX0_dropOldest_L2s c_held x1 c_who c_column c_was = some w := h
      have KC : ∀ (x1 : Int32) (c_who : Nat → Int32) (c_column : Nat → Int32) (c_was : Nat → Int32), w = .inl (x1, c_who, c_column, c_was) → ∀ (ls : Array Slot) (H : Heap) (locs : List Loc), lv_has ls 2 [(0, .ref a0), (1, .int x1)] → G dC dI A H0 (W_X0 a0 a1 a2 a3 cI cJ c_who c_column c_was c_held) H locs → W p l e (RM 1 22) s m args below meth c H locs 0 0 QQ (F0 m 2 ls []) := fun b0 b1 b2 b3 e ls H locs hl hG => ih b0 b1 b2 b3 ec_who ec_column ec_was (hi _ e) K0 ls H locs hl hG
      have KX : ∀ (c_who : Nat → Int32) (c_column : Nat → Int32) (c_was : Nat → Int32), w = .inr (c_who, c_column, c_was) → ∀ (ls : Array Slot) (H : Heap) (locs : List Loc), lv_has ls 2 [(0, .ref a0)] → G dC dI A H0 (W_X0 a0 a1 a2 a3 cI cJ c_who c_column c_was c_held) H locs → W p l e (RM 1 22) s m args below meth c H locs 0 0 QQ (F0 m 70 ls []) := fun b0 b1 b2 e ls H locs hl hG => by cases hr _ e; exact K0 ls H locs hl hG
      clear h0 hi hr K0 ih
      unfold DX0_dropOldest_L2s at h
      refine lv_iload_n hx hb dX0_dropOldest_2 rfl (lv_at hl 1 rfl) ?_
      refine lv_aload_n hx hb dX0_dropOldest_3 rfl (lv_at hl 0 rfl) ?_
      refine r_get X hG in_X0 rfl 3 (by decide) w_187 0 rfl rfl dX0_dropOldest_4 ?_
      refine lv_icmp_ge (tgt := 70) hx hb dX0_dropOldest_7 (by decide) (fun c_1 => ?_) (fun c_1 => ?_)
      · have h := ite_t h c_1
        exact KX _ _ _ (Option.some.inj h).symm _ _ _ (lv_sub hl [0] rfl) hG
      · have h := ite_f h c_1
        refine lv_aload_n hx hb dX0_dropOldest_10 rfl (lv_at hl 0 rfl) ?_
        refine r_get X hG in_X0 rfl 0 (by decide) w_184 0 rfl rfl dX0_dropOldest_11 ?_
        refine lv_iload_n hx hb dX0_dropOldest_14 rfl (lv_at hl 1 rfl) ?_
        refine lv_iconst (v := (1 : Int32)) hx hb dX0_dropOldest_15 (by decide) ?_
        refine lv_isub hx hb dX0_dropOldest_16 ?_
        refine lv_aload_n hx hb dX0_dropOldest_17 rfl (lv_at hl 0 rfl) ?_
        refine r_get X hG in_X0 rfl 0 (by decide) w_184 0 rfl rfl dX0_dropOldest_18 ?_
        refine lv_iload_n hx hb dX0_dropOldest_21 rfl (lv_at hl 1 rfl) ?_
        obtain ⟨r_2, hz_3, h⟩ := bd1_some h
        refine aft_i (ws' := (W_X0 a0 a1 a2 a3 cI cJ c_who c_column c_was c_held)) (run_SN (rest := [.int (x1 - (1 : Int32)), .ref a1]) X hG hl.1 (mX8_at l dC dI cI cJ a1 8 c_who x1 hz_3) gi_N_yX8_at w_495 w_296 w_41 hd_S_yX8_at ⟨rfl, rfl⟩ rfl ⟨Nat.le_of_ble_eq_true rfl, Nat.le_of_ble_eq_true rfl⟩ [1] (by decide) rfl rfl (Nat.le_of_ble_eq_true rfl) ⟨Nat.le_of_ble_eq_true rfl, Nat.le_of_ble_eq_true rfl⟩ dX0_dropOldest_22) hG [1] rfl rfl rfl (fun H locs hG => ?_)
        clear hz_3
        obtain ⟨k_who_4, hz_5, h⟩ := bd1_some h
        refine aft_v (ws' := (W_X0 a0 a1 a2 a3 cI cJ k_who_4 c_column c_was c_held)) (run_SN (rest := []) X hG hl.1 (mX8_put l dC dI cI cJ a1 8 c_who (x1 - (1 : Int32)) r_2 hz_5) gi_N_yX8_put w_496 w_272 w_41 hd_S_yX8_put ⟨rfl, rfl⟩ rfl ⟨Nat.le_of_ble_eq_true rfl, Nat.le_of_ble_eq_true rfl⟩ [1] (by decide) rfl rfl (Nat.le_of_ble_eq_true rfl) ⟨Nat.le_of_ble_eq_true rfl, Nat.le_of_ble_eq_true rfl⟩ dX0_dropOldest_25) hG [1] rfl rfl rfl (fun H locs hG => ?_)
        clear hz_5
        refine lv_aload_n hx hb dX0_dropOldest_28 rfl (lv_at hl 0 rfl) ?_
        refine r_get X hG in_X0 rfl 1 (by decide) w_185 0 rfl rfl dX0_dropOldest_29 ?_
        refine lv_iload_n hx hb dX0_dropOldest_32 rfl (lv_at hl 1 rfl) ?_
        refine lv_iconst (v := (1 : Int32)) hx hb dX0_dropOldest_33 (by decide) ?_
        refine lv_isub hx hb dX0_dropOldest_34 ?_
        refine lv_aload_n hx hb dX0_dropOldest_35 rfl (lv_at hl 0 rfl) ?_
        refine r_get X hG in_X0 rfl 1 (by decide) w_185 0 rfl rfl dX0_dropOldest_36 ?_
        refine lv_iload_n hx hb dX0_dropOldest_39 rfl (lv_at hl 1 rfl) ?_
        obtain ⟨r_6, hz_7, h⟩ := bd1_some h
        refine aft_i (ws' := (W_X0 a0 a1 a2 a3 cI cJ k_who_4 c_column c_was c_held)) (run_SN (rest := [.int (x1 - (1 : Int32)), .ref a2]) X hG hl.1 (mX8_at l dC dI cI cJ a2 8 c_column x1 hz_7) gi_N_yX8_at w_495 w_296 w_41 hd_S_yX8_at ⟨rfl, rfl⟩ rfl ⟨Nat.le_of_ble_eq_true rfl, Nat.le_of_ble_eq_true rfl⟩ [2] (by decide) rfl rfl (Nat.le_of_ble_eq_true rfl) ⟨Nat.le_of_ble_eq_true rfl, Nat.le_of_ble_eq_true rfl⟩ dX0_dropOldest_40) hG [2] rfl rfl rfl (fun H locs hG => ?_)
        clear hz_7
        obtain ⟨k_column_8, hz_9, h⟩ := bd1_some h
        refine aft_v (ws' := (W_X0 a0 a1 a2 a3 cI cJ k_who_4 k_column_8 c_was c_held)) (run_SN (rest := []) X hG hl.1 (mX8_put l dC dI cI cJ a2 8 c_column (x1 - (1 : Int32)) r_6 hz_9) gi_N_yX8_put w_496 w_272 w_41 hd_S_yX8_put ⟨rfl, rfl⟩ rfl ⟨Nat.le_of_ble_eq_true rfl, Nat.le_of_ble_eq_true rfl⟩ [2] (by decide) rfl rfl (Nat.le_of_ble_eq_true rfl) ⟨Nat.le_of_ble_eq_true rfl, Nat.le_of_ble_eq_true rfl⟩ dX0_dropOldest_43) hG [2] rfl rfl rfl (fun H locs hG => ?_)
        clear hz_9
        refine lv_aload_n hx hb dX0_dropOldest_46 rfl (lv_at hl 0 rfl) ?_
        refine r_get X hG in_X0 rfl 2 (by decide) w_186 0 rfl rfl dX0_dropOldest_47 ?_
        refine lv_iload_n hx hb dX0_dropOldest_50 rfl (lv_at hl 1 rfl) ?_
        refine lv_iconst (v := (1 : Int32)) hx hb dX0_dropOldest_51 (by decide) ?_
        refine lv_isub hx hb dX0_dropOldest_52 ?_
        refine lv_aload_n hx hb dX0_dropOldest_53 rfl (lv_at hl 0 rfl) ?_
        refine r_get X hG in_X0 rfl 2 (by decide) w_186 0 rfl rfl dX0_dropOldest_54 ?_
        refine lv_iload_n hx hb dX0_dropOldest_57 rfl (lv_at hl 1 rfl) ?_
        obtain ⟨r_10, hz_11, h⟩ := bd1_some h
        refine aft_i (ws' := (W_X0 a0 a1 a2 a3 cI cJ k_who_4 k_column_8 c_was c_held)) (run_SN (rest := [.int (x1 - (1 : Int32)), .ref a3]) X hG hl.1 (mX8_at l dC dI cI cJ a3 8 c_was x1 hz_11) gi_N_yX8_at w_495 w_296 w_41 hd_S_yX8_at ⟨rfl, rfl⟩ rfl ⟨Nat.le_of_ble_eq_true rfl, Nat.le_of_ble_eq_true rfl⟩ [3] (by decide) rfl rfl (Nat.le_of_ble_eq_true rfl) ⟨Nat.le_of_ble_eq_true rfl, Nat.le_of_ble_eq_true rfl⟩ dX0_dropOldest_58) hG [3] rfl rfl rfl (fun H locs hG => ?_)
        clear hz_11
        obtain ⟨k_was_12, hz_13, h⟩ := bd1_some h
        refine aft_v (ws' := (W_X0 a0 a1 a2 a3 cI cJ k_who_4 k_column_8 k_was_12 c_held)) (run_SN (rest := []) X hG hl.1 (mX8_put l dC dI cI cJ a3 8 c_was (x1 - (1 : Int32)) r_10 hz_13) gi_N_yX8_put w_496 w_272 w_41 hd_S_yX8_put ⟨rfl, rfl⟩ rfl ⟨Nat.le_of_ble_eq_true rfl, Nat.le_of_ble_eq_true rfl⟩ [3] (by decide) rfl rfl (Nat.le_of_ble_eq_true rfl) ⟨Nat.le_of_ble_eq_true rfl, Nat.le_of_ble_eq_true rfl⟩ dX0_dropOldest_61) hG [3] rfl rfl rfl (fun H locs hG => ?_)
        clear hz_13
        refine lv_iinc (v := (x1 + (1 : Int32))) (lv' := [(1, .int (x1 + (1 : Int32))), (0, .ref a0)]) hx hb dX0_dropOldest_64 hl (k := 1) rfl rfl (by decide) rfl (fun ls hl => ?_)
        refine lv_goto (tgt := 2) hx hb dX0_dropOldest_67 (by decide) ?_
        exact KC _ _ _ _ (Option.some.inj h).symm _ _ _ (lv_sub hl [1, 0] rfl) hG
  have h := hD
  unfold DX0_dropOldest at h
  clear hD
  refine lv_iconst (v := (1 : Int32)) hx hb dX0_dropOldest_0 (by decide) ?_
  refine lv_istore_n (lv' := [(1, .int (1 : Int32)), (0, .ref a0)]) hx hb dX0_dropOldest_1 rfl hl (by decide) rfl (fun ls hl => ?_)
  obtain ⟨k_who_14, k_column_15, k_was_16, hz, h⟩ := bd3_some h
  refine L2 c_held FU (1 : Int32) c_who c_column c_was _ _ _ hz (fun ls H locs hl hG => ?_) _ _ _ (lv_sub hl [1, 0] rfl) hG
  clear hz
  refine lv_aload_n hx hb dX0_dropOldest_70 rfl (lv_at hl 0 rfl) ?_
  refine lv_dup hx hb dX0_dropOldest_71 rfl ?_
  refine r_get X hG in_X0 rfl 3 (by decide) w_187 0 rfl rfl dX0_dropOldest_72 ?_
  refine lv_iconst (v := (1 : Int32)) hx hb dX0_dropOldest_75 (by decide) ?_
  refine lv_isub hx hb dX0_dropOldest_76 ?_
  refine r_put X hG in_X0 rfl tyX0 tyX0_ok nmX0 3 (by decide) rfl (by decide +kernel) w_187 0 (ws' := (W_X0 a0 a1 a2 a3 cI cJ k_who_14 k_column_15 k_was_16 (c_held - (1 : Int32)))) rfl (Nat.le_of_ble_eq_true rfl) rfl dX0_dropOldest_77 (fun H locs hG => ?_)
  cases h
  exact ret _ _ _ _ dX0_dropOldest_80 hG
set_option maxRecDepth 100000 in
set_option maxHeartbeats 4000000 in
theorem mX0_note (l : Launch) (dC : Nat → ClassId) (dI : Nat → Nat → Nat) (cI cJ : ClassId) (a0 a1 a2 a3 : Nat) (c_who : Nat → Int32) (c_column : Nat → Int32) (c_was : Nat → Int32) (c_held : Int32) (x1 : Int32) (x2 : Int32) (x3 : Int32) {n_who : Nat → Int32} {n_column : Nat → Int32} {n_was : Nat → Int32} {n_held : Int32} (hD : DX0_note x1 x2 x3 c_who c_column c_was c_held = some (n_who, n_column, n_was, n_held)) : Met l yX0_note (WZ yX0_note cX0_note 4 none) (RM 2 43) (PC dC dI cI cJ [.ref a0, .int x1, .int x2, .int x3] (W_X0 a0 a1 a2 a3 cI cJ c_who c_column c_was c_held)) (QV dC dI (W_X0 a0 a1 a2 a3 cI cJ c_who c_column c_was c_held) (W_X0 a0 a1 a2 a3 cI cJ n_who n_column n_was n_held)) 0 0 (FA (W_X0 a0 a1 a2 a3 cI cJ c_who c_column c_was c_held)) := by
  refine r_metV (by decide +kernel) (Nat.le_of_ble_eq_true rfl) ?_
  intro p e s m args below meth c A H0 QQ X ret ls hl hG
  have X : Cx p m c cX0_note 4 s args RX0 dC dI cI cJ meth none := X
  have hx := X.1.1
  have hb := X.1.2.1
  have hl : lv_has ls 4 [(0, .ref a0), (1, .int x1), (2, .int x2), (3, .int x3)] := hl
  have J13 : ∀ (c_who : Nat → Int32) (c_column : Nat → Int32) (c_was : Nat → Int32) (c_held : Int32), DX0_note_J13 x1 x2 x3 c_who c_column c_was c_held = some (n_who, n_column, n_was, n_held) → ∀ (ls : Array Slot) (H : Heap) (locs : List Loc), lv_has ls 4 [(0, .ref a0), (1, .int x1), (2, .int x2), (3, .int x3)] → G dC dI A H0 (W_X0 a0 a1 a2 a3 cI cJ c_who c_column c_was c_held) H locs → W p l e (RM 2 43) s m args below meth c H locs 0 0 QQ (F0 m 13 ls []) := by
    intro c_who c_column c_was c_held h  ls H locs hl hG
    unfold DX0_note_J13 at h
    refine lv_aload_n hx hb dX0_note_13 rfl (lv_at hl 0 rfl) ?_
    refine r_get X hG in_X0 rfl 0 (by decide) w_184 0 rfl rfl dX0_note_14 ?_
    refine lv_aload_n hx hb dX0_note_17 rfl (lv_at hl 0 rfl) ?_
    refine r_get X hG in_X0 rfl 3 (by decide) w_187 0 rfl rfl dX0_note_18 ?_
    refine lv_iload_n hx hb dX0_note_21 rfl (lv_at hl 1 rfl) ?_
    obtain ⟨k_who_2, hz_3, h⟩ := bd1_some h
    refine aft_v (ws' := (W_X0 a0 a1 a2 a3 cI cJ k_who_2 c_column c_was c_held)) (run_SN (rest := []) X hG hl.1 (mX8_put l dC dI cI cJ a1 8 c_who c_held x1 hz_3) gi_N_yX8_put w_496 w_272 w_41 hd_S_yX8_put ⟨rfl, rfl⟩ rfl ⟨Nat.le_of_ble_eq_true rfl, Nat.le_of_ble_eq_true rfl⟩ [1] (by decide) rfl rfl (Nat.le_of_ble_eq_true rfl) ⟨Nat.le_of_ble_eq_true rfl, Nat.le_of_ble_eq_true rfl⟩ dX0_note_22) hG [1] rfl rfl rfl (fun H locs hG => ?_)
    clear hz_3
    refine lv_aload_n hx hb dX0_note_25 rfl (lv_at hl 0 rfl) ?_
    refine r_get X hG in_X0 rfl 1 (by decide) w_185 0 rfl rfl dX0_note_26 ?_
    refine lv_aload_n hx hb dX0_note_29 rfl (lv_at hl 0 rfl) ?_
    refine r_get X hG in_X0 rfl 3 (by decide) w_187 0 rfl rfl dX0_note_30 ?_
    refine lv_iload_n hx hb dX0_note_33 rfl (lv_at hl 2 rfl) ?_
    obtain ⟨k_column_4, hz_5, h⟩ := bd1_some h
    refine aft_v (ws' := (W_X0 a0 a1 a2 a3 cI cJ k_who_2 k_column_4 c_was c_held)) (run_SN (rest := []) X hG hl.1 (mX8_put l dC dI cI cJ a2 8 c_column c_held x2 hz_5) gi_N_yX8_put w_496 w_272 w_41 hd_S_yX8_put ⟨rfl, rfl⟩ rfl ⟨Nat.le_of_ble_eq_true rfl, Nat.le_of_ble_eq_true rfl⟩ [2] (by decide) rfl rfl (Nat.le_of_ble_eq_true rfl) ⟨Nat.le_of_ble_eq_true rfl, Nat.le_of_ble_eq_true rfl⟩ dX0_note_34) hG [2] rfl rfl rfl (fun H locs hG => ?_)
    clear hz_5
    refine lv_aload_n hx hb dX0_note_37 rfl (lv_at hl 0 rfl) ?_
    refine r_get X hG in_X0 rfl 2 (by decide) w_186 0 rfl rfl dX0_note_38 ?_
    refine lv_aload_n hx hb dX0_note_41 rfl (lv_at hl 0 rfl) ?_
    refine r_get X hG in_X0 rfl 3 (by decide) w_187 0 rfl rfl dX0_note_42 ?_
    refine lv_iload_n hx hb dX0_note_45 rfl (lv_at hl 3 rfl) ?_
    obtain ⟨k_was_6, hz_7, h⟩ := bd1_some h
    refine aft_v (ws' := (W_X0 a0 a1 a2 a3 cI cJ k_who_2 k_column_4 k_was_6 c_held)) (run_SN (rest := []) X hG hl.1 (mX8_put l dC dI cI cJ a3 8 c_was c_held x3 hz_7) gi_N_yX8_put w_496 w_272 w_41 hd_S_yX8_put ⟨rfl, rfl⟩ rfl ⟨Nat.le_of_ble_eq_true rfl, Nat.le_of_ble_eq_true rfl⟩ [3] (by decide) rfl rfl (Nat.le_of_ble_eq_true rfl) ⟨Nat.le_of_ble_eq_true rfl, Nat.le_of_ble_eq_true rfl⟩ dX0_note_46) hG [3] rfl rfl rfl (fun H locs hG => ?_)
    clear hz_7
    refine lv_aload_n hx hb dX0_note_49 rfl (lv_at hl 0 rfl) ?_
    refine lv_dup hx hb dX0_note_50 rfl ?_
    refine r_get X hG in_X0 rfl 3 (by decide) w_187 0 rfl rfl dX0_note_51 ?_
    refine lv_iconst (v := (1 : Int32)) hx hb dX0_note_54 (by decide) ?_
    refine lv_iadd hx hb dX0_note_55 ?_
    refine r_put X hG in_X0 rfl tyX0 tyX0_ok nmX0 3 (by decide) rfl (by decide +kernel) w_187 0 (ws' := (W_X0 a0 a1 a2 a3 cI cJ k_who_2 k_column_4 k_was_6 (c_held + (1 : Int32)))) rfl (Nat.le_of_ble_eq_true rfl) rfl dX0_note_56 (fun H locs hG => ?_)
    cases h
    exact ret _ _ _ _ dX0_note_59 hG
  have h := hD
  unfold DX0_note at h
  clear hD
  refine lv_aload_n hx hb dX0_note_0 rfl (lv_at hl 0 rfl) ?_
  refine r_get X hG in_X0 rfl 3 (by decide) w_187 0 rfl rfl dX0_note_1 ?_
  refine lv_bipush (v := (8 : Int32)) hx hb dX0_note_4 (by decide) ?_
  refine lv_icmp_ne (tgt := 13) hx hb dX0_note_6 (by decide) (fun c_1 => ?_) (fun c_1 => ?_)
  · have h := ite_f h c_1
    exact J13 c_who c_column c_was c_held  h  _ _ _ (lv_sub hl [0, 1, 2, 3] rfl) hG
  · have h := ite_t h c_1
    refine lv_aload_n hx hb dX0_note_9 rfl (lv_at hl 0 rfl) ?_
    obtain ⟨k_who_8, k_column_9, k_was_10, k_held_11, hz_12, h⟩ := bd4_some h
    refine aft_v (ws' := (W_X0 a0 a1 a2 a3 cI cJ k_who_8 k_column_9 k_was_10 k_held_11)) (run_V (rest := []) X hG hl.1 (mX0_dropOldest l dC dI cI cJ a0 a1 a2 a3 c_who c_column c_was c_held hz_12) gi_V_X0_25 hd_V_yX0_dropOldest ⟨rfl, rfl⟩ rfl ⟨Nat.le_of_ble_eq_true rfl, Nat.le_of_ble_eq_true rfl⟩ [0, 1, 2, 3] (by decide) rfl 0 rfl rfl rfl rfl (Nat.le_of_ble_eq_true rfl) ⟨Nat.le_of_ble_eq_true rfl, Nat.le_of_ble_eq_true rfl⟩ dX0_note_10) hG [0, 1, 2, 3] rfl rfl rfl (fun H locs hG => ?_)
    clear hz_12
    exact J13 k_who_8 k_column_9 k_was_10 k_held_11  h  _ _ _ (lv_sub hl [0, 1, 2, 3] rfl) hG
set_option maxRecDepth 100000 in
set_option maxHeartbeats 4000000 in
theorem mX5_set (l : Launch) (dC : Nat → ClassId) (dI : Nat → Nat → Nat) (cI cJ : ClassId) (a0 a1 : Nat) (pm : Int32) (pw : Int32) (pn : Nat) (c_cells : Nat → Int32) (c_filled : Int32) (x1 : Int32) (x2 : Int32) (x3 : Int32) {n_cells : Nat → Int32} (hD : DX5_set x1 x2 x3 pm pw pn c_cells = some n_cells) : Met l yX5_set (WZ yX5_set cX5_set 4 none) (RM 0 0) (PC dC dI cI cJ [.ref a0, .int x1, .int x2, .int x3] (W_X5 a0 a1 cI cJ pm pw pn c_cells c_filled)) (QV dC dI (W_X5 a0 a1 cI cJ pm pw pn c_cells c_filled) (W_X5 a0 a1 cI cJ pm pw pn n_cells c_filled)) 0 0 (FA (W_X5 a0 a1 cI cJ pm pw pn c_cells c_filled)) := by
  refine r_metV (by decide +kernel) (Nat.le_of_ble_eq_true rfl) ?_
  intro p e s m args below meth c A H0 QQ X ret ls hl hG
  have X : Cx p m c cX5_set 4 s args RX5 dC dI cI cJ meth none := X
  have hx := X.1.1
  have hb := X.1.2.1
  have hl : lv_has ls 4 [(0, .ref a0), (1, .int x1), (2, .int x2), (3, .int x3)] := hl
  have h := hD
  unfold DX5_set at h
  clear hD
  refine lv_iload_n hx hb dX5_set_0 rfl (lv_at hl 1 rfl) ?_
  refine lv_if_lt (tgt := 38) hx hb dX5_set_1 (by decide) (fun c_1 => ?_) (fun c_1 => ?_)
  · have h := ite_t h c_1
    cases h
    exact ret _ _ _ _ dX5_set_38 hG
  · have h := ite_f h c_1
    refine lv_iload_n hx hb dX5_set_4 rfl (lv_at hl 1 rfl) ?_
    refine lv_aload_n hx hb dX5_set_5 rfl (lv_at hl 0 rfl) ?_
    refine r_get X hG in_X5 rfl 1 (by decide) w_107 0 rfl rfl dX5_set_6 ?_
    refine lv_icmp_ge (tgt := 38) hx hb dX5_set_9 (by decide) (fun c_2 => ?_) (fun c_2 => ?_)
    · have h := ite_t h c_2
      cases h
      exact ret _ _ _ _ dX5_set_38 hG
    · have h := ite_f h c_2
      refine lv_iload_n hx hb dX5_set_12 rfl (lv_at hl 2 rfl) ?_
      refine lv_if_lt (tgt := 38) hx hb dX5_set_13 (by decide) (fun c_3 => ?_) (fun c_3 => ?_)
      · have h := ite_t h c_3
        cases h
        exact ret _ _ _ _ dX5_set_38 hG
      · have h := ite_f h c_3
        refine lv_iload_n hx hb dX5_set_16 rfl (lv_at hl 2 rfl) ?_
        refine lv_aload_n hx hb dX5_set_17 rfl (lv_at hl 0 rfl) ?_
        refine r_get X hG in_X5 rfl 2 (by decide) w_108 0 rfl rfl dX5_set_18 ?_
        refine lv_icmp_ge (tgt := 38) hx hb dX5_set_21 (by decide) (fun c_4 => ?_) (fun c_4 => ?_)
        · have h := ite_t h c_4
          cases h
          exact ret _ _ _ _ dX5_set_38 hG
        · have h := ite_f h c_4
          refine lv_aload_n hx hb dX5_set_24 rfl (lv_at hl 0 rfl) ?_
          refine r_get X hG in_X5 rfl 0 (by decide) w_106 0 rfl rfl dX5_set_25 ?_
          refine lv_iload_n hx hb dX5_set_28 rfl (lv_at hl 1 rfl) ?_
          refine lv_aload_n hx hb dX5_set_29 rfl (lv_at hl 0 rfl) ?_
          refine r_get X hG in_X5 rfl 2 (by decide) w_108 0 rfl rfl dX5_set_30 ?_
          refine lv_imul hx hb dX5_set_33 ?_
          refine lv_iload_n hx hb dX5_set_34 rfl (lv_at hl 2 rfl) ?_
          refine lv_iadd hx hb dX5_set_35 ?_
          refine lv_iload_n hx hb dX5_set_36 rfl (lv_at hl 3 rfl) ?_
          obtain ⟨g_5, h⟩ := gd h
          refine r_iast X hG 1 (ws' := (W_X5 a0 a1 cI cJ pm pw pn (upd c_cells ((x1 * pw) + x2).toNatClampNeg x3) c_filled)) rfl g_5 rfl dX5_set_37 (fun H locs hG => ?_)
          cases h
          exact ret _ _ _ _ dX5_set_38 hG
set_option maxRecDepth 100000 in
set_option maxHeartbeats 4000000 in
theorem mX0_takeBack (l : Launch) (dC : Nat → ClassId) (dI : Nat → Nat → Nat) (cI cJ : ClassId) (a0 a1 a2 a3 a4 a5 : Nat) (c_who : Nat → Int32) (c_column : Nat → Int32) (c_was : Nat → Int32) (c_held : Int32) (o_cells : Nat → Int32) (o_filled : Int32) {res : Int32} {n_held : Int32} {n_cells : Nat → Int32} (hD : DX0_takeBack c_who c_column c_was c_held o_cells = some (res, n_held, n_cells)) : Met l yX0_takeBack (WZ yX0_takeBack cX0_takeBack 2 (some .boolean)) (RM 1 23) (PC dC dI cI cJ [.ref a0, .ref a4] (W_X0_X5 a0 a1 a2 a3 a4 a5 cI cJ c_who c_column c_was c_held o_cells o_filled)) (QI dC dI (W_X0_X5 a0 a1 a2 a3 a4 a5 cI cJ c_who c_column c_was c_held o_cells o_filled) (W_X0_X5 a0 a1 a2 a3 a4 a5 cI cJ c_who c_column c_was n_held n_cells o_filled) res) 0 0 (FA (W_X0_X5 a0 a1 a2 a3 a4 a5 cI cJ c_who c_column c_was c_held o_cells o_filled)) := by
  refine r_metZ (by decide +kernel) (Nat.le_of_ble_eq_true rfl) ?_
  intro p e s m args below meth c A H0 QQ X ret ls hl hG
  have X : Cx p m c cX0_takeBack 2 s args RX0 dC dI cI cJ meth (some .boolean) := X
  have hx := X.1.1
  have hb := X.1.2.1
  have hl : lv_has ls 2 [(0, .ref a0), (1, .ref a4)] := hl
  have h := hD
  unfold DX0_takeBack at h
  clear hD
  refine lv_aload_n hx hb dX0_takeBack_0 rfl (lv_at hl 0 rfl) ?_
  refine r_get X hG in_X0 rfl 3 (by decide) w_187 0 rfl rfl dX0_takeBack_1 ?_
  refine lv_if_ne (tgt := 9) hx hb dX0_takeBack_4 (by decide) (fun c_1 => ?_) (fun c_1 => ?_)
  · have h := ite_f h c_1
    refine lv_aload_n hx hb dX0_takeBack_9 rfl (lv_at hl 0 rfl) ?_
    refine lv_dup hx hb dX0_takeBack_10 rfl ?_
    refine r_get X hG in_X0 rfl 3 (by decide) w_187 0 rfl rfl dX0_takeBack_11 ?_
    refine lv_iconst (v := (1 : Int32)) hx hb dX0_takeBack_14 (by decide) ?_
    refine lv_isub hx hb dX0_takeBack_15 ?_
    refine r_put X hG in_X0 rfl tyX0 tyX0_ok nmX0 3 (by decide) rfl (by decide +kernel) w_187 0 (ws' := (W_X0_X5 a0 a1 a2 a3 a4 a5 cI cJ c_who c_column c_was (c_held - (1 : Int32)) o_cells o_filled)) rfl (Nat.le_of_ble_eq_true rfl) rfl dX0_takeBack_16 (fun H locs hG => ?_)
    refine lv_aload_n hx hb dX0_takeBack_19 rfl (lv_at hl 1 rfl) ?_
    refine lv_aload_n hx hb dX0_takeBack_20 rfl (lv_at hl 0 rfl) ?_
    refine r_get X hG in_X0 rfl 0 (by decide) w_184 0 rfl rfl dX0_takeBack_21 ?_
    refine lv_aload_n hx hb dX0_takeBack_24 rfl (lv_at hl 0 rfl) ?_
    refine r_get X hG in_X0 rfl 3 (by decide) w_187 0 rfl rfl dX0_takeBack_25 ?_
    obtain ⟨r_2, hz_3, h⟩ := bd1_some h
    refine aft_i (ws' := (W_X0_X5 a0 a1 a2 a3 a4 a5 cI cJ c_who c_column c_was (c_held - (1 : Int32)) o_cells o_filled)) (run_SN (rest := [.ref a4]) X hG hl.1 (mX8_at l dC dI cI cJ a1 8 c_who (c_held - (1 : Int32)) hz_3) gi_N_yX8_at w_495 w_296 w_41 hd_S_yX8_at ⟨rfl, rfl⟩ rfl ⟨Nat.le_of_ble_eq_true rfl, Nat.le_of_ble_eq_true rfl⟩ [1] (by decide) rfl rfl (Nat.le_of_ble_eq_true rfl) ⟨Nat.le_of_ble_eq_true rfl, Nat.le_of_ble_eq_true rfl⟩ dX0_takeBack_28) hG [1] rfl rfl rfl (fun H locs hG => ?_)
    clear hz_3
    refine lv_aload_n hx hb dX0_takeBack_31 rfl (lv_at hl 0 rfl) ?_
    refine r_get X hG in_X0 rfl 1 (by decide) w_185 0 rfl rfl dX0_takeBack_32 ?_
    refine lv_aload_n hx hb dX0_takeBack_35 rfl (lv_at hl 0 rfl) ?_
    refine r_get X hG in_X0 rfl 3 (by decide) w_187 0 rfl rfl dX0_takeBack_36 ?_
    obtain ⟨r_4, hz_5, h⟩ := bd1_some h
    refine aft_i (ws' := (W_X0_X5 a0 a1 a2 a3 a4 a5 cI cJ c_who c_column c_was (c_held - (1 : Int32)) o_cells o_filled)) (run_SN (rest := [.int r_2, .ref a4]) X hG hl.1 (mX8_at l dC dI cI cJ a2 8 c_column (c_held - (1 : Int32)) hz_5) gi_N_yX8_at w_495 w_296 w_41 hd_S_yX8_at ⟨rfl, rfl⟩ rfl ⟨Nat.le_of_ble_eq_true rfl, Nat.le_of_ble_eq_true rfl⟩ [2] (by decide) rfl rfl (Nat.le_of_ble_eq_true rfl) ⟨Nat.le_of_ble_eq_true rfl, Nat.le_of_ble_eq_true rfl⟩ dX0_takeBack_39) hG [2] rfl rfl rfl (fun H locs hG => ?_)
    clear hz_5
    refine lv_aload_n hx hb dX0_takeBack_42 rfl (lv_at hl 0 rfl) ?_
    refine r_get X hG in_X0 rfl 2 (by decide) w_186 0 rfl rfl dX0_takeBack_43 ?_
    refine lv_aload_n hx hb dX0_takeBack_46 rfl (lv_at hl 0 rfl) ?_
    refine r_get X hG in_X0 rfl 3 (by decide) w_187 0 rfl rfl dX0_takeBack_47 ?_
    obtain ⟨r_6, hz_7, h⟩ := bd1_some h
    refine aft_i (ws' := (W_X0_X5 a0 a1 a2 a3 a4 a5 cI cJ c_who c_column c_was (c_held - (1 : Int32)) o_cells o_filled)) (run_SN (rest := [.int r_4, .int r_2, .ref a4]) X hG hl.1 (mX8_at l dC dI cI cJ a3 8 c_was (c_held - (1 : Int32)) hz_7) gi_N_yX8_at w_495 w_296 w_41 hd_S_yX8_at ⟨rfl, rfl⟩ rfl ⟨Nat.le_of_ble_eq_true rfl, Nat.le_of_ble_eq_true rfl⟩ [3] (by decide) rfl rfl (Nat.le_of_ble_eq_true rfl) ⟨Nat.le_of_ble_eq_true rfl, Nat.le_of_ble_eq_true rfl⟩ dX0_takeBack_50) hG [3] rfl rfl rfl (fun H locs hG => ?_)
    clear hz_7
    obtain ⟨k_cells_8, hz_9, h⟩ := bd1_some h
    refine aft_v (ws' := (W_X0_X5 a0 a1 a2 a3 a4 a5 cI cJ c_who c_column c_was (c_held - (1 : Int32)) k_cells_8 o_filled)) (run_V (rest := []) X hG hl.1 (mX5_set l dC dI cI cJ a4 a5 (7 : Int32) (4 : Int32) 28 o_cells o_filled r_2 r_4 r_6 hz_9) gi_V_X0_36 hd_V_yX5_set ⟨rfl, rfl⟩ rfl ⟨Nat.le_of_ble_eq_true rfl, Nat.le_of_ble_eq_true rfl⟩ [4, 5] (by decide) rfl 4 rfl rfl rfl rfl (Nat.le_of_ble_eq_true rfl) ⟨Nat.le_of_ble_eq_true rfl, Nat.le_of_ble_eq_true rfl⟩ dX0_takeBack_53) hG [4, 5] rfl rfl rfl (fun H locs hG => ?_)
    clear hz_9
    refine lv_iconst (v := (1 : Int32)) hx hb dX0_takeBack_56 (by decide) ?_
    cases h
    exact ret _ _ _ _ dX0_takeBack_57 (by decide) hG
  · have h := ite_t h c_1
    refine lv_iconst (v := (0 : Int32)) hx hb dX0_takeBack_7 (by decide) ?_
    cases h
    exact ret _ _ _ _ dX0_takeBack_8 (by decide) hG
set_option maxRecDepth 100000 in
set_option maxHeartbeats 4000000 in
theorem mX5_rows (l : Launch) (dC : Nat → ClassId) (dI : Nat → Nat → Nat) (cI cJ : ClassId) (a0 a1 : Nat) (pm : Int32) (pw : Int32) (pn : Nat) (c_cells : Nat → Int32) (c_filled : Int32) {res : Int32} (hD : DX5_rows c_filled = some res) : Met l yX5_rows (WZ yX5_rows cX5_rows 1 (some .int)) (RM 0 0) (PC dC dI cI cJ [.ref a0] (W_X5 a0 a1 cI cJ pm pw pn c_cells c_filled)) (QI dC dI (W_X5 a0 a1 cI cJ pm pw pn c_cells c_filled) (W_X5 a0 a1 cI cJ pm pw pn c_cells c_filled) res) 0 0 (FA (W_X5 a0 a1 cI cJ pm pw pn c_cells c_filled)) := by
  refine r_metI (by decide +kernel) (Nat.le_of_ble_eq_true rfl) ?_
  intro p e s m args below meth c A H0 QQ X ret ls hl hG
  have X : Cx p m c cX5_rows 1 s args RX5 dC dI cI cJ meth (some .int) := X
  have hx := X.1.1
  have hb := X.1.2.1
  have hl : lv_has ls 1 [(0, .ref a0)] := hl
  have h := hD
  unfold DX5_rows at h
  clear hD
  refine lv_aload_n hx hb dX5_rows_0 rfl (lv_at hl 0 rfl) ?_
  refine r_get X hG in_X5 rfl 3 (by decide) w_109 0 rfl rfl dX5_rows_1 ?_
  cases h
  exact ret _ _ _ _ dX5_rows_4 hG
set_option maxRecDepth 100000 in
set_option maxHeartbeats 4000000 in
theorem mX5_get (l : Launch) (dC : Nat → ClassId) (dI : Nat → Nat → Nat) (cI cJ : ClassId) (a0 a1 : Nat) (pm : Int32) (pw : Int32) (pn : Nat) (c_cells : Nat → Int32) (c_filled : Int32) (x1 : Int32) (x2 : Int32) {res : Int32} (hD : DX5_get x1 x2 pm pw pn c_cells = some res) : Met l yX5_get (WZ yX5_get cX5_get 4 (some .int)) (RM 0 0) (PC dC dI cI cJ [.ref a0, .int x1, .int x2] (W_X5 a0 a1 cI cJ pm pw pn c_cells c_filled)) (QI dC dI (W_X5 a0 a1 cI cJ pm pw pn c_cells c_filled) (W_X5 a0 a1 cI cJ pm pw pn c_cells c_filled) res) 0 0 (FA (W_X5 a0 a1 cI cJ pm pw pn c_cells c_filled)) := by
  refine r_metI (by decide +kernel) (Nat.le_of_ble_eq_true rfl) ?_
  intro p e s m args below meth c A H0 QQ X ret ls hl hG
  have X : Cx p m c cX5_get 4 s args RX5 dC dI cI cJ meth (some .int) := X
  have hx := X.1.1
  have hb := X.1.2.1
  have hl : lv_has ls 4 [(0, .ref a0), (1, .int x1), (2, .int x2)] := hl
  have J29 : ∀ (y0 : Int32), DX5_get_J29 pw pn x1 x2 c_cells y0 = some res → ∀ (ls : Array Slot) (H : Heap) (locs : List Loc), lv_has ls 4 [(0, .ref a0), (1, .int x1), (2, .int x2)] → G dC dI A H0 (W_X5 a0 a1 cI cJ pm pw pn c_cells c_filled) H locs → W p l e (RM 0 0) s m args below meth c H locs 0 0 QQ (F0 m 29 ls [.int y0]) := by
    intro y0 h  ls H locs hl hG
    unfold DX5_get_J29 at h
    refine lv_istore_n (lv' := [(3, .int y0), (0, .ref a0), (1, .int x1), (2, .int x2)]) hx hb dX5_get_29 rfl hl (by decide) rfl (fun ls hl => ?_)
    refine lv_iload_n hx hb dX5_get_30 rfl (lv_at hl 0 rfl) ?_
    refine lv_if_eq (tgt := 50) hx hb dX5_get_31 (by decide) (fun c_2 => ?_) (fun c_2 => ?_)
    · have h := ite_t h c_2
      refine lv_iconst (v := (0 : Int32)) hx hb dX5_get_50 (by decide) ?_
      cases h
      exact ret _ _ _ _ dX5_get_51 hG
    · have h := ite_f h c_2
      refine lv_aload_n hx hb dX5_get_34 rfl (lv_at hl 1 rfl) ?_
      refine r_get X hG in_X5 rfl 0 (by decide) w_106 0 rfl rfl dX5_get_35 ?_
      refine lv_iload_n hx hb dX5_get_38 rfl (lv_at hl 2 rfl) ?_
      refine lv_aload_n hx hb dX5_get_39 rfl (lv_at hl 1 rfl) ?_
      refine r_get X hG in_X5 rfl 2 (by decide) w_108 0 rfl rfl dX5_get_40 ?_
      refine lv_imul hx hb dX5_get_43 ?_
      refine lv_iload_n hx hb dX5_get_44 rfl (lv_at hl 3 rfl) ?_
      refine lv_iadd hx hb dX5_get_45 ?_
      obtain ⟨g_3, h⟩ := gd h
      refine r_iald X hG 1 rfl g_3 dX5_get_46 ?_
      refine lv_goto (tgt := 51) hx hb dX5_get_47 (by decide) ?_
      cases h
      exact ret _ _ _ _ dX5_get_51 hG
  have h := hD
  unfold DX5_get at h
  clear hD
  refine lv_iload_n hx hb dX5_get_0 rfl (lv_at hl 1 rfl) ?_
  refine lv_if_lt (tgt := 28) hx hb dX5_get_1 (by decide) (fun c_1 => ?_) (fun c_1 => ?_)
  · have h := ite_t h c_1
    refine lv_iconst (v := (0 : Int32)) hx hb dX5_get_28 (by decide) ?_
    exact J29 (0 : Int32)  h  _ _ _ (lv_sub hl [0, 1, 2] rfl) hG
  · have h := ite_f h c_1
    refine lv_iload_n hx hb dX5_get_4 rfl (lv_at hl 1 rfl) ?_
    refine lv_aload_n hx hb dX5_get_5 rfl (lv_at hl 0 rfl) ?_
    refine r_get X hG in_X5 rfl 1 (by decide) w_107 0 rfl rfl dX5_get_6 ?_
    refine lv_icmp_ge (tgt := 28) hx hb dX5_get_9 (by decide) (fun c_4 => ?_) (fun c_4 => ?_)
    · have h := ite_t h c_4
      refine lv_iconst (v := (0 : Int32)) hx hb dX5_get_28 (by decide) ?_
      exact J29 (0 : Int32)  h  _ _ _ (lv_sub hl [0, 1, 2] rfl) hG
    · have h := ite_f h c_4
      refine lv_iload_n hx hb dX5_get_12 rfl (lv_at hl 2 rfl) ?_
      refine lv_if_lt (tgt := 28) hx hb dX5_get_13 (by decide) (fun c_5 => ?_) (fun c_5 => ?_)
      · have h := ite_t h c_5
        refine lv_iconst (v := (0 : Int32)) hx hb dX5_get_28 (by decide) ?_
        exact J29 (0 : Int32)  h  _ _ _ (lv_sub hl [0, 1, 2] rfl) hG
      · have h := ite_f h c_5
        refine lv_iload_n hx hb dX5_get_16 rfl (lv_at hl 2 rfl) ?_
        refine lv_aload_n hx hb dX5_get_17 rfl (lv_at hl 0 rfl) ?_
        refine r_get X hG in_X5 rfl 2 (by decide) w_108 0 rfl rfl dX5_get_18 ?_
        refine lv_icmp_ge (tgt := 28) hx hb dX5_get_21 (by decide) (fun c_6 => ?_) (fun c_6 => ?_)
        · have h := ite_t h c_6
          refine lv_iconst (v := (0 : Int32)) hx hb dX5_get_28 (by decide) ?_
          exact J29 (0 : Int32)  h  _ _ _ (lv_sub hl [0, 1, 2] rfl) hG
        · have h := ite_f h c_6
          refine lv_iconst (v := (1 : Int32)) hx hb dX5_get_24 (by decide) ?_
          refine lv_goto (tgt := 29) hx hb dX5_get_25 (by decide) ?_
          exact J29 (1 : Int32)  h  _ _ _ (lv_sub hl [0, 1, 2] rfl) hG
set_option maxRecDepth 100000 in
set_option maxHeartbeats 4000000 in
theorem mX1_turnBy (l : Launch) (dC : Nat → ClassId) (dI : Nat → Nat → Nat) (cI cJ : ClassId) (a0 a1 a2 a3 : Nat) (c_loads_cells : Nat → Int32) (c_loads_filled : Int32) (c_order : Nat → Int32) (c_done : Int32) (c_start : Int32) (c_end : Int32) (x1 : Int32) {res : Int32} (hD : DX1_turnBy x1 c_loads_cells = some res) : Met l yX1_turnBy (WZ yX1_turnBy cX1_turnBy 2 (some .int)) (RM 1 23) (PC dC dI cI cJ [.ref a0, .int x1] (W_X1 a0 a1 a2 a3 cI cJ c_loads_cells c_loads_filled c_order c_done c_start c_end)) (QI dC dI (W_X1 a0 a1 a2 a3 cI cJ c_loads_cells c_loads_filled c_order c_done c_start c_end) (W_X1 a0 a1 a2 a3 cI cJ c_loads_cells c_loads_filled c_order c_done c_start c_end) res) 0 0 (FA (W_X1 a0 a1 a2 a3 cI cJ c_loads_cells c_loads_filled c_order c_done c_start c_end)) := by
  refine r_metI (by decide +kernel) (Nat.le_of_ble_eq_true rfl) ?_
  intro p e s m args below meth c A H0 QQ X ret ls hl hG
  have X : Cx p m c cX1_turnBy 2 s args RX1 dC dI cI cJ meth (some .int) := X
  have hx := X.1.1
  have hb := X.1.2.1
  have hl : lv_has ls 2 [(0, .ref a0), (1, .int x1)] := hl
  have h := hD
  unfold DX1_turnBy at h
  clear hD
  refine lv_aload_n hx hb dX1_turnBy_0 rfl (lv_at hl 0 rfl) ?_
  refine r_get X hG in_X1 rfl 0 (by decide) w_161 0 rfl rfl dX1_turnBy_1 ?_
  refine lv_iload_n hx hb dX1_turnBy_4 rfl (lv_at hl 1 rfl) ?_
  refine lv_iconst (v := (3 : Int32)) hx hb dX1_turnBy_5 (by decide) ?_
  obtain ⟨r_1, hz_2, h⟩ := bd1_some h
  refine aft_i (ws' := (W_X1 a0 a1 a2 a3 cI cJ c_loads_cells c_loads_filled c_order c_done c_start c_end)) (run_V (rest := []) X hG hl.1 (mX5_get l dC dI cI cJ a1 a2 (7 : Int32) (10 : Int32) 70 c_loads_cells c_loads_filled x1 (3 : Int32) hz_2) gi_V_X1_43 hd_V_yX5_get ⟨rfl, rfl⟩ rfl ⟨Nat.le_of_ble_eq_true rfl, Nat.le_of_ble_eq_true rfl⟩ [1, 2] (by decide) rfl 1 rfl rfl rfl rfl (Nat.le_of_ble_eq_true rfl) ⟨Nat.le_of_ble_eq_true rfl, Nat.le_of_ble_eq_true rfl⟩ dX1_turnBy_6) hG [1, 2] rfl rfl rfl (fun H locs hG => ?_)
  clear hz_2
  rcases Decidable.em (r_1 = (1 : Int32)) with c_3 | c_3
  · have h := ite_t h c_3
    refine lv_lookup (off := 27) (tgt := 36) hx hb dX1_turnBy_9 (by decide) (by rw [c_3] <;> decide) (by decide) ?_
    refine lv_iconst (v := (2 : Int32)) hx hb dX1_turnBy_36 (by decide) ?_
    refine lv_aload_n hx hb dX1_turnBy_37 rfl (lv_at hl 0 rfl) ?_
    refine r_get X hG in_X1 rfl 0 (by decide) w_161 0 rfl rfl dX1_turnBy_38 ?_
    refine lv_iload_n hx hb dX1_turnBy_41 rfl (lv_at hl 1 rfl) ?_
    refine lv_iconst (v := (2 : Int32)) hx hb dX1_turnBy_42 (by decide) ?_
    obtain ⟨r_4, hz_5, h⟩ := bd1_some h
    refine aft_i (ws' := (W_X1 a0 a1 a2 a3 cI cJ c_loads_cells c_loads_filled c_order c_done c_start c_end)) (run_V (rest := [.int (2 : Int32)]) X hG hl.1 (mX5_get l dC dI cI cJ a1 a2 (7 : Int32) (10 : Int32) 70 c_loads_cells c_loads_filled x1 (2 : Int32) hz_5) gi_V_X1_43 hd_V_yX5_get ⟨rfl, rfl⟩ rfl ⟨Nat.le_of_ble_eq_true rfl, Nat.le_of_ble_eq_true rfl⟩ [1, 2] (by decide) rfl 1 rfl rfl rfl rfl (Nat.le_of_ble_eq_true rfl) ⟨Nat.le_of_ble_eq_true rfl, Nat.le_of_ble_eq_true rfl⟩ dX1_turnBy_43) hG [1, 2] rfl rfl rfl (fun H locs hG => ?_)
    clear hz_5
    refine lv_imul hx hb dX1_turnBy_46 ?_
    cases h
    exact ret _ _ _ _ dX1_turnBy_47 hG
  · have h := ite_f h c_3
    rcases Decidable.em (r_1 = (2 : Int32)) with c_6 | c_6
    · have h := ite_t h c_6
      refine lv_lookup (off := 39) (tgt := 48) hx hb dX1_turnBy_9 (by decide) (by rw [c_6] <;> decide) (by decide) ?_
      refine lv_iconst (v := (0 : Int32)) hx hb dX1_turnBy_48 (by decide) ?_
      cases h
      exact ret _ _ _ _ dX1_turnBy_49 hG
    · have h := ite_f h c_6
      refine lv_lookup (off := 41) (tgt := 50) hx hb dX1_turnBy_9 (by decide) (by rw [lv_osw c_3 (a := 1) rfl, lv_osw c_6 (a := 2) rfl] <;> rfl) (by decide) ?_
      refine lv_aload_n hx hb dX1_turnBy_50 rfl (lv_at hl 0 rfl) ?_
      refine r_get X hG in_X1 rfl 0 (by decide) w_161 0 rfl rfl dX1_turnBy_51 ?_
      refine lv_iload_n hx hb dX1_turnBy_54 rfl (lv_at hl 1 rfl) ?_
      refine lv_iconst (v := (2 : Int32)) hx hb dX1_turnBy_55 (by decide) ?_
      obtain ⟨r_7, hz_8, h⟩ := bd1_some h
      refine aft_i (ws' := (W_X1 a0 a1 a2 a3 cI cJ c_loads_cells c_loads_filled c_order c_done c_start c_end)) (run_V (rest := []) X hG hl.1 (mX5_get l dC dI cI cJ a1 a2 (7 : Int32) (10 : Int32) 70 c_loads_cells c_loads_filled x1 (2 : Int32) hz_8) gi_V_X1_43 hd_V_yX5_get ⟨rfl, rfl⟩ rfl ⟨Nat.le_of_ble_eq_true rfl, Nat.le_of_ble_eq_true rfl⟩ [1, 2] (by decide) rfl 1 rfl rfl rfl rfl (Nat.le_of_ble_eq_true rfl) ⟨Nat.le_of_ble_eq_true rfl, Nat.le_of_ble_eq_true rfl⟩ dX1_turnBy_56) hG [1, 2] rfl rfl rfl (fun H locs hG => ?_)
      clear hz_8
      cases h
      exact ret _ _ _ _ dX1_turnBy_59 hG
set_option maxRecDepth 100000 in
set_option maxHeartbeats 4000000 in
theorem mJ9_floorMod_7cf53 (l : Launch) (dC : Nat → ClassId) (dI : Nat → Nat → Nat) (cI cJ : ClassId) (x0 : Int32) (x1 : Int32) {res : Int32} (hD : DJ9_floorMod_7cf53 x0 x1 = some res) : Met l yJ9_floorMod_7cf53 (WZ yJ9_floorMod_7cf53 cJ9_floorMod_7cf53 3 (some .int)) (RM 0 0) (PC dC dI cI cJ [.int x0, .int x1] []) (QI dC dI [] [] res) 0 0 (FA []) := by
  refine r_metI (by decide +kernel) (Nat.le_of_ble_eq_true rfl) ?_
  intro p e s m args below meth c A H0 QQ X ret ls hl hG
  have X : Cx p m c cJ9_floorMod_7cf53 3 s args RJ9 dC dI cI cJ meth (some .int) := X
  have hx := X.1.1
  have hb := X.1.2.1
  have hl : lv_has ls 3 [(0, .int x0), (1, .int x1)] := hl
  have h := hD
  unfold DJ9_floorMod_7cf53 at h
  clear hD
  refine lv_iload_n hx hb dJ9_floorMod_7cf53_0 rfl (lv_at hl 0 rfl) ?_
  refine lv_iload_n hx hb dJ9_floorMod_7cf53_1 rfl (lv_at hl 1 rfl) ?_
  obtain ⟨g_1, h⟩ := gd h
  refine lv_irem hx hb dJ9_floorMod_7cf53_2 g_1 ?_
  refine lv_istore_n (lv' := [(2, .int (x0 - x0 / x1 * x1)), (0, .int x0), (1, .int x1)]) hx hb dJ9_floorMod_7cf53_3 rfl hl (by decide) rfl (fun ls hl => ?_)
  refine lv_iload_n hx hb dJ9_floorMod_7cf53_4 rfl (lv_at hl 1 rfl) ?_
  refine lv_iload_n hx hb dJ9_floorMod_7cf53_5 rfl (lv_at hl 2 rfl) ?_
  refine lv_ixor hx hb dJ9_floorMod_7cf53_6 ?_
  refine lv_if_ge (tgt := 18) hx hb dJ9_floorMod_7cf53_7 (by decide) (fun c_2 => ?_) (fun c_2 => ?_)
  · have h := ite_t h c_2
    refine lv_iload_n hx hb dJ9_floorMod_7cf53_18 rfl (lv_at hl 0 rfl) ?_
    cases h
    exact ret _ _ _ _ dJ9_floorMod_7cf53_19 hG
  · have h := ite_f h c_2
    refine lv_iload_n hx hb dJ9_floorMod_7cf53_10 rfl (lv_at hl 0 rfl) ?_
    refine lv_if_eq (tgt := 18) hx hb dJ9_floorMod_7cf53_11 (by decide) (fun c_3 => ?_) (fun c_3 => ?_)
    · have h := ite_t h c_3
      refine lv_iload_n hx hb dJ9_floorMod_7cf53_18 rfl (lv_at hl 0 rfl) ?_
      cases h
      exact ret _ _ _ _ dJ9_floorMod_7cf53_19 hG
    · have h := ite_f h c_3
      refine lv_iload_n hx hb dJ9_floorMod_7cf53_14 rfl (lv_at hl 0 rfl) ?_
      refine lv_iload_n hx hb dJ9_floorMod_7cf53_15 rfl (lv_at hl 2 rfl) ?_
      refine lv_iadd hx hb dJ9_floorMod_7cf53_16 ?_
      cases h
      exact ret _ _ _ _ dJ9_floorMod_7cf53_17 hG
set_option maxRecDepth 100000 in
set_option maxHeartbeats 4000000 in
theorem mX1_throwAll (l : Launch) (dC : Nat → ClassId) (dI : Nat → Nat → Nat) (cI cJ : ClassId) (a0 a1 a2 a3 : Nat) (c_loads_cells : Nat → Int32) (c_loads_filled : Int32) (c_order : Nat → Int32) (c_done : Int32) (c_start : Int32) (c_end : Int32) (x1 : Int32) {n_loads_cells : Nat → Int32} {n_start : Int32} {n_end : Int32} (hD : DX1_throwAll x1 c_loads_cells c_order c_done = some (n_loads_cells, n_start, n_end)) : Met l yX1_throwAll (WZ yX1_throwAll cX1_throwAll 4 none) (RM 2 44) (PC dC dI cI cJ [.ref a0, .int x1] (W_X1 a0 a1 a2 a3 cI cJ c_loads_cells c_loads_filled c_order c_done c_start c_end)) (QV dC dI (W_X1 a0 a1 a2 a3 cI cJ c_loads_cells c_loads_filled c_order c_done c_start c_end) (W_X1 a0 a1 a2 a3 cI cJ n_loads_cells c_loads_filled c_order c_done n_start n_end)) 0 0 (FA (W_X1 a0 a1 a2 a3 cI cJ c_loads_cells c_loads_filled c_order c_done c_start c_end)) := by
  refine r_metV (by decide +kernel) (Nat.le_of_ble_eq_true rfl) ?_
  intro p e s m args below meth c A H0 QQ X ret ls hl hG
  have X : Cx p m c cX1_throwAll 4 s args RX1 dC dI cI cJ meth none := X
  have hx := X.1.1
  have hb := X.1.2.1
  have hl : lv_has ls 4 [(0, .ref a0), (1, .int x1)] := hl
  have L12 : ∀ (c_start : Int32), ∀ (n : Nat) (x2 : Int32) (c_loads_cells : Nat → Int32) (c_end : Int32) (ec_loads_cells : Nat → Int32) (ec_end : Int32), DX1_throwAll_L12 c_order c_done n x2 c_loads_cells c_end = some (ec_loads_cells, ec_end) → (∀ (ls : Array Slot) (H : Heap) (locs : List Loc), lv_has ls 4 [] → G dC dI A H0 (W_X1 a0 a1 a2 a3 cI cJ ec_loads_cells c_loads_filled c_order c_done c_start ec_end) H locs → W p l e (RM 2 44) s m args below meth c H locs 0 0 QQ (F0 m 106 ls [])) → ∀ (ls : Array Slot) (H : Heap) (locs : List Loc), lv_has ls 4 [(0, .ref a0), (2, .int x2)] → G dC dI A H0 (W_X1 a0 a1 a2 a3 cI cJ c_loads_cells c_loads_filled c_order c_done c_start c_end) H locs → W p l e (RM 2 44) s m args below meth c H locs 0 0 QQ (F0 m 12 ls []) := by
    intro c_start n
    induction n with
    | zero => intro x2 c_loads_cells c_end ec_loads_cells ec_end h; exact it_zero h
    | succ n ih =>
      intro x2 c_loads_cells c_end ec_loads_cells ec_end h0 K0 ls H locs hl hG
      obtain ⟨w, h, hi, hr⟩ := it_succ h0
      have h : DX1_throwAll_L12s c_order c_done x2 c_loads_cells c_end = some w := h
      have KC : ∀ (x2 : Int32) (c_loads_cells : Nat → Int32) (c_end : Int32), w = .inl (x2, c_loads_cells, c_end) → ∀ (ls : Array Slot) (H : Heap) (locs : List Loc), lv_has ls 4 [(0, .ref a0), (2, .int x2)] → G dC dI A H0 (W_X1 a0 a1 a2 a3 cI cJ c_loads_cells c_loads_filled c_order c_done c_start c_end) H locs → W p l e (RM 2 44) s m args below meth c H locs 0 0 QQ (F0 m 12 ls []) := fun b0 b1 b2 e ls H locs hl hG => ih b0 b1 b2 ec_loads_cells ec_end (hi _ e) K0 ls H locs hl hG
      have KX : ∀ (c_loads_cells : Nat → Int32) (c_end : Int32), w = .inr (c_loads_cells, c_end) → ∀ (ls : Array Slot) (H : Heap) (locs : List Loc), lv_has ls 4 [] → G dC dI A H0 (W_X1 a0 a1 a2 a3 cI cJ c_loads_cells c_loads_filled c_order c_done c_start c_end) H locs → W p l e (RM 2 44) s m args below meth c H locs 0 0 QQ (F0 m 106 ls []) := fun b0 b1 e ls H locs hl hG => by cases hr _ e; exact K0 ls H locs hl hG
      clear h0 hi hr K0 ih
      unfold DX1_throwAll_L12s at h
      refine lv_iload_n hx hb dX1_throwAll_12 rfl (lv_at hl 1 rfl) ?_
      refine lv_aload_n hx hb dX1_throwAll_13 rfl (lv_at hl 0 rfl) ?_
      refine r_get X hG in_X1 rfl 2 (by decide) w_163 0 rfl rfl dX1_throwAll_14 ?_
      refine lv_icmp_ge (tgt := 106) hx hb dX1_throwAll_17 (by decide) (fun c_1 => ?_) (fun c_1 => ?_)
      · have h := ite_t h c_1
        exact KX _ _ (Option.some.inj h).symm _ _ _ (lv_sub hl [] rfl) hG
      · have h := ite_f h c_1
        refine lv_aload_n hx hb dX1_throwAll_20 rfl (lv_at hl 0 rfl) ?_
        refine r_get X hG in_X1 rfl 1 (by decide) w_162 0 rfl rfl dX1_throwAll_21 ?_
        refine lv_iload_n hx hb dX1_throwAll_24 rfl (lv_at hl 1 rfl) ?_
        obtain ⟨r_2, hz_3, h⟩ := bd1_some h
        refine aft_i (ws' := (W_X1 a0 a1 a2 a3 cI cJ c_loads_cells c_loads_filled c_order c_done c_start c_end)) (run_SN (rest := []) X hG hl.1 (mX8_at l dC dI cI cJ a3 7 c_order x2 hz_3) gi_N_yX8_at w_384 w_296 w_41 hd_S_yX8_at ⟨rfl, rfl⟩ rfl ⟨Nat.le_of_ble_eq_true rfl, Nat.le_of_ble_eq_true rfl⟩ [3] (by decide) rfl rfl (Nat.le_of_ble_eq_true rfl) ⟨Nat.le_of_ble_eq_true rfl, Nat.le_of_ble_eq_true rfl⟩ dX1_throwAll_25) hG [3] rfl rfl rfl (fun H locs hG => ?_)
        clear hz_3
        refine lv_istore_n (lv' := [(3, .int r_2), (0, .ref a0), (2, .int x2)]) hx hb dX1_throwAll_28 rfl hl (by decide) rfl (fun ls hl => ?_)
        refine lv_aload_n hx hb dX1_throwAll_29 rfl (lv_at hl 1 rfl) ?_
        refine r_get X hG in_X1 rfl 0 (by decide) w_161 0 rfl rfl dX1_throwAll_30 ?_
        refine lv_iload_n hx hb dX1_throwAll_33 rfl (lv_at hl 0 rfl) ?_
        refine lv_iconst (v := (4 : Int32)) hx hb dX1_throwAll_34 (by decide) ?_
        refine lv_aload_n hx hb dX1_throwAll_35 rfl (lv_at hl 1 rfl) ?_
        refine r_get X hG in_X1 rfl 4 (by decide) w_165 0 rfl rfl dX1_throwAll_36 ?_
        refine lv_aload_n hx hb dX1_throwAll_39 rfl (lv_at hl 1 rfl) ?_
        refine r_get X hG in_X1 rfl 0 (by decide) w_161 0 rfl rfl dX1_throwAll_40 ?_
        refine lv_iload_n hx hb dX1_throwAll_43 rfl (lv_at hl 0 rfl) ?_
        refine lv_iconst (v := (1 : Int32)) hx hb dX1_throwAll_44 (by decide) ?_
        obtain ⟨r_4, hz_5, h⟩ := bd1_some h
        refine aft_i (ws' := (W_X1 a0 a1 a2 a3 cI cJ c_loads_cells c_loads_filled c_order c_done c_start c_end)) (run_V (rest := [.int c_end, .int (4 : Int32), .int r_2, .ref a1]) X hG hl.1 (mX5_get l dC dI cI cJ a1 a2 (7 : Int32) (10 : Int32) 70 c_loads_cells c_loads_filled r_2 (1 : Int32) hz_5) gi_V_X1_43 hd_V_yX5_get ⟨rfl, rfl⟩ rfl ⟨Nat.le_of_ble_eq_true rfl, Nat.le_of_ble_eq_true rfl⟩ [1, 2] (by decide) rfl 1 rfl rfl rfl rfl (Nat.le_of_ble_eq_true rfl) ⟨Nat.le_of_ble_eq_true rfl, Nat.le_of_ble_eq_true rfl⟩ dX1_throwAll_45) hG [1, 2] rfl rfl rfl (fun H locs hG => ?_)
        clear hz_5
        refine lv_iadd hx hb dX1_throwAll_48 ?_
        refine lv_bipush (v := (24 : Int32)) hx hb dX1_throwAll_49 (by decide) ?_
        refine lv_irem hx hb dX1_throwAll_51 (by decide) ?_
        obtain ⟨k_loads_cells_6, hz_7, h⟩ := bd1_some h
        refine aft_v (ws' := (W_X1 a0 a1 a2 a3 cI cJ k_loads_cells_6 c_loads_filled c_order c_done c_start c_end)) (run_V (rest := []) X hG hl.1 (mX5_set l dC dI cI cJ a1 a2 (7 : Int32) (10 : Int32) 70 c_loads_cells c_loads_filled r_2 (4 : Int32) ((c_end + r_4) - (c_end + r_4) / (24 : Int32) * (24 : Int32)) hz_7) gi_V_X1_47 hd_V_yX5_set ⟨rfl, rfl⟩ rfl ⟨Nat.le_of_ble_eq_true rfl, Nat.le_of_ble_eq_true rfl⟩ [1, 2] (by decide) rfl 1 rfl rfl rfl rfl (Nat.le_of_ble_eq_true rfl) ⟨Nat.le_of_ble_eq_true rfl, Nat.le_of_ble_eq_true rfl⟩ dX1_throwAll_52) hG [1, 2] rfl rfl rfl (fun H locs hG => ?_)
        clear hz_7
        refine lv_aload_n hx hb dX1_throwAll_55 rfl (lv_at hl 1 rfl) ?_
        refine lv_aload_n hx hb dX1_throwAll_56 rfl (lv_at hl 1 rfl) ?_
        refine r_get X hG in_X1 rfl 4 (by decide) w_165 0 rfl rfl dX1_throwAll_57 ?_
        refine lv_aload_n hx hb dX1_throwAll_60 rfl (lv_at hl 1 rfl) ?_
        refine lv_iload_n hx hb dX1_throwAll_61 rfl (lv_at hl 0 rfl) ?_
        obtain ⟨r_8, hz_9, h⟩ := bd1_some h
        refine aft_i (ws' := (W_X1 a0 a1 a2 a3 cI cJ k_loads_cells_6 c_loads_filled c_order c_done c_start c_end)) (run_V (rest := [.int c_end, .ref a0]) X hG hl.1 (mX1_turnBy l dC dI cI cJ a0 a1 a2 a3 k_loads_cells_6 c_loads_filled c_order c_done c_start c_end r_2 hz_9) gi_V_X1_79 hd_V_yX1_turnBy ⟨rfl, rfl⟩ rfl ⟨Nat.le_of_ble_eq_true rfl, Nat.le_of_ble_eq_true rfl⟩ [0, 1, 2, 3] (by decide) rfl 0 rfl rfl rfl rfl (Nat.le_of_ble_eq_true rfl) ⟨Nat.le_of_ble_eq_true rfl, Nat.le_of_ble_eq_true rfl⟩ dX1_throwAll_62) hG [0, 1, 2, 3] rfl rfl rfl (fun H locs hG => ?_)
        clear hz_9
        refine lv_isub hx hb dX1_throwAll_65 ?_
        refine lv_bipush (v := (24 : Int32)) hx hb dX1_throwAll_66 (by decide) ?_
        obtain ⟨r_10, hz_11, h⟩ := bd1_some h
        refine aft_i (ws' := (W_X1 a0 a1 a2 a3 cI cJ k_loads_cells_6 c_loads_filled c_order c_done c_start c_end)) (run_S (rest := [.ref a0]) X hG hl.1 (mJ9_floorMod_7cf53 l dC dI cI cJ (c_end - r_8) (24 : Int32) hz_11) gi_S_X1_83 hd_S_yJ9_floorMod_7cf53 ⟨rfl, rfl⟩ rfl ⟨Nat.le_of_ble_eq_true rfl, Nat.le_of_ble_eq_true rfl⟩ [] (by decide) rfl rfl (Nat.le_of_ble_eq_true rfl) ⟨Nat.le_of_ble_eq_true rfl, Nat.le_of_ble_eq_true rfl⟩ dX1_throwAll_68) hG [] rfl rfl rfl (fun H locs hG => ?_)
        clear hz_11
        refine r_put X hG in_X1 rfl tyX1 tyX1_ok nmX1 4 (by decide) rfl (by decide +kernel) w_165 0 (ws' := (W_X1 a0 a1 a2 a3 cI cJ k_loads_cells_6 c_loads_filled c_order c_done c_start r_10)) rfl (Nat.le_of_ble_eq_true rfl) rfl dX1_throwAll_71 (fun H locs hG => ?_)
        refine lv_aload_n hx hb dX1_throwAll_74 rfl (lv_at hl 1 rfl) ?_
        refine r_get X hG in_X1 rfl 0 (by decide) w_161 0 rfl rfl dX1_throwAll_75 ?_
        refine lv_iload_n hx hb dX1_throwAll_78 rfl (lv_at hl 0 rfl) ?_
        refine lv_iconst (v := (5 : Int32)) hx hb dX1_throwAll_79 (by decide) ?_
        refine lv_aload_n hx hb dX1_throwAll_80 rfl (lv_at hl 1 rfl) ?_
        refine r_get X hG in_X1 rfl 4 (by decide) w_165 0 rfl rfl dX1_throwAll_81 ?_
        obtain ⟨k_loads_cells_12, hz_13, h⟩ := bd1_some h
        refine aft_v (ws' := (W_X1 a0 a1 a2 a3 cI cJ k_loads_cells_12 c_loads_filled c_order c_done c_start r_10)) (run_V (rest := []) X hG hl.1 (mX5_set l dC dI cI cJ a1 a2 (7 : Int32) (10 : Int32) 70 k_loads_cells_6 c_loads_filled r_2 (5 : Int32) r_10 hz_13) gi_V_X1_47 hd_V_yX5_set ⟨rfl, rfl⟩ rfl ⟨Nat.le_of_ble_eq_true rfl, Nat.le_of_ble_eq_true rfl⟩ [1, 2] (by decide) rfl 1 rfl rfl rfl rfl (Nat.le_of_ble_eq_true rfl) ⟨Nat.le_of_ble_eq_true rfl, Nat.le_of_ble_eq_true rfl⟩ dX1_throwAll_84) hG [1, 2] rfl rfl rfl (fun H locs hG => ?_)
        clear hz_13
        refine lv_aload_n hx hb dX1_throwAll_87 rfl (lv_at hl 1 rfl) ?_
        refine r_get X hG in_X1 rfl 0 (by decide) w_161 0 rfl rfl dX1_throwAll_88 ?_
        refine lv_iload_n hx hb dX1_throwAll_91 rfl (lv_at hl 0 rfl) ?_
        refine lv_bipush (v := (7 : Int32)) hx hb dX1_throwAll_92 (by decide) ?_
        refine lv_sipush (v := (1000 : Int32)) hx hb dX1_throwAll_94 (by decide) ?_
        obtain ⟨k_loads_cells_14, hz_15, h⟩ := bd1_some h
        refine aft_v (ws' := (W_X1 a0 a1 a2 a3 cI cJ k_loads_cells_14 c_loads_filled c_order c_done c_start r_10)) (run_V (rest := []) X hG hl.1 (mX5_set l dC dI cI cJ a1 a2 (7 : Int32) (10 : Int32) 70 k_loads_cells_12 c_loads_filled r_2 (7 : Int32) (1000 : Int32) hz_15) gi_V_X1_47 hd_V_yX5_set ⟨rfl, rfl⟩ rfl ⟨Nat.le_of_ble_eq_true rfl, Nat.le_of_ble_eq_true rfl⟩ [1, 2] (by decide) rfl 1 rfl rfl rfl rfl (Nat.le_of_ble_eq_true rfl) ⟨Nat.le_of_ble_eq_true rfl, Nat.le_of_ble_eq_true rfl⟩ dX1_throwAll_97) hG [1, 2] rfl rfl rfl (fun H locs hG => ?_)
        clear hz_15
        refine lv_iinc (v := (x2 + (1 : Int32))) (lv' := [(2, .int (x2 + (1 : Int32))), (3, .int r_2), (0, .ref a0)]) hx hb dX1_throwAll_100 hl (k := 2) rfl rfl (by decide) rfl (fun ls hl => ?_)
        refine lv_goto (tgt := 12) hx hb dX1_throwAll_103 (by decide) ?_
        exact KC _ _ _ (Option.some.inj h).symm _ _ _ (lv_sub hl [2, 0] rfl) hG
  have h := hD
  unfold DX1_throwAll at h
  clear hD
  refine lv_aload_n hx hb dX1_throwAll_0 rfl (lv_at hl 0 rfl) ?_
  refine lv_iload_n hx hb dX1_throwAll_1 rfl (lv_at hl 1 rfl) ?_
  refine r_put X hG in_X1 rfl tyX1 tyX1_ok nmX1 3 (by decide) rfl (by decide +kernel) w_164 0 (ws' := (W_X1 a0 a1 a2 a3 cI cJ c_loads_cells c_loads_filled c_order c_done x1 c_end)) rfl (Nat.le_of_ble_eq_true rfl) rfl dX1_throwAll_2 (fun H locs hG => ?_)
  refine lv_aload_n hx hb dX1_throwAll_5 rfl (lv_at hl 0 rfl) ?_
  refine lv_iload_n hx hb dX1_throwAll_6 rfl (lv_at hl 1 rfl) ?_
  refine r_put X hG in_X1 rfl tyX1 tyX1_ok nmX1 4 (by decide) rfl (by decide +kernel) w_165 0 (ws' := (W_X1 a0 a1 a2 a3 cI cJ c_loads_cells c_loads_filled c_order c_done x1 x1)) rfl (Nat.le_of_ble_eq_true rfl) rfl dX1_throwAll_7 (fun H locs hG => ?_)
  refine lv_iconst (v := (0 : Int32)) hx hb dX1_throwAll_10 (by decide) ?_
  refine lv_istore_n (lv' := [(2, .int (0 : Int32)), (0, .ref a0), (1, .int x1)]) hx hb dX1_throwAll_11 rfl hl (by decide) rfl (fun ls hl => ?_)
  obtain ⟨k_loads_cells_16, k_end_17, hz, h⟩ := bd2_some h
  refine L12 x1 FU (0 : Int32) c_loads_cells x1 _ _ hz (fun ls H locs hl hG => ?_) _ _ _ (lv_sub hl [1, 0] rfl) hG
  clear hz
  cases h
  exact ret _ _ _ _ dX1_throwAll_106 hG
set_option maxRecDepth 100000 in
set_option maxHeartbeats 4000000 in
theorem mX8_meetingDay (l : Launch) (dC : Nat → ClassId) (dI : Nat → Nat → Nat) (cI cJ : ClassId) (x0 : Int32) (x1 : Int32) (x2 : Int32) (x3 : Int32) (x4 : Int32) {res : Int32} (hD : DX8_meetingDay x0 x1 x2 x3 x4 = some res) : Met l yX8_meetingDay (WZ yX8_meetingDay cX8_meetingDay 9 (some .int)) (RM 0 0) (PC dC dI cI cJ [.int x0, .int x1, .int x2, .int x3, .int x4] []) (QI dC dI [] [] res) 0 0 (FA []) := by
  refine r_metI (by decide +kernel) (Nat.le_of_ble_eq_true rfl) ?_
  intro p e s m args below meth c A H0 QQ X ret ls hl hG
  have X : Cx p m c cX8_meetingDay 9 s args RX8 dC dI cI cJ meth (some .int) := X
  have hx := X.1.1
  have hb := X.1.2.1
  have hl : lv_has ls 9 [(0, .int x0), (1, .int x1), (2, .int x2), (3, .int x3), (4, .int x4)] := hl
  have J68 : ∀ (y0 : Int32) (x7 : Int32), DX8_meetingDay_J68 x0 x1 x4 y0 x7 = some res → ∀ (ls : Array Slot) (H : Heap) (locs : List Loc), lv_has ls 9 [(0, .int x0), (1, .int x1), (4, .int x4), (7, .int x7)] → G dC dI A H0 [] H locs → W p l e (RM 0 0) s m args below meth c H locs 0 0 QQ (F0 m 68 ls [.int y0]) := by
    intro y0 x7 h  ls H locs hl hG
    unfold DX8_meetingDay_J68 at h
    refine lv_istore (lv' := [(8, .int y0), (0, .int x0), (1, .int x1), (4, .int x4), (7, .int x7)]) hx hb dX8_meetingDay_68 hl (by decide) rfl (fun ls hl => ?_)
    refine lv_iload hx hb dX8_meetingDay_70 (lv_at hl 0 rfl) ?_
    refine lv_if_eq (tgt := 91) hx hb dX8_meetingDay_72 (by decide) (fun c_6 => ?_) (fun c_6 => ?_)
    · have h := ite_t h c_6
      refine lv_sipush (v := (1000 : Int32)) hx hb dX8_meetingDay_91 (by decide) ?_
      cases h
      exact ret _ _ _ _ dX8_meetingDay_94 hG
    · have h := ite_f h c_6
      refine lv_iload_n hx hb dX8_meetingDay_75 rfl (lv_at hl 2 rfl) ?_
      refine lv_iload hx hb dX8_meetingDay_76 (lv_at hl 4 rfl) ?_
      refine lv_iload_n hx hb dX8_meetingDay_78 rfl (lv_at hl 1 rfl) ?_
      refine lv_isub hx hb dX8_meetingDay_79 ?_
      refine lv_imul hx hb dX8_meetingDay_80 ?_
      refine lv_iload hx hb dX8_meetingDay_81 (lv_at hl 3 rfl) ?_
      refine lv_icmp_ge (tgt := 91) hx hb dX8_meetingDay_83 (by decide) (fun c_7 => ?_) (fun c_7 => ?_)
      · have h := ite_t h c_7
        refine lv_sipush (v := (1000 : Int32)) hx hb dX8_meetingDay_91 (by decide) ?_
        cases h
        exact ret _ _ _ _ dX8_meetingDay_94 hG
      · have h := ite_f h c_7
        refine lv_iload hx hb dX8_meetingDay_86 (lv_at hl 4 rfl) ?_
        refine lv_goto (tgt := 94) hx hb dX8_meetingDay_88 (by decide) ?_
        cases h
        exact ret _ _ _ _ dX8_meetingDay_94 hG
  have h := hD
  unfold DX8_meetingDay at h
  clear hD
  refine lv_iload_n hx hb dX8_meetingDay_0 rfl (lv_at hl 1 rfl) ?_
  refine lv_iload_n hx hb dX8_meetingDay_1 rfl (lv_at hl 3 rfl) ?_
  refine lv_isub hx hb dX8_meetingDay_2 ?_
  refine lv_istore (lv' := [(5, .int (x1 - x3)), (0, .int x0), (1, .int x1), (2, .int x2), (3, .int x3), (4, .int x4)]) hx hb dX8_meetingDay_3 hl (by decide) rfl (fun ls hl => ?_)
  refine lv_iload hx hb dX8_meetingDay_5 (lv_at hl 0 rfl) ?_
  refine lv_if_ne (tgt := 23) hx hb dX8_meetingDay_7 (by decide) (fun c_1 => ?_) (fun c_1 => ?_)
  · have h := ite_f h c_1
    refine lv_iload_n hx hb dX8_meetingDay_23 rfl (lv_at hl 2 rfl) ?_
    refine lv_iload_n hx hb dX8_meetingDay_24 rfl (lv_at hl 1 rfl) ?_
    refine lv_imul hx hb dX8_meetingDay_25 ?_
    refine lv_iload_n hx hb dX8_meetingDay_26 rfl (lv_at hl 4 rfl) ?_
    refine lv_iload_n hx hb dX8_meetingDay_27 rfl (lv_at hl 3 rfl) ?_
    refine lv_imul hx hb dX8_meetingDay_28 ?_
    refine lv_isub hx hb dX8_meetingDay_29 ?_
    refine lv_istore (lv' := [(6, .int ((x1 * x0) - (x3 * x2))), (5, .int (x1 - x3)), (0, .int x0), (1, .int x1), (2, .int x2), (3, .int x3), (4, .int x4)]) hx hb dX8_meetingDay_30 hl (by decide) rfl (fun ls hl => ?_)
    refine lv_iload hx hb dX8_meetingDay_32 (lv_at hl 0 rfl) ?_
    refine lv_iload hx hb dX8_meetingDay_34 (lv_at hl 1 rfl) ?_
    obtain ⟨g_2, h⟩ := gd h
    refine lv_irem hx hb dX8_meetingDay_36 g_2 ?_
    refine lv_if_eq (tgt := 44) hx hb dX8_meetingDay_37 (by decide) (fun c_3 => ?_) (fun c_3 => ?_)
    · have h := ite_t h c_3
      refine lv_iload hx hb dX8_meetingDay_44 (lv_at hl 0 rfl) ?_
      refine lv_iload hx hb dX8_meetingDay_46 (lv_at hl 1 rfl) ?_
      obtain ⟨g_4, h⟩ := gd h
      refine lv_idiv hx hb dX8_meetingDay_48 g_4 ?_
      refine lv_istore (lv' := [(7, .int (((x1 * x0) - (x3 * x2)) / (x1 - x3))), (6, .int ((x1 * x0) - (x3 * x2))), (5, .int (x1 - x3)), (0, .int x0), (1, .int x1), (2, .int x2), (3, .int x3), (4, .int x4)]) hx hb dX8_meetingDay_49 hl (by decide) rfl (fun ls hl => ?_)
      refine lv_iload hx hb dX8_meetingDay_51 (lv_at hl 0 rfl) ?_
      refine lv_iload_n hx hb dX8_meetingDay_53 rfl (lv_at hl 3 rfl) ?_
      refine lv_icmp_lt (tgt := 67) hx hb dX8_meetingDay_54 (by decide) (fun c_5 => ?_) (fun c_5 => ?_)
      · have h := ite_t h c_5
        refine lv_iconst (v := (0 : Int32)) hx hb dX8_meetingDay_67 (by decide) ?_
        exact J68 (0 : Int32) (((x1 * x0) - (x3 * x2)) / (x1 - x3))  h  _ _ _ (lv_sub hl [3, 4, 7, 0] rfl) hG
      · have h := ite_f h c_5
        refine lv_iload hx hb dX8_meetingDay_57 (lv_at hl 0 rfl) ?_
        refine lv_iload_n hx hb dX8_meetingDay_59 rfl (lv_at hl 5 rfl) ?_
        refine lv_icmp_lt (tgt := 67) hx hb dX8_meetingDay_60 (by decide) (fun c_8 => ?_) (fun c_8 => ?_)
        · have h := ite_t h c_8
          refine lv_iconst (v := (0 : Int32)) hx hb dX8_meetingDay_67 (by decide) ?_
          exact J68 (0 : Int32) (((x1 * x0) - (x3 * x2)) / (x1 - x3))  h  _ _ _ (lv_sub hl [3, 4, 7, 0] rfl) hG
        · have h := ite_f h c_8
          refine lv_iconst (v := (1 : Int32)) hx hb dX8_meetingDay_63 (by decide) ?_
          refine lv_goto (tgt := 68) hx hb dX8_meetingDay_64 (by decide) ?_
          exact J68 (1 : Int32) (((x1 * x0) - (x3 * x2)) / (x1 - x3))  h  _ _ _ (lv_sub hl [3, 4, 7, 0] rfl) hG
    · have h := ite_f h c_3
      refine lv_sipush (v := (1000 : Int32)) hx hb dX8_meetingDay_40 (by decide) ?_
      cases h
      exact ret _ _ _ _ dX8_meetingDay_43 hG
  · have h := ite_t h c_1
    refine lv_iload_n hx hb dX8_meetingDay_10 rfl (lv_at hl 1 rfl) ?_
    refine lv_iload_n hx hb dX8_meetingDay_11 rfl (lv_at hl 3 rfl) ?_
    refine lv_icmp_ne (tgt := 19) hx hb dX8_meetingDay_12 (by decide) (fun c_9 => ?_) (fun c_9 => ?_)
    · have h := ite_f h c_9
      refine lv_sipush (v := (1000 : Int32)) hx hb dX8_meetingDay_19 (by decide) ?_
      cases h
      exact ret _ _ _ _ dX8_meetingDay_22 hG
    · have h := ite_t h c_9
      refine lv_iload_n hx hb dX8_meetingDay_15 rfl (lv_at hl 1 rfl) ?_
      refine lv_goto (tgt := 22) hx hb dX8_meetingDay_16 (by decide) ?_
      cases h
      exact ret _ _ _ _ dX8_meetingDay_22 hG
set_option maxRecDepth 100000 in
set_option maxHeartbeats 4000000 in
theorem mX1_meetingOf (l : Launch) (dC : Nat → ClassId) (dI : Nat → Nat → Nat) (cI cJ : ClassId) (a0 a1 a2 a3 : Nat) (c_loads_cells : Nat → Int32) (c_loads_filled : Int32) (c_order : Nat → Int32) (c_done : Int32) (c_start : Int32) (c_end : Int32) (x1 : Int32) (x2 : Int32) (x3 : Int32) {res : Int32} (hD : DX1_meetingOf x1 x2 x3 c_loads_cells = some res) : Met l yX1_meetingOf (WZ yX1_meetingOf cX1_meetingOf 4 (some .int)) (RM 1 28) (PC dC dI cI cJ [.ref a0, .int x1, .int x2, .int x3] (W_X1 a0 a1 a2 a3 cI cJ c_loads_cells c_loads_filled c_order c_done c_start c_end)) (QI dC dI (W_X1 a0 a1 a2 a3 cI cJ c_loads_cells c_loads_filled c_order c_done c_start c_end) (W_X1 a0 a1 a2 a3 cI cJ c_loads_cells c_loads_filled c_order c_done c_start c_end) res) 0 0 (FA (W_X1 a0 a1 a2 a3 cI cJ c_loads_cells c_loads_filled c_order c_done c_start c_end)) := by
  refine r_metI (by decide +kernel) (Nat.le_of_ble_eq_true rfl) ?_
  intro p e s m args below meth c A H0 QQ X ret ls hl hG
  have X : Cx p m c cX1_meetingOf 4 s args RX1 dC dI cI cJ meth (some .int) := X
  have hx := X.1.1
  have hb := X.1.2.1
  have hl : lv_has ls 4 [(0, .ref a0), (1, .int x1), (2, .int x2), (3, .int x3)] := hl
  have h := hD
  unfold DX1_meetingOf at h
  clear hD
  refine lv_aload_n hx hb dX1_meetingOf_0 rfl (lv_at hl 0 rfl) ?_
  refine r_get X hG in_X1 rfl 0 (by decide) w_161 0 rfl rfl dX1_meetingOf_1 ?_
  refine lv_iload_n hx hb dX1_meetingOf_4 rfl (lv_at hl 1 rfl) ?_
  refine lv_iconst (v := (4 : Int32)) hx hb dX1_meetingOf_5 (by decide) ?_
  obtain ⟨r_1, hz_2, h⟩ := bd1_some h
  refine aft_i (ws' := (W_X1 a0 a1 a2 a3 cI cJ c_loads_cells c_loads_filled c_order c_done c_start c_end)) (run_V (rest := []) X hG hl.1 (mX5_get l dC dI cI cJ a1 a2 (7 : Int32) (10 : Int32) 70 c_loads_cells c_loads_filled x1 (4 : Int32) hz_2) gi_V_X1_43 hd_V_yX5_get ⟨rfl, rfl⟩ rfl ⟨Nat.le_of_ble_eq_true rfl, Nat.le_of_ble_eq_true rfl⟩ [1, 2] (by decide) rfl 1 rfl rfl rfl rfl (Nat.le_of_ble_eq_true rfl) ⟨Nat.le_of_ble_eq_true rfl, Nat.le_of_ble_eq_true rfl⟩ dX1_meetingOf_6) hG [1, 2] rfl rfl rfl (fun H locs hG => ?_)
  clear hz_2
  refine lv_aload_n hx hb dX1_meetingOf_9 rfl (lv_at hl 0 rfl) ?_
  refine r_get X hG in_X1 rfl 0 (by decide) w_161 0 rfl rfl dX1_meetingOf_10 ?_
  refine lv_iload_n hx hb dX1_meetingOf_13 rfl (lv_at hl 2 rfl) ?_
  refine lv_iconst (v := (4 : Int32)) hx hb dX1_meetingOf_14 (by decide) ?_
  obtain ⟨r_3, hz_4, h⟩ := bd1_some h
  refine aft_i (ws' := (W_X1 a0 a1 a2 a3 cI cJ c_loads_cells c_loads_filled c_order c_done c_start c_end)) (run_V (rest := [.int r_1]) X hG hl.1 (mX5_get l dC dI cI cJ a1 a2 (7 : Int32) (10 : Int32) 70 c_loads_cells c_loads_filled x2 (4 : Int32) hz_4) gi_V_X1_43 hd_V_yX5_get ⟨rfl, rfl⟩ rfl ⟨Nat.le_of_ble_eq_true rfl, Nat.le_of_ble_eq_true rfl⟩ [1, 2] (by decide) rfl 1 rfl rfl rfl rfl (Nat.le_of_ble_eq_true rfl) ⟨Nat.le_of_ble_eq_true rfl, Nat.le_of_ble_eq_true rfl⟩ dX1_meetingOf_15) hG [1, 2] rfl rfl rfl (fun H locs hG => ?_)
  clear hz_4
  refine lv_icmp_eq (tgt := 25) hx hb dX1_meetingOf_18 (by decide) (fun c_5 => ?_) (fun c_5 => ?_)
  · have h := ite_t h c_5
    refine lv_aload_n hx hb dX1_meetingOf_25 rfl (lv_at hl 0 rfl) ?_
    refine r_get X hG in_X1 rfl 0 (by decide) w_161 0 rfl rfl dX1_meetingOf_26 ?_
    refine lv_iload_n hx hb dX1_meetingOf_29 rfl (lv_at hl 1 rfl) ?_
    refine lv_iconst (v := (0 : Int32)) hx hb dX1_meetingOf_30 (by decide) ?_
    obtain ⟨r_6, hz_7, h⟩ := bd1_some h
    refine aft_i (ws' := (W_X1 a0 a1 a2 a3 cI cJ c_loads_cells c_loads_filled c_order c_done c_start c_end)) (run_V (rest := []) X hG hl.1 (mX5_get l dC dI cI cJ a1 a2 (7 : Int32) (10 : Int32) 70 c_loads_cells c_loads_filled x1 (0 : Int32) hz_7) gi_V_X1_43 hd_V_yX5_get ⟨rfl, rfl⟩ rfl ⟨Nat.le_of_ble_eq_true rfl, Nat.le_of_ble_eq_true rfl⟩ [1, 2] (by decide) rfl 1 rfl rfl rfl rfl (Nat.le_of_ble_eq_true rfl) ⟨Nat.le_of_ble_eq_true rfl, Nat.le_of_ble_eq_true rfl⟩ dX1_meetingOf_31) hG [1, 2] rfl rfl rfl (fun H locs hG => ?_)
    clear hz_7
    refine lv_aload_n hx hb dX1_meetingOf_34 rfl (lv_at hl 0 rfl) ?_
    refine r_get X hG in_X1 rfl 0 (by decide) w_161 0 rfl rfl dX1_meetingOf_35 ?_
    refine lv_iload_n hx hb dX1_meetingOf_38 rfl (lv_at hl 1 rfl) ?_
    refine lv_iconst (v := (2 : Int32)) hx hb dX1_meetingOf_39 (by decide) ?_
    obtain ⟨r_8, hz_9, h⟩ := bd1_some h
    refine aft_i (ws' := (W_X1 a0 a1 a2 a3 cI cJ c_loads_cells c_loads_filled c_order c_done c_start c_end)) (run_V (rest := [.int r_6]) X hG hl.1 (mX5_get l dC dI cI cJ a1 a2 (7 : Int32) (10 : Int32) 70 c_loads_cells c_loads_filled x1 (2 : Int32) hz_9) gi_V_X1_43 hd_V_yX5_get ⟨rfl, rfl⟩ rfl ⟨Nat.le_of_ble_eq_true rfl, Nat.le_of_ble_eq_true rfl⟩ [1, 2] (by decide) rfl 1 rfl rfl rfl rfl (Nat.le_of_ble_eq_true rfl) ⟨Nat.le_of_ble_eq_true rfl, Nat.le_of_ble_eq_true rfl⟩ dX1_meetingOf_40) hG [1, 2] rfl rfl rfl (fun H locs hG => ?_)
    clear hz_9
    refine lv_aload_n hx hb dX1_meetingOf_43 rfl (lv_at hl 0 rfl) ?_
    refine r_get X hG in_X1 rfl 0 (by decide) w_161 0 rfl rfl dX1_meetingOf_44 ?_
    refine lv_iload_n hx hb dX1_meetingOf_47 rfl (lv_at hl 2 rfl) ?_
    refine lv_iconst (v := (0 : Int32)) hx hb dX1_meetingOf_48 (by decide) ?_
    obtain ⟨r_10, hz_11, h⟩ := bd1_some h
    refine aft_i (ws' := (W_X1 a0 a1 a2 a3 cI cJ c_loads_cells c_loads_filled c_order c_done c_start c_end)) (run_V (rest := [.int r_8, .int r_6]) X hG hl.1 (mX5_get l dC dI cI cJ a1 a2 (7 : Int32) (10 : Int32) 70 c_loads_cells c_loads_filled x2 (0 : Int32) hz_11) gi_V_X1_43 hd_V_yX5_get ⟨rfl, rfl⟩ rfl ⟨Nat.le_of_ble_eq_true rfl, Nat.le_of_ble_eq_true rfl⟩ [1, 2] (by decide) rfl 1 rfl rfl rfl rfl (Nat.le_of_ble_eq_true rfl) ⟨Nat.le_of_ble_eq_true rfl, Nat.le_of_ble_eq_true rfl⟩ dX1_meetingOf_49) hG [1, 2] rfl rfl rfl (fun H locs hG => ?_)
    clear hz_11
    refine lv_aload_n hx hb dX1_meetingOf_52 rfl (lv_at hl 0 rfl) ?_
    refine r_get X hG in_X1 rfl 0 (by decide) w_161 0 rfl rfl dX1_meetingOf_53 ?_
    refine lv_iload_n hx hb dX1_meetingOf_56 rfl (lv_at hl 2 rfl) ?_
    refine lv_iconst (v := (2 : Int32)) hx hb dX1_meetingOf_57 (by decide) ?_
    obtain ⟨r_12, hz_13, h⟩ := bd1_some h
    refine aft_i (ws' := (W_X1 a0 a1 a2 a3 cI cJ c_loads_cells c_loads_filled c_order c_done c_start c_end)) (run_V (rest := [.int r_10, .int r_8, .int r_6]) X hG hl.1 (mX5_get l dC dI cI cJ a1 a2 (7 : Int32) (10 : Int32) 70 c_loads_cells c_loads_filled x2 (2 : Int32) hz_13) gi_V_X1_43 hd_V_yX5_get ⟨rfl, rfl⟩ rfl ⟨Nat.le_of_ble_eq_true rfl, Nat.le_of_ble_eq_true rfl⟩ [1, 2] (by decide) rfl 1 rfl rfl rfl rfl (Nat.le_of_ble_eq_true rfl) ⟨Nat.le_of_ble_eq_true rfl, Nat.le_of_ble_eq_true rfl⟩ dX1_meetingOf_58) hG [1, 2] rfl rfl rfl (fun H locs hG => ?_)
    clear hz_13
    refine lv_iload_n hx hb dX1_meetingOf_61 rfl (lv_at hl 3 rfl) ?_
    obtain ⟨r_14, hz_15, h⟩ := bd1_some h
    refine aft_i (ws' := (W_X1 a0 a1 a2 a3 cI cJ c_loads_cells c_loads_filled c_order c_done c_start c_end)) (run_SN (rest := []) X hG hl.1 (mX8_meetingDay l dC dI cI cJ r_6 r_8 r_10 r_12 x3 hz_15) gi_N_yX8_meetingDay w_409 w_410 w_41 hd_S_yX8_meetingDay ⟨rfl, rfl⟩ rfl ⟨Nat.le_of_ble_eq_true rfl, Nat.le_of_ble_eq_true rfl⟩ [] (by decide) rfl rfl (Nat.le_of_ble_eq_true rfl) ⟨Nat.le_of_ble_eq_true rfl, Nat.le_of_ble_eq_true rfl⟩ dX1_meetingOf_62) hG [] rfl rfl rfl (fun H locs hG => ?_)
    clear hz_15
    cases h
    exact ret _ _ _ _ dX1_meetingOf_65 hG
  · have h := ite_f h c_5
    refine lv_sipush (v := (1000 : Int32)) hx hb dX1_meetingOf_21 (by decide) ?_
    cases h
    exact ret _ _ _ _ dX1_meetingOf_24 hG
set_option maxRecDepth 100000 in
set_option maxHeartbeats 4000000 in
theorem mX1_nextMeeting (l : Launch) (dC : Nat → ClassId) (dI : Nat → Nat → Nat) (cI cJ : ClassId) (a0 a1 a2 a3 : Nat) (c_loads_cells : Nat → Int32) (c_loads_filled : Int32) (c_order : Nat → Int32) (c_done : Int32) (c_start : Int32) (c_end : Int32) (x1 : Int32) {res : Int32} (hD : DX1_nextMeeting x1 c_loads_cells c_order c_done = some res) : Met l yX1_nextMeeting (WZ yX1_nextMeeting cX1_nextMeeting 7 (some .int)) (RM 2 51) (PC dC dI cI cJ [.ref a0, .int x1] (W_X1 a0 a1 a2 a3 cI cJ c_loads_cells c_loads_filled c_order c_done c_start c_end)) (QI dC dI (W_X1 a0 a1 a2 a3 cI cJ c_loads_cells c_loads_filled c_order c_done c_start c_end) (W_X1 a0 a1 a2 a3 cI cJ c_loads_cells c_loads_filled c_order c_done c_start c_end) res) 0 0 (FA (W_X1 a0 a1 a2 a3 cI cJ c_loads_cells c_loads_filled c_order c_done c_start c_end)) := by
  refine r_metI (by decide +kernel) (Nat.le_of_ble_eq_true rfl) ?_
  intro p e s m args below meth c A H0 QQ X ret ls hl hG
  have X : Cx p m c cX1_nextMeeting 7 s args RX1 dC dI cI cJ meth (some .int) := X
  have hx := X.1.1
  have hb := X.1.2.1
  have hl : lv_has ls 7 [(0, .ref a0), (1, .int x1)] := hl
  have L19 : ∀ (x3 : Int32), ∀ (n : Nat) (x2 : Int32) (x4 : Int32) (ex2 : Int32), DX1_nextMeeting_L19 x1 c_loads_cells c_order c_done x3 n x2 x4 = some ex2 → (∀ (ls : Array Slot) (H : Heap) (locs : List Loc), lv_has ls 7 [(0, .ref a0), (1, .int x1), (2, .int ex2), (3, .int x3)] → G dC dI A H0 (W_X1 a0 a1 a2 a3 cI cJ c_loads_cells c_loads_filled c_order c_done c_start c_end) H locs → W p l e (RM 2 51) s m args below meth c H locs 0 0 QQ (F0 m 103 ls [])) → ∀ (ls : Array Slot) (H : Heap) (locs : List Loc), lv_has ls 7 [(0, .ref a0), (1, .int x1), (2, .int x2), (3, .int x3), (4, .int x4)] → G dC dI A H0 (W_X1 a0 a1 a2 a3 cI cJ c_loads_cells c_loads_filled c_order c_done c_start c_end) H locs → W p l e (RM 2 51) s m args below meth c H locs 0 0 QQ (F0 m 19 ls []) := by
    intro x3 n
    induction n with
    | zero => intro x2 x4 ex2 h; exact it_zero h
    | succ n ih =>
      intro x2 x4 ex2 h0 K0 ls H locs hl hG
      obtain ⟨w, h, hi, hr⟩ := it_succ h0
      have h : DX1_nextMeeting_L19s x1 c_loads_cells c_order c_done x3 x2 x4 = some w := h
      have KC : ∀ (x2 : Int32) (x4 : Int32), w = .inl (x2, x4) → ∀ (ls : Array Slot) (H : Heap) (locs : List Loc), lv_has ls 7 [(0, .ref a0), (1, .int x1), (2, .int x2), (3, .int x3), (4, .int x4)] → G dC dI A H0 (W_X1 a0 a1 a2 a3 cI cJ c_loads_cells c_loads_filled c_order c_done c_start c_end) H locs → W p l e (RM 2 51) s m args below meth c H locs 0 0 QQ (F0 m 19 ls []) := fun b0 b1 e ls H locs hl hG => ih b0 b1 ex2 (hi _ e) K0 ls H locs hl hG
      have KX : ∀ (x2 : Int32), w = .inr x2 → ∀ (ls : Array Slot) (H : Heap) (locs : List Loc), lv_has ls 7 [(0, .ref a0), (1, .int x1), (2, .int x2), (3, .int x3)] → G dC dI A H0 (W_X1 a0 a1 a2 a3 cI cJ c_loads_cells c_loads_filled c_order c_done c_start c_end) H locs → W p l e (RM 2 51) s m args below meth c H locs 0 0 QQ (F0 m 103 ls []) := fun b0 e ls H locs hl hG => by cases hr _ e; exact K0 ls H locs hl hG
      clear h0 hi hr K0 ih
      unfold DX1_nextMeeting_L19s at h
      refine lv_iload hx hb dX1_nextMeeting_19 (lv_at hl 4 rfl) ?_
      refine lv_aload_n hx hb dX1_nextMeeting_21 rfl (lv_at hl 0 rfl) ?_
      refine r_get X hG in_X1 rfl 2 (by decide) w_163 0 rfl rfl dX1_nextMeeting_22 ?_
      refine lv_icmp_ge (tgt := 103) hx hb dX1_nextMeeting_25 (by decide) (fun c_2 => ?_) (fun c_2 => ?_)
      · have h := ite_t h c_2
        exact KX _ (Option.some.inj h).symm _ _ _ (lv_sub hl [0, 1, 2, 3] rfl) hG
      · have h := ite_f h c_2
        refine lv_aload_n hx hb dX1_nextMeeting_28 rfl (lv_at hl 0 rfl) ?_
        refine r_get X hG in_X1 rfl 1 (by decide) w_162 0 rfl rfl dX1_nextMeeting_29 ?_
        refine lv_iload_n hx hb dX1_nextMeeting_32 rfl (lv_at hl 3 rfl) ?_
        obtain ⟨r_3, hz_4, h⟩ := bd1_some h
        refine aft_i (ws' := (W_X1 a0 a1 a2 a3 cI cJ c_loads_cells c_loads_filled c_order c_done c_start c_end)) (run_SN (rest := []) X hG hl.1 (mX8_at l dC dI cI cJ a3 7 c_order x3 hz_4) gi_N_yX8_at w_384 w_296 w_41 hd_S_yX8_at ⟨rfl, rfl⟩ rfl ⟨Nat.le_of_ble_eq_true rfl, Nat.le_of_ble_eq_true rfl⟩ [3] (by decide) rfl rfl (Nat.le_of_ble_eq_true rfl) ⟨Nat.le_of_ble_eq_true rfl, Nat.le_of_ble_eq_true rfl⟩ dX1_nextMeeting_33) hG [3] rfl rfl rfl (fun H locs hG => ?_)
        clear hz_4
        refine lv_istore (lv' := [(5, .int r_3), (0, .ref a0), (1, .int x1), (2, .int x2), (3, .int x3), (4, .int x4)]) hx hb dX1_nextMeeting_36 hl (by decide) rfl (fun ls hl => ?_)
        refine lv_aload_n hx hb dX1_nextMeeting_38 rfl (lv_at hl 1 rfl) ?_
        refine r_get X hG in_X1 rfl 1 (by decide) w_162 0 rfl rfl dX1_nextMeeting_39 ?_
        refine lv_iload hx hb dX1_nextMeeting_42 (lv_at hl 5 rfl) ?_
        obtain ⟨r_5, hz_6, h⟩ := bd1_some h
        refine aft_i (ws' := (W_X1 a0 a1 a2 a3 cI cJ c_loads_cells c_loads_filled c_order c_done c_start c_end)) (run_SN (rest := []) X hG hl.1 (mX8_at l dC dI cI cJ a3 7 c_order x4 hz_6) gi_N_yX8_at w_384 w_296 w_41 hd_S_yX8_at ⟨rfl, rfl⟩ rfl ⟨Nat.le_of_ble_eq_true rfl, Nat.le_of_ble_eq_true rfl⟩ [3] (by decide) rfl rfl (Nat.le_of_ble_eq_true rfl) ⟨Nat.le_of_ble_eq_true rfl, Nat.le_of_ble_eq_true rfl⟩ dX1_nextMeeting_44) hG [3] rfl rfl rfl (fun H locs hG => ?_)
        clear hz_6
        refine lv_istore (lv' := [(6, .int r_5), (5, .int r_3), (0, .ref a0), (1, .int x1), (2, .int x2), (3, .int x3), (4, .int x4)]) hx hb dX1_nextMeeting_47 hl (by decide) rfl (fun ls hl => ?_)
        refine lv_aload_n hx hb dX1_nextMeeting_49 rfl (lv_at hl 2 rfl) ?_
        refine r_get X hG in_X1 rfl 0 (by decide) w_161 0 rfl rfl dX1_nextMeeting_50 ?_
        refine lv_iload hx hb dX1_nextMeeting_53 (lv_at hl 1 rfl) ?_
        refine lv_bipush (v := (7 : Int32)) hx hb dX1_nextMeeting_55 (by decide) ?_
        obtain ⟨r_7, hz_8, h⟩ := bd1_some h
        refine aft_i (ws' := (W_X1 a0 a1 a2 a3 cI cJ c_loads_cells c_loads_filled c_order c_done c_start c_end)) (run_V (rest := []) X hG hl.1 (mX5_get l dC dI cI cJ a1 a2 (7 : Int32) (10 : Int32) 70 c_loads_cells c_loads_filled r_3 (7 : Int32) hz_8) gi_V_X1_43 hd_V_yX5_get ⟨rfl, rfl⟩ rfl ⟨Nat.le_of_ble_eq_true rfl, Nat.le_of_ble_eq_true rfl⟩ [1, 2] (by decide) rfl 1 rfl rfl rfl rfl (Nat.le_of_ble_eq_true rfl) ⟨Nat.le_of_ble_eq_true rfl, Nat.le_of_ble_eq_true rfl⟩ dX1_nextMeeting_57) hG [1, 2] rfl rfl rfl (fun H locs hG => ?_)
        clear hz_8
        refine lv_sipush (v := (1000 : Int32)) hx hb dX1_nextMeeting_60 (by decide) ?_
        refine lv_icmp_ne (tgt := 97) hx hb dX1_nextMeeting_63 (by decide) (fun c_9 => ?_) (fun c_9 => ?_)
        · have h := ite_f h c_9
          refine lv_iinc (v := (x4 + (1 : Int32))) (lv' := [(4, .int (x4 + (1 : Int32))), (6, .int r_5), (5, .int r_3), (0, .ref a0), (1, .int x1), (2, .int x2), (3, .int x3)]) hx hb dX1_nextMeeting_97 hl (k := 6) rfl rfl (by decide) rfl (fun ls hl => ?_)
          refine lv_goto (tgt := 19) hx hb dX1_nextMeeting_100 (by decide) ?_
          exact KC _ _ (Option.some.inj h).symm _ _ _ (lv_sub hl [3, 4, 5, 6, 0] rfl) hG
        · have h := ite_t h c_9
          refine lv_aload_n hx hb dX1_nextMeeting_66 rfl (lv_at hl 2 rfl) ?_
          refine r_get X hG in_X1 rfl 0 (by decide) w_161 0 rfl rfl dX1_nextMeeting_67 ?_
          refine lv_iload hx hb dX1_nextMeeting_70 (lv_at hl 0 rfl) ?_
          refine lv_bipush (v := (7 : Int32)) hx hb dX1_nextMeeting_72 (by decide) ?_
          obtain ⟨r_10, hz_11, h⟩ := bd1_some h
          refine aft_i (ws' := (W_X1 a0 a1 a2 a3 cI cJ c_loads_cells c_loads_filled c_order c_done c_start c_end)) (run_V (rest := []) X hG hl.1 (mX5_get l dC dI cI cJ a1 a2 (7 : Int32) (10 : Int32) 70 c_loads_cells c_loads_filled r_5 (7 : Int32) hz_11) gi_V_X1_43 hd_V_yX5_get ⟨rfl, rfl⟩ rfl ⟨Nat.le_of_ble_eq_true rfl, Nat.le_of_ble_eq_true rfl⟩ [1, 2] (by decide) rfl 1 rfl rfl rfl rfl (Nat.le_of_ble_eq_true rfl) ⟨Nat.le_of_ble_eq_true rfl, Nat.le_of_ble_eq_true rfl⟩ dX1_nextMeeting_74) hG [1, 2] rfl rfl rfl (fun H locs hG => ?_)
          clear hz_11
          refine lv_sipush (v := (1000 : Int32)) hx hb dX1_nextMeeting_77 (by decide) ?_
          refine lv_icmp_ne (tgt := 97) hx hb dX1_nextMeeting_80 (by decide) (fun c_12 => ?_) (fun c_12 => ?_)
          · have h := ite_f h c_12
            refine lv_iinc (v := (x4 + (1 : Int32))) (lv' := [(4, .int (x4 + (1 : Int32))), (6, .int r_5), (5, .int r_3), (0, .ref a0), (1, .int x1), (2, .int x2), (3, .int x3)]) hx hb dX1_nextMeeting_97 hl (k := 6) rfl rfl (by decide) rfl (fun ls hl => ?_)
            refine lv_goto (tgt := 19) hx hb dX1_nextMeeting_100 (by decide) ?_
            exact KC _ _ (Option.some.inj h).symm _ _ _ (lv_sub hl [3, 4, 5, 6, 0] rfl) hG
          · have h := ite_t h c_12
            refine lv_iload_n hx hb dX1_nextMeeting_83 rfl (lv_at hl 4 rfl) ?_
            refine lv_aload_n hx hb dX1_nextMeeting_84 rfl (lv_at hl 2 rfl) ?_
            refine lv_iload hx hb dX1_nextMeeting_85 (lv_at hl 1 rfl) ?_
            refine lv_iload hx hb dX1_nextMeeting_87 (lv_at hl 0 rfl) ?_
            refine lv_iload_n hx hb dX1_nextMeeting_89 rfl (lv_at hl 3 rfl) ?_
            obtain ⟨r_13, hz_14, h⟩ := bd1_some h
            refine aft_i (ws' := (W_X1 a0 a1 a2 a3 cI cJ c_loads_cells c_loads_filled c_order c_done c_start c_end)) (run_V (rest := [.int x2]) X hG hl.1 (mX1_meetingOf l dC dI cI cJ a0 a1 a2 a3 c_loads_cells c_loads_filled c_order c_done c_start c_end r_3 r_5 x1 hz_14) gi_V_X1_94 hd_V_yX1_meetingOf ⟨rfl, rfl⟩ rfl ⟨Nat.le_of_ble_eq_true rfl, Nat.le_of_ble_eq_true rfl⟩ [0, 1, 2, 3] (by decide) rfl 0 rfl rfl rfl rfl (Nat.le_of_ble_eq_true rfl) ⟨Nat.le_of_ble_eq_true rfl, Nat.le_of_ble_eq_true rfl⟩ dX1_nextMeeting_90) hG [0, 1, 2, 3] rfl rfl rfl (fun H locs hG => ?_)
            clear hz_14
            refine va_mmin hx hb (X.1.2.2.1.trans hl.1.symm) X.1.2.2.2.1 (X.1.2.2.2.2 _ w_412) (X.1.2.2.2.2 _ w_349) (X.1.2.2.2.2 _ w_46) (X.1.2.2.2.2 _ w_350) (Nat.le_of_ble_eq_true rfl) (Nat.le_of_ble_eq_true rfl) (Nat.le_of_ble_eq_true rfl) (Nat.le_of_ble_eq_true rfl) dX1_nextMeeting_93 ?_
            refine lv_istore_n (lv' := [(2, .int (if r_13 < x2 then r_13 else x2)), (6, .int r_5), (5, .int r_3), (0, .ref a0), (1, .int x1), (3, .int x3), (4, .int x4)]) hx hb dX1_nextMeeting_96 rfl hl (by decide) rfl (fun ls hl => ?_)
            refine lv_iinc (v := (x4 + (1 : Int32))) (lv' := [(4, .int (x4 + (1 : Int32))), (2, .int (if r_13 < x2 then r_13 else x2)), (6, .int r_5), (5, .int r_3), (0, .ref a0), (1, .int x1), (3, .int x3)]) hx hb dX1_nextMeeting_97 hl (k := 6) rfl rfl (by decide) rfl (fun ls hl => ?_)
            refine lv_goto (tgt := 19) hx hb dX1_nextMeeting_100 (by decide) ?_
            exact KC _ _ (Option.some.inj h).symm _ _ _ (lv_sub hl [4, 5, 1, 6, 0] rfl) hG
  have L6 : ∀ (n : Nat) (x2 : Int32) (x3 : Int32) (ex2 : Int32), DX1_nextMeeting_L6 x1 c_loads_cells c_order c_done n x2 x3 = some ex2 → (∀ (ls : Array Slot) (H : Heap) (locs : List Loc), lv_has ls 7 [(2, .int ex2)] → G dC dI A H0 (W_X1 a0 a1 a2 a3 cI cJ c_loads_cells c_loads_filled c_order c_done c_start c_end) H locs → W p l e (RM 2 51) s m args below meth c H locs 0 0 QQ (F0 m 109 ls [])) → ∀ (ls : Array Slot) (H : Heap) (locs : List Loc), lv_has ls 7 [(0, .ref a0), (1, .int x1), (2, .int x2), (3, .int x3)] → G dC dI A H0 (W_X1 a0 a1 a2 a3 cI cJ c_loads_cells c_loads_filled c_order c_done c_start c_end) H locs → W p l e (RM 2 51) s m args below meth c H locs 0 0 QQ (F0 m 6 ls []) := by
    intro  n
    induction n with
    | zero => intro x2 x3 ex2 h; exact it_zero h
    | succ n ih =>
      intro x2 x3 ex2 h0 K0 ls H locs hl hG
      obtain ⟨w, h, hi, hr⟩ := it_succ h0
      have h : DX1_nextMeeting_L6s x1 c_loads_cells c_order c_done x2 x3 = some w := h
      have KC : ∀ (x2 : Int32) (x3 : Int32), w = .inl (x2, x3) → ∀ (ls : Array Slot) (H : Heap) (locs : List Loc), lv_has ls 7 [(0, .ref a0), (1, .int x1), (2, .int x2), (3, .int x3)] → G dC dI A H0 (W_X1 a0 a1 a2 a3 cI cJ c_loads_cells c_loads_filled c_order c_done c_start c_end) H locs → W p l e (RM 2 51) s m args below meth c H locs 0 0 QQ (F0 m 6 ls []) := fun b0 b1 e ls H locs hl hG => ih b0 b1 ex2 (hi _ e) K0 ls H locs hl hG
      have KX : ∀ (x2 : Int32), w = .inr x2 → ∀ (ls : Array Slot) (H : Heap) (locs : List Loc), lv_has ls 7 [(2, .int x2)] → G dC dI A H0 (W_X1 a0 a1 a2 a3 cI cJ c_loads_cells c_loads_filled c_order c_done c_start c_end) H locs → W p l e (RM 2 51) s m args below meth c H locs 0 0 QQ (F0 m 109 ls []) := fun b0 e ls H locs hl hG => by cases hr _ e; exact K0 ls H locs hl hG
      clear h0 hi hr K0 ih
      unfold DX1_nextMeeting_L6s at h
      refine lv_iload_n hx hb dX1_nextMeeting_6 rfl (lv_at hl 3 rfl) ?_
      refine lv_aload_n hx hb dX1_nextMeeting_7 rfl (lv_at hl 0 rfl) ?_
      refine r_get X hG in_X1 rfl 2 (by decide) w_163 0 rfl rfl dX1_nextMeeting_8 ?_
      refine lv_icmp_ge (tgt := 109) hx hb dX1_nextMeeting_11 (by decide) (fun c_1 => ?_) (fun c_1 => ?_)
      · have h := ite_t h c_1
        exact KX _ (Option.some.inj h).symm _ _ _ (lv_sub hl [2] rfl) hG
      · have h := ite_f h c_1
        refine lv_iload_n hx hb dX1_nextMeeting_14 rfl (lv_at hl 3 rfl) ?_
        refine lv_iconst (v := (1 : Int32)) hx hb dX1_nextMeeting_15 (by decide) ?_
        refine lv_iadd hx hb dX1_nextMeeting_16 ?_
        refine lv_istore (lv' := [(4, .int (x3 + (1 : Int32))), (0, .ref a0), (1, .int x1), (2, .int x2), (3, .int x3)]) hx hb dX1_nextMeeting_17 hl (by decide) rfl (fun ls hl => ?_)
        obtain ⟨z2_15, hz, h⟩ := bd1_some h
        refine L19 x3 FU x2 (x3 + (1 : Int32)) _ hz (fun ls H locs hl hG => ?_) _ _ _ (lv_sub hl [1, 2, 3, 4, 0] rfl) hG
        clear hz
        refine lv_iinc (v := (x3 + (1 : Int32))) (lv' := [(3, .int (x3 + (1 : Int32))), (0, .ref a0), (1, .int x1), (2, .int z2_15)]) hx hb dX1_nextMeeting_103 hl (k := 3) rfl rfl (by decide) rfl (fun ls hl => ?_)
        refine lv_goto (tgt := 6) hx hb dX1_nextMeeting_106 (by decide) ?_
        exact KC _ _ (Option.some.inj h).symm _ _ _ (lv_sub hl [1, 2, 3, 0] rfl) hG
  have h := hD
  unfold DX1_nextMeeting at h
  clear hD
  refine lv_sipush (v := (1000 : Int32)) hx hb dX1_nextMeeting_0 (by decide) ?_
  refine lv_istore_n (lv' := [(2, .int (1000 : Int32)), (0, .ref a0), (1, .int x1)]) hx hb dX1_nextMeeting_3 rfl hl (by decide) rfl (fun ls hl => ?_)
  refine lv_iconst (v := (0 : Int32)) hx hb dX1_nextMeeting_4 (by decide) ?_
  refine lv_istore_n (lv' := [(3, .int (0 : Int32)), (2, .int (1000 : Int32)), (0, .ref a0), (1, .int x1)]) hx hb dX1_nextMeeting_5 rfl hl (by decide) rfl (fun ls hl => ?_)
  obtain ⟨z2_16, hz, h⟩ := bd1_some h
  refine L6  FU (1000 : Int32) (0 : Int32) _ hz (fun ls H locs hl hG => ?_) _ _ _ (lv_sub hl [2, 3, 1, 0] rfl) hG
  clear hz
  refine lv_iload_n hx hb dX1_nextMeeting_109 rfl (lv_at hl 0 rfl) ?_
  cases h
  exact ret _ _ _ _ dX1_nextMeeting_110 hG
set_option maxRecDepth 100000 in
set_option maxHeartbeats 4000000 in
theorem mX1_loseOn (l : Launch) (dC : Nat → ClassId) (dI : Nat → Nat → Nat) (cI cJ : ClassId) (a0 a1 a2 a3 : Nat) (c_loads_cells : Nat → Int32) (c_loads_filled : Int32) (c_order : Nat → Int32) (c_done : Int32) (c_start : Int32) (c_end : Int32) (x1 : Int32) (x2 : Int32) {n_loads_cells : Nat → Int32} (hD : DX1_loseOn x1 x2 c_loads_cells c_order c_done = some n_loads_cells) : Met l yX1_loseOn (WZ yX1_loseOn cX1_loseOn 8 none) (RM 2 51) (PC dC dI cI cJ [.ref a0, .int x1, .int x2] (W_X1 a0 a1 a2 a3 cI cJ c_loads_cells c_loads_filled c_order c_done c_start c_end)) (QV dC dI (W_X1 a0 a1 a2 a3 cI cJ c_loads_cells c_loads_filled c_order c_done c_start c_end) (W_X1 a0 a1 a2 a3 cI cJ n_loads_cells c_loads_filled c_order c_done c_start c_end)) 0 0 (FA (W_X1 a0 a1 a2 a3 cI cJ c_loads_cells c_loads_filled c_order c_done c_start c_end)) := by
  refine r_metV (by decide +kernel) (Nat.le_of_ble_eq_true rfl) ?_
  intro p e s m args below meth c A H0 QQ X ret ls hl hG
  have X : Cx p m c cX1_loseOn 8 s args RX1 dC dI cI cJ meth none := X
  have hx := X.1.1
  have hb := X.1.2.1
  have hl : lv_has ls 8 [(0, .ref a0), (1, .int x1), (2, .int x2)] := hl
  have J80 : ∀ (y0 : Int32) (x3 : Int32) (x4 : Int32) (x5 : Int32) (x6 : Int32) (c_loads_cells : Nat → Int32), ∀ (w : (Int32 × (Nat → Int32)) ⊕ ((Nat → Int32))), DX1_loseOn_J80 x1 x2 c_loads_cells y0 x4 x5 x6 = some w → (∀ (x4 : Int32) (c_loads_cells : Nat → Int32), w = .inl (x4, c_loads_cells) → ∀ (ls : Array Slot) (H : Heap) (locs : List Loc), lv_has ls 8 [(0, .ref a0), (1, .int x1), (2, .int x2), (3, .int x3), (4, .int x4)] → G dC dI A H0 (W_X1 a0 a1 a2 a3 cI cJ c_loads_cells c_loads_filled c_order c_done c_start c_end) H locs → W p l e (RM 2 51) s m args below meth c H locs 0 0 QQ (F0 m 15 ls [])) → (∀ (c_loads_cells : Nat → Int32), w = .inr c_loads_cells → ∀ (ls : Array Slot) (H : Heap) (locs : List Loc), lv_has ls 8 [(0, .ref a0), (1, .int x1), (2, .int x2), (3, .int x3)] → G dC dI A H0 (W_X1 a0 a1 a2 a3 cI cJ c_loads_cells c_loads_filled c_order c_done c_start c_end) H locs → W p l e (RM 2 51) s m args below meth c H locs 0 0 QQ (F0 m 130 ls [])) → ∀ (ls : Array Slot) (H : Heap) (locs : List Loc), lv_has ls 8 [(0, .ref a0), (1, .int x1), (2, .int x2), (3, .int x3), (4, .int x4), (5, .int x5), (6, .int x6)] → G dC dI A H0 (W_X1 a0 a1 a2 a3 cI cJ c_loads_cells c_loads_filled c_order c_done c_start c_end) H locs → W p l e (RM 2 51) s m args below meth c H locs 0 0 QQ (F0 m 80 ls [.int y0]) := by
    intro y0 x3 x4 x5 x6 c_loads_cells w h KC KX ls H locs hl hG
    unfold DX1_loseOn_J80 at h
    refine lv_istore (lv' := [(7, .int y0), (0, .ref a0), (1, .int x1), (2, .int x2), (3, .int x3), (4, .int x4), (5, .int x5), (6, .int x6)]) hx hb dX1_loseOn_80 hl (by decide) rfl (fun ls hl => ?_)
    refine lv_iload hx hb dX1_loseOn_82 (lv_at hl 0 rfl) ?_
    refine lv_if_eq (tgt := 124) hx hb dX1_loseOn_84 (by decide) (fun c_10 => ?_) (fun c_10 => ?_)
    · have h := ite_t h c_10
      refine lv_iinc (v := (x4 + (1 : Int32))) (lv' := [(4, .int (x4 + (1 : Int32))), (7, .int y0), (0, .ref a0), (1, .int x1), (2, .int x2), (3, .int x3), (5, .int x5), (6, .int x6)]) hx hb dX1_loseOn_124 hl (k := 5) rfl rfl (by decide) rfl (fun ls hl => ?_)
      refine lv_goto (tgt := 15) hx hb dX1_loseOn_127 (by decide) ?_
      exact KC _ _ (Option.some.inj h).symm _ _ _ (lv_sub hl [2, 3, 4, 5, 0] rfl) hG
    · have h := ite_f h c_10
      refine lv_aload_n hx hb dX1_loseOn_87 rfl (lv_at hl 1 rfl) ?_
      refine lv_iload hx hb dX1_loseOn_88 (lv_at hl 6 rfl) ?_
      refine lv_iload hx hb dX1_loseOn_90 (lv_at hl 7 rfl) ?_
      refine lv_iload_n hx hb dX1_loseOn_92 rfl (lv_at hl 3 rfl) ?_
      obtain ⟨r_11, hz_12, h⟩ := bd1_some h
      refine aft_i (ws' := (W_X1 a0 a1 a2 a3 cI cJ c_loads_cells c_loads_filled c_order c_done c_start c_end)) (run_V (rest := []) X hG hl.1 (mX1_meetingOf l dC dI cI cJ a0 a1 a2 a3 c_loads_cells c_loads_filled c_order c_done c_start c_end x5 x6 x2 hz_12) gi_V_X1_94 hd_V_yX1_meetingOf ⟨rfl, rfl⟩ rfl ⟨Nat.le_of_ble_eq_true rfl, Nat.le_of_ble_eq_true rfl⟩ [0, 1, 2, 3] (by decide) rfl 0 rfl rfl rfl rfl (Nat.le_of_ble_eq_true rfl) ⟨Nat.le_of_ble_eq_true rfl, Nat.le_of_ble_eq_true rfl⟩ dX1_loseOn_93) hG [0, 1, 2, 3] rfl rfl rfl (fun H locs hG => ?_)
      clear hz_12
      refine lv_iload_n hx hb dX1_loseOn_96 rfl (lv_at hl 2 rfl) ?_
      refine lv_icmp_ne (tgt := 124) hx hb dX1_loseOn_97 (by decide) (fun c_13 => ?_) (fun c_13 => ?_)
      · have h := ite_f h c_13
        refine lv_iinc (v := (x4 + (1 : Int32))) (lv' := [(4, .int (x4 + (1 : Int32))), (7, .int y0), (0, .ref a0), (1, .int x1), (2, .int x2), (3, .int x3), (5, .int x5), (6, .int x6)]) hx hb dX1_loseOn_124 hl (k := 5) rfl rfl (by decide) rfl (fun ls hl => ?_)
        refine lv_goto (tgt := 15) hx hb dX1_loseOn_127 (by decide) ?_
        exact KC _ _ (Option.some.inj h).symm _ _ _ (lv_sub hl [2, 3, 4, 5, 0] rfl) hG
      · have h := ite_t h c_13
        refine lv_aload_n hx hb dX1_loseOn_100 rfl (lv_at hl 1 rfl) ?_
        refine r_get X hG in_X1 rfl 0 (by decide) w_161 0 rfl rfl dX1_loseOn_101 ?_
        refine lv_iload hx hb dX1_loseOn_104 (lv_at hl 6 rfl) ?_
        refine lv_bipush (v := (7 : Int32)) hx hb dX1_loseOn_106 (by decide) ?_
        refine lv_iload_n hx hb dX1_loseOn_108 rfl (lv_at hl 2 rfl) ?_
        obtain ⟨k_loads_cells_14, hz_15, h⟩ := bd1_some h
        refine aft_v (ws' := (W_X1 a0 a1 a2 a3 cI cJ k_loads_cells_14 c_loads_filled c_order c_done c_start c_end)) (run_V (rest := []) X hG hl.1 (mX5_set l dC dI cI cJ a1 a2 (7 : Int32) (10 : Int32) 70 c_loads_cells c_loads_filled x5 (7 : Int32) x1 hz_15) gi_V_X1_47 hd_V_yX5_set ⟨rfl, rfl⟩ rfl ⟨Nat.le_of_ble_eq_true rfl, Nat.le_of_ble_eq_true rfl⟩ [1, 2] (by decide) rfl 1 rfl rfl rfl rfl (Nat.le_of_ble_eq_true rfl) ⟨Nat.le_of_ble_eq_true rfl, Nat.le_of_ble_eq_true rfl⟩ dX1_loseOn_109) hG [1, 2] rfl rfl rfl (fun H locs hG => ?_)
        clear hz_15
        refine lv_aload_n hx hb dX1_loseOn_112 rfl (lv_at hl 1 rfl) ?_
        refine r_get X hG in_X1 rfl 0 (by decide) w_161 0 rfl rfl dX1_loseOn_113 ?_
        refine lv_iload hx hb dX1_loseOn_116 (lv_at hl 7 rfl) ?_
        refine lv_bipush (v := (7 : Int32)) hx hb dX1_loseOn_118 (by decide) ?_
        refine lv_iload_n hx hb dX1_loseOn_120 rfl (lv_at hl 2 rfl) ?_
        obtain ⟨k_loads_cells_16, hz_17, h⟩ := bd1_some h
        refine aft_v (ws' := (W_X1 a0 a1 a2 a3 cI cJ k_loads_cells_16 c_loads_filled c_order c_done c_start c_end)) (run_V (rest := []) X hG hl.1 (mX5_set l dC dI cI cJ a1 a2 (7 : Int32) (10 : Int32) 70 k_loads_cells_14 c_loads_filled x6 (7 : Int32) x1 hz_17) gi_V_X1_47 hd_V_yX5_set ⟨rfl, rfl⟩ rfl ⟨Nat.le_of_ble_eq_true rfl, Nat.le_of_ble_eq_true rfl⟩ [1, 2] (by decide) rfl 1 rfl rfl rfl rfl (Nat.le_of_ble_eq_true rfl) ⟨Nat.le_of_ble_eq_true rfl, Nat.le_of_ble_eq_true rfl⟩ dX1_loseOn_121) hG [1, 2] rfl rfl rfl (fun H locs hG => ?_)
        clear hz_17
        refine lv_iinc (v := (x4 + (1 : Int32))) (lv' := [(4, .int (x4 + (1 : Int32))), (7, .int y0), (0, .ref a0), (1, .int x1), (2, .int x2), (3, .int x3), (5, .int x5), (6, .int x6)]) hx hb dX1_loseOn_124 hl (k := 5) rfl rfl (by decide) rfl (fun ls hl => ?_)
        refine lv_goto (tgt := 15) hx hb dX1_loseOn_127 (by decide) ?_
        exact KC _ _ (Option.some.inj h).symm _ _ _ (lv_sub hl [2, 3, 4, 5, 0] rfl) hG
  have L15 : ∀ (x3 : Int32), ∀ (n : Nat) (x4 : Int32) (c_loads_cells : Nat → Int32) (ec_loads_cells : Nat → Int32), DX1_loseOn_L15 x1 x2 c_order c_done x3 n x4 c_loads_cells = some ec_loads_cells → (∀ (ls : Array Slot) (H : Heap) (locs : List Loc), lv_has ls 8 [(0, .ref a0), (1, .int x1), (2, .int x2), (3, .int x3)] → G dC dI A H0 (W_X1 a0 a1 a2 a3 cI cJ ec_loads_cells c_loads_filled c_order c_done c_start c_end) H locs → W p l e (RM 2 51) s m args below meth c H locs 0 0 QQ (F0 m 130 ls [])) → ∀ (ls : Array Slot) (H : Heap) (locs : List Loc), lv_has ls 8 [(0, .ref a0), (1, .int x1), (2, .int x2), (3, .int x3), (4, .int x4)] → G dC dI A H0 (W_X1 a0 a1 a2 a3 cI cJ c_loads_cells c_loads_filled c_order c_done c_start c_end) H locs → W p l e (RM 2 51) s m args below meth c H locs 0 0 QQ (F0 m 15 ls []) := by
    intro x3 n
    induction n with
    | zero => intro x4 c_loads_cells ec_loads_cells h; exact it_zero h
    | succ n ih =>
      intro x4 c_loads_cells ec_loads_cells h0 K0 ls H locs hl hG
      obtain ⟨w, h, hi, hr⟩ := it_succ h0
      have h : DX1_loseOn_L15s x1 x2 c_order c_done x3 x4 c_loads_cells = some w := h
      have KC : ∀ (x4 : Int32) (c_loads_cells : Nat → Int32), w = .inl (x4, c_loads_cells) → ∀ (ls : Array Slot) (H : Heap) (locs : List Loc), lv_has ls 8 [(0, .ref a0), (1, .int x1), (2, .int x2), (3, .int x3), (4, .int x4)] → G dC dI A H0 (W_X1 a0 a1 a2 a3 cI cJ c_loads_cells c_loads_filled c_order c_done c_start c_end) H locs → W p l e (RM 2 51) s m args below meth c H locs 0 0 QQ (F0 m 15 ls []) := fun b0 b1 e ls H locs hl hG => ih b0 b1 ec_loads_cells (hi _ e) K0 ls H locs hl hG
      have KX : ∀ (c_loads_cells : Nat → Int32), w = .inr c_loads_cells → ∀ (ls : Array Slot) (H : Heap) (locs : List Loc), lv_has ls 8 [(0, .ref a0), (1, .int x1), (2, .int x2), (3, .int x3)] → G dC dI A H0 (W_X1 a0 a1 a2 a3 cI cJ c_loads_cells c_loads_filled c_order c_done c_start c_end) H locs → W p l e (RM 2 51) s m args below meth c H locs 0 0 QQ (F0 m 130 ls []) := fun b0 e ls H locs hl hG => by cases hr _ e; exact K0 ls H locs hl hG
      clear h0 hi hr K0 ih
      unfold DX1_loseOn_L15s at h
      refine lv_iload hx hb dX1_loseOn_15 (lv_at hl 4 rfl) ?_
      refine lv_aload_n hx hb dX1_loseOn_17 rfl (lv_at hl 0 rfl) ?_
      refine r_get X hG in_X1 rfl 2 (by decide) w_163 0 rfl rfl dX1_loseOn_18 ?_
      refine lv_icmp_ge (tgt := 130) hx hb dX1_loseOn_21 (by decide) (fun c_2 => ?_) (fun c_2 => ?_)
      · have h := ite_t h c_2
        exact KX _ (Option.some.inj h).symm _ _ _ (lv_sub hl [0, 1, 2, 3] rfl) hG
      · have h := ite_f h c_2
        refine lv_aload_n hx hb dX1_loseOn_24 rfl (lv_at hl 0 rfl) ?_
        refine r_get X hG in_X1 rfl 1 (by decide) w_162 0 rfl rfl dX1_loseOn_25 ?_
        refine lv_iload_n hx hb dX1_loseOn_28 rfl (lv_at hl 3 rfl) ?_
        obtain ⟨r_3, hz_4, h⟩ := bd1_some h
        refine aft_i (ws' := (W_X1 a0 a1 a2 a3 cI cJ c_loads_cells c_loads_filled c_order c_done c_start c_end)) (run_SN (rest := []) X hG hl.1 (mX8_at l dC dI cI cJ a3 7 c_order x3 hz_4) gi_N_yX8_at w_384 w_296 w_41 hd_S_yX8_at ⟨rfl, rfl⟩ rfl ⟨Nat.le_of_ble_eq_true rfl, Nat.le_of_ble_eq_true rfl⟩ [3] (by decide) rfl rfl (Nat.le_of_ble_eq_true rfl) ⟨Nat.le_of_ble_eq_true rfl, Nat.le_of_ble_eq_true rfl⟩ dX1_loseOn_29) hG [3] rfl rfl rfl (fun H locs hG => ?_)
        clear hz_4
        refine lv_istore (lv' := [(5, .int r_3), (0, .ref a0), (1, .int x1), (2, .int x2), (3, .int x3), (4, .int x4)]) hx hb dX1_loseOn_32 hl (by decide) rfl (fun ls hl => ?_)
        refine lv_aload_n hx hb dX1_loseOn_34 rfl (lv_at hl 1 rfl) ?_
        refine r_get X hG in_X1 rfl 1 (by decide) w_162 0 rfl rfl dX1_loseOn_35 ?_
        refine lv_iload hx hb dX1_loseOn_38 (lv_at hl 5 rfl) ?_
        obtain ⟨r_5, hz_6, h⟩ := bd1_some h
        refine aft_i (ws' := (W_X1 a0 a1 a2 a3 cI cJ c_loads_cells c_loads_filled c_order c_done c_start c_end)) (run_SN (rest := []) X hG hl.1 (mX8_at l dC dI cI cJ a3 7 c_order x4 hz_6) gi_N_yX8_at w_384 w_296 w_41 hd_S_yX8_at ⟨rfl, rfl⟩ rfl ⟨Nat.le_of_ble_eq_true rfl, Nat.le_of_ble_eq_true rfl⟩ [3] (by decide) rfl rfl (Nat.le_of_ble_eq_true rfl) ⟨Nat.le_of_ble_eq_true rfl, Nat.le_of_ble_eq_true rfl⟩ dX1_loseOn_40) hG [3] rfl rfl rfl (fun H locs hG => ?_)
        clear hz_6
        refine lv_istore (lv' := [(6, .int r_5), (5, .int r_3), (0, .ref a0), (1, .int x1), (2, .int x2), (3, .int x3), (4, .int x4)]) hx hb dX1_loseOn_43 hl (by decide) rfl (fun ls hl => ?_)
        refine lv_aload_n hx hb dX1_loseOn_45 rfl (lv_at hl 2 rfl) ?_
        refine r_get X hG in_X1 rfl 0 (by decide) w_161 0 rfl rfl dX1_loseOn_46 ?_
        refine lv_iload hx hb dX1_loseOn_49 (lv_at hl 1 rfl) ?_
        refine lv_bipush (v := (7 : Int32)) hx hb dX1_loseOn_51 (by decide) ?_
        obtain ⟨r_7, hz_8, h⟩ := bd1_some h
        refine aft_i (ws' := (W_X1 a0 a1 a2 a3 cI cJ c_loads_cells c_loads_filled c_order c_done c_start c_end)) (run_V (rest := []) X hG hl.1 (mX5_get l dC dI cI cJ a1 a2 (7 : Int32) (10 : Int32) 70 c_loads_cells c_loads_filled r_3 (7 : Int32) hz_8) gi_V_X1_43 hd_V_yX5_get ⟨rfl, rfl⟩ rfl ⟨Nat.le_of_ble_eq_true rfl, Nat.le_of_ble_eq_true rfl⟩ [1, 2] (by decide) rfl 1 rfl rfl rfl rfl (Nat.le_of_ble_eq_true rfl) ⟨Nat.le_of_ble_eq_true rfl, Nat.le_of_ble_eq_true rfl⟩ dX1_loseOn_53) hG [1, 2] rfl rfl rfl (fun H locs hG => ?_)
        clear hz_8
        refine lv_iload_n hx hb dX1_loseOn_56 rfl (lv_at hl 3 rfl) ?_
        refine lv_icmp_lt (tgt := 79) hx hb dX1_loseOn_57 (by decide) (fun c_9 => ?_) (fun c_9 => ?_)
        · have h := ite_t h c_9
          refine lv_iconst (v := (0 : Int32)) hx hb dX1_loseOn_79 (by decide) ?_
          exact J80 (0 : Int32) x3 x4 r_3 r_5 c_loads_cells _ h KC KX _ _ _ (lv_sub hl [2, 3, 4, 5, 6, 1, 0] rfl) hG
        · have h := ite_f h c_9
          refine lv_aload_n hx hb dX1_loseOn_60 rfl (lv_at hl 2 rfl) ?_
          refine r_get X hG in_X1 rfl 0 (by decide) w_161 0 rfl rfl dX1_loseOn_61 ?_
          refine lv_iload hx hb dX1_loseOn_64 (lv_at hl 0 rfl) ?_
          refine lv_bipush (v := (7 : Int32)) hx hb dX1_loseOn_66 (by decide) ?_
          obtain ⟨r_18, hz_19, h⟩ := bd1_some h
          refine aft_i (ws' := (W_X1 a0 a1 a2 a3 cI cJ c_loads_cells c_loads_filled c_order c_done c_start c_end)) (run_V (rest := []) X hG hl.1 (mX5_get l dC dI cI cJ a1 a2 (7 : Int32) (10 : Int32) 70 c_loads_cells c_loads_filled r_5 (7 : Int32) hz_19) gi_V_X1_43 hd_V_yX5_get ⟨rfl, rfl⟩ rfl ⟨Nat.le_of_ble_eq_true rfl, Nat.le_of_ble_eq_true rfl⟩ [1, 2] (by decide) rfl 1 rfl rfl rfl rfl (Nat.le_of_ble_eq_true rfl) ⟨Nat.le_of_ble_eq_true rfl, Nat.le_of_ble_eq_true rfl⟩ dX1_loseOn_68) hG [1, 2] rfl rfl rfl (fun H locs hG => ?_)
          clear hz_19
          refine lv_iload_n hx hb dX1_loseOn_71 rfl (lv_at hl 3 rfl) ?_
          refine lv_icmp_lt (tgt := 79) hx hb dX1_loseOn_72 (by decide) (fun c_20 => ?_) (fun c_20 => ?_)
          · have h := ite_t h c_20
            refine lv_iconst (v := (0 : Int32)) hx hb dX1_loseOn_79 (by decide) ?_
            exact J80 (0 : Int32) x3 x4 r_3 r_5 c_loads_cells _ h KC KX _ _ _ (lv_sub hl [2, 3, 4, 5, 6, 1, 0] rfl) hG
          · have h := ite_f h c_20
            refine lv_iconst (v := (1 : Int32)) hx hb dX1_loseOn_75 (by decide) ?_
            refine lv_goto (tgt := 80) hx hb dX1_loseOn_76 (by decide) ?_
            exact J80 (1 : Int32) x3 x4 r_3 r_5 c_loads_cells _ h KC KX _ _ _ (lv_sub hl [2, 3, 4, 5, 6, 1, 0] rfl) hG
  have L2 : ∀ (n : Nat) (x3 : Int32) (c_loads_cells : Nat → Int32) (ec_loads_cells : Nat → Int32), DX1_loseOn_L2 x1 x2 c_order c_done n x3 c_loads_cells = some ec_loads_cells → (∀ (ls : Array Slot) (H : Heap) (locs : List Loc), lv_has ls 8 [] → G dC dI A H0 (W_X1 a0 a1 a2 a3 cI cJ ec_loads_cells c_loads_filled c_order c_done c_start c_end) H locs → W p l e (RM 2 51) s m args below meth c H locs 0 0 QQ (F0 m 136 ls [])) → ∀ (ls : Array Slot) (H : Heap) (locs : List Loc), lv_has ls 8 [(0, .ref a0), (1, .int x1), (2, .int x2), (3, .int x3)] → G dC dI A H0 (W_X1 a0 a1 a2 a3 cI cJ c_loads_cells c_loads_filled c_order c_done c_start c_end) H locs → W p l e (RM 2 51) s m args below meth c H locs 0 0 QQ (F0 m 2 ls []) := by
    intro  n
    induction n with
    | zero => intro x3 c_loads_cells ec_loads_cells h; exact it_zero h
    | succ n ih =>
      intro x3 c_loads_cells ec_loads_cells h0 K0 ls H locs hl hG
      obtain ⟨w, h, hi, hr⟩ := it_succ h0
      have h : DX1_loseOn_L2s x1 x2 c_order c_done x3 c_loads_cells = some w := h
      have KC : ∀ (x3 : Int32) (c_loads_cells : Nat → Int32), w = .inl (x3, c_loads_cells) → ∀ (ls : Array Slot) (H : Heap) (locs : List Loc), lv_has ls 8 [(0, .ref a0), (1, .int x1), (2, .int x2), (3, .int x3)] → G dC dI A H0 (W_X1 a0 a1 a2 a3 cI cJ c_loads_cells c_loads_filled c_order c_done c_start c_end) H locs → W p l e (RM 2 51) s m args below meth c H locs 0 0 QQ (F0 m 2 ls []) := fun b0 b1 e ls H locs hl hG => ih b0 b1 ec_loads_cells (hi _ e) K0 ls H locs hl hG
      have KX : ∀ (c_loads_cells : Nat → Int32), w = .inr c_loads_cells → ∀ (ls : Array Slot) (H : Heap) (locs : List Loc), lv_has ls 8 [] → G dC dI A H0 (W_X1 a0 a1 a2 a3 cI cJ c_loads_cells c_loads_filled c_order c_done c_start c_end) H locs → W p l e (RM 2 51) s m args below meth c H locs 0 0 QQ (F0 m 136 ls []) := fun b0 e ls H locs hl hG => by cases hr _ e; exact K0 ls H locs hl hG
      clear h0 hi hr K0 ih
      unfold DX1_loseOn_L2s at h
      refine lv_iload_n hx hb dX1_loseOn_2 rfl (lv_at hl 3 rfl) ?_
      refine lv_aload_n hx hb dX1_loseOn_3 rfl (lv_at hl 0 rfl) ?_
      refine r_get X hG in_X1 rfl 2 (by decide) w_163 0 rfl rfl dX1_loseOn_4 ?_
      refine lv_icmp_ge (tgt := 136) hx hb dX1_loseOn_7 (by decide) (fun c_1 => ?_) (fun c_1 => ?_)
      · have h := ite_t h c_1
        exact KX _ (Option.some.inj h).symm _ _ _ (lv_sub hl [] rfl) hG
      · have h := ite_f h c_1
        refine lv_iload_n hx hb dX1_loseOn_10 rfl (lv_at hl 3 rfl) ?_
        refine lv_iconst (v := (1 : Int32)) hx hb dX1_loseOn_11 (by decide) ?_
        refine lv_iadd hx hb dX1_loseOn_12 ?_
        refine lv_istore (lv' := [(4, .int (x3 + (1 : Int32))), (0, .ref a0), (1, .int x1), (2, .int x2), (3, .int x3)]) hx hb dX1_loseOn_13 hl (by decide) rfl (fun ls hl => ?_)
        obtain ⟨k_loads_cells_21, hz, h⟩ := bd1_some h
        refine L15 x3 FU (x3 + (1 : Int32)) c_loads_cells _ hz (fun ls H locs hl hG => ?_) _ _ _ (lv_sub hl [1, 2, 3, 4, 0] rfl) hG
        clear hz
        refine lv_iinc (v := (x3 + (1 : Int32))) (lv' := [(3, .int (x3 + (1 : Int32))), (0, .ref a0), (1, .int x1), (2, .int x2)]) hx hb dX1_loseOn_130 hl (k := 3) rfl rfl (by decide) rfl (fun ls hl => ?_)
        refine lv_goto (tgt := 2) hx hb dX1_loseOn_133 (by decide) ?_
        exact KC _ _ (Option.some.inj h).symm _ _ _ (lv_sub hl [1, 2, 3, 0] rfl) hG
  have h := hD
  unfold DX1_loseOn at h
  clear hD
  refine lv_iconst (v := (0 : Int32)) hx hb dX1_loseOn_0 (by decide) ?_
  refine lv_istore_n (lv' := [(3, .int (0 : Int32)), (0, .ref a0), (1, .int x1), (2, .int x2)]) hx hb dX1_loseOn_1 rfl hl (by decide) rfl (fun ls hl => ?_)
  obtain ⟨k_loads_cells_22, hz, h⟩ := bd1_some h
  refine L2  FU (0 : Int32) c_loads_cells _ hz (fun ls H locs hl hG => ?_) _ _ _ (lv_sub hl [1, 2, 3, 0] rfl) hG
  clear hz
  cases h
  exact ret _ _ _ _ dX1_loseOn_136 hG
set_option maxRecDepth 100000 in
set_option maxHeartbeats 4000000 in
theorem mX1_meetAll (l : Launch) (dC : Nat → ClassId) (dI : Nat → Nat → Nat) (cI cJ : ClassId) (a0 a1 a2 a3 : Nat) (c_loads_cells : Nat → Int32) (c_loads_filled : Int32) (c_order : Nat → Int32) (c_done : Int32) (c_start : Int32) (c_end : Int32) (x1 : Int32) {n_loads_cells : Nat → Int32} (hD : DX1_meetAll x1 c_loads_cells c_order c_done = some n_loads_cells) : Met l yX1_meetAll (WZ yX1_meetAll cX1_meetAll 4 none) (RM 3 78) (PC dC dI cI cJ [.ref a0, .int x1] (W_X1 a0 a1 a2 a3 cI cJ c_loads_cells c_loads_filled c_order c_done c_start c_end)) (QV dC dI (W_X1 a0 a1 a2 a3 cI cJ c_loads_cells c_loads_filled c_order c_done c_start c_end) (W_X1 a0 a1 a2 a3 cI cJ n_loads_cells c_loads_filled c_order c_done c_start c_end)) 0 0 (FA (W_X1 a0 a1 a2 a3 cI cJ c_loads_cells c_loads_filled c_order c_done c_start c_end)) := by
  refine r_metV (by decide +kernel) (Nat.le_of_ble_eq_true rfl) ?_
  intro p e s m args below meth c A H0 QQ X ret ls hl hG
  have X : Cx p m c cX1_meetAll 4 s args RX1 dC dI cI cJ meth none := X
  have hx := X.1.1
  have hb := X.1.2.1
  have hl : lv_has ls 4 [(0, .ref a0), (1, .int x1)] := hl
  have L2 : ∀ (n : Nat) (x2 : Int32) (c_loads_cells : Nat → Int32) (v : ((Nat → Int32)) ⊕ ((Nat → Int32))), DX1_meetAll_L2 x1 c_order c_done n x2 c_loads_cells = some v → (∀ (ec_loads_cells : Nat → Int32), v = .inl ec_loads_cells → ∀ (ls : Array Slot) (H : Heap) (locs : List Loc), lv_has ls 4 [] → G dC dI A H0 (W_X1 a0 a1 a2 a3 cI cJ ec_loads_cells c_loads_filled c_order c_done c_start c_end) H locs → W p l e (RM 3 78) s m args below meth c H locs 0 0 QQ (F0 m 34 ls [])) → (∀ (r : (Nat → Int32)), v = .inr r → r = n_loads_cells) → ∀ (ls : Array Slot) (H : Heap) (locs : List Loc), lv_has ls 4 [(0, .ref a0), (1, .int x1), (2, .int x2)] → G dC dI A H0 (W_X1 a0 a1 a2 a3 cI cJ c_loads_cells c_loads_filled c_order c_done c_start c_end) H locs → W p l e (RM 3 78) s m args below meth c H locs 0 0 QQ (F0 m 2 ls []) := by
    intro  n
    induction n with
    | zero => intro x2 c_loads_cells v h; exact it_zero h
    | succ n ih =>
      intro x2 c_loads_cells v h0 K0 KR0 ls H locs hl hG
      obtain ⟨w, h, hi, hr⟩ := it_succ h0
      have h : DX1_meetAll_L2s x1 c_order c_done x2 c_loads_cells = some w := h
      have KC : ∀ (x2 : Int32) (c_loads_cells : Nat → Int32), w = .inl (x2, c_loads_cells) → ∀ (ls : Array Slot) (H : Heap) (locs : List Loc), lv_has ls 4 [(0, .ref a0), (1, .int x1), (2, .int x2)] → G dC dI A H0 (W_X1 a0 a1 a2 a3 cI cJ c_loads_cells c_loads_filled c_order c_done c_start c_end) H locs → W p l e (RM 3 78) s m args below meth c H locs 0 0 QQ (F0 m 2 ls []) := fun b0 b1 e ls H locs hl hG => ih b0 b1 v (hi _ e) K0 KR0 ls H locs hl hG
      have KX : ∀ (c_loads_cells : Nat → Int32), w = .inr (.inl c_loads_cells) → ∀ (ls : Array Slot) (H : Heap) (locs : List Loc), lv_has ls 4 [] → G dC dI A H0 (W_X1 a0 a1 a2 a3 cI cJ c_loads_cells c_loads_filled c_order c_done c_start c_end) H locs → W p l e (RM 3 78) s m args below meth c H locs 0 0 QQ (F0 m 34 ls []) := fun b0 e ls H locs hl hG => K0 b0 (hr _ e) ls H locs hl hG
      have KR : ∀ (r : (Nat → Int32)), w = .inr (.inr r) → r = n_loads_cells := fun r e => KR0 r (hr _ e)
      clear h0 hi hr K0 ih KR0
      unfold DX1_meetAll_L2s at h
      refine lv_iload_n hx hb dX1_meetAll_2 rfl (lv_at hl 2 rfl) ?_
      refine lv_bipush (v := (7 : Int32)) hx hb dX1_meetAll_3 (by decide) ?_
      refine lv_icmp_ge (tgt := 34) hx hb dX1_meetAll_5 (by decide) (fun c_1 => ?_) (fun c_1 => ?_)
      · have h := ite_t h c_1
        exact KX _ (Option.some.inj h).symm _ _ _ (lv_sub hl [] rfl) hG
      · have h := ite_f h c_1
        refine lv_aload_n hx hb dX1_meetAll_8 rfl (lv_at hl 0 rfl) ?_
        refine lv_iload_n hx hb dX1_meetAll_9 rfl (lv_at hl 1 rfl) ?_
        obtain ⟨r_2, hz_3, h⟩ := bd1_some h
        refine aft_i (ws' := (W_X1 a0 a1 a2 a3 cI cJ c_loads_cells c_loads_filled c_order c_done c_start c_end)) (run_V (rest := []) X hG hl.1 (mX1_nextMeeting l dC dI cI cJ a0 a1 a2 a3 c_loads_cells c_loads_filled c_order c_done c_start c_end x1 hz_3) gi_V_X1_88 hd_V_yX1_nextMeeting ⟨rfl, rfl⟩ rfl ⟨Nat.le_of_ble_eq_true rfl, Nat.le_of_ble_eq_true rfl⟩ [0, 1, 2, 3] (by decide) rfl 0 rfl rfl rfl rfl (Nat.le_of_ble_eq_true rfl) ⟨Nat.le_of_ble_eq_true rfl, Nat.le_of_ble_eq_true rfl⟩ dX1_meetAll_10) hG [0, 1, 2, 3] rfl rfl rfl (fun H locs hG => ?_)
        clear hz_3
        refine lv_istore_n (lv' := [(3, .int r_2), (0, .ref a0), (1, .int x1), (2, .int x2)]) hx hb dX1_meetAll_13 rfl hl (by decide) rfl (fun ls hl => ?_)
        refine lv_iload_n hx hb dX1_meetAll_14 rfl (lv_at hl 0 rfl) ?_
        refine lv_sipush (v := (1000 : Int32)) hx hb dX1_meetAll_15 (by decide) ?_
        refine lv_icmp_ne (tgt := 22) hx hb dX1_meetAll_18 (by decide) (fun c_4 => ?_) (fun c_4 => ?_)
        · have h := ite_f h c_4
          refine lv_aload_n hx hb dX1_meetAll_22 rfl (lv_at hl 1 rfl) ?_
          refine lv_iload_n hx hb dX1_meetAll_23 rfl (lv_at hl 0 rfl) ?_
          refine lv_iload_n hx hb dX1_meetAll_24 rfl (lv_at hl 2 rfl) ?_
          obtain ⟨k_loads_cells_5, hz_6, h⟩ := bd1_some h
          refine aft_v (ws' := (W_X1 a0 a1 a2 a3 cI cJ k_loads_cells_5 c_loads_filled c_order c_done c_start c_end)) (run_V (rest := []) X hG hl.1 (mX1_loseOn l dC dI cI cJ a0 a1 a2 a3 c_loads_cells c_loads_filled c_order c_done c_start c_end r_2 x1 hz_6) gi_V_X1_91 hd_V_yX1_loseOn ⟨rfl, rfl⟩ rfl ⟨Nat.le_of_ble_eq_true rfl, Nat.le_of_ble_eq_true rfl⟩ [0, 1, 2, 3] (by decide) rfl 0 rfl rfl rfl rfl (Nat.le_of_ble_eq_true rfl) ⟨Nat.le_of_ble_eq_true rfl, Nat.le_of_ble_eq_true rfl⟩ dX1_meetAll_25) hG [0, 1, 2, 3] rfl rfl rfl (fun H locs hG => ?_)
          clear hz_6
          refine lv_iinc (v := (x2 + (1 : Int32))) (lv' := [(2, .int (x2 + (1 : Int32))), (3, .int r_2), (0, .ref a0), (1, .int x1)]) hx hb dX1_meetAll_28 hl (k := 3) rfl rfl (by decide) rfl (fun ls hl => ?_)
          refine lv_goto (tgt := 2) hx hb dX1_meetAll_31 (by decide) ?_
          exact KC _ _ (Option.some.inj h).symm _ _ _ (lv_sub hl [2, 3, 0] rfl) hG
        · have h := ite_t h c_4
          cases KR _ (Option.some.inj h).symm
          exact ret _ _ _ _ dX1_meetAll_21 hG
  have h := hD
  unfold DX1_meetAll at h
  clear hD
  refine lv_iconst (v := (0 : Int32)) hx hb dX1_meetAll_0 (by decide) ?_
  refine lv_istore_n (lv' := [(2, .int (0 : Int32)), (0, .ref a0), (1, .int x1)]) hx hb dX1_meetAll_1 rfl hl (by decide) rfl (fun ls hl => ?_)
  rcases el1_some h with ⟨k_loads_cells_7, hz, h⟩ | ⟨r, hz, h⟩
  · refine L2  FU (0 : Int32) c_loads_cells _ hz ?_ (fun r e => by cases e) _ _ _ (lv_sub hl [1, 2, 0] rfl) hG
    rintro _ ⟨⟩ ls H locs hl hG
    clear hz
    cases h
    exact ret _ _ _ _ dX1_meetAll_34 hG
  · refine L2  FU (0 : Int32) c_loads_cells _ hz (fun _ e => by cases e) (fun r2 e => ?_) _ _ _ (lv_sub hl [1, 2, 0] rfl) hG
    cases e; cases h; rfl
set_option maxRecDepth 100000 in
set_option maxHeartbeats 4000000 in
theorem mX8_apart (l : Launch) (dC : Nat → ClassId) (dI : Nat → Nat → Nat) (cI cJ : ClassId) (x0 : Int32) (x1 : Int32) {res : Int32} (hD : DX8_apart x0 x1 = some res) : Met l yX8_apart (WZ yX8_apart cX8_apart 3 (some .int)) (RM 1 22) (PC dC dI cI cJ [.int x0, .int x1] []) (QI dC dI [] [] res) 0 0 (FA []) := by
  refine r_metI (by decide +kernel) (Nat.le_of_ble_eq_true rfl) ?_
  intro p e s m args below meth c A H0 QQ X ret ls hl hG
  have X : Cx p m c cX8_apart 3 s args RX8 dC dI cI cJ meth (some .int) := X
  have hx := X.1.1
  have hb := X.1.2.1
  have hl : lv_has ls 3 [(0, .int x0), (1, .int x1)] := hl
  have h := hD
  unfold DX8_apart at h
  clear hD
  refine lv_iload_n hx hb dX8_apart_0 rfl (lv_at hl 0 rfl) ?_
  refine lv_iload_n hx hb dX8_apart_1 rfl (lv_at hl 1 rfl) ?_
  refine lv_isub hx hb dX8_apart_2 ?_
  refine lv_bipush (v := (24 : Int32)) hx hb dX8_apart_3 (by decide) ?_
  obtain ⟨r_1, hz_2, h⟩ := bd1_some h
  refine aft_i (ws' := []) (run_S (rest := []) X hG hl.1 (mJ9_floorMod_7cf53 l dC dI cI cJ (x0 - x1) (24 : Int32) hz_2) gi_S_X8_177 hd_S_yJ9_floorMod_7cf53 ⟨rfl, rfl⟩ rfl ⟨Nat.le_of_ble_eq_true rfl, Nat.le_of_ble_eq_true rfl⟩ [] (by decide) rfl rfl (Nat.le_of_ble_eq_true rfl) ⟨Nat.le_of_ble_eq_true rfl, Nat.le_of_ble_eq_true rfl⟩ dX8_apart_5) hG [] rfl rfl rfl (fun H locs hG => ?_)
  clear hz_2
  refine lv_istore_n (lv' := [(2, .int r_1), (0, .int x0), (1, .int x1)]) hx hb dX8_apart_8 rfl hl (by decide) rfl (fun ls hl => ?_)
  refine lv_iload_n hx hb dX8_apart_9 rfl (lv_at hl 0 rfl) ?_
  refine lv_bipush (v := (24 : Int32)) hx hb dX8_apart_10 (by decide) ?_
  refine lv_iload_n hx hb dX8_apart_12 rfl (lv_at hl 0 rfl) ?_
  refine lv_isub hx hb dX8_apart_13 ?_
  refine va_mmin hx hb (X.1.2.2.1.trans hl.1.symm) X.1.2.2.2.1 (X.1.2.2.2.2 _ w_436) (X.1.2.2.2.2 _ w_349) (X.1.2.2.2.2 _ w_46) (X.1.2.2.2.2 _ w_350) (Nat.le_of_ble_eq_true rfl) (Nat.le_of_ble_eq_true rfl) (Nat.le_of_ble_eq_true rfl) (Nat.le_of_ble_eq_true rfl) dX8_apart_14 ?_
  cases h
  exact ret _ _ _ _ dX8_apart_17 hG
set_option maxRecDepth 100000 in
set_option maxHeartbeats 4000000 in
theorem mX3_catches (l : Launch) (dC : Nat → ClassId) (dI : Nat → Nat → Nat) (cI cJ : ClassId) (a0 a1 a2 a3 a4 : Nat) (c_stand : Int32) (c_home : Int32) (c_priceStart : Int32) (c_priceStep : Int32) (c_thrown_cells : Nat → Int32) (c_thrown_filled : Int32) (c_nets_cells : Nat → Int32) (c_nets_filled : Int32) (x1 : Int32) (x2 : Int32) {res : Int32} (hD : DX3_catches x1 x2 c_nets_cells c_nets_filled = some res) : Met l yX3_catches (WZ yX3_catches cX3_catches 5 (some .boolean)) (RM 2 44) (PC dC dI cI cJ [.ref a0, .int x1, .int x2] (W_X3 a0 a1 a2 a3 a4 cI cJ c_stand c_home c_priceStart c_priceStep c_thrown_cells c_thrown_filled c_nets_cells c_nets_filled)) (QI dC dI (W_X3 a0 a1 a2 a3 a4 cI cJ c_stand c_home c_priceStart c_priceStep c_thrown_cells c_thrown_filled c_nets_cells c_nets_filled) (W_X3 a0 a1 a2 a3 a4 cI cJ c_stand c_home c_priceStart c_priceStep c_thrown_cells c_thrown_filled c_nets_cells c_nets_filled) res) 0 0 (FA (W_X3 a0 a1 a2 a3 a4 cI cJ c_stand c_home c_priceStart c_priceStep c_thrown_cells c_thrown_filled c_nets_cells c_nets_filled)) := by
  refine r_metZ (by decide +kernel) (Nat.le_of_ble_eq_true rfl) ?_
  intro p e s m args below meth c A H0 QQ X ret ls hl hG
  have X : Cx p m c cX3_catches 5 s args RX3 dC dI cI cJ meth (some .boolean) := X
  have hx := X.1.1
  have hb := X.1.2.1
  have hl : lv_has ls 5 [(0, .ref a0), (1, .int x1), (2, .int x2)] := hl
  have J44 : ∀ (y0 : Int32) (x3 : Int32), ∀ (w : (Int32) ⊕ ((Unit) ⊕ (Int32))), DX3_catches_J44 x1 c_nets_cells y0 x3 = some w → (∀ (x3 : Int32), w = .inl x3 → ∀ (ls : Array Slot) (H : Heap) (locs : List Loc), lv_has ls 5 [(0, .ref a0), (1, .int x1), (2, .int x2), (3, .int x3)] → G dC dI A H0 (W_X3 a0 a1 a2 a3 a4 cI cJ c_stand c_home c_priceStart c_priceStep c_thrown_cells c_thrown_filled c_nets_cells c_nets_filled) H locs → W p l e (RM 2 44) s m args below meth c H locs 0 0 QQ (F0 m 2 ls [])) → (w = .inr (.inl ()) → ∀ (ls : Array Slot) (H : Heap) (locs : List Loc), lv_has ls 5 [] → G dC dI A H0 (W_X3 a0 a1 a2 a3 a4 cI cJ c_stand c_home c_priceStart c_priceStep c_thrown_cells c_thrown_filled c_nets_cells c_nets_filled) H locs → W p l e (RM 2 44) s m args below meth c H locs 0 0 QQ (F0 m 84 ls [])) → (∀ (r : Int32), w = .inr (.inr r) → r = res) → ∀ (ls : Array Slot) (H : Heap) (locs : List Loc), lv_has ls 5 [(0, .ref a0), (1, .int x1), (2, .int x2), (3, .int x3)] → G dC dI A H0 (W_X3 a0 a1 a2 a3 a4 cI cJ c_stand c_home c_priceStart c_priceStep c_thrown_cells c_thrown_filled c_nets_cells c_nets_filled) H locs → W p l e (RM 2 44) s m args below meth c H locs 0 0 QQ (F0 m 44 ls [.int y0]) := by
    intro y0 x3 w h KC KX KR ls H locs hl hG
    unfold DX3_catches_J44 at h
    refine lv_istore (lv' := [(4, .int y0), (0, .ref a0), (1, .int x1), (2, .int x2), (3, .int x3)]) hx hb dX3_catches_44 hl (by decide) rfl (fun ls hl => ?_)
    refine lv_iload hx hb dX3_catches_46 (lv_at hl 0 rfl) ?_
    refine lv_if_eq (tgt := 78) hx hb dX3_catches_48 (by decide) (fun c_7 => ?_) (fun c_7 => ?_)
    · have h := ite_t h c_7
      refine lv_iinc (v := (x3 + (1 : Int32))) (lv' := [(3, .int (x3 + (1 : Int32))), (4, .int y0), (0, .ref a0), (1, .int x1), (2, .int x2)]) hx hb dX3_catches_78 hl (k := 4) rfl rfl (by decide) rfl (fun ls hl => ?_)
      refine lv_goto (tgt := 2) hx hb dX3_catches_81 (by decide) ?_
      exact KC _ (Option.some.inj h).symm _ _ _ (lv_sub hl [2, 3, 4, 0] rfl) hG
    · have h := ite_f h c_7
      refine lv_iload_n hx hb dX3_catches_51 rfl (lv_at hl 2 rfl) ?_
      refine lv_aload_n hx hb dX3_catches_52 rfl (lv_at hl 1 rfl) ?_
      refine r_get X hG in_X3 rfl 5 (by decide) w_138 0 rfl rfl dX3_catches_53 ?_
      refine lv_iload_n hx hb dX3_catches_56 rfl (lv_at hl 4 rfl) ?_
      refine lv_iconst (v := (0 : Int32)) hx hb dX3_catches_57 (by decide) ?_
      obtain ⟨r_8, hz_9, h⟩ := bd1_some h
      refine aft_i (ws' := (W_X3 a0 a1 a2 a3 a4 cI cJ c_stand c_home c_priceStart c_priceStep c_thrown_cells c_thrown_filled c_nets_cells c_nets_filled)) (run_V (rest := [.int x1]) X hG hl.1 (mX5_get l dC dI cI cJ a3 a4 (5 : Int32) (4 : Int32) 20 c_nets_cells c_nets_filled x3 (0 : Int32) hz_9) gi_V_X3_71 hd_V_yX5_get ⟨rfl, rfl⟩ rfl ⟨Nat.le_of_ble_eq_true rfl, Nat.le_of_ble_eq_true rfl⟩ [3, 4] (by decide) rfl 3 rfl rfl rfl rfl (Nat.le_of_ble_eq_true rfl) ⟨Nat.le_of_ble_eq_true rfl, Nat.le_of_ble_eq_true rfl⟩ dX3_catches_58) hG [3, 4] rfl rfl rfl (fun H locs hG => ?_)
      clear hz_9
      obtain ⟨r_10, hz_11, h⟩ := bd1_some h
      refine aft_i (ws' := (W_X3 a0 a1 a2 a3 a4 cI cJ c_stand c_home c_priceStart c_priceStep c_thrown_cells c_thrown_filled c_nets_cells c_nets_filled)) (run_SN (rest := []) X hG hl.1 (mX8_apart l dC dI cI cJ x1 r_8 hz_11) gi_N_yX8_apart w_432 w_433 w_41 hd_S_yX8_apart ⟨rfl, rfl⟩ rfl ⟨Nat.le_of_ble_eq_true rfl, Nat.le_of_ble_eq_true rfl⟩ [] (by decide) rfl rfl (Nat.le_of_ble_eq_true rfl) ⟨Nat.le_of_ble_eq_true rfl, Nat.le_of_ble_eq_true rfl⟩ dX3_catches_61) hG [] rfl rfl rfl (fun H locs hG => ?_)
      clear hz_11
      refine lv_aload_n hx hb dX3_catches_64 rfl (lv_at hl 1 rfl) ?_
      refine r_get X hG in_X3 rfl 5 (by decide) w_138 0 rfl rfl dX3_catches_65 ?_
      refine lv_iload_n hx hb dX3_catches_68 rfl (lv_at hl 4 rfl) ?_
      refine lv_iconst (v := (1 : Int32)) hx hb dX3_catches_69 (by decide) ?_
      obtain ⟨r_12, hz_13, h⟩ := bd1_some h
      refine aft_i (ws' := (W_X3 a0 a1 a2 a3 a4 cI cJ c_stand c_home c_priceStart c_priceStep c_thrown_cells c_thrown_filled c_nets_cells c_nets_filled)) (run_V (rest := [.int r_10]) X hG hl.1 (mX5_get l dC dI cI cJ a3 a4 (5 : Int32) (4 : Int32) 20 c_nets_cells c_nets_filled x3 (1 : Int32) hz_13) gi_V_X3_71 hd_V_yX5_get ⟨rfl, rfl⟩ rfl ⟨Nat.le_of_ble_eq_true rfl, Nat.le_of_ble_eq_true rfl⟩ [3, 4] (by decide) rfl 3 rfl rfl rfl rfl (Nat.le_of_ble_eq_true rfl) ⟨Nat.le_of_ble_eq_true rfl, Nat.le_of_ble_eq_true rfl⟩ dX3_catches_70) hG [3, 4] rfl rfl rfl (fun H locs hG => ?_)
      clear hz_13
      refine lv_icmp_gt (tgt := 78) hx hb dX3_catches_73 (by decide) (fun c_14 => ?_) (fun c_14 => ?_)
      · have h := ite_t h c_14
        refine lv_iinc (v := (x3 + (1 : Int32))) (lv' := [(3, .int (x3 + (1 : Int32))), (4, .int y0), (0, .ref a0), (1, .int x1), (2, .int x2)]) hx hb dX3_catches_78 hl (k := 4) rfl rfl (by decide) rfl (fun ls hl => ?_)
        refine lv_goto (tgt := 2) hx hb dX3_catches_81 (by decide) ?_
        exact KC _ (Option.some.inj h).symm _ _ _ (lv_sub hl [2, 3, 4, 0] rfl) hG
      · have h := ite_f h c_14
        refine lv_iconst (v := (1 : Int32)) hx hb dX3_catches_76 (by decide) ?_
        cases KR _ (Option.some.inj h).symm
        exact ret _ _ _ _ dX3_catches_77 (by decide) hG
  have L2 : ∀ (n : Nat) (x3 : Int32) (v : (Unit) ⊕ (Int32)), DX3_catches_L2 x1 x2 c_nets_cells c_nets_filled n x3 = some v → (v = .inl () → ∀ (ls : Array Slot) (H : Heap) (locs : List Loc), lv_has ls 5 [] → G dC dI A H0 (W_X3 a0 a1 a2 a3 a4 cI cJ c_stand c_home c_priceStart c_priceStep c_thrown_cells c_thrown_filled c_nets_cells c_nets_filled) H locs → W p l e (RM 2 44) s m args below meth c H locs 0 0 QQ (F0 m 84 ls [])) → (∀ (r : Int32), v = .inr r → r = res) → ∀ (ls : Array Slot) (H : Heap) (locs : List Loc), lv_has ls 5 [(0, .ref a0), (1, .int x1), (2, .int x2), (3, .int x3)] → G dC dI A H0 (W_X3 a0 a1 a2 a3 a4 cI cJ c_stand c_home c_priceStart c_priceStep c_thrown_cells c_thrown_filled c_nets_cells c_nets_filled) H locs → W p l e (RM 2 44) s m args below meth c H locs 0 0 QQ (F0 m 2 ls []) := by
    intro  n
    induction n with
    | zero => intro x3 v h; exact it_zero h
    | succ n ih =>
      intro x3 v h0 K0 KR0 ls H locs hl hG
      obtain ⟨w, h, hi, hr⟩ := it_succ h0
      have h : DX3_catches_L2s x1 x2 c_nets_cells c_nets_filled x3 = some w := h
      have KC : ∀ (x3 : Int32), w = .inl x3 → ∀ (ls : Array Slot) (H : Heap) (locs : List Loc), lv_has ls 5 [(0, .ref a0), (1, .int x1), (2, .int x2), (3, .int x3)] → G dC dI A H0 (W_X3 a0 a1 a2 a3 a4 cI cJ c_stand c_home c_priceStart c_priceStep c_thrown_cells c_thrown_filled c_nets_cells c_nets_filled) H locs → W p l e (RM 2 44) s m args below meth c H locs 0 0 QQ (F0 m 2 ls []) := fun b0 e ls H locs hl hG => ih b0 v (hi _ e) K0 KR0 ls H locs hl hG
      have KX : w = .inr (.inl ()) → ∀ (ls : Array Slot) (H : Heap) (locs : List Loc), lv_has ls 5 [] → G dC dI A H0 (W_X3 a0 a1 a2 a3 a4 cI cJ c_stand c_home c_priceStart c_priceStep c_thrown_cells c_thrown_filled c_nets_cells c_nets_filled) H locs → W p l e (RM 2 44) s m args below meth c H locs 0 0 QQ (F0 m 84 ls []) := fun  e ls H locs hl hG => K0  (hr _ e) ls H locs hl hG
      have KR : ∀ (r : Int32), w = .inr (.inr r) → r = res := fun r e => KR0 r (hr _ e)
      clear h0 hi hr K0 ih KR0
      unfold DX3_catches_L2s at h
      refine lv_iload_n hx hb dX3_catches_2 rfl (lv_at hl 3 rfl) ?_
      refine lv_aload_n hx hb dX3_catches_3 rfl (lv_at hl 0 rfl) ?_
      refine r_get X hG in_X3 rfl 5 (by decide) w_138 0 rfl rfl dX3_catches_4 ?_
      obtain ⟨r_1, hz_2, h⟩ := bd1_some h
      refine aft_i (ws' := (W_X3 a0 a1 a2 a3 a4 cI cJ c_stand c_home c_priceStart c_priceStep c_thrown_cells c_thrown_filled c_nets_cells c_nets_filled)) (run_V (rest := [.int x3]) X hG hl.1 (mX5_rows l dC dI cI cJ a3 a4 (5 : Int32) (4 : Int32) 20 c_nets_cells c_nets_filled hz_2) gi_V_X3_67 hd_V_yX5_rows ⟨rfl, rfl⟩ rfl ⟨Nat.le_of_ble_eq_true rfl, Nat.le_of_ble_eq_true rfl⟩ [3, 4] (by decide) rfl 3 rfl rfl rfl rfl (Nat.le_of_ble_eq_true rfl) ⟨Nat.le_of_ble_eq_true rfl, Nat.le_of_ble_eq_true rfl⟩ dX3_catches_7) hG [3, 4] rfl rfl rfl (fun H locs hG => ?_)
      clear hz_2
      refine lv_icmp_ge (tgt := 84) hx hb dX3_catches_10 (by decide) (fun c_3 => ?_) (fun c_3 => ?_)
      · have h := ite_t h c_3
        exact KX  (Option.some.inj h).symm _ _ _ (lv_sub hl [] rfl) hG
      · have h := ite_f h c_3
        refine lv_iload_n hx hb dX3_catches_13 rfl (lv_at hl 2 rfl) ?_
        refine lv_aload_n hx hb dX3_catches_14 rfl (lv_at hl 0 rfl) ?_
        refine r_get X hG in_X3 rfl 5 (by decide) w_138 0 rfl rfl dX3_catches_15 ?_
        refine lv_iload_n hx hb dX3_catches_18 rfl (lv_at hl 3 rfl) ?_
        refine lv_iconst (v := (2 : Int32)) hx hb dX3_catches_19 (by decide) ?_
        obtain ⟨r_4, hz_5, h⟩ := bd1_some h
        refine aft_i (ws' := (W_X3 a0 a1 a2 a3 a4 cI cJ c_stand c_home c_priceStart c_priceStep c_thrown_cells c_thrown_filled c_nets_cells c_nets_filled)) (run_V (rest := [.int x2]) X hG hl.1 (mX5_get l dC dI cI cJ a3 a4 (5 : Int32) (4 : Int32) 20 c_nets_cells c_nets_filled x3 (2 : Int32) hz_5) gi_V_X3_71 hd_V_yX5_get ⟨rfl, rfl⟩ rfl ⟨Nat.le_of_ble_eq_true rfl, Nat.le_of_ble_eq_true rfl⟩ [3, 4] (by decide) rfl 3 rfl rfl rfl rfl (Nat.le_of_ble_eq_true rfl) ⟨Nat.le_of_ble_eq_true rfl, Nat.le_of_ble_eq_true rfl⟩ dX3_catches_20) hG [3, 4] rfl rfl rfl (fun H locs hG => ?_)
        clear hz_5
        refine lv_icmp_lt (tgt := 43) hx hb dX3_catches_23 (by decide) (fun c_6 => ?_) (fun c_6 => ?_)
        · have h := ite_t h c_6
          refine lv_iconst (v := (0 : Int32)) hx hb dX3_catches_43 (by decide) ?_
          exact J44 (0 : Int32) x3 _ h KC KX KR _ _ _ (lv_sub hl [0, 1, 2, 3] rfl) hG
        · have h := ite_f h c_6
          refine lv_iload_n hx hb dX3_catches_26 rfl (lv_at hl 2 rfl) ?_
          refine lv_aload_n hx hb dX3_catches_27 rfl (lv_at hl 0 rfl) ?_
          refine r_get X hG in_X3 rfl 5 (by decide) w_138 0 rfl rfl dX3_catches_28 ?_
          refine lv_iload_n hx hb dX3_catches_31 rfl (lv_at hl 3 rfl) ?_
          refine lv_iconst (v := (3 : Int32)) hx hb dX3_catches_32 (by decide) ?_
          obtain ⟨r_15, hz_16, h⟩ := bd1_some h
          refine aft_i (ws' := (W_X3 a0 a1 a2 a3 a4 cI cJ c_stand c_home c_priceStart c_priceStep c_thrown_cells c_thrown_filled c_nets_cells c_nets_filled)) (run_V (rest := [.int x2]) X hG hl.1 (mX5_get l dC dI cI cJ a3 a4 (5 : Int32) (4 : Int32) 20 c_nets_cells c_nets_filled x3 (3 : Int32) hz_16) gi_V_X3_71 hd_V_yX5_get ⟨rfl, rfl⟩ rfl ⟨Nat.le_of_ble_eq_true rfl, Nat.le_of_ble_eq_true rfl⟩ [3, 4] (by decide) rfl 3 rfl rfl rfl rfl (Nat.le_of_ble_eq_true rfl) ⟨Nat.le_of_ble_eq_true rfl, Nat.le_of_ble_eq_true rfl⟩ dX3_catches_33) hG [3, 4] rfl rfl rfl (fun H locs hG => ?_)
          clear hz_16
          refine lv_icmp_gt (tgt := 43) hx hb dX3_catches_36 (by decide) (fun c_17 => ?_) (fun c_17 => ?_)
          · have h := ite_t h c_17
            refine lv_iconst (v := (0 : Int32)) hx hb dX3_catches_43 (by decide) ?_
            exact J44 (0 : Int32) x3 _ h KC KX KR _ _ _ (lv_sub hl [0, 1, 2, 3] rfl) hG
          · have h := ite_f h c_17
            refine lv_iconst (v := (1 : Int32)) hx hb dX3_catches_39 (by decide) ?_
            refine lv_goto (tgt := 44) hx hb dX3_catches_40 (by decide) ?_
            exact J44 (1 : Int32) x3 _ h KC KX KR _ _ _ (lv_sub hl [0, 1, 2, 3] rfl) hG
  have h := hD
  unfold DX3_catches at h
  clear hD
  refine lv_iconst (v := (0 : Int32)) hx hb dX3_catches_0 (by decide) ?_
  refine lv_istore_n (lv' := [(3, .int (0 : Int32)), (0, .ref a0), (1, .int x1), (2, .int x2)]) hx hb dX3_catches_1 rfl hl (by decide) rfl (fun ls hl => ?_)
  rcases el0_some h with ⟨hz, h⟩ | ⟨r, hz, h⟩
  · refine L2  FU (0 : Int32) _ hz ?_ (fun r e => by cases e) _ _ _ (lv_sub hl [1, 2, 3, 0] rfl) hG
    rintro  ⟨⟩ ls H locs hl hG
    clear hz
    refine lv_iconst (v := (0 : Int32)) hx hb dX3_catches_84 (by decide) ?_
    cases h
    exact ret _ _ _ _ dX3_catches_85 (by decide) hG
  · refine L2  FU (0 : Int32) _ hz (fun  e => by cases e) (fun r2 e => ?_) _ _ _ (lv_sub hl [1, 2, 3, 0] rfl) hG
    cases e; cases h; rfl
set_option maxRecDepth 100000 in
set_option maxHeartbeats 4000000 in
theorem mX3_priceOn (l : Launch) (dC : Nat → ClassId) (dI : Nat → Nat → Nat) (cI cJ : ClassId) (a0 a1 a2 a3 a4 : Nat) (c_stand : Int32) (c_home : Int32) (c_priceStart : Int32) (c_priceStep : Int32) (c_thrown_cells : Nat → Int32) (c_thrown_filled : Int32) (c_nets_cells : Nat → Int32) (c_nets_filled : Int32) (x1 : Int32) {res : Int32} (hD : DX3_priceOn x1 c_priceStart c_priceStep = some res) : Met l yX3_priceOn (WZ yX3_priceOn cX3_priceOn 2 (some .int)) (RM 0 0) (PC dC dI cI cJ [.ref a0, .int x1] (W_X3 a0 a1 a2 a3 a4 cI cJ c_stand c_home c_priceStart c_priceStep c_thrown_cells c_thrown_filled c_nets_cells c_nets_filled)) (QI dC dI (W_X3 a0 a1 a2 a3 a4 cI cJ c_stand c_home c_priceStart c_priceStep c_thrown_cells c_thrown_filled c_nets_cells c_nets_filled) (W_X3 a0 a1 a2 a3 a4 cI cJ c_stand c_home c_priceStart c_priceStep c_thrown_cells c_thrown_filled c_nets_cells c_nets_filled) res) 0 0 (FA (W_X3 a0 a1 a2 a3 a4 cI cJ c_stand c_home c_priceStart c_priceStep c_thrown_cells c_thrown_filled c_nets_cells c_nets_filled)) := by
  refine r_metI (by decide +kernel) (Nat.le_of_ble_eq_true rfl) ?_
  intro p e s m args below meth c A H0 QQ X ret ls hl hG
  have X : Cx p m c cX3_priceOn 2 s args RX3 dC dI cI cJ meth (some .int) := X
  have hx := X.1.1
  have hb := X.1.2.1
  have hl : lv_has ls 2 [(0, .ref a0), (1, .int x1)] := hl
  have h := hD
  unfold DX3_priceOn at h
  clear hD
  refine lv_aload_n hx hb dX3_priceOn_0 rfl (lv_at hl 0 rfl) ?_
  refine r_get X hG in_X3 rfl 2 (by decide) w_133 0 rfl rfl dX3_priceOn_1 ?_
  refine lv_aload_n hx hb dX3_priceOn_4 rfl (lv_at hl 0 rfl) ?_
  refine r_get X hG in_X3 rfl 3 (by decide) w_134 0 rfl rfl dX3_priceOn_5 ?_
  refine lv_iload_n hx hb dX3_priceOn_8 rfl (lv_at hl 1 rfl) ?_
  refine lv_imul hx hb dX3_priceOn_9 ?_
  refine lv_iadd hx hb dX3_priceOn_10 ?_
  refine lv_bipush (v := (50 : Int32)) hx hb dX3_priceOn_11 (by decide) ?_
  refine lv_irem hx hb dX3_priceOn_13 (by decide) ?_
  refine lv_iconst (v := (1 : Int32)) hx hb dX3_priceOn_14 (by decide) ?_
  refine lv_iadd hx hb dX3_priceOn_15 ?_
  cases h
  exact ret _ _ _ _ dX3_priceOn_16 hG
set_option maxRecDepth 100000 in
set_option maxHeartbeats 4000000 in
theorem mX1_come (l : Launch) (dC : Nat → ClassId) (dI : Nat → Nat → Nat) (cI cJ : ClassId) (a0 a1 a2 a3 a4 a5 a6 a7 a8 : Nat) (c_loads_cells : Nat → Int32) (c_loads_filled : Int32) (c_order : Nat → Int32) (c_done : Int32) (c_start : Int32) (c_end : Int32) (o_stand : Int32) (o_home : Int32) (o_priceStart : Int32) (o_priceStep : Int32) (o_thrown_cells : Nat → Int32) (o_thrown_filled : Int32) (o_nets_cells : Nat → Int32) (o_nets_filled : Int32) (x1 : Int32) {n_loads_cells : Nat → Int32} (hD : DX1_come x1 c_loads_cells o_home o_priceStart o_priceStep o_nets_cells o_nets_filled = some n_loads_cells) : Met l yX1_come (WZ yX1_come cX1_come 9 none) (RM 3 68) (PC dC dI cI cJ [.ref a0, .int x1, .ref a4] (W_X1_X3 a0 a1 a2 a3 a4 a5 a6 a7 a8 cI cJ c_loads_cells c_loads_filled c_order c_done c_start c_end o_stand o_home o_priceStart o_priceStep o_thrown_cells o_thrown_filled o_nets_cells o_nets_filled)) (QV dC dI (W_X1_X3 a0 a1 a2 a3 a4 a5 a6 a7 a8 cI cJ c_loads_cells c_loads_filled c_order c_done c_start c_end o_stand o_home o_priceStart o_priceStep o_thrown_cells o_thrown_filled o_nets_cells o_nets_filled) (W_X1_X3 a0 a1 a2 a3 a4 a5 a6 a7 a8 cI cJ n_loads_cells c_loads_filled c_order c_done c_start c_end o_stand o_home o_priceStart o_priceStep o_thrown_cells o_thrown_filled o_nets_cells o_nets_filled)) 0 0 (FA (W_X1_X3 a0 a1 a2 a3 a4 a5 a6 a7 a8 cI cJ c_loads_cells c_loads_filled c_order c_done c_start c_end o_stand o_home o_priceStart o_priceStep o_thrown_cells o_thrown_filled o_nets_cells o_nets_filled)) := by
  refine r_metV (by decide +kernel) (Nat.le_of_ble_eq_true rfl) ?_
  intro p e s m args below meth c A H0 QQ X ret ls hl hG
  have X : Cx p m c cX1_come 9 s args RX1 dC dI cI cJ meth none := X
  have hx := X.1.1
  have hb := X.1.2.1
  have hl : lv_has ls 9 [(0, .ref a0), (1, .int x1), (2, .ref a4)] := hl
  have J131 : ∀ (y0 : Int32) (y1 : Int32) (y2 : Int32) (x7 : Int32) (x8 : Int32) (c_loads_cells : Nat → Int32), DX1_come_J131 x1 c_loads_cells o_priceStart o_priceStep y0 y1 y2 x7 x8 = some n_loads_cells → ∀ (ls : Array Slot) (H : Heap) (locs : List Loc), lv_has ls 9 [(0, .ref a0), (1, .int x1), (2, .ref a4), (7, .int x7), (8, .int x8)] → G dC dI A H0 (W_X1_X3 a0 a1 a2 a3 a4 a5 a6 a7 a8 cI cJ c_loads_cells c_loads_filled c_order c_done c_start c_end o_stand o_home o_priceStart o_priceStep o_thrown_cells o_thrown_filled o_nets_cells o_nets_filled) H locs → W p l e (RM 3 68) s m args below meth c H locs 0 0 QQ (F0 m 131 ls [.int y0, .int y1, .int y2, .ref a1]) := by
    intro y0 y1 y2 x7 x8 c_loads_cells h  ls H locs hl hG
    unfold DX1_come_J131 at h
    obtain ⟨k_loads_cells_18, hz_19, h⟩ := bd1_some h
    refine aft_v (ws' := (W_X1_X3 a0 a1 a2 a3 a4 a5 a6 a7 a8 cI cJ k_loads_cells_18 c_loads_filled c_order c_done c_start c_end o_stand o_home o_priceStart o_priceStep o_thrown_cells o_thrown_filled o_nets_cells o_nets_filled)) (run_V (rest := []) X hG hl.1 (mX5_set l dC dI cI cJ a1 a2 (7 : Int32) (10 : Int32) 70 c_loads_cells c_loads_filled y2 y1 y0 hz_19) gi_V_X1_47 hd_V_yX5_set ⟨rfl, rfl⟩ rfl ⟨Nat.le_of_ble_eq_true rfl, Nat.le_of_ble_eq_true rfl⟩ [1, 2] (by decide) rfl 1 rfl rfl rfl rfl (Nat.le_of_ble_eq_true rfl) ⟨Nat.le_of_ble_eq_true rfl, Nat.le_of_ble_eq_true rfl⟩ dX1_come_131) hG [1, 2] rfl rfl rfl (fun H locs hG => ?_)
    clear hz_19
    refine lv_aload_n hx hb dX1_come_134 rfl (lv_at hl 0 rfl) ?_
    refine r_get X hG in_X1 rfl 0 (by decide) w_161 0 rfl rfl dX1_come_135 ?_
    refine lv_iload_n hx hb dX1_come_138 rfl (lv_at hl 1 rfl) ?_
    refine lv_bipush (v := (8 : Int32)) hx hb dX1_come_139 (by decide) ?_
    refine lv_iload hx hb dX1_come_141 (lv_at hl 4 rfl) ?_
    refine lv_if_eq (tgt := 155) hx hb dX1_come_143 (by decide) (fun c_20 => ?_) (fun c_20 => ?_)
    · have h := ite_t h c_20
      refine lv_iconst (v := (0 : Int32)) hx hb dX1_come_155 (by decide) ?_
      obtain ⟨k_loads_cells_21, hz_22, h⟩ := bd1_some h
      refine aft_v (ws' := (W_X1_X3 a0 a1 a2 a3 a4 a5 a6 a7 a8 cI cJ k_loads_cells_21 c_loads_filled c_order c_done c_start c_end o_stand o_home o_priceStart o_priceStep o_thrown_cells o_thrown_filled o_nets_cells o_nets_filled)) (run_V (rest := []) X hG hl.1 (mX5_set l dC dI cI cJ a1 a2 (7 : Int32) (10 : Int32) 70 k_loads_cells_18 c_loads_filled x1 (8 : Int32) (0 : Int32) hz_22) gi_V_X1_47 hd_V_yX5_set ⟨rfl, rfl⟩ rfl ⟨Nat.le_of_ble_eq_true rfl, Nat.le_of_ble_eq_true rfl⟩ [1, 2] (by decide) rfl 1 rfl rfl rfl rfl (Nat.le_of_ble_eq_true rfl) ⟨Nat.le_of_ble_eq_true rfl, Nat.le_of_ble_eq_true rfl⟩ dX1_come_156) hG [1, 2] rfl rfl rfl (fun H locs hG => ?_)
      clear hz_22
      cases h
      exact ret _ _ _ _ dX1_come_159 hG
    · have h := ite_f h c_20
      refine lv_aload_n hx hb dX1_come_146 rfl (lv_at hl 2 rfl) ?_
      refine lv_iload hx hb dX1_come_147 (lv_at hl 3 rfl) ?_
      obtain ⟨r_23, hz_24, h⟩ := bd1_some h
      refine aft_i (ws' := (W_X1_X3 a0 a1 a2 a3 a4 a5 a6 a7 a8 cI cJ k_loads_cells_18 c_loads_filled c_order c_done c_start c_end o_stand o_home o_priceStart o_priceStep o_thrown_cells o_thrown_filled o_nets_cells o_nets_filled)) (run_V (rest := [.int (8 : Int32), .int x1, .ref a1]) X hG hl.1 (mX3_priceOn l dC dI cI cJ a4 a5 a6 a7 a8 o_stand o_home o_priceStart o_priceStep o_thrown_cells o_thrown_filled o_nets_cells o_nets_filled x7 hz_24) gi_V_X1_116 hd_V_yX3_priceOn ⟨rfl, rfl⟩ rfl ⟨Nat.le_of_ble_eq_true rfl, Nat.le_of_ble_eq_true rfl⟩ [4, 5, 6, 7, 8] (by decide) rfl 4 rfl rfl rfl rfl (Nat.le_of_ble_eq_true rfl) ⟨Nat.le_of_ble_eq_true rfl, Nat.le_of_ble_eq_true rfl⟩ dX1_come_149) hG [4, 5, 6, 7, 8] rfl rfl rfl (fun H locs hG => ?_)
      clear hz_24
      refine lv_goto (tgt := 156) hx hb dX1_come_152 (by decide) ?_
      obtain ⟨k_loads_cells_25, hz_26, h⟩ := bd1_some h
      refine aft_v (ws' := (W_X1_X3 a0 a1 a2 a3 a4 a5 a6 a7 a8 cI cJ k_loads_cells_25 c_loads_filled c_order c_done c_start c_end o_stand o_home o_priceStart o_priceStep o_thrown_cells o_thrown_filled o_nets_cells o_nets_filled)) (run_V (rest := []) X hG hl.1 (mX5_set l dC dI cI cJ a1 a2 (7 : Int32) (10 : Int32) 70 k_loads_cells_18 c_loads_filled x1 (8 : Int32) r_23 hz_26) gi_V_X1_47 hd_V_yX5_set ⟨rfl, rfl⟩ rfl ⟨Nat.le_of_ble_eq_true rfl, Nat.le_of_ble_eq_true rfl⟩ [1, 2] (by decide) rfl 1 rfl rfl rfl rfl (Nat.le_of_ble_eq_true rfl) ⟨Nat.le_of_ble_eq_true rfl, Nat.le_of_ble_eq_true rfl⟩ dX1_come_156) hG [1, 2] rfl rfl rfl (fun H locs hG => ?_)
      clear hz_26
      cases h
      exact ret _ _ _ _ dX1_come_159 hG
  have J47 : ∀ (y0 : Int32) (x4 : Int32) (c_loads_cells : Nat → Int32), DX1_come_J47 x1 c_loads_cells o_priceStart o_priceStep o_nets_cells o_nets_filled y0 x4 = some n_loads_cells → ∀ (ls : Array Slot) (H : Heap) (locs : List Loc), lv_has ls 9 [(0, .ref a0), (1, .int x1), (2, .ref a4), (4, .int x4)] → G dC dI A H0 (W_X1_X3 a0 a1 a2 a3 a4 a5 a6 a7 a8 cI cJ c_loads_cells c_loads_filled c_order c_done c_start c_end o_stand o_home o_priceStart o_priceStep o_thrown_cells o_thrown_filled o_nets_cells o_nets_filled) H locs → W p l e (RM 3 68) s m args below meth c H locs 0 0 QQ (F0 m 47 ls [.int y0]) := by
    intro y0 x4 c_loads_cells h  ls H locs hl hG
    unfold DX1_come_J47 at h
    refine lv_istore (lv' := [(5, .int y0), (0, .ref a0), (1, .int x1), (2, .ref a4), (4, .int x4)]) hx hb dX1_come_47 hl (by decide) rfl (fun ls hl => ?_)
    refine lv_aload_n hx hb dX1_come_49 rfl (lv_at hl 1 rfl) ?_
    refine r_get X hG in_X1 rfl 0 (by decide) w_161 0 rfl rfl dX1_come_50 ?_
    refine lv_iload_n hx hb dX1_come_53 rfl (lv_at hl 2 rfl) ?_
    refine lv_iconst (v := (4 : Int32)) hx hb dX1_come_54 (by decide) ?_
    obtain ⟨r_7, hz_8, h⟩ := bd1_some h
    refine aft_i (ws' := (W_X1_X3 a0 a1 a2 a3 a4 a5 a6 a7 a8 cI cJ c_loads_cells c_loads_filled c_order c_done c_start c_end o_stand o_home o_priceStart o_priceStep o_thrown_cells o_thrown_filled o_nets_cells o_nets_filled)) (run_V (rest := []) X hG hl.1 (mX5_get l dC dI cI cJ a1 a2 (7 : Int32) (10 : Int32) 70 c_loads_cells c_loads_filled x1 (4 : Int32) hz_8) gi_V_X1_43 hd_V_yX5_get ⟨rfl, rfl⟩ rfl ⟨Nat.le_of_ble_eq_true rfl, Nat.le_of_ble_eq_true rfl⟩ [1, 2] (by decide) rfl 1 rfl rfl rfl rfl (Nat.le_of_ble_eq_true rfl) ⟨Nat.le_of_ble_eq_true rfl, Nat.le_of_ble_eq_true rfl⟩ dX1_come_55) hG [1, 2] rfl rfl rfl (fun H locs hG => ?_)
    clear hz_8
    refine lv_iload hx hb dX1_come_58 (lv_at hl 0 rfl) ?_
    refine lv_iadd hx hb dX1_come_60 ?_
    refine lv_bipush (v := (24 : Int32)) hx hb dX1_come_61 (by decide) ?_
    refine lv_irem hx hb dX1_come_63 (by decide) ?_
    refine lv_istore (lv' := [(6, .int ((r_7 + y0) - (r_7 + y0) / (24 : Int32) * (24 : Int32))), (5, .int y0), (0, .ref a0), (1, .int x1), (2, .ref a4), (4, .int x4)]) hx hb dX1_come_64 hl (by decide) rfl (fun ls hl => ?_)
    refine lv_aload_n hx hb dX1_come_66 rfl (lv_at hl 2 rfl) ?_
    refine r_get X hG in_X1 rfl 0 (by decide) w_161 0 rfl rfl dX1_come_67 ?_
    refine lv_iload_n hx hb dX1_come_70 rfl (lv_at hl 3 rfl) ?_
    refine lv_iconst (v := (0 : Int32)) hx hb dX1_come_71 (by decide) ?_
    obtain ⟨r_9, hz_10, h⟩ := bd1_some h
    refine aft_i (ws' := (W_X1_X3 a0 a1 a2 a3 a4 a5 a6 a7 a8 cI cJ c_loads_cells c_loads_filled c_order c_done c_start c_end o_stand o_home o_priceStart o_priceStep o_thrown_cells o_thrown_filled o_nets_cells o_nets_filled)) (run_V (rest := []) X hG hl.1 (mX5_get l dC dI cI cJ a1 a2 (7 : Int32) (10 : Int32) 70 c_loads_cells c_loads_filled x1 (0 : Int32) hz_10) gi_V_X1_43 hd_V_yX5_get ⟨rfl, rfl⟩ rfl ⟨Nat.le_of_ble_eq_true rfl, Nat.le_of_ble_eq_true rfl⟩ [1, 2] (by decide) rfl 1 rfl rfl rfl rfl (Nat.le_of_ble_eq_true rfl) ⟨Nat.le_of_ble_eq_true rfl, Nat.le_of_ble_eq_true rfl⟩ dX1_come_72) hG [1, 2] rfl rfl rfl (fun H locs hG => ?_)
    clear hz_10
    refine lv_iload hx hb dX1_come_75 (lv_at hl 5 rfl) ?_
    refine lv_iadd hx hb dX1_come_77 ?_
    refine lv_istore (lv' := [(7, .int (r_9 + x4)), (6, .int ((r_7 + y0) - (r_7 + y0) / (24 : Int32) * (24 : Int32))), (5, .int y0), (0, .ref a0), (1, .int x1), (2, .ref a4), (4, .int x4)]) hx hb dX1_come_78 hl (by decide) rfl (fun ls hl => ?_)
    refine lv_aload_n hx hb dX1_come_80 rfl (lv_at hl 5 rfl) ?_
    refine lv_iload hx hb dX1_come_81 (lv_at hl 1 rfl) ?_
    refine lv_iload hx hb dX1_come_83 (lv_at hl 0 rfl) ?_
    obtain ⟨r_11, hz_12, h⟩ := bd1_some h
    refine aft_i (ws' := (W_X1_X3 a0 a1 a2 a3 a4 a5 a6 a7 a8 cI cJ c_loads_cells c_loads_filled c_order c_done c_start c_end o_stand o_home o_priceStart o_priceStep o_thrown_cells o_thrown_filled o_nets_cells o_nets_filled)) (run_V (rest := []) X hG hl.1 (mX3_catches l dC dI cI cJ a4 a5 a6 a7 a8 o_stand o_home o_priceStart o_priceStep o_thrown_cells o_thrown_filled o_nets_cells o_nets_filled ((r_7 + y0) - (r_7 + y0) / (24 : Int32) * (24 : Int32)) (r_9 + x4) hz_12) gi_V_X1_112 hd_V_yX3_catches ⟨rfl, rfl⟩ rfl ⟨Nat.le_of_ble_eq_true rfl, Nat.le_of_ble_eq_true rfl⟩ [4, 5, 6, 7, 8] (by decide) rfl 4 rfl rfl rfl rfl (Nat.le_of_ble_eq_true rfl) ⟨Nat.le_of_ble_eq_true rfl, Nat.le_of_ble_eq_true rfl⟩ dX1_come_85) hG [4, 5, 6, 7, 8] rfl rfl rfl (fun H locs hG => ?_)
    clear hz_12
    refine lv_istore (lv' := [(8, .int r_11), (7, .int (r_9 + x4)), (6, .int ((r_7 + y0) - (r_7 + y0) / (24 : Int32) * (24 : Int32))), (5, .int y0), (0, .ref a0), (1, .int x1), (2, .ref a4), (4, .int x4)]) hx hb dX1_come_88 hl (by decide) rfl (fun ls hl => ?_)
    refine lv_aload_n hx hb dX1_come_90 rfl (lv_at hl 4 rfl) ?_
    refine r_get X hG in_X1 rfl 0 (by decide) w_161 0 rfl rfl dX1_come_91 ?_
    refine lv_iload_n hx hb dX1_come_94 rfl (lv_at hl 5 rfl) ?_
    refine lv_bipush (v := (9 : Int32)) hx hb dX1_come_95 (by decide) ?_
    refine lv_iload hx hb dX1_come_97 (lv_at hl 2 rfl) ?_
    obtain ⟨k_loads_cells_13, hz_14, h⟩ := bd1_some h
    refine aft_v (ws' := (W_X1_X3 a0 a1 a2 a3 a4 a5 a6 a7 a8 cI cJ k_loads_cells_13 c_loads_filled c_order c_done c_start c_end o_stand o_home o_priceStart o_priceStep o_thrown_cells o_thrown_filled o_nets_cells o_nets_filled)) (run_V (rest := []) X hG hl.1 (mX5_set l dC dI cI cJ a1 a2 (7 : Int32) (10 : Int32) 70 c_loads_cells c_loads_filled x1 (9 : Int32) ((r_7 + y0) - (r_7 + y0) / (24 : Int32) * (24 : Int32)) hz_14) gi_V_X1_47 hd_V_yX5_set ⟨rfl, rfl⟩ rfl ⟨Nat.le_of_ble_eq_true rfl, Nat.le_of_ble_eq_true rfl⟩ [1, 2] (by decide) rfl 1 rfl rfl rfl rfl (Nat.le_of_ble_eq_true rfl) ⟨Nat.le_of_ble_eq_true rfl, Nat.le_of_ble_eq_true rfl⟩ dX1_come_99) hG [1, 2] rfl rfl rfl (fun H locs hG => ?_)
    clear hz_14
    refine lv_aload_n hx hb dX1_come_102 rfl (lv_at hl 4 rfl) ?_
    refine r_get X hG in_X1 rfl 0 (by decide) w_161 0 rfl rfl dX1_come_103 ?_
    refine lv_iload_n hx hb dX1_come_106 rfl (lv_at hl 5 rfl) ?_
    refine lv_bipush (v := (7 : Int32)) hx hb dX1_come_107 (by decide) ?_
    refine lv_iload hx hb dX1_come_109 (lv_at hl 1 rfl) ?_
    obtain ⟨k_loads_cells_15, hz_16, h⟩ := bd1_some h
    refine aft_v (ws' := (W_X1_X3 a0 a1 a2 a3 a4 a5 a6 a7 a8 cI cJ k_loads_cells_15 c_loads_filled c_order c_done c_start c_end o_stand o_home o_priceStart o_priceStep o_thrown_cells o_thrown_filled o_nets_cells o_nets_filled)) (run_V (rest := []) X hG hl.1 (mX5_set l dC dI cI cJ a1 a2 (7 : Int32) (10 : Int32) 70 k_loads_cells_13 c_loads_filled x1 (7 : Int32) (r_9 + x4) hz_16) gi_V_X1_47 hd_V_yX5_set ⟨rfl, rfl⟩ rfl ⟨Nat.le_of_ble_eq_true rfl, Nat.le_of_ble_eq_true rfl⟩ [1, 2] (by decide) rfl 1 rfl rfl rfl rfl (Nat.le_of_ble_eq_true rfl) ⟨Nat.le_of_ble_eq_true rfl, Nat.le_of_ble_eq_true rfl⟩ dX1_come_111) hG [1, 2] rfl rfl rfl (fun H locs hG => ?_)
    clear hz_16
    refine lv_aload_n hx hb dX1_come_114 rfl (lv_at hl 4 rfl) ?_
    refine r_get X hG in_X1 rfl 0 (by decide) w_161 0 rfl rfl dX1_come_115 ?_
    refine lv_iload_n hx hb dX1_come_118 rfl (lv_at hl 5 rfl) ?_
    refine lv_bipush (v := (6 : Int32)) hx hb dX1_come_119 (by decide) ?_
    refine lv_iload hx hb dX1_come_121 (lv_at hl 0 rfl) ?_
    refine lv_if_eq (tgt := 130) hx hb dX1_come_123 (by decide) (fun c_17 => ?_) (fun c_17 => ?_)
    · have h := ite_t h c_17
      refine lv_iconst (v := (1 : Int32)) hx hb dX1_come_130 (by decide) ?_
      exact J131 (1 : Int32) (6 : Int32) x1 (r_9 + x4) r_11 k_loads_cells_15  h  _ _ _ (lv_sub hl [4, 5, 6, 1, 0] rfl) hG
    · have h := ite_f h c_17
      refine lv_iconst (v := (0 : Int32)) hx hb dX1_come_126 (by decide) ?_
      refine lv_goto (tgt := 131) hx hb dX1_come_127 (by decide) ?_
      exact J131 (0 : Int32) (6 : Int32) x1 (r_9 + x4) r_11 k_loads_cells_15  h  _ _ _ (lv_sub hl [4, 5, 6, 1, 0] rfl) hG
  have h := hD
  unfold DX1_come at h
  clear hD
  refine lv_iconst (v := (1 : Int32)) hx hb dX1_come_0 (by decide) ?_
  refine lv_aload_n hx hb dX1_come_1 rfl (lv_at hl 0 rfl) ?_
  refine r_get X hG in_X1 rfl 0 (by decide) w_161 0 rfl rfl dX1_come_2 ?_
  refine lv_iload_n hx hb dX1_come_5 rfl (lv_at hl 1 rfl) ?_
  refine lv_iconst (v := (2 : Int32)) hx hb dX1_come_6 (by decide) ?_
  obtain ⟨r_1, hz_2, h⟩ := bd1_some h
  refine aft_i (ws' := (W_X1_X3 a0 a1 a2 a3 a4 a5 a6 a7 a8 cI cJ c_loads_cells c_loads_filled c_order c_done c_start c_end o_stand o_home o_priceStart o_priceStep o_thrown_cells o_thrown_filled o_nets_cells o_nets_filled)) (run_V (rest := [.int (1 : Int32)]) X hG hl.1 (mX5_get l dC dI cI cJ a1 a2 (7 : Int32) (10 : Int32) 70 c_loads_cells c_loads_filled x1 (2 : Int32) hz_2) gi_V_X1_43 hd_V_yX5_get ⟨rfl, rfl⟩ rfl ⟨Nat.le_of_ble_eq_true rfl, Nat.le_of_ble_eq_true rfl⟩ [1, 2] (by decide) rfl 1 rfl rfl rfl rfl (Nat.le_of_ble_eq_true rfl) ⟨Nat.le_of_ble_eq_true rfl, Nat.le_of_ble_eq_true rfl⟩ dX1_come_7) hG [1, 2] rfl rfl rfl (fun H locs hG => ?_)
  clear hz_2
  refine va_mmax hx hb (X.1.2.2.1.trans hl.1.symm) X.1.2.2.2.1 (X.1.2.2.2.2 _ w_425) (X.1.2.2.2.2 _ w_104) (X.1.2.2.2.2 _ w_46) (X.1.2.2.2.2 _ w_105) (Nat.le_of_ble_eq_true rfl) (Nat.le_of_ble_eq_true rfl) (Nat.le_of_ble_eq_true rfl) (Nat.le_of_ble_eq_true rfl) dX1_come_10 ?_
  refine lv_istore_n (lv' := [(3, .int (if (1 : Int32) < r_1 then r_1 else (1 : Int32))), (0, .ref a0), (1, .int x1), (2, .ref a4)]) hx hb dX1_come_13 rfl hl (by decide) rfl (fun ls hl => ?_)
  refine lv_aload_n hx hb dX1_come_14 rfl (lv_at hl 3 rfl) ?_
  refine r_getN X hG in_X3 rfl 1 (by decide) w_131 4 rfl rfl dX1_come_15 ?_
  refine lv_iload_n hx hb dX1_come_18 rfl (lv_at hl 0 rfl) ?_
  refine lv_iadd hx hb dX1_come_19 ?_
  refine lv_iconst (v := (1 : Int32)) hx hb dX1_come_20 (by decide) ?_
  refine lv_isub hx hb dX1_come_21 ?_
  refine lv_iload_n hx hb dX1_come_22 rfl (lv_at hl 0 rfl) ?_
  obtain ⟨g_3, h⟩ := gd h
  refine lv_idiv hx hb dX1_come_23 g_3 ?_
  refine lv_istore (lv' := [(4, .int (((o_home + (if (1 : Int32) < r_1 then r_1 else (1 : Int32))) - (1 : Int32)) / (if (1 : Int32) < r_1 then r_1 else (1 : Int32)))), (3, .int (if (1 : Int32) < r_1 then r_1 else (1 : Int32))), (0, .ref a0), (1, .int x1), (2, .ref a4)]) hx hb dX1_come_24 hl (by decide) rfl (fun ls hl => ?_)
  refine lv_aload_n hx hb dX1_come_26 rfl (lv_at hl 2 rfl) ?_
  refine r_get X hG in_X1 rfl 0 (by decide) w_161 0 rfl rfl dX1_come_27 ?_
  refine lv_iload_n hx hb dX1_come_30 rfl (lv_at hl 3 rfl) ?_
  refine lv_iconst (v := (3 : Int32)) hx hb dX1_come_31 (by decide) ?_
  obtain ⟨r_4, hz_5, h⟩ := bd1_some h
  refine aft_i (ws' := (W_X1_X3 a0 a1 a2 a3 a4 a5 a6 a7 a8 cI cJ c_loads_cells c_loads_filled c_order c_done c_start c_end o_stand o_home o_priceStart o_priceStep o_thrown_cells o_thrown_filled o_nets_cells o_nets_filled)) (run_V (rest := []) X hG hl.1 (mX5_get l dC dI cI cJ a1 a2 (7 : Int32) (10 : Int32) 70 c_loads_cells c_loads_filled x1 (3 : Int32) hz_5) gi_V_X1_43 hd_V_yX5_get ⟨rfl, rfl⟩ rfl ⟨Nat.le_of_ble_eq_true rfl, Nat.le_of_ble_eq_true rfl⟩ [1, 2] (by decide) rfl 1 rfl rfl rfl rfl (Nat.le_of_ble_eq_true rfl) ⟨Nat.le_of_ble_eq_true rfl, Nat.le_of_ble_eq_true rfl⟩ dX1_come_32) hG [1, 2] rfl rfl rfl (fun H locs hG => ?_)
  clear hz_5
  refine lv_iconst (v := (3 : Int32)) hx hb dX1_come_35 (by decide) ?_
  refine lv_icmp_ne (tgt := 46) hx hb dX1_come_36 (by decide) (fun c_6 => ?_) (fun c_6 => ?_)
  · have h := ite_f h c_6
    refine lv_iconst (v := (0 : Int32)) hx hb dX1_come_46 (by decide) ?_
    exact J47 (0 : Int32) (((o_home + (if (1 : Int32) < r_1 then r_1 else (1 : Int32))) - (1 : Int32)) / (if (1 : Int32) < r_1 then r_1 else (1 : Int32))) c_loads_cells  h  _ _ _ (lv_sub hl [2, 3, 4, 0] rfl) hG
  · have h := ite_t h c_6
    refine lv_iload hx hb dX1_come_39 (lv_at hl 0 rfl) ?_
    refine lv_iconst (v := (4 : Int32)) hx hb dX1_come_41 (by decide) ?_
    refine lv_idiv hx hb dX1_come_42 (by decide) ?_
    refine lv_goto (tgt := 47) hx hb dX1_come_43 (by decide) ?_
    exact J47 ((((o_home + (if (1 : Int32) < r_1 then r_1 else (1 : Int32))) - (1 : Int32)) / (if (1 : Int32) < r_1 then r_1 else (1 : Int32))) / (4 : Int32)) (((o_home + (if (1 : Int32) < r_1 then r_1 else (1 : Int32))) - (1 : Int32)) / (if (1 : Int32) < r_1 then r_1 else (1 : Int32))) c_loads_cells  h  _ _ _ (lv_sub hl [2, 3, 4, 0] rfl) hG
set_option maxRecDepth 100000 in
set_option maxHeartbeats 4000000 in
theorem mX1_bringHome (l : Launch) (dC : Nat → ClassId) (dI : Nat → Nat → Nat) (cI cJ : ClassId) (a0 a1 a2 a3 a4 a5 a6 a7 a8 : Nat) (c_loads_cells : Nat → Int32) (c_loads_filled : Int32) (c_order : Nat → Int32) (c_done : Int32) (c_start : Int32) (c_end : Int32) (o_stand : Int32) (o_home : Int32) (o_priceStart : Int32) (o_priceStep : Int32) (o_thrown_cells : Nat → Int32) (o_thrown_filled : Int32) (o_nets_cells : Nat → Int32) (o_nets_filled : Int32) {n_loads_cells : Nat → Int32} (hD : DX1_bringHome c_loads_cells c_order c_done o_home o_priceStart o_priceStep o_nets_cells o_nets_filled = some n_loads_cells) : Met l yX1_bringHome (WZ yX1_bringHome cX1_bringHome 4 none) (RM 4 96) (PC dC dI cI cJ [.ref a0, .ref a4] (W_X1_X3 a0 a1 a2 a3 a4 a5 a6 a7 a8 cI cJ c_loads_cells c_loads_filled c_order c_done c_start c_end o_stand o_home o_priceStart o_priceStep o_thrown_cells o_thrown_filled o_nets_cells o_nets_filled)) (QV dC dI (W_X1_X3 a0 a1 a2 a3 a4 a5 a6 a7 a8 cI cJ c_loads_cells c_loads_filled c_order c_done c_start c_end o_stand o_home o_priceStart o_priceStep o_thrown_cells o_thrown_filled o_nets_cells o_nets_filled) (W_X1_X3 a0 a1 a2 a3 a4 a5 a6 a7 a8 cI cJ n_loads_cells c_loads_filled c_order c_done c_start c_end o_stand o_home o_priceStart o_priceStep o_thrown_cells o_thrown_filled o_nets_cells o_nets_filled)) 0 0 (FA (W_X1_X3 a0 a1 a2 a3 a4 a5 a6 a7 a8 cI cJ c_loads_cells c_loads_filled c_order c_done c_start c_end o_stand o_home o_priceStart o_priceStep o_thrown_cells o_thrown_filled o_nets_cells o_nets_filled)) := by
  refine r_metV (by decide +kernel) (Nat.le_of_ble_eq_true rfl) ?_
  intro p e s m args below meth c A H0 QQ X ret ls hl hG
  have X : Cx p m c cX1_bringHome 4 s args RX1 dC dI cI cJ meth none := X
  have hx := X.1.1
  have hb := X.1.2.1
  have hl : lv_has ls 4 [(0, .ref a0), (1, .ref a4)] := hl
  have L2 : ∀ (n : Nat) (x2 : Int32) (c_loads_cells : Nat → Int32) (ec_loads_cells : Nat → Int32), DX1_bringHome_L2 c_order c_done o_home o_priceStart o_priceStep o_nets_cells o_nets_filled n x2 c_loads_cells = some ec_loads_cells → (∀ (ls : Array Slot) (H : Heap) (locs : List Loc), lv_has ls 4 [] → G dC dI A H0 (W_X1_X3 a0 a1 a2 a3 a4 a5 a6 a7 a8 cI cJ ec_loads_cells c_loads_filled c_order c_done c_start c_end o_stand o_home o_priceStart o_priceStep o_thrown_cells o_thrown_filled o_nets_cells o_nets_filled) H locs → W p l e (RM 4 96) s m args below meth c H locs 0 0 QQ (F0 m 69 ls [])) → ∀ (ls : Array Slot) (H : Heap) (locs : List Loc), lv_has ls 4 [(0, .ref a0), (1, .ref a4), (2, .int x2)] → G dC dI A H0 (W_X1_X3 a0 a1 a2 a3 a4 a5 a6 a7 a8 cI cJ c_loads_cells c_loads_filled c_order c_done c_start c_end o_stand o_home o_priceStart o_priceStep o_thrown_cells o_thrown_filled o_nets_cells o_nets_filled) H locs → W p l e (RM 4 96) s m args below meth c H locs 0 0 QQ (F0 m 2 ls []) := by
    intro  n
    induction n with
    | zero => intro x2 c_loads_cells ec_loads_cells h; exact it_zero h
    | succ n ih =>
      intro x2 c_loads_cells ec_loads_cells h0 K0 ls H locs hl hG
      obtain ⟨w, h, hi, hr⟩ := it_succ h0
      have h : DX1_bringHome_L2s c_order c_done o_home o_priceStart o_priceStep o_nets_cells o_nets_filled x2 c_loads_cells = some w := h
      have KC : ∀ (x2 : Int32) (c_loads_cells : Nat → Int32), w = .inl (x2, c_loads_cells) → ∀ (ls : Array Slot) (H : Heap) (locs : List Loc), lv_has ls 4 [(0, .ref a0), (1, .ref a4), (2, .int x2)] → G dC dI A H0 (W_X1_X3 a0 a1 a2 a3 a4 a5 a6 a7 a8 cI cJ c_loads_cells c_loads_filled c_order c_done c_start c_end o_stand o_home o_priceStart o_priceStep o_thrown_cells o_thrown_filled o_nets_cells o_nets_filled) H locs → W p l e (RM 4 96) s m args below meth c H locs 0 0 QQ (F0 m 2 ls []) := fun b0 b1 e ls H locs hl hG => ih b0 b1 ec_loads_cells (hi _ e) K0 ls H locs hl hG
      have KX : ∀ (c_loads_cells : Nat → Int32), w = .inr c_loads_cells → ∀ (ls : Array Slot) (H : Heap) (locs : List Loc), lv_has ls 4 [] → G dC dI A H0 (W_X1_X3 a0 a1 a2 a3 a4 a5 a6 a7 a8 cI cJ c_loads_cells c_loads_filled c_order c_done c_start c_end o_stand o_home o_priceStart o_priceStep o_thrown_cells o_thrown_filled o_nets_cells o_nets_filled) H locs → W p l e (RM 4 96) s m args below meth c H locs 0 0 QQ (F0 m 69 ls []) := fun b0 e ls H locs hl hG => by cases hr _ e; exact K0 ls H locs hl hG
      clear h0 hi hr K0 ih
      unfold DX1_bringHome_L2s at h
      refine lv_iload_n hx hb dX1_bringHome_2 rfl (lv_at hl 2 rfl) ?_
      refine lv_aload_n hx hb dX1_bringHome_3 rfl (lv_at hl 0 rfl) ?_
      refine r_get X hG in_X1 rfl 2 (by decide) w_163 0 rfl rfl dX1_bringHome_4 ?_
      refine lv_icmp_ge (tgt := 69) hx hb dX1_bringHome_7 (by decide) (fun c_1 => ?_) (fun c_1 => ?_)
      · have h := ite_t h c_1
        exact KX _ (Option.some.inj h).symm _ _ _ (lv_sub hl [] rfl) hG
      · have h := ite_f h c_1
        refine lv_aload_n hx hb dX1_bringHome_10 rfl (lv_at hl 0 rfl) ?_
        refine r_get X hG in_X1 rfl 1 (by decide) w_162 0 rfl rfl dX1_bringHome_11 ?_
        refine lv_iload_n hx hb dX1_bringHome_14 rfl (lv_at hl 2 rfl) ?_
        obtain ⟨r_2, hz_3, h⟩ := bd1_some h
        refine aft_i (ws' := (W_X1_X3 a0 a1 a2 a3 a4 a5 a6 a7 a8 cI cJ c_loads_cells c_loads_filled c_order c_done c_start c_end o_stand o_home o_priceStart o_priceStep o_thrown_cells o_thrown_filled o_nets_cells o_nets_filled)) (run_SN (rest := []) X hG hl.1 (mX8_at l dC dI cI cJ a3 7 c_order x2 hz_3) gi_N_yX8_at w_384 w_296 w_41 hd_S_yX8_at ⟨rfl, rfl⟩ rfl ⟨Nat.le_of_ble_eq_true rfl, Nat.le_of_ble_eq_true rfl⟩ [3] (by decide) rfl rfl (Nat.le_of_ble_eq_true rfl) ⟨Nat.le_of_ble_eq_true rfl, Nat.le_of_ble_eq_true rfl⟩ dX1_bringHome_15) hG [3] rfl rfl rfl (fun H locs hG => ?_)
        clear hz_3
        refine lv_istore_n (lv' := [(3, .int r_2), (0, .ref a0), (1, .ref a4), (2, .int x2)]) hx hb dX1_bringHome_18 rfl hl (by decide) rfl (fun ls hl => ?_)
        refine lv_aload_n hx hb dX1_bringHome_19 rfl (lv_at hl 1 rfl) ?_
        refine r_get X hG in_X1 rfl 0 (by decide) w_161 0 rfl rfl dX1_bringHome_20 ?_
        refine lv_iload_n hx hb dX1_bringHome_23 rfl (lv_at hl 0 rfl) ?_
        refine lv_bipush (v := (6 : Int32)) hx hb dX1_bringHome_24 (by decide) ?_
        refine lv_iconst (v := (2 : Int32)) hx hb dX1_bringHome_26 (by decide) ?_
        obtain ⟨k_loads_cells_4, hz_5, h⟩ := bd1_some h
        refine aft_v (ws' := (W_X1_X3 a0 a1 a2 a3 a4 a5 a6 a7 a8 cI cJ k_loads_cells_4 c_loads_filled c_order c_done c_start c_end o_stand o_home o_priceStart o_priceStep o_thrown_cells o_thrown_filled o_nets_cells o_nets_filled)) (run_V (rest := []) X hG hl.1 (mX5_set l dC dI cI cJ a1 a2 (7 : Int32) (10 : Int32) 70 c_loads_cells c_loads_filled r_2 (6 : Int32) (2 : Int32) hz_5) gi_V_X1_47 hd_V_yX5_set ⟨rfl, rfl⟩ rfl ⟨Nat.le_of_ble_eq_true rfl, Nat.le_of_ble_eq_true rfl⟩ [1, 2] (by decide) rfl 1 rfl rfl rfl rfl (Nat.le_of_ble_eq_true rfl) ⟨Nat.le_of_ble_eq_true rfl, Nat.le_of_ble_eq_true rfl⟩ dX1_bringHome_27) hG [1, 2] rfl rfl rfl (fun H locs hG => ?_)
        clear hz_5
        refine lv_aload_n hx hb dX1_bringHome_30 rfl (lv_at hl 1 rfl) ?_
        refine r_get X hG in_X1 rfl 0 (by decide) w_161 0 rfl rfl dX1_bringHome_31 ?_
        refine lv_iload_n hx hb dX1_bringHome_34 rfl (lv_at hl 0 rfl) ?_
        refine lv_bipush (v := (8 : Int32)) hx hb dX1_bringHome_35 (by decide) ?_
        refine lv_iconst (v := (0 : Int32)) hx hb dX1_bringHome_37 (by decide) ?_
        obtain ⟨k_loads_cells_6, hz_7, h⟩ := bd1_some h
        refine aft_v (ws' := (W_X1_X3 a0 a1 a2 a3 a4 a5 a6 a7 a8 cI cJ k_loads_cells_6 c_loads_filled c_order c_done c_start c_end o_stand o_home o_priceStart o_priceStep o_thrown_cells o_thrown_filled o_nets_cells o_nets_filled)) (run_V (rest := []) X hG hl.1 (mX5_set l dC dI cI cJ a1 a2 (7 : Int32) (10 : Int32) 70 k_loads_cells_4 c_loads_filled r_2 (8 : Int32) (0 : Int32) hz_7) gi_V_X1_47 hd_V_yX5_set ⟨rfl, rfl⟩ rfl ⟨Nat.le_of_ble_eq_true rfl, Nat.le_of_ble_eq_true rfl⟩ [1, 2] (by decide) rfl 1 rfl rfl rfl rfl (Nat.le_of_ble_eq_true rfl) ⟨Nat.le_of_ble_eq_true rfl, Nat.le_of_ble_eq_true rfl⟩ dX1_bringHome_38) hG [1, 2] rfl rfl rfl (fun H locs hG => ?_)
        clear hz_7
        refine lv_aload_n hx hb dX1_bringHome_41 rfl (lv_at hl 1 rfl) ?_
        refine r_get X hG in_X1 rfl 0 (by decide) w_161 0 rfl rfl dX1_bringHome_42 ?_
        refine lv_iload_n hx hb dX1_bringHome_45 rfl (lv_at hl 0 rfl) ?_
        refine lv_bipush (v := (7 : Int32)) hx hb dX1_bringHome_46 (by decide) ?_
        obtain ⟨r_8, hz_9, h⟩ := bd1_some h
        refine aft_i (ws' := (W_X1_X3 a0 a1 a2 a3 a4 a5 a6 a7 a8 cI cJ k_loads_cells_6 c_loads_filled c_order c_done c_start c_end o_stand o_home o_priceStart o_priceStep o_thrown_cells o_thrown_filled o_nets_cells o_nets_filled)) (run_V (rest := []) X hG hl.1 (mX5_get l dC dI cI cJ a1 a2 (7 : Int32) (10 : Int32) 70 k_loads_cells_6 c_loads_filled r_2 (7 : Int32) hz_9) gi_V_X1_43 hd_V_yX5_get ⟨rfl, rfl⟩ rfl ⟨Nat.le_of_ble_eq_true rfl, Nat.le_of_ble_eq_true rfl⟩ [1, 2] (by decide) rfl 1 rfl rfl rfl rfl (Nat.le_of_ble_eq_true rfl) ⟨Nat.le_of_ble_eq_true rfl, Nat.le_of_ble_eq_true rfl⟩ dX1_bringHome_48) hG [1, 2] rfl rfl rfl (fun H locs hG => ?_)
        clear hz_9
        refine lv_sipush (v := (1000 : Int32)) hx hb dX1_bringHome_51 (by decide) ?_
        refine lv_icmp_ne (tgt := 63) hx hb dX1_bringHome_54 (by decide) (fun c_10 => ?_) (fun c_10 => ?_)
        · have h := ite_f h c_10
          refine lv_iinc (v := (x2 + (1 : Int32))) (lv' := [(2, .int (x2 + (1 : Int32))), (3, .int r_2), (0, .ref a0), (1, .ref a4)]) hx hb dX1_bringHome_63 hl (k := 3) rfl rfl (by decide) rfl (fun ls hl => ?_)
          refine lv_goto (tgt := 2) hx hb dX1_bringHome_66 (by decide) ?_
          exact KC _ _ (Option.some.inj h).symm _ _ _ (lv_sub hl [2, 3, 0] rfl) hG
        · have h := ite_t h c_10
          refine lv_aload_n hx hb dX1_bringHome_57 rfl (lv_at hl 1 rfl) ?_
          refine lv_iload_n hx hb dX1_bringHome_58 rfl (lv_at hl 0 rfl) ?_
          refine lv_aload_n hx hb dX1_bringHome_59 rfl (lv_at hl 2 rfl) ?_
          obtain ⟨k_loads_cells_11, hz_12, h⟩ := bd1_some h
          refine aft_v (ws' := (W_X1_X3 a0 a1 a2 a3 a4 a5 a6 a7 a8 cI cJ k_loads_cells_11 c_loads_filled c_order c_done c_start c_end o_stand o_home o_priceStart o_priceStep o_thrown_cells o_thrown_filled o_nets_cells o_nets_filled)) (run_V (rest := []) X hG hl.1 (mX1_come l dC dI cI cJ a0 a1 a2 a3 a4 a5 a6 a7 a8 k_loads_cells_6 c_loads_filled c_order c_done c_start c_end o_stand o_home o_priceStart o_priceStep o_thrown_cells o_thrown_filled o_nets_cells o_nets_filled r_2 hz_12) gi_V_X1_105 hd_V_yX1_come ⟨rfl, rfl⟩ rfl ⟨Nat.le_of_ble_eq_true rfl, Nat.le_of_ble_eq_true rfl⟩ [0, 1, 2, 3, 4, 5, 6, 7, 8] (by decide) rfl 0 rfl rfl rfl rfl (Nat.le_of_ble_eq_true rfl) ⟨Nat.le_of_ble_eq_true rfl, Nat.le_of_ble_eq_true rfl⟩ dX1_bringHome_60) hG [0, 1, 2, 3, 4, 5, 6, 7, 8] rfl rfl rfl (fun H locs hG => ?_)
          clear hz_12
          refine lv_iinc (v := (x2 + (1 : Int32))) (lv' := [(2, .int (x2 + (1 : Int32))), (3, .int r_2), (0, .ref a0), (1, .ref a4)]) hx hb dX1_bringHome_63 hl (k := 3) rfl rfl (by decide) rfl (fun ls hl => ?_)
          refine lv_goto (tgt := 2) hx hb dX1_bringHome_66 (by decide) ?_
          exact KC _ _ (Option.some.inj h).symm _ _ _ (lv_sub hl [2, 3, 0] rfl) hG
  have h := hD
  unfold DX1_bringHome at h
  clear hD
  refine lv_iconst (v := (0 : Int32)) hx hb dX1_bringHome_0 (by decide) ?_
  refine lv_istore_n (lv' := [(2, .int (0 : Int32)), (0, .ref a0), (1, .ref a4)]) hx hb dX1_bringHome_1 rfl hl (by decide) rfl (fun ls hl => ?_)
  obtain ⟨k_loads_cells_13, hz, h⟩ := bd1_some h
  refine L2  FU (0 : Int32) c_loads_cells _ hz (fun ls H locs hl hG => ?_) _ _ _ (lv_sub hl [1, 2, 0] rfl) hG
  clear hz
  cases h
  exact ret _ _ _ _ dX1_bringHome_69 hG
set_option maxRecDepth 100000 in
set_option maxHeartbeats 4000000 in
theorem mX1_lineUp (l : Launch) (dC : Nat → ClassId) (dI : Nat → Nat → Nat) (cI cJ : ClassId) (a0 a1 a2 a3 : Nat) (c_loads_cells : Nat → Int32) (c_loads_filled : Int32) (c_order : Nat → Int32) (c_done : Int32) (c_start : Int32) (c_end : Int32) (x1 : Int32) {n_order : Nat → Int32} {n_done : Int32} (hD : DX1_lineUp x1 c_loads_cells c_order c_done = some (n_order, n_done)) : Met l yX1_lineUp (WZ yX1_lineUp cX1_lineUp 3 none) (RM 1 23) (PC dC dI cI cJ [.ref a0, .int x1] (W_X1 a0 a1 a2 a3 cI cJ c_loads_cells c_loads_filled c_order c_done c_start c_end)) (QV dC dI (W_X1 a0 a1 a2 a3 cI cJ c_loads_cells c_loads_filled c_order c_done c_start c_end) (W_X1 a0 a1 a2 a3 cI cJ c_loads_cells c_loads_filled n_order n_done c_start c_end)) 0 0 (FA (W_X1 a0 a1 a2 a3 cI cJ c_loads_cells c_loads_filled c_order c_done c_start c_end)) := by
  refine r_metV (by decide +kernel) (Nat.le_of_ble_eq_true rfl) ?_
  intro p e s m args below meth c A H0 QQ X ret ls hl hG
  have X : Cx p m c cX1_lineUp 3 s args RX1 dC dI cI cJ meth none := X
  have hx := X.1.1
  have hb := X.1.2.1
  have hl : lv_has ls 3 [(0, .ref a0), (1, .int x1)] := hl
  have L5 : ∀ (c_done : Int32), ∀ (n : Nat) (x2 : Int32) (c_order : Nat → Int32) (ex2 : Int32) (ec_order : Nat → Int32), DX1_lineUp_L5 x1 c_loads_cells n x2 c_order = some (ex2, ec_order) → (∀ (ls : Array Slot) (H : Heap) (locs : List Loc), lv_has ls 3 [(0, .ref a0), (1, .int x1), (2, .int ex2)] → G dC dI A H0 (W_X1 a0 a1 a2 a3 cI cJ c_loads_cells c_loads_filled ec_order c_done c_start c_end) H locs → W p l e (RM 1 23) s m args below meth c H locs 0 0 QQ (F0 m 63 ls [])) → ∀ (ls : Array Slot) (H : Heap) (locs : List Loc), lv_has ls 3 [(0, .ref a0), (1, .int x1), (2, .int x2)] → G dC dI A H0 (W_X1 a0 a1 a2 a3 cI cJ c_loads_cells c_loads_filled c_order c_done c_start c_end) H locs → W p l e (RM 1 23) s m args below meth c H locs 0 0 QQ (F0 m 5 ls []) := by
    intro c_done n
    induction n with
    | zero => intro x2 c_order ex2 ec_order h; exact it_zero h
    | succ n ih =>
      intro x2 c_order ex2 ec_order h0 K0 ls H locs hl hG
      obtain ⟨w, h, hi, hr⟩ := it_succ h0
      have h : DX1_lineUp_L5s x1 c_loads_cells x2 c_order = some w := h
      have KC : ∀ (x2 : Int32) (c_order : Nat → Int32), w = .inl (x2, c_order) → ∀ (ls : Array Slot) (H : Heap) (locs : List Loc), lv_has ls 3 [(0, .ref a0), (1, .int x1), (2, .int x2)] → G dC dI A H0 (W_X1 a0 a1 a2 a3 cI cJ c_loads_cells c_loads_filled c_order c_done c_start c_end) H locs → W p l e (RM 1 23) s m args below meth c H locs 0 0 QQ (F0 m 5 ls []) := fun b0 b1 e ls H locs hl hG => ih b0 b1 ex2 ec_order (hi _ e) K0 ls H locs hl hG
      have KX : ∀ (x2 : Int32) (c_order : Nat → Int32), w = .inr (x2, c_order) → ∀ (ls : Array Slot) (H : Heap) (locs : List Loc), lv_has ls 3 [(0, .ref a0), (1, .int x1), (2, .int x2)] → G dC dI A H0 (W_X1 a0 a1 a2 a3 cI cJ c_loads_cells c_loads_filled c_order c_done c_start c_end) H locs → W p l e (RM 1 23) s m args below meth c H locs 0 0 QQ (F0 m 63 ls []) := fun b0 b1 e ls H locs hl hG => by cases hr _ e; exact K0 ls H locs hl hG
      clear h0 hi hr K0 ih
      unfold DX1_lineUp_L5s at h
      refine lv_iload_n hx hb dX1_lineUp_5 rfl (lv_at hl 2 rfl) ?_
      refine lv_if_le (tgt := 63) hx hb dX1_lineUp_6 (by decide) (fun c_1 => ?_) (fun c_1 => ?_)
      · have h := ite_t h c_1
        exact KX _ _ (Option.some.inj h).symm _ _ _ (lv_sub hl [0, 1, 2] rfl) hG
      · have h := ite_f h c_1
        refine lv_aload_n hx hb dX1_lineUp_9 rfl (lv_at hl 0 rfl) ?_
        refine r_get X hG in_X1 rfl 0 (by decide) w_161 0 rfl rfl dX1_lineUp_10 ?_
        refine lv_aload_n hx hb dX1_lineUp_13 rfl (lv_at hl 0 rfl) ?_
        refine r_get X hG in_X1 rfl 1 (by decide) w_162 0 rfl rfl dX1_lineUp_14 ?_
        refine lv_iload_n hx hb dX1_lineUp_17 rfl (lv_at hl 2 rfl) ?_
        refine lv_iconst (v := (1 : Int32)) hx hb dX1_lineUp_18 (by decide) ?_
        refine lv_isub hx hb dX1_lineUp_19 ?_
        obtain ⟨r_2, hz_3, h⟩ := bd1_some h
        refine aft_i (ws' := (W_X1 a0 a1 a2 a3 cI cJ c_loads_cells c_loads_filled c_order c_done c_start c_end)) (run_SN (rest := [.ref a1]) X hG hl.1 (mX8_at l dC dI cI cJ a3 7 c_order (x2 - (1 : Int32)) hz_3) gi_N_yX8_at w_384 w_296 w_41 hd_S_yX8_at ⟨rfl, rfl⟩ rfl ⟨Nat.le_of_ble_eq_true rfl, Nat.le_of_ble_eq_true rfl⟩ [3] (by decide) rfl rfl (Nat.le_of_ble_eq_true rfl) ⟨Nat.le_of_ble_eq_true rfl, Nat.le_of_ble_eq_true rfl⟩ dX1_lineUp_20) hG [3] rfl rfl rfl (fun H locs hG => ?_)
        clear hz_3
        refine lv_iconst (v := (0 : Int32)) hx hb dX1_lineUp_23 (by decide) ?_
        obtain ⟨r_4, hz_5, h⟩ := bd1_some h
        refine aft_i (ws' := (W_X1 a0 a1 a2 a3 cI cJ c_loads_cells c_loads_filled c_order c_done c_start c_end)) (run_V (rest := []) X hG hl.1 (mX5_get l dC dI cI cJ a1 a2 (7 : Int32) (10 : Int32) 70 c_loads_cells c_loads_filled r_2 (0 : Int32) hz_5) gi_V_X1_43 hd_V_yX5_get ⟨rfl, rfl⟩ rfl ⟨Nat.le_of_ble_eq_true rfl, Nat.le_of_ble_eq_true rfl⟩ [1, 2] (by decide) rfl 1 rfl rfl rfl rfl (Nat.le_of_ble_eq_true rfl) ⟨Nat.le_of_ble_eq_true rfl, Nat.le_of_ble_eq_true rfl⟩ dX1_lineUp_24) hG [1, 2] rfl rfl rfl (fun H locs hG => ?_)
        clear hz_5
        refine lv_aload_n hx hb dX1_lineUp_27 rfl (lv_at hl 0 rfl) ?_
        refine r_get X hG in_X1 rfl 0 (by decide) w_161 0 rfl rfl dX1_lineUp_28 ?_
        refine lv_iload_n hx hb dX1_lineUp_31 rfl (lv_at hl 1 rfl) ?_
        refine lv_iconst (v := (0 : Int32)) hx hb dX1_lineUp_32 (by decide) ?_
        obtain ⟨r_6, hz_7, h⟩ := bd1_some h
        refine aft_i (ws' := (W_X1 a0 a1 a2 a3 cI cJ c_loads_cells c_loads_filled c_order c_done c_start c_end)) (run_V (rest := [.int r_4]) X hG hl.1 (mX5_get l dC dI cI cJ a1 a2 (7 : Int32) (10 : Int32) 70 c_loads_cells c_loads_filled x1 (0 : Int32) hz_7) gi_V_X1_43 hd_V_yX5_get ⟨rfl, rfl⟩ rfl ⟨Nat.le_of_ble_eq_true rfl, Nat.le_of_ble_eq_true rfl⟩ [1, 2] (by decide) rfl 1 rfl rfl rfl rfl (Nat.le_of_ble_eq_true rfl) ⟨Nat.le_of_ble_eq_true rfl, Nat.le_of_ble_eq_true rfl⟩ dX1_lineUp_33) hG [1, 2] rfl rfl rfl (fun H locs hG => ?_)
        clear hz_7
        refine lv_icmp_le (tgt := 63) hx hb dX1_lineUp_36 (by decide) (fun c_8 => ?_) (fun c_8 => ?_)
        · have h := ite_t h c_8
          exact KX _ _ (Option.some.inj h).symm _ _ _ (lv_sub hl [0, 1, 2] rfl) hG
        · have h := ite_f h c_8
          refine lv_aload_n hx hb dX1_lineUp_39 rfl (lv_at hl 0 rfl) ?_
          refine r_get X hG in_X1 rfl 1 (by decide) w_162 0 rfl rfl dX1_lineUp_40 ?_
          refine lv_iload_n hx hb dX1_lineUp_43 rfl (lv_at hl 2 rfl) ?_
          refine lv_aload_n hx hb dX1_lineUp_44 rfl (lv_at hl 0 rfl) ?_
          refine r_get X hG in_X1 rfl 1 (by decide) w_162 0 rfl rfl dX1_lineUp_45 ?_
          refine lv_iload_n hx hb dX1_lineUp_48 rfl (lv_at hl 2 rfl) ?_
          refine lv_iconst (v := (1 : Int32)) hx hb dX1_lineUp_49 (by decide) ?_
          refine lv_isub hx hb dX1_lineUp_50 ?_
          obtain ⟨r_9, hz_10, h⟩ := bd1_some h
          refine aft_i (ws' := (W_X1 a0 a1 a2 a3 cI cJ c_loads_cells c_loads_filled c_order c_done c_start c_end)) (run_SN (rest := [.int x2, .ref a3]) X hG hl.1 (mX8_at l dC dI cI cJ a3 7 c_order (x2 - (1 : Int32)) hz_10) gi_N_yX8_at w_384 w_296 w_41 hd_S_yX8_at ⟨rfl, rfl⟩ rfl ⟨Nat.le_of_ble_eq_true rfl, Nat.le_of_ble_eq_true rfl⟩ [3] (by decide) rfl rfl (Nat.le_of_ble_eq_true rfl) ⟨Nat.le_of_ble_eq_true rfl, Nat.le_of_ble_eq_true rfl⟩ dX1_lineUp_51) hG [3] rfl rfl rfl (fun H locs hG => ?_)
          clear hz_10
          obtain ⟨k_order_11, hz_12, h⟩ := bd1_some h
          refine aft_v (ws' := (W_X1 a0 a1 a2 a3 cI cJ c_loads_cells c_loads_filled k_order_11 c_done c_start c_end)) (run_SN (rest := []) X hG hl.1 (mX8_put l dC dI cI cJ a3 7 c_order x2 r_9 hz_12) gi_N_yX8_put w_385 w_272 w_41 hd_S_yX8_put ⟨rfl, rfl⟩ rfl ⟨Nat.le_of_ble_eq_true rfl, Nat.le_of_ble_eq_true rfl⟩ [3] (by decide) rfl rfl (Nat.le_of_ble_eq_true rfl) ⟨Nat.le_of_ble_eq_true rfl, Nat.le_of_ble_eq_true rfl⟩ dX1_lineUp_54) hG [3] rfl rfl rfl (fun H locs hG => ?_)
          clear hz_12
          refine lv_iinc (v := (x2 + (-1 : Int32))) (lv' := [(2, .int (x2 + (-1 : Int32))), (0, .ref a0), (1, .int x1)]) hx hb dX1_lineUp_57 hl (k := 2) rfl rfl (by decide) rfl (fun ls hl => ?_)
          refine lv_goto (tgt := 5) hx hb dX1_lineUp_60 (by decide) ?_
          exact KC _ _ (Option.some.inj h).symm _ _ _ (lv_sub hl [1, 2, 0] rfl) hG
  have J63 : ∀ (x2 : Int32) (c_order : Nat → Int32) (c_done : Int32), DX1_lineUp_J63 x1 c_order c_done x2 = some (n_order, n_done) → ∀ (ls : Array Slot) (H : Heap) (locs : List Loc), lv_has ls 3 [(0, .ref a0), (1, .int x1), (2, .int x2)] → G dC dI A H0 (W_X1 a0 a1 a2 a3 cI cJ c_loads_cells c_loads_filled c_order c_done c_start c_end) H locs → W p l e (RM 1 23) s m args below meth c H locs 0 0 QQ (F0 m 63 ls []) := by
    intro x2 c_order c_done h  ls H locs hl hG
    unfold DX1_lineUp_J63 at h
    refine lv_aload_n hx hb dX1_lineUp_63 rfl (lv_at hl 0 rfl) ?_
    refine r_get X hG in_X1 rfl 1 (by decide) w_162 0 rfl rfl dX1_lineUp_64 ?_
    refine lv_iload_n hx hb dX1_lineUp_67 rfl (lv_at hl 2 rfl) ?_
    refine lv_iload_n hx hb dX1_lineUp_68 rfl (lv_at hl 1 rfl) ?_
    obtain ⟨k_order_15, hz_16, h⟩ := bd1_some h
    refine aft_v (ws' := (W_X1 a0 a1 a2 a3 cI cJ c_loads_cells c_loads_filled k_order_15 c_done c_start c_end)) (run_SN (rest := []) X hG hl.1 (mX8_put l dC dI cI cJ a3 7 c_order x2 x1 hz_16) gi_N_yX8_put w_385 w_272 w_41 hd_S_yX8_put ⟨rfl, rfl⟩ rfl ⟨Nat.le_of_ble_eq_true rfl, Nat.le_of_ble_eq_true rfl⟩ [3] (by decide) rfl rfl (Nat.le_of_ble_eq_true rfl) ⟨Nat.le_of_ble_eq_true rfl, Nat.le_of_ble_eq_true rfl⟩ dX1_lineUp_69) hG [3] rfl rfl rfl (fun H locs hG => ?_)
    clear hz_16
    refine lv_aload_n hx hb dX1_lineUp_72 rfl (lv_at hl 0 rfl) ?_
    refine lv_dup hx hb dX1_lineUp_73 rfl ?_
    refine r_get X hG in_X1 rfl 2 (by decide) w_163 0 rfl rfl dX1_lineUp_74 ?_
    refine lv_iconst (v := (1 : Int32)) hx hb dX1_lineUp_77 (by decide) ?_
    refine lv_iadd hx hb dX1_lineUp_78 ?_
    refine r_put X hG in_X1 rfl tyX1 tyX1_ok nmX1 2 (by decide) rfl (by decide +kernel) w_163 0 (ws' := (W_X1 a0 a1 a2 a3 cI cJ c_loads_cells c_loads_filled k_order_15 (c_done + (1 : Int32)) c_start c_end)) rfl (Nat.le_of_ble_eq_true rfl) rfl dX1_lineUp_79 (fun H locs hG => ?_)
    cases h
    exact ret _ _ _ _ dX1_lineUp_82 hG
  have h := hD
  unfold DX1_lineUp at h
  clear hD
  refine lv_aload_n hx hb dX1_lineUp_0 rfl (lv_at hl 0 rfl) ?_
  refine r_get X hG in_X1 rfl 2 (by decide) w_163 0 rfl rfl dX1_lineUp_1 ?_
  refine lv_istore_n (lv' := [(2, .int c_done), (0, .ref a0), (1, .int x1)]) hx hb dX1_lineUp_4 rfl hl (by decide) rfl (fun ls hl => ?_)
  obtain ⟨z2_13, k_order_14, hz, h⟩ := bd2_some h
  refine L5 c_done FU c_done c_order _ _ hz (fun ls H locs hl hG => ?_) _ _ _ (lv_sub hl [1, 2, 0] rfl) hG
  clear hz
  exact J63 z2_13 k_order_14 c_done  h  _ _ _ (lv_sub hl [0, 1, 2] rfl) hG
set_option maxRecDepth 100000 in
set_option maxHeartbeats 4000000 in
theorem mX1_fly (l : Launch) (dC : Nat → ClassId) (dI : Nat → Nat → Nat) (cI cJ : ClassId) (a0 a1 a2 a3 a4 a5 a6 a7 a8 : Nat) (c_loads_cells : Nat → Int32) (c_loads_filled : Int32) (c_order : Nat → Int32) (c_done : Int32) (c_start : Int32) (c_end : Int32) (o_stand : Int32) (o_home : Int32) (o_priceStart : Int32) (o_priceStep : Int32) (o_thrown_cells : Nat → Int32) (o_thrown_filled : Int32) (o_nets_cells : Nat → Int32) (o_nets_filled : Int32) (x2 : Int32) {n_loads_cells : Nat → Int32} {n_order : Nat → Int32} {n_done : Int32} {n_start : Int32} {n_end : Int32} (hD : DX1_fly x2 c_loads_cells c_order o_stand o_home o_priceStart o_priceStep o_thrown_cells o_thrown_filled o_nets_cells o_nets_filled = some (n_loads_cells, n_order, n_done, n_start, n_end)) : Met l yX1_fly (WZ yX1_fly cX1_fly 5 none) (RM 5 119) (PC dC dI cI cJ [.ref a0, .ref a4, .int x2] (W_X1_X3 a0 a1 a2 a3 a4 a5 a6 a7 a8 cI cJ c_loads_cells c_loads_filled c_order c_done c_start c_end o_stand o_home o_priceStart o_priceStep o_thrown_cells o_thrown_filled o_nets_cells o_nets_filled)) (QV dC dI (W_X1_X3 a0 a1 a2 a3 a4 a5 a6 a7 a8 cI cJ c_loads_cells c_loads_filled c_order c_done c_start c_end o_stand o_home o_priceStart o_priceStep o_thrown_cells o_thrown_filled o_nets_cells o_nets_filled) (W_X1_X3 a0 a1 a2 a3 a4 a5 a6 a7 a8 cI cJ n_loads_cells c_loads_filled n_order n_done n_start n_end o_stand o_home o_priceStart o_priceStep o_thrown_cells o_thrown_filled o_nets_cells o_nets_filled)) 0 0 (FA (W_X1_X3 a0 a1 a2 a3 a4 a5 a6 a7 a8 cI cJ c_loads_cells c_loads_filled c_order c_done c_start c_end o_stand o_home o_priceStart o_priceStep o_thrown_cells o_thrown_filled o_nets_cells o_nets_filled)) := by
  refine r_metV (by decide +kernel) (Nat.le_of_ble_eq_true rfl) ?_
  intro p e s m args below meth c A H0 QQ X ret ls hl hG
  have X : Cx p m c cX1_fly 5 s args RX1 dC dI cI cJ meth none := X
  have hx := X.1.1
  have hb := X.1.2.1
  have hl : lv_has ls 5 [(0, .ref a0), (1, .ref a4), (2, .int x2)] := hl
  have L21 : ∀ (x3 : Int32) (c_order : Nat → Int32) (c_done : Int32) (c_start : Int32) (c_end : Int32), ∀ (n : Nat) (x4 : Int32) (c_loads_cells : Nat → Int32) (ec_loads_cells : Nat → Int32), DX1_fly_L21 o_thrown_cells x3 n x4 c_loads_cells = some ec_loads_cells → (∀ (ls : Array Slot) (H : Heap) (locs : List Loc), lv_has ls 5 [(0, .ref a0), (1, .ref a4), (2, .int x2), (3, .int x3)] → G dC dI A H0 (W_X1_X3 a0 a1 a2 a3 a4 a5 a6 a7 a8 cI cJ ec_loads_cells c_loads_filled c_order c_done c_start c_end o_stand o_home o_priceStart o_priceStep o_thrown_cells o_thrown_filled o_nets_cells o_nets_filled) H locs → W p l e (RM 5 119) s m args below meth c H locs 0 0 QQ (F0 m 53 ls [])) → ∀ (ls : Array Slot) (H : Heap) (locs : List Loc), lv_has ls 5 [(0, .ref a0), (1, .ref a4), (2, .int x2), (3, .int x3), (4, .int x4)] → G dC dI A H0 (W_X1_X3 a0 a1 a2 a3 a4 a5 a6 a7 a8 cI cJ c_loads_cells c_loads_filled c_order c_done c_start c_end o_stand o_home o_priceStart o_priceStep o_thrown_cells o_thrown_filled o_nets_cells o_nets_filled) H locs → W p l e (RM 5 119) s m args below meth c H locs 0 0 QQ (F0 m 21 ls []) := by
    intro x3 c_order c_done c_start c_end n
    induction n with
    | zero => intro x4 c_loads_cells ec_loads_cells h; exact it_zero h
    | succ n ih =>
      intro x4 c_loads_cells ec_loads_cells h0 K0 ls H locs hl hG
      obtain ⟨w, h, hi, hr⟩ := it_succ h0
      have h : DX1_fly_L21s o_thrown_cells x3 x4 c_loads_cells = some w := h
      have KC : ∀ (x4 : Int32) (c_loads_cells : Nat → Int32), w = .inl (x4, c_loads_cells) → ∀ (ls : Array Slot) (H : Heap) (locs : List Loc), lv_has ls 5 [(0, .ref a0), (1, .ref a4), (2, .int x2), (3, .int x3), (4, .int x4)] → G dC dI A H0 (W_X1_X3 a0 a1 a2 a3 a4 a5 a6 a7 a8 cI cJ c_loads_cells c_loads_filled c_order c_done c_start c_end o_stand o_home o_priceStart o_priceStep o_thrown_cells o_thrown_filled o_nets_cells o_nets_filled) H locs → W p l e (RM 5 119) s m args below meth c H locs 0 0 QQ (F0 m 21 ls []) := fun b0 b1 e ls H locs hl hG => ih b0 b1 ec_loads_cells (hi _ e) K0 ls H locs hl hG
      have KX : ∀ (c_loads_cells : Nat → Int32), w = .inr c_loads_cells → ∀ (ls : Array Slot) (H : Heap) (locs : List Loc), lv_has ls 5 [(0, .ref a0), (1, .ref a4), (2, .int x2), (3, .int x3)] → G dC dI A H0 (W_X1_X3 a0 a1 a2 a3 a4 a5 a6 a7 a8 cI cJ c_loads_cells c_loads_filled c_order c_done c_start c_end o_stand o_home o_priceStart o_priceStep o_thrown_cells o_thrown_filled o_nets_cells o_nets_filled) H locs → W p l e (RM 5 119) s m args below meth c H locs 0 0 QQ (F0 m 53 ls []) := fun b0 e ls H locs hl hG => by cases hr _ e; exact K0 ls H locs hl hG
      clear h0 hi hr K0 ih
      unfold DX1_fly_L21s at h
      refine lv_iload hx hb dX1_fly_21 (lv_at hl 4 rfl) ?_
      refine lv_iconst (v := (4 : Int32)) hx hb dX1_fly_23 (by decide) ?_
      refine lv_icmp_ge (tgt := 53) hx hb dX1_fly_24 (by decide) (fun c_4 => ?_) (fun c_4 => ?_)
      · have h := ite_t h c_4
        exact KX _ (Option.some.inj h).symm _ _ _ (lv_sub hl [0, 1, 2, 3] rfl) hG
      · have h := ite_f h c_4
        refine lv_aload_n hx hb dX1_fly_27 rfl (lv_at hl 0 rfl) ?_
        refine r_get X hG in_X1 rfl 0 (by decide) w_161 0 rfl rfl dX1_fly_28 ?_
        refine lv_iload_n hx hb dX1_fly_31 rfl (lv_at hl 3 rfl) ?_
        refine lv_iload hx hb dX1_fly_32 (lv_at hl 4 rfl) ?_
        refine lv_aload_n hx hb dX1_fly_34 rfl (lv_at hl 1 rfl) ?_
        refine r_getN X hG in_X3 rfl 4 (by decide) w_137 4 rfl rfl dX1_fly_35 ?_
        refine lv_iload_n hx hb dX1_fly_38 rfl (lv_at hl 3 rfl) ?_
        refine lv_iload hx hb dX1_fly_39 (lv_at hl 4 rfl) ?_
        obtain ⟨r_5, hz_6, h⟩ := bd1_some h
        refine aft_i (ws' := (W_X1_X3 a0 a1 a2 a3 a4 a5 a6 a7 a8 cI cJ c_loads_cells c_loads_filled c_order c_done c_start c_end o_stand o_home o_priceStart o_priceStep o_thrown_cells o_thrown_filled o_nets_cells o_nets_filled)) (run_V (rest := [.int x4, .int x3, .ref a1]) X hG hl.1 (mX5_get l dC dI cI cJ a5 a6 (7 : Int32) (4 : Int32) 28 o_thrown_cells o_thrown_filled x3 x4 hz_6) gi_V_X1_43 hd_V_yX5_get ⟨rfl, rfl⟩ rfl ⟨Nat.le_of_ble_eq_true rfl, Nat.le_of_ble_eq_true rfl⟩ [5, 6] (by decide) rfl 5 rfl rfl rfl rfl (Nat.le_of_ble_eq_true rfl) ⟨Nat.le_of_ble_eq_true rfl, Nat.le_of_ble_eq_true rfl⟩ dX1_fly_41) hG [5, 6] rfl rfl rfl (fun H locs hG => ?_)
        clear hz_6
        obtain ⟨k_loads_cells_7, hz_8, h⟩ := bd1_some h
        refine aft_v (ws' := (W_X1_X3 a0 a1 a2 a3 a4 a5 a6 a7 a8 cI cJ k_loads_cells_7 c_loads_filled c_order c_done c_start c_end o_stand o_home o_priceStart o_priceStep o_thrown_cells o_thrown_filled o_nets_cells o_nets_filled)) (run_V (rest := []) X hG hl.1 (mX5_set l dC dI cI cJ a1 a2 (7 : Int32) (10 : Int32) 70 c_loads_cells c_loads_filled x3 x4 r_5 hz_8) gi_V_X1_47 hd_V_yX5_set ⟨rfl, rfl⟩ rfl ⟨Nat.le_of_ble_eq_true rfl, Nat.le_of_ble_eq_true rfl⟩ [1, 2] (by decide) rfl 1 rfl rfl rfl rfl (Nat.le_of_ble_eq_true rfl) ⟨Nat.le_of_ble_eq_true rfl, Nat.le_of_ble_eq_true rfl⟩ dX1_fly_44) hG [1, 2] rfl rfl rfl (fun H locs hG => ?_)
        clear hz_8
        refine lv_iinc (v := (x4 + (1 : Int32))) (lv' := [(4, .int (x4 + (1 : Int32))), (0, .ref a0), (1, .ref a4), (2, .int x2), (3, .int x3)]) hx hb dX1_fly_47 hl (k := 4) rfl rfl (by decide) rfl (fun ls hl => ?_)
        refine lv_goto (tgt := 21) hx hb dX1_fly_50 (by decide) ?_
        exact KC _ _ (Option.some.inj h).symm _ _ _ (lv_sub hl [1, 2, 3, 4, 0] rfl) hG
  have L7 : ∀ (c_start : Int32) (c_end : Int32), ∀ (n : Nat) (x3 : Int32) (c_loads_cells : Nat → Int32) (c_order : Nat → Int32) (c_done : Int32) (ec_loads_cells : Nat → Int32) (ec_order : Nat → Int32) (ec_done : Int32), DX1_fly_L7 x2 o_thrown_cells o_thrown_filled n x3 c_loads_cells c_order c_done = some (ec_loads_cells, ec_order, ec_done) → (∀ (ls : Array Slot) (H : Heap) (locs : List Loc), lv_has ls 5 [(0, .ref a0), (1, .ref a4)] → G dC dI A H0 (W_X1_X3 a0 a1 a2 a3 a4 a5 a6 a7 a8 cI cJ ec_loads_cells c_loads_filled ec_order ec_done c_start c_end o_stand o_home o_priceStart o_priceStep o_thrown_cells o_thrown_filled o_nets_cells o_nets_filled) H locs → W p l e (RM 5 119) s m args below meth c H locs 0 0 QQ (F0 m 72 ls [])) → ∀ (ls : Array Slot) (H : Heap) (locs : List Loc), lv_has ls 5 [(0, .ref a0), (1, .ref a4), (2, .int x2), (3, .int x3)] → G dC dI A H0 (W_X1_X3 a0 a1 a2 a3 a4 a5 a6 a7 a8 cI cJ c_loads_cells c_loads_filled c_order c_done c_start c_end o_stand o_home o_priceStart o_priceStep o_thrown_cells o_thrown_filled o_nets_cells o_nets_filled) H locs → W p l e (RM 5 119) s m args below meth c H locs 0 0 QQ (F0 m 7 ls []) := by
    intro c_start c_end n
    induction n with
    | zero => intro x3 c_loads_cells c_order c_done ec_loads_cells ec_order ec_done h; exact it_zero h
    | succ n ih =>
      intro x3 c_loads_cells c_order c_done ec_loads_cells ec_order ec_done h0 K0 ls H locs hl hG
      obtain ⟨w, h, hi, hr⟩ := it_succ h0
      have h : DX1_fly_L7s x2 o_thrown_cells o_thrown_filled x3 c_loads_cells c_order c_done = some w := h
      have KC : ∀ (x3 : Int32) (c_loads_cells : Nat → Int32) (c_order : Nat → Int32) (c_done : Int32), w = .inl (x3, c_loads_cells, c_order, c_done) → ∀ (ls : Array Slot) (H : Heap) (locs : List Loc), lv_has ls 5 [(0, .ref a0), (1, .ref a4), (2, .int x2), (3, .int x3)] → G dC dI A H0 (W_X1_X3 a0 a1 a2 a3 a4 a5 a6 a7 a8 cI cJ c_loads_cells c_loads_filled c_order c_done c_start c_end o_stand o_home o_priceStart o_priceStep o_thrown_cells o_thrown_filled o_nets_cells o_nets_filled) H locs → W p l e (RM 5 119) s m args below meth c H locs 0 0 QQ (F0 m 7 ls []) := fun b0 b1 b2 b3 e ls H locs hl hG => ih b0 b1 b2 b3 ec_loads_cells ec_order ec_done (hi _ e) K0 ls H locs hl hG
      have KX : ∀ (c_loads_cells : Nat → Int32) (c_order : Nat → Int32) (c_done : Int32), w = .inr (c_loads_cells, c_order, c_done) → ∀ (ls : Array Slot) (H : Heap) (locs : List Loc), lv_has ls 5 [(0, .ref a0), (1, .ref a4)] → G dC dI A H0 (W_X1_X3 a0 a1 a2 a3 a4 a5 a6 a7 a8 cI cJ c_loads_cells c_loads_filled c_order c_done c_start c_end o_stand o_home o_priceStart o_priceStep o_thrown_cells o_thrown_filled o_nets_cells o_nets_filled) H locs → W p l e (RM 5 119) s m args below meth c H locs 0 0 QQ (F0 m 72 ls []) := fun b0 b1 b2 e ls H locs hl hG => by cases hr _ e; exact K0 ls H locs hl hG
      clear h0 hi hr K0 ih
      unfold DX1_fly_L7s at h
      refine lv_iload_n hx hb dX1_fly_7 rfl (lv_at hl 3 rfl) ?_
      refine lv_aload_n hx hb dX1_fly_8 rfl (lv_at hl 1 rfl) ?_
      refine r_getN X hG in_X3 rfl 4 (by decide) w_137 4 rfl rfl dX1_fly_9 ?_
      obtain ⟨r_1, hz_2, h⟩ := bd1_some h
      refine aft_i (ws' := (W_X1_X3 a0 a1 a2 a3 a4 a5 a6 a7 a8 cI cJ c_loads_cells c_loads_filled c_order c_done c_start c_end o_stand o_home o_priceStart o_priceStep o_thrown_cells o_thrown_filled o_nets_cells o_nets_filled)) (run_V (rest := [.int x3]) X hG hl.1 (mX5_rows l dC dI cI cJ a5 a6 (7 : Int32) (4 : Int32) 28 o_thrown_cells o_thrown_filled hz_2) gi_V_X1_39 hd_V_yX5_rows ⟨rfl, rfl⟩ rfl ⟨Nat.le_of_ble_eq_true rfl, Nat.le_of_ble_eq_true rfl⟩ [5, 6] (by decide) rfl 5 rfl rfl rfl rfl (Nat.le_of_ble_eq_true rfl) ⟨Nat.le_of_ble_eq_true rfl, Nat.le_of_ble_eq_true rfl⟩ dX1_fly_12) hG [5, 6] rfl rfl rfl (fun H locs hG => ?_)
      clear hz_2
      refine lv_icmp_ge (tgt := 72) hx hb dX1_fly_15 (by decide) (fun c_3 => ?_) (fun c_3 => ?_)
      · have h := ite_t h c_3
        exact KX _ _ _ (Option.some.inj h).symm _ _ _ (lv_sub hl [0, 1] rfl) hG
      · have h := ite_f h c_3
        refine lv_iconst (v := (0 : Int32)) hx hb dX1_fly_18 (by decide) ?_
        refine lv_istore (lv' := [(4, .int (0 : Int32)), (0, .ref a0), (1, .ref a4), (2, .int x2), (3, .int x3)]) hx hb dX1_fly_19 hl (by decide) rfl (fun ls hl => ?_)
        obtain ⟨k_loads_cells_9, hz, h⟩ := bd1_some h
        refine L21 x3 c_order c_done c_start c_end FU (0 : Int32) c_loads_cells _ hz (fun ls H locs hl hG => ?_) _ _ _ (lv_sub hl [1, 2, 3, 4, 0] rfl) hG
        clear hz
        refine lv_iload_n hx hb dX1_fly_53 rfl (lv_at hl 2 rfl) ?_
        refine lv_iload_n hx hb dX1_fly_54 rfl (lv_at hl 3 rfl) ?_
        refine lv_ishr hx hb dX1_fly_55 ?_
        refine lv_iconst (v := (1 : Int32)) hx hb dX1_fly_56 (by decide) ?_
        refine lv_iand hx hb dX1_fly_57 ?_
        refine lv_if_ne (tgt := 66) hx hb dX1_fly_58 (by decide) (fun c_10 => ?_) (fun c_10 => ?_)
        · have h := ite_f h c_10
          refine lv_iinc (v := (x3 + (1 : Int32))) (lv' := [(3, .int (x3 + (1 : Int32))), (0, .ref a0), (1, .ref a4), (2, .int x2)]) hx hb dX1_fly_66 hl (k := 3) rfl rfl (by decide) rfl (fun ls hl => ?_)
          refine lv_goto (tgt := 7) hx hb dX1_fly_69 (by decide) ?_
          exact KC _ _ _ _ (Option.some.inj h).symm _ _ _ (lv_sub hl [1, 2, 3, 0] rfl) hG
        · have h := ite_t h c_10
          refine lv_aload_n hx hb dX1_fly_61 rfl (lv_at hl 0 rfl) ?_
          refine lv_iload_n hx hb dX1_fly_62 rfl (lv_at hl 3 rfl) ?_
          obtain ⟨k_order_11, k_done_12, hz_13, h⟩ := bd2_some h
          refine aft_v (ws' := (W_X1_X3 a0 a1 a2 a3 a4 a5 a6 a7 a8 cI cJ k_loads_cells_9 c_loads_filled k_order_11 k_done_12 c_start c_end o_stand o_home o_priceStart o_priceStep o_thrown_cells o_thrown_filled o_nets_cells o_nets_filled)) (run_V (rest := []) X hG hl.1 (mX1_lineUp l dC dI cI cJ a0 a1 a2 a3 k_loads_cells_9 c_loads_filled c_order c_done c_start c_end x3 hz_13) gi_V_X1_51 hd_V_yX1_lineUp ⟨rfl, rfl⟩ rfl ⟨Nat.le_of_ble_eq_true rfl, Nat.le_of_ble_eq_true rfl⟩ [0, 1, 2, 3] (by decide) rfl 0 rfl rfl rfl rfl (Nat.le_of_ble_eq_true rfl) ⟨Nat.le_of_ble_eq_true rfl, Nat.le_of_ble_eq_true rfl⟩ dX1_fly_63) hG [0, 1, 2, 3] rfl rfl rfl (fun H locs hG => ?_)
          clear hz_13
          refine lv_iinc (v := (x3 + (1 : Int32))) (lv' := [(3, .int (x3 + (1 : Int32))), (0, .ref a0), (1, .ref a4), (2, .int x2)]) hx hb dX1_fly_66 hl (k := 3) rfl rfl (by decide) rfl (fun ls hl => ?_)
          refine lv_goto (tgt := 7) hx hb dX1_fly_69 (by decide) ?_
          exact KC _ _ _ _ (Option.some.inj h).symm _ _ _ (lv_sub hl [1, 2, 3, 0] rfl) hG
  have h := hD
  unfold DX1_fly at h
  clear hD
  refine lv_aload_n hx hb dX1_fly_0 rfl (lv_at hl 0 rfl) ?_
  refine lv_iconst (v := (0 : Int32)) hx hb dX1_fly_1 (by decide) ?_
  refine r_put X hG in_X1 rfl tyX1 tyX1_ok nmX1 2 (by decide) rfl (by decide +kernel) w_163 0 (ws' := (W_X1_X3 a0 a1 a2 a3 a4 a5 a6 a7 a8 cI cJ c_loads_cells c_loads_filled c_order (0 : Int32) c_start c_end o_stand o_home o_priceStart o_priceStep o_thrown_cells o_thrown_filled o_nets_cells o_nets_filled)) rfl (Nat.le_of_ble_eq_true rfl) rfl dX1_fly_2 (fun H locs hG => ?_)
  refine lv_iconst (v := (0 : Int32)) hx hb dX1_fly_5 (by decide) ?_
  refine lv_istore_n (lv' := [(3, .int (0 : Int32)), (0, .ref a0), (1, .ref a4), (2, .int x2)]) hx hb dX1_fly_6 rfl hl (by decide) rfl (fun ls hl => ?_)
  obtain ⟨k_loads_cells_14, k_order_15, k_done_16, hz, h⟩ := bd3_some h
  refine L7 c_start c_end FU (0 : Int32) c_loads_cells c_order (0 : Int32) _ _ _ hz (fun ls H locs hl hG => ?_) _ _ _ (lv_sub hl [1, 2, 3, 0] rfl) hG
  clear hz
  refine lv_aload_n hx hb dX1_fly_72 rfl (lv_at hl 0 rfl) ?_
  refine lv_aload_n hx hb dX1_fly_73 rfl (lv_at hl 1 rfl) ?_
  refine r_getN X hG in_X3 rfl 0 (by decide) w_128 4 rfl rfl dX1_fly_74 ?_
  obtain ⟨k_loads_cells_17, k_start_18, k_end_19, hz_20, h⟩ := bd3_some h
  refine aft_v (ws' := (W_X1_X3 a0 a1 a2 a3 a4 a5 a6 a7 a8 cI cJ k_loads_cells_17 c_loads_filled k_order_15 k_done_16 k_start_18 k_end_19 o_stand o_home o_priceStart o_priceStep o_thrown_cells o_thrown_filled o_nets_cells o_nets_filled)) (run_V (rest := []) X hG hl.1 (mX1_throwAll l dC dI cI cJ a0 a1 a2 a3 k_loads_cells_14 c_loads_filled k_order_15 k_done_16 c_start c_end o_stand hz_20) gi_V_X1_58 hd_V_yX1_throwAll ⟨rfl, rfl⟩ rfl ⟨Nat.le_of_ble_eq_true rfl, Nat.le_of_ble_eq_true rfl⟩ [0, 1, 2, 3] (by decide) rfl 0 rfl rfl rfl rfl (Nat.le_of_ble_eq_true rfl) ⟨Nat.le_of_ble_eq_true rfl, Nat.le_of_ble_eq_true rfl⟩ dX1_fly_77) hG [0, 1, 2, 3] rfl rfl rfl (fun H locs hG => ?_)
  clear hz_20
  refine lv_aload_n hx hb dX1_fly_80 rfl (lv_at hl 0 rfl) ?_
  refine lv_aload_n hx hb dX1_fly_81 rfl (lv_at hl 1 rfl) ?_
  refine r_getN X hG in_X3 rfl 1 (by decide) w_131 4 rfl rfl dX1_fly_82 ?_
  obtain ⟨k_loads_cells_21, hz_22, h⟩ := bd1_some h
  refine aft_v (ws' := (W_X1_X3 a0 a1 a2 a3 a4 a5 a6 a7 a8 cI cJ k_loads_cells_21 c_loads_filled k_order_15 k_done_16 k_start_18 k_end_19 o_stand o_home o_priceStart o_priceStep o_thrown_cells o_thrown_filled o_nets_cells o_nets_filled)) (run_V (rest := []) X hG hl.1 (mX1_meetAll l dC dI cI cJ a0 a1 a2 a3 k_loads_cells_17 c_loads_filled k_order_15 k_done_16 k_start_18 k_end_19 o_home hz_22) gi_V_X1_64 hd_V_yX1_meetAll ⟨rfl, rfl⟩ rfl ⟨Nat.le_of_ble_eq_true rfl, Nat.le_of_ble_eq_true rfl⟩ [0, 1, 2, 3] (by decide) rfl 0 rfl rfl rfl rfl (Nat.le_of_ble_eq_true rfl) ⟨Nat.le_of_ble_eq_true rfl, Nat.le_of_ble_eq_true rfl⟩ dX1_fly_85) hG [0, 1, 2, 3] rfl rfl rfl (fun H locs hG => ?_)
  clear hz_22
  refine lv_aload_n hx hb dX1_fly_88 rfl (lv_at hl 0 rfl) ?_
  refine lv_aload_n hx hb dX1_fly_89 rfl (lv_at hl 1 rfl) ?_
  obtain ⟨k_loads_cells_23, hz_24, h⟩ := bd1_some h
  refine aft_v (ws' := (W_X1_X3 a0 a1 a2 a3 a4 a5 a6 a7 a8 cI cJ k_loads_cells_23 c_loads_filled k_order_15 k_done_16 k_start_18 k_end_19 o_stand o_home o_priceStart o_priceStep o_thrown_cells o_thrown_filled o_nets_cells o_nets_filled)) (run_V (rest := []) X hG hl.1 (mX1_bringHome l dC dI cI cJ a0 a1 a2 a3 a4 a5 a6 a7 a8 k_loads_cells_21 c_loads_filled k_order_15 k_done_16 k_start_18 k_end_19 o_stand o_home o_priceStart o_priceStep o_thrown_cells o_thrown_filled o_nets_cells o_nets_filled hz_24) gi_V_X1_67 hd_V_yX1_bringHome ⟨rfl, rfl⟩ rfl ⟨Nat.le_of_ble_eq_true rfl, Nat.le_of_ble_eq_true rfl⟩ [0, 1, 2, 3, 4, 5, 6, 7, 8] (by decide) rfl 0 rfl rfl rfl rfl (Nat.le_of_ble_eq_true rfl) ⟨Nat.le_of_ble_eq_true rfl, Nat.le_of_ble_eq_true rfl⟩ dX1_fly_90) hG [0, 1, 2, 3, 4, 5, 6, 7, 8] rfl rfl rfl (fun H locs hG => ?_)
  clear hz_24
  cases h
  exact ret _ _ _ _ dX1_fly_93 hG
set_option maxRecDepth 100000 in
set_option maxHeartbeats 4000000 in
theorem mX1_known (l : Launch) (dC : Nat → ClassId) (dI : Nat → Nat → Nat) (cI cJ : ClassId) (a0 a1 a2 a3 : Nat) (c_loads_cells : Nat → Int32) (c_loads_filled : Int32) (c_order : Nat → Int32) (c_done : Int32) (c_start : Int32) (c_end : Int32) (x1 : Int32) (x2 : Int32) {res : Int32} (hD : DX1_known x1 x2 c_loads_cells = some res) : Met l yX1_known (WZ yX1_known cX1_known 3 (some .int)) (RM 1 23) (PC dC dI cI cJ [.ref a0, .int x1, .int x2] (W_X1 a0 a1 a2 a3 cI cJ c_loads_cells c_loads_filled c_order c_done c_start c_end)) (QI dC dI (W_X1 a0 a1 a2 a3 cI cJ c_loads_cells c_loads_filled c_order c_done c_start c_end) (W_X1 a0 a1 a2 a3 cI cJ c_loads_cells c_loads_filled c_order c_done c_start c_end) res) 0 0 (FA (W_X1 a0 a1 a2 a3 cI cJ c_loads_cells c_loads_filled c_order c_done c_start c_end)) := by
  refine r_metI (by decide +kernel) (Nat.le_of_ble_eq_true rfl) ?_
  intro p e s m args below meth c A H0 QQ X ret ls hl hG
  have X : Cx p m c cX1_known 3 s args RX1 dC dI cI cJ meth (some .int) := X
  have hx := X.1.1
  have hb := X.1.2.1
  have hl : lv_has ls 3 [(0, .ref a0), (1, .int x1), (2, .int x2)] := hl
  have h := hD
  unfold DX1_known at h
  clear hD
  refine lv_aload_n hx hb dX1_known_0 rfl (lv_at hl 0 rfl) ?_
  refine r_get X hG in_X1 rfl 0 (by decide) w_161 0 rfl rfl dX1_known_1 ?_
  refine lv_iload_n hx hb dX1_known_4 rfl (lv_at hl 1 rfl) ?_
  refine lv_iload_n hx hb dX1_known_5 rfl (lv_at hl 2 rfl) ?_
  obtain ⟨r_1, hz_2, h⟩ := bd1_some h
  refine aft_i (ws' := (W_X1 a0 a1 a2 a3 cI cJ c_loads_cells c_loads_filled c_order c_done c_start c_end)) (run_V (rest := []) X hG hl.1 (mX5_get l dC dI cI cJ a1 a2 (7 : Int32) (10 : Int32) 70 c_loads_cells c_loads_filled x1 x2 hz_2) gi_V_X1_43 hd_V_yX5_get ⟨rfl, rfl⟩ rfl ⟨Nat.le_of_ble_eq_true rfl, Nat.le_of_ble_eq_true rfl⟩ [1, 2] (by decide) rfl 1 rfl rfl rfl rfl (Nat.le_of_ble_eq_true rfl) ⟨Nat.le_of_ble_eq_true rfl, Nat.le_of_ble_eq_true rfl⟩ dX1_known_6) hG [1, 2] rfl rfl rfl (fun H locs hG => ?_)
  clear hz_2
  cases h
  exact ret _ _ _ _ dX1_known_9 hG
set_option maxRecDepth 100000 in
set_option maxHeartbeats 4000000 in
theorem mX1_farOn (l : Launch) (dC : Nat → ClassId) (dI : Nat → Nat → Nat) (cI cJ : ClassId) (a0 a1 a2 a3 : Nat) (c_loads_cells : Nat → Int32) (c_loads_filled : Int32) (c_order : Nat → Int32) (c_done : Int32) (c_start : Int32) (c_end : Int32) (x1 : Int32) (x2 : Int32) {res : Int32} (hD : DX1_farOn x1 x2 c_loads_cells = some res) : Met l yX1_farOn (WZ yX1_farOn cX1_farOn 5 (some .int)) (RM 1 23) (PC dC dI cI cJ [.ref a0, .int x1, .int x2] (W_X1 a0 a1 a2 a3 cI cJ c_loads_cells c_loads_filled c_order c_done c_start c_end)) (QI dC dI (W_X1 a0 a1 a2 a3 cI cJ c_loads_cells c_loads_filled c_order c_done c_start c_end) (W_X1 a0 a1 a2 a3 cI cJ c_loads_cells c_loads_filled c_order c_done c_start c_end) res) 0 0 (FA (W_X1 a0 a1 a2 a3 cI cJ c_loads_cells c_loads_filled c_order c_done c_start c_end)) := by
  refine r_metI (by decide +kernel) (Nat.le_of_ble_eq_true rfl) ?_
  intro p e s m args below meth c A H0 QQ X ret ls hl hG
  have X : Cx p m c cX1_farOn 5 s args RX1 dC dI cI cJ meth (some .int) := X
  have hx := X.1.1
  have hb := X.1.2.1
  have hl : lv_has ls 5 [(0, .ref a0), (1, .int x1), (2, .int x2)] := hl
  have J35 : ∀ (y0 : Int32) (x3 : Int32), DX1_farOn_J35 x1 c_loads_cells y0 x3 = some res → ∀ (ls : Array Slot) (H : Heap) (locs : List Loc), lv_has ls 5 [(0, .ref a0), (1, .int x1), (3, .int x3)] → G dC dI A H0 (W_X1 a0 a1 a2 a3 cI cJ c_loads_cells c_loads_filled c_order c_done c_start c_end) H locs → W p l e (RM 1 23) s m args below meth c H locs 0 0 QQ (F0 m 35 ls [.int y0]) := by
    intro y0 x3 h  ls H locs hl hG
    unfold DX1_farOn_J35 at h
    refine lv_istore (lv' := [(4, .int y0), (0, .ref a0), (1, .int x1), (3, .int x3)]) hx hb dX1_farOn_35 hl (by decide) rfl (fun ls hl => ?_)
    refine lv_iload hx hb dX1_farOn_37 (lv_at hl 0 rfl) ?_
    refine lv_if_eq (tgt := 56) hx hb dX1_farOn_39 (by decide) (fun c_4 => ?_) (fun c_4 => ?_)
    · have h := ite_t h c_4
      refine lv_bipush (v := (-4 : Int32)) hx hb dX1_farOn_56 (by decide) ?_
      cases h
      exact ret _ _ _ _ dX1_farOn_58 hG
    · have h := ite_f h c_4
      refine lv_iload_n hx hb dX1_farOn_42 rfl (lv_at hl 3 rfl) ?_
      refine lv_aload_n hx hb dX1_farOn_43 rfl (lv_at hl 1 rfl) ?_
      refine r_get X hG in_X1 rfl 0 (by decide) w_161 0 rfl rfl dX1_farOn_44 ?_
      refine lv_iload_n hx hb dX1_farOn_47 rfl (lv_at hl 2 rfl) ?_
      refine lv_iconst (v := (2 : Int32)) hx hb dX1_farOn_48 (by decide) ?_
      obtain ⟨r_5, hz_6, h⟩ := bd1_some h
      refine aft_i (ws' := (W_X1 a0 a1 a2 a3 cI cJ c_loads_cells c_loads_filled c_order c_done c_start c_end)) (run_V (rest := [.int x3]) X hG hl.1 (mX5_get l dC dI cI cJ a1 a2 (7 : Int32) (10 : Int32) 70 c_loads_cells c_loads_filled x1 (2 : Int32) hz_6) gi_V_X1_43 hd_V_yX5_get ⟨rfl, rfl⟩ rfl ⟨Nat.le_of_ble_eq_true rfl, Nat.le_of_ble_eq_true rfl⟩ [1, 2] (by decide) rfl 1 rfl rfl rfl rfl (Nat.le_of_ble_eq_true rfl) ⟨Nat.le_of_ble_eq_true rfl, Nat.le_of_ble_eq_true rfl⟩ dX1_farOn_49) hG [1, 2] rfl rfl rfl (fun H locs hG => ?_)
      clear hz_6
      refine lv_imul hx hb dX1_farOn_52 ?_
      refine lv_goto (tgt := 58) hx hb dX1_farOn_53 (by decide) ?_
      cases h
      exact ret _ _ _ _ dX1_farOn_58 hG
  have h := hD
  unfold DX1_farOn at h
  clear hD
  refine lv_iload_n hx hb dX1_farOn_0 rfl (lv_at hl 2 rfl) ?_
  refine lv_aload_n hx hb dX1_farOn_1 rfl (lv_at hl 0 rfl) ?_
  refine r_get X hG in_X1 rfl 0 (by decide) w_161 0 rfl rfl dX1_farOn_2 ?_
  refine lv_iload_n hx hb dX1_farOn_5 rfl (lv_at hl 1 rfl) ?_
  refine lv_iconst (v := (0 : Int32)) hx hb dX1_farOn_6 (by decide) ?_
  obtain ⟨r_1, hz_2, h⟩ := bd1_some h
  refine aft_i (ws' := (W_X1 a0 a1 a2 a3 cI cJ c_loads_cells c_loads_filled c_order c_done c_start c_end)) (run_V (rest := [.int x2]) X hG hl.1 (mX5_get l dC dI cI cJ a1 a2 (7 : Int32) (10 : Int32) 70 c_loads_cells c_loads_filled x1 (0 : Int32) hz_2) gi_V_X1_43 hd_V_yX5_get ⟨rfl, rfl⟩ rfl ⟨Nat.le_of_ble_eq_true rfl, Nat.le_of_ble_eq_true rfl⟩ [1, 2] (by decide) rfl 1 rfl rfl rfl rfl (Nat.le_of_ble_eq_true rfl) ⟨Nat.le_of_ble_eq_true rfl, Nat.le_of_ble_eq_true rfl⟩ dX1_farOn_7) hG [1, 2] rfl rfl rfl (fun H locs hG => ?_)
  clear hz_2
  refine lv_isub hx hb dX1_farOn_10 ?_
  refine lv_istore_n (lv' := [(3, .int (x2 - r_1)), (0, .ref a0), (1, .int x1), (2, .int x2)]) hx hb dX1_farOn_11 rfl hl (by decide) rfl (fun ls hl => ?_)
  refine lv_iload_n hx hb dX1_farOn_12 rfl (lv_at hl 0 rfl) ?_
  refine lv_if_lt (tgt := 34) hx hb dX1_farOn_13 (by decide) (fun c_3 => ?_) (fun c_3 => ?_)
  · have h := ite_t h c_3
    refine lv_iconst (v := (0 : Int32)) hx hb dX1_farOn_34 (by decide) ?_
    exact J35 (0 : Int32) (x2 - r_1)  h  _ _ _ (lv_sub hl [1, 2, 0] rfl) hG
  · have h := ite_f h c_3
    refine lv_iload_n hx hb dX1_farOn_16 rfl (lv_at hl 3 rfl) ?_
    refine lv_aload_n hx hb dX1_farOn_17 rfl (lv_at hl 1 rfl) ?_
    refine r_get X hG in_X1 rfl 0 (by decide) w_161 0 rfl rfl dX1_farOn_18 ?_
    refine lv_iload_n hx hb dX1_farOn_21 rfl (lv_at hl 2 rfl) ?_
    refine lv_bipush (v := (7 : Int32)) hx hb dX1_farOn_22 (by decide) ?_
    obtain ⟨r_7, hz_8, h⟩ := bd1_some h
    refine aft_i (ws' := (W_X1 a0 a1 a2 a3 cI cJ c_loads_cells c_loads_filled c_order c_done c_start c_end)) (run_V (rest := [.int x2]) X hG hl.1 (mX5_get l dC dI cI cJ a1 a2 (7 : Int32) (10 : Int32) 70 c_loads_cells c_loads_filled x1 (7 : Int32) hz_8) gi_V_X1_43 hd_V_yX5_get ⟨rfl, rfl⟩ rfl ⟨Nat.le_of_ble_eq_true rfl, Nat.le_of_ble_eq_true rfl⟩ [1, 2] (by decide) rfl 1 rfl rfl rfl rfl (Nat.le_of_ble_eq_true rfl) ⟨Nat.le_of_ble_eq_true rfl, Nat.le_of_ble_eq_true rfl⟩ dX1_farOn_24) hG [1, 2] rfl rfl rfl (fun H locs hG => ?_)
    clear hz_8
    refine lv_icmp_ge (tgt := 34) hx hb dX1_farOn_27 (by decide) (fun c_9 => ?_) (fun c_9 => ?_)
    · have h := ite_t h c_9
      refine lv_iconst (v := (0 : Int32)) hx hb dX1_farOn_34 (by decide) ?_
      exact J35 (0 : Int32) (x2 - r_1)  h  _ _ _ (lv_sub hl [1, 2, 0] rfl) hG
    · have h := ite_f h c_9
      refine lv_iconst (v := (1 : Int32)) hx hb dX1_farOn_30 (by decide) ?_
      refine lv_goto (tgt := 35) hx hb dX1_farOn_31 (by decide) ?_
      exact J35 (1 : Int32) (x2 - r_1)  h  _ _ _ (lv_sub hl [1, 2, 0] rfl) hG
set_option maxRecDepth 100000 in
set_option maxHeartbeats 4000000 in
theorem mX1_standBehind (l : Launch) (dC : Nat → ClassId) (dI : Nat → Nat → Nat) (cI cJ : ClassId) (a0 a1 a2 a3 : Nat) (c_loads_cells : Nat → Int32) (c_loads_filled : Int32) (c_order : Nat → Int32) (c_done : Int32) (c_start : Int32) (c_end : Int32) (x1 : Int32) {res : Int32} (hD : DX1_standBehind x1 c_loads_cells c_order c_done c_start = some res) : Met l yX1_standBehind (WZ yX1_standBehind cX1_standBehind 5 (some .int)) (RM 1 23) (PC dC dI cI cJ [.ref a0, .int x1] (W_X1 a0 a1 a2 a3 cI cJ c_loads_cells c_loads_filled c_order c_done c_start c_end)) (QI dC dI (W_X1 a0 a1 a2 a3 cI cJ c_loads_cells c_loads_filled c_order c_done c_start c_end) (W_X1 a0 a1 a2 a3 cI cJ c_loads_cells c_loads_filled c_order c_done c_start c_end) res) 0 0 (FA (W_X1 a0 a1 a2 a3 cI cJ c_loads_cells c_loads_filled c_order c_done c_start c_end)) := by
  refine r_metI (by decide +kernel) (Nat.le_of_ble_eq_true rfl) ?_
  intro p e s m args below meth c A H0 QQ X ret ls hl hG
  have X : Cx p m c cX1_standBehind 5 s args RX1 dC dI cI cJ meth (some .int) := X
  have hx := X.1.1
  have hb := X.1.2.1
  have hl : lv_has ls 5 [(0, .ref a0), (1, .int x1)] := hl
  have L7 : ∀ (n : Nat) (x2 : Int32) (x3 : Int32) (ex2 : Int32), DX1_standBehind_L7 x1 c_loads_cells c_order c_done n x2 x3 = some ex2 → (∀ (ls : Array Slot) (H : Heap) (locs : List Loc), lv_has ls 5 [(2, .int ex2)] → G dC dI A H0 (W_X1 a0 a1 a2 a3 cI cJ c_loads_cells c_loads_filled c_order c_done c_start c_end) H locs → W p l e (RM 1 23) s m args below meth c H locs 0 0 QQ (F0 m 56 ls [])) → ∀ (ls : Array Slot) (H : Heap) (locs : List Loc), lv_has ls 5 [(0, .ref a0), (1, .int x1), (2, .int x2), (3, .int x3)] → G dC dI A H0 (W_X1 a0 a1 a2 a3 cI cJ c_loads_cells c_loads_filled c_order c_done c_start c_end) H locs → W p l e (RM 1 23) s m args below meth c H locs 0 0 QQ (F0 m 7 ls []) := by
    intro  n
    induction n with
    | zero => intro x2 x3 ex2 h; exact it_zero h
    | succ n ih =>
      intro x2 x3 ex2 h0 K0 ls H locs hl hG
      obtain ⟨w, h, hi, hr⟩ := it_succ h0
      have h : DX1_standBehind_L7s x1 c_loads_cells c_order c_done x2 x3 = some w := h
      have KC : ∀ (x2 : Int32) (x3 : Int32), w = .inl (x2, x3) → ∀ (ls : Array Slot) (H : Heap) (locs : List Loc), lv_has ls 5 [(0, .ref a0), (1, .int x1), (2, .int x2), (3, .int x3)] → G dC dI A H0 (W_X1 a0 a1 a2 a3 cI cJ c_loads_cells c_loads_filled c_order c_done c_start c_end) H locs → W p l e (RM 1 23) s m args below meth c H locs 0 0 QQ (F0 m 7 ls []) := fun b0 b1 e ls H locs hl hG => ih b0 b1 ex2 (hi _ e) K0 ls H locs hl hG
      have KX : ∀ (x2 : Int32), w = .inr x2 → ∀ (ls : Array Slot) (H : Heap) (locs : List Loc), lv_has ls 5 [(2, .int x2)] → G dC dI A H0 (W_X1 a0 a1 a2 a3 cI cJ c_loads_cells c_loads_filled c_order c_done c_start c_end) H locs → W p l e (RM 1 23) s m args below meth c H locs 0 0 QQ (F0 m 56 ls []) := fun b0 e ls H locs hl hG => by cases hr _ e; exact K0 ls H locs hl hG
      clear h0 hi hr K0 ih
      unfold DX1_standBehind_L7s at h
      refine lv_iload_n hx hb dX1_standBehind_7 rfl (lv_at hl 3 rfl) ?_
      refine lv_aload_n hx hb dX1_standBehind_8 rfl (lv_at hl 0 rfl) ?_
      refine r_get X hG in_X1 rfl 2 (by decide) w_163 0 rfl rfl dX1_standBehind_9 ?_
      refine lv_icmp_ge (tgt := 56) hx hb dX1_standBehind_12 (by decide) (fun c_1 => ?_) (fun c_1 => ?_)
      · have h := ite_t h c_1
        exact KX _ (Option.some.inj h).symm _ _ _ (lv_sub hl [2] rfl) hG
      · have h := ite_f h c_1
        refine lv_aload_n hx hb dX1_standBehind_15 rfl (lv_at hl 0 rfl) ?_
        refine r_get X hG in_X1 rfl 1 (by decide) w_162 0 rfl rfl dX1_standBehind_16 ?_
        refine lv_iload_n hx hb dX1_standBehind_19 rfl (lv_at hl 3 rfl) ?_
        obtain ⟨r_2, hz_3, h⟩ := bd1_some h
        refine aft_i (ws' := (W_X1 a0 a1 a2 a3 cI cJ c_loads_cells c_loads_filled c_order c_done c_start c_end)) (run_SN (rest := []) X hG hl.1 (mX8_at l dC dI cI cJ a3 7 c_order x3 hz_3) gi_N_yX8_at w_384 w_296 w_41 hd_S_yX8_at ⟨rfl, rfl⟩ rfl ⟨Nat.le_of_ble_eq_true rfl, Nat.le_of_ble_eq_true rfl⟩ [3] (by decide) rfl rfl (Nat.le_of_ble_eq_true rfl) ⟨Nat.le_of_ble_eq_true rfl, Nat.le_of_ble_eq_true rfl⟩ dX1_standBehind_20) hG [3] rfl rfl rfl (fun H locs hG => ?_)
        clear hz_3
        refine lv_istore (lv' := [(4, .int r_2), (0, .ref a0), (1, .int x1), (2, .int x2), (3, .int x3)]) hx hb dX1_standBehind_23 hl (by decide) rfl (fun ls hl => ?_)
        refine lv_aload_n hx hb dX1_standBehind_25 rfl (lv_at hl 1 rfl) ?_
        refine r_get X hG in_X1 rfl 0 (by decide) w_161 0 rfl rfl dX1_standBehind_26 ?_
        refine lv_iload hx hb dX1_standBehind_29 (lv_at hl 0 rfl) ?_
        refine lv_iconst (v := (0 : Int32)) hx hb dX1_standBehind_31 (by decide) ?_
        obtain ⟨r_4, hz_5, h⟩ := bd1_some h
        refine aft_i (ws' := (W_X1 a0 a1 a2 a3 cI cJ c_loads_cells c_loads_filled c_order c_done c_start c_end)) (run_V (rest := []) X hG hl.1 (mX5_get l dC dI cI cJ a1 a2 (7 : Int32) (10 : Int32) 70 c_loads_cells c_loads_filled r_2 (0 : Int32) hz_5) gi_V_X1_43 hd_V_yX5_get ⟨rfl, rfl⟩ rfl ⟨Nat.le_of_ble_eq_true rfl, Nat.le_of_ble_eq_true rfl⟩ [1, 2] (by decide) rfl 1 rfl rfl rfl rfl (Nat.le_of_ble_eq_true rfl) ⟨Nat.le_of_ble_eq_true rfl, Nat.le_of_ble_eq_true rfl⟩ dX1_standBehind_32) hG [1, 2] rfl rfl rfl (fun H locs hG => ?_)
        clear hz_5
        refine lv_iload_n hx hb dX1_standBehind_35 rfl (lv_at hl 2 rfl) ?_
        refine lv_icmp_gt (tgt := 50) hx hb dX1_standBehind_36 (by decide) (fun c_6 => ?_) (fun c_6 => ?_)
        · have h := ite_t h c_6
          refine lv_iinc (v := (x3 + (1 : Int32))) (lv' := [(3, .int (x3 + (1 : Int32))), (4, .int r_2), (0, .ref a0), (1, .int x1), (2, .int x2)]) hx hb dX1_standBehind_50 hl (k := 4) rfl rfl (by decide) rfl (fun ls hl => ?_)
          refine lv_goto (tgt := 7) hx hb dX1_standBehind_53 (by decide) ?_
          exact KC _ _ (Option.some.inj h).symm _ _ _ (lv_sub hl [2, 3, 4, 0] rfl) hG
        · have h := ite_f h c_6
          refine lv_aload_n hx hb dX1_standBehind_39 rfl (lv_at hl 1 rfl) ?_
          refine r_get X hG in_X1 rfl 0 (by decide) w_161 0 rfl rfl dX1_standBehind_40 ?_
          refine lv_iload hx hb dX1_standBehind_43 (lv_at hl 0 rfl) ?_
          refine lv_iconst (v := (5 : Int32)) hx hb dX1_standBehind_45 (by decide) ?_
          obtain ⟨r_7, hz_8, h⟩ := bd1_some h
          refine aft_i (ws' := (W_X1 a0 a1 a2 a3 cI cJ c_loads_cells c_loads_filled c_order c_done c_start c_end)) (run_V (rest := []) X hG hl.1 (mX5_get l dC dI cI cJ a1 a2 (7 : Int32) (10 : Int32) 70 c_loads_cells c_loads_filled r_2 (5 : Int32) hz_8) gi_V_X1_43 hd_V_yX5_get ⟨rfl, rfl⟩ rfl ⟨Nat.le_of_ble_eq_true rfl, Nat.le_of_ble_eq_true rfl⟩ [1, 2] (by decide) rfl 1 rfl rfl rfl rfl (Nat.le_of_ble_eq_true rfl) ⟨Nat.le_of_ble_eq_true rfl, Nat.le_of_ble_eq_true rfl⟩ dX1_standBehind_46) hG [1, 2] rfl rfl rfl (fun H locs hG => ?_)
          clear hz_8
          refine lv_istore_n (lv' := [(2, .int r_7), (4, .int r_2), (0, .ref a0), (1, .int x1), (3, .int x3)]) hx hb dX1_standBehind_49 rfl hl (by decide) rfl (fun ls hl => ?_)
          refine lv_iinc (v := (x3 + (1 : Int32))) (lv' := [(3, .int (x3 + (1 : Int32))), (2, .int r_7), (4, .int r_2), (0, .ref a0), (1, .int x1)]) hx hb dX1_standBehind_50 hl (k := 4) rfl rfl (by decide) rfl (fun ls hl => ?_)
          refine lv_goto (tgt := 7) hx hb dX1_standBehind_53 (by decide) ?_
          exact KC _ _ (Option.some.inj h).symm _ _ _ (lv_sub hl [3, 4, 1, 0] rfl) hG
  have h := hD
  unfold DX1_standBehind at h
  clear hD
  refine lv_aload_n hx hb dX1_standBehind_0 rfl (lv_at hl 0 rfl) ?_
  refine r_get X hG in_X1 rfl 3 (by decide) w_164 0 rfl rfl dX1_standBehind_1 ?_
  refine lv_istore_n (lv' := [(2, .int c_start), (0, .ref a0), (1, .int x1)]) hx hb dX1_standBehind_4 rfl hl (by decide) rfl (fun ls hl => ?_)
  refine lv_iconst (v := (0 : Int32)) hx hb dX1_standBehind_5 (by decide) ?_
  refine lv_istore_n (lv' := [(3, .int (0 : Int32)), (2, .int c_start), (0, .ref a0), (1, .int x1)]) hx hb dX1_standBehind_6 rfl hl (by decide) rfl (fun ls hl => ?_)
  obtain ⟨z2_9, hz, h⟩ := bd1_some h
  refine L7  FU c_start (0 : Int32) _ hz (fun ls H locs hl hG => ?_) _ _ _ (lv_sub hl [2, 3, 1, 0] rfl) hG
  clear hz
  refine lv_iload_n hx hb dX1_standBehind_56 rfl (lv_at hl 0 rfl) ?_
  cases h
  exact ret _ _ _ _ dX1_standBehind_57 hG
set_option maxRecDepth 100000 in
set_option maxHeartbeats 4000000 in
theorem mX1_howMany (l : Launch) (dC : Nat → ClassId) (dI : Nat → Nat → Nat) (cI cJ : ClassId) (a0 a1 a2 a3 : Nat) (c_loads_cells : Nat → Int32) (c_loads_filled : Int32) (c_order : Nat → Int32) (c_done : Int32) (c_start : Int32) (c_end : Int32) (x1 : Int32) {res : Int32} (hD : DX1_howMany x1 c_loads_cells c_order c_done = some res) : Met l yX1_howMany (WZ yX1_howMany cX1_howMany 4 (some .int)) (RM 1 23) (PC dC dI cI cJ [.ref a0, .int x1] (W_X1 a0 a1 a2 a3 cI cJ c_loads_cells c_loads_filled c_order c_done c_start c_end)) (QI dC dI (W_X1 a0 a1 a2 a3 cI cJ c_loads_cells c_loads_filled c_order c_done c_start c_end) (W_X1 a0 a1 a2 a3 cI cJ c_loads_cells c_loads_filled c_order c_done c_start c_end) res) 0 0 (FA (W_X1 a0 a1 a2 a3 cI cJ c_loads_cells c_loads_filled c_order c_done c_start c_end)) := by
  refine r_metI (by decide +kernel) (Nat.le_of_ble_eq_true rfl) ?_
  intro p e s m args below meth c A H0 QQ X ret ls hl hG
  have X : Cx p m c cX1_howMany 4 s args RX1 dC dI cI cJ meth (some .int) := X
  have hx := X.1.1
  have hb := X.1.2.1
  have hl : lv_has ls 4 [(0, .ref a0), (1, .int x1)] := hl
  have L4 : ∀ (n : Nat) (x2 : Int32) (x3 : Int32) (ex2 : Int32), DX1_howMany_L4 x1 c_loads_cells c_order c_done n x2 x3 = some ex2 → (∀ (ls : Array Slot) (H : Heap) (locs : List Loc), lv_has ls 4 [(2, .int ex2)] → G dC dI A H0 (W_X1 a0 a1 a2 a3 cI cJ c_loads_cells c_loads_filled c_order c_done c_start c_end) H locs → W p l e (RM 1 23) s m args below meth c H locs 0 0 QQ (F0 m 42 ls [])) → ∀ (ls : Array Slot) (H : Heap) (locs : List Loc), lv_has ls 4 [(0, .ref a0), (1, .int x1), (2, .int x2), (3, .int x3)] → G dC dI A H0 (W_X1 a0 a1 a2 a3 cI cJ c_loads_cells c_loads_filled c_order c_done c_start c_end) H locs → W p l e (RM 1 23) s m args below meth c H locs 0 0 QQ (F0 m 4 ls []) := by
    intro  n
    induction n with
    | zero => intro x2 x3 ex2 h; exact it_zero h
    | succ n ih =>
      intro x2 x3 ex2 h0 K0 ls H locs hl hG
      obtain ⟨w, h, hi, hr⟩ := it_succ h0
      have h : DX1_howMany_L4s x1 c_loads_cells c_order c_done x2 x3 = some w := h
      have KC : ∀ (x2 : Int32) (x3 : Int32), w = .inl (x2, x3) → ∀ (ls : Array Slot) (H : Heap) (locs : List Loc), lv_has ls 4 [(0, .ref a0), (1, .int x1), (2, .int x2), (3, .int x3)] → G dC dI A H0 (W_X1 a0 a1 a2 a3 cI cJ c_loads_cells c_loads_filled c_order c_done c_start c_end) H locs → W p l e (RM 1 23) s m args below meth c H locs 0 0 QQ (F0 m 4 ls []) := fun b0 b1 e ls H locs hl hG => ih b0 b1 ex2 (hi _ e) K0 ls H locs hl hG
      have KX : ∀ (x2 : Int32), w = .inr x2 → ∀ (ls : Array Slot) (H : Heap) (locs : List Loc), lv_has ls 4 [(2, .int x2)] → G dC dI A H0 (W_X1 a0 a1 a2 a3 cI cJ c_loads_cells c_loads_filled c_order c_done c_start c_end) H locs → W p l e (RM 1 23) s m args below meth c H locs 0 0 QQ (F0 m 42 ls []) := fun b0 e ls H locs hl hG => by cases hr _ e; exact K0 ls H locs hl hG
      clear h0 hi hr K0 ih
      unfold DX1_howMany_L4s at h
      refine lv_iload_n hx hb dX1_howMany_4 rfl (lv_at hl 3 rfl) ?_
      refine lv_aload_n hx hb dX1_howMany_5 rfl (lv_at hl 0 rfl) ?_
      refine r_get X hG in_X1 rfl 2 (by decide) w_163 0 rfl rfl dX1_howMany_6 ?_
      refine lv_icmp_ge (tgt := 42) hx hb dX1_howMany_9 (by decide) (fun c_1 => ?_) (fun c_1 => ?_)
      · have h := ite_t h c_1
        exact KX _ (Option.some.inj h).symm _ _ _ (lv_sub hl [2] rfl) hG
      · have h := ite_f h c_1
        refine lv_aload_n hx hb dX1_howMany_12 rfl (lv_at hl 0 rfl) ?_
        refine r_get X hG in_X1 rfl 0 (by decide) w_161 0 rfl rfl dX1_howMany_13 ?_
        refine lv_aload_n hx hb dX1_howMany_16 rfl (lv_at hl 0 rfl) ?_
        refine r_get X hG in_X1 rfl 1 (by decide) w_162 0 rfl rfl dX1_howMany_17 ?_
        refine lv_iload_n hx hb dX1_howMany_20 rfl (lv_at hl 3 rfl) ?_
        obtain ⟨r_2, hz_3, h⟩ := bd1_some h
        refine aft_i (ws' := (W_X1 a0 a1 a2 a3 cI cJ c_loads_cells c_loads_filled c_order c_done c_start c_end)) (run_SN (rest := [.ref a1]) X hG hl.1 (mX8_at l dC dI cI cJ a3 7 c_order x3 hz_3) gi_N_yX8_at w_384 w_296 w_41 hd_S_yX8_at ⟨rfl, rfl⟩ rfl ⟨Nat.le_of_ble_eq_true rfl, Nat.le_of_ble_eq_true rfl⟩ [3] (by decide) rfl rfl (Nat.le_of_ble_eq_true rfl) ⟨Nat.le_of_ble_eq_true rfl, Nat.le_of_ble_eq_true rfl⟩ dX1_howMany_21) hG [3] rfl rfl rfl (fun H locs hG => ?_)
        clear hz_3
        refine lv_bipush (v := (6 : Int32)) hx hb dX1_howMany_24 (by decide) ?_
        obtain ⟨r_4, hz_5, h⟩ := bd1_some h
        refine aft_i (ws' := (W_X1 a0 a1 a2 a3 cI cJ c_loads_cells c_loads_filled c_order c_done c_start c_end)) (run_V (rest := []) X hG hl.1 (mX5_get l dC dI cI cJ a1 a2 (7 : Int32) (10 : Int32) 70 c_loads_cells c_loads_filled r_2 (6 : Int32) hz_5) gi_V_X1_43 hd_V_yX5_get ⟨rfl, rfl⟩ rfl ⟨Nat.le_of_ble_eq_true rfl, Nat.le_of_ble_eq_true rfl⟩ [1, 2] (by decide) rfl 1 rfl rfl rfl rfl (Nat.le_of_ble_eq_true rfl) ⟨Nat.le_of_ble_eq_true rfl, Nat.le_of_ble_eq_true rfl⟩ dX1_howMany_26) hG [1, 2] rfl rfl rfl (fun H locs hG => ?_)
        clear hz_5
        refine lv_iload_n hx hb dX1_howMany_29 rfl (lv_at hl 1 rfl) ?_
        refine lv_icmp_ne (tgt := 36) hx hb dX1_howMany_30 (by decide) (fun c_6 => ?_) (fun c_6 => ?_)
        · have h := ite_f h c_6
          refine lv_iinc (v := (x3 + (1 : Int32))) (lv' := [(3, .int (x3 + (1 : Int32))), (0, .ref a0), (1, .int x1), (2, .int x2)]) hx hb dX1_howMany_36 hl (k := 3) rfl rfl (by decide) rfl (fun ls hl => ?_)
          refine lv_goto (tgt := 4) hx hb dX1_howMany_39 (by decide) ?_
          exact KC _ _ (Option.some.inj h).symm _ _ _ (lv_sub hl [1, 2, 3, 0] rfl) hG
        · have h := ite_t h c_6
          refine lv_iinc (v := (x2 + (1 : Int32))) (lv' := [(2, .int (x2 + (1 : Int32))), (0, .ref a0), (1, .int x1), (3, .int x3)]) hx hb dX1_howMany_33 hl (k := 2) rfl rfl (by decide) rfl (fun ls hl => ?_)
          refine lv_iinc (v := (x3 + (1 : Int32))) (lv' := [(3, .int (x3 + (1 : Int32))), (2, .int (x2 + (1 : Int32))), (0, .ref a0), (1, .int x1)]) hx hb dX1_howMany_36 hl (k := 3) rfl rfl (by decide) rfl (fun ls hl => ?_)
          refine lv_goto (tgt := 4) hx hb dX1_howMany_39 (by decide) ?_
          exact KC _ _ (Option.some.inj h).symm _ _ _ (lv_sub hl [2, 3, 1, 0] rfl) hG
  have h := hD
  unfold DX1_howMany at h
  clear hD
  refine lv_iconst (v := (0 : Int32)) hx hb dX1_howMany_0 (by decide) ?_
  refine lv_istore_n (lv' := [(2, .int (0 : Int32)), (0, .ref a0), (1, .int x1)]) hx hb dX1_howMany_1 rfl hl (by decide) rfl (fun ls hl => ?_)
  refine lv_iconst (v := (0 : Int32)) hx hb dX1_howMany_2 (by decide) ?_
  refine lv_istore_n (lv' := [(3, .int (0 : Int32)), (2, .int (0 : Int32)), (0, .ref a0), (1, .int x1)]) hx hb dX1_howMany_3 rfl hl (by decide) rfl (fun ls hl => ?_)
  obtain ⟨z2_7, hz, h⟩ := bd1_some h
  refine L4  FU (0 : Int32) (0 : Int32) _ hz (fun ls H locs hl hG => ?_) _ _ _ (lv_sub hl [2, 3, 1, 0] rfl) hG
  clear hz
  refine lv_iload_n hx hb dX1_howMany_42 rfl (lv_at hl 0 rfl) ?_
  cases h
  exact ret _ _ _ _ dX1_howMany_43 hG
set_option maxRecDepth 100000 in
set_option maxHeartbeats 4000000 in
theorem mX1_paidInAll (l : Launch) (dC : Nat → ClassId) (dI : Nat → Nat → Nat) (cI cJ : ClassId) (a0 a1 a2 a3 : Nat) (c_loads_cells : Nat → Int32) (c_loads_filled : Int32) (c_order : Nat → Int32) (c_done : Int32) (c_start : Int32) (c_end : Int32) {res : Int32} (hD : DX1_paidInAll c_loads_cells c_order c_done = some res) : Met l yX1_paidInAll (WZ yX1_paidInAll cX1_paidInAll 3 (some .int)) (RM 1 23) (PC dC dI cI cJ [.ref a0] (W_X1 a0 a1 a2 a3 cI cJ c_loads_cells c_loads_filled c_order c_done c_start c_end)) (QI dC dI (W_X1 a0 a1 a2 a3 cI cJ c_loads_cells c_loads_filled c_order c_done c_start c_end) (W_X1 a0 a1 a2 a3 cI cJ c_loads_cells c_loads_filled c_order c_done c_start c_end) res) 0 0 (FA (W_X1 a0 a1 a2 a3 cI cJ c_loads_cells c_loads_filled c_order c_done c_start c_end)) := by
  refine r_metI (by decide +kernel) (Nat.le_of_ble_eq_true rfl) ?_
  intro p e s m args below meth c A H0 QQ X ret ls hl hG
  have X : Cx p m c cX1_paidInAll 3 s args RX1 dC dI cI cJ meth (some .int) := X
  have hx := X.1.1
  have hb := X.1.2.1
  have hl : lv_has ls 3 [(0, .ref a0)] := hl
  have L4 : ∀ (n : Nat) (x1 : Int32) (x2 : Int32) (ex1 : Int32), DX1_paidInAll_L4 c_loads_cells c_order c_done n x1 x2 = some ex1 → (∀ (ls : Array Slot) (H : Heap) (locs : List Loc), lv_has ls 3 [(1, .int ex1)] → G dC dI A H0 (W_X1 a0 a1 a2 a3 cI cJ c_loads_cells c_loads_filled c_order c_done c_start c_end) H locs → W p l e (RM 1 23) s m args below meth c H locs 0 0 QQ (F0 m 38 ls [])) → ∀ (ls : Array Slot) (H : Heap) (locs : List Loc), lv_has ls 3 [(0, .ref a0), (1, .int x1), (2, .int x2)] → G dC dI A H0 (W_X1 a0 a1 a2 a3 cI cJ c_loads_cells c_loads_filled c_order c_done c_start c_end) H locs → W p l e (RM 1 23) s m args below meth c H locs 0 0 QQ (F0 m 4 ls []) := by
    intro  n
    induction n with
    | zero => intro x1 x2 ex1 h; exact it_zero h
    | succ n ih =>
      intro x1 x2 ex1 h0 K0 ls H locs hl hG
      obtain ⟨w, h, hi, hr⟩ := it_succ h0
      have h : DX1_paidInAll_L4s c_loads_cells c_order c_done x1 x2 = some w := h
      have KC : ∀ (x1 : Int32) (x2 : Int32), w = .inl (x1, x2) → ∀ (ls : Array Slot) (H : Heap) (locs : List Loc), lv_has ls 3 [(0, .ref a0), (1, .int x1), (2, .int x2)] → G dC dI A H0 (W_X1 a0 a1 a2 a3 cI cJ c_loads_cells c_loads_filled c_order c_done c_start c_end) H locs → W p l e (RM 1 23) s m args below meth c H locs 0 0 QQ (F0 m 4 ls []) := fun b0 b1 e ls H locs hl hG => ih b0 b1 ex1 (hi _ e) K0 ls H locs hl hG
      have KX : ∀ (x1 : Int32), w = .inr x1 → ∀ (ls : Array Slot) (H : Heap) (locs : List Loc), lv_has ls 3 [(1, .int x1)] → G dC dI A H0 (W_X1 a0 a1 a2 a3 cI cJ c_loads_cells c_loads_filled c_order c_done c_start c_end) H locs → W p l e (RM 1 23) s m args below meth c H locs 0 0 QQ (F0 m 38 ls []) := fun b0 e ls H locs hl hG => by cases hr _ e; exact K0 ls H locs hl hG
      clear h0 hi hr K0 ih
      unfold DX1_paidInAll_L4s at h
      refine lv_iload_n hx hb dX1_paidInAll_4 rfl (lv_at hl 2 rfl) ?_
      refine lv_aload_n hx hb dX1_paidInAll_5 rfl (lv_at hl 0 rfl) ?_
      refine r_get X hG in_X1 rfl 2 (by decide) w_163 0 rfl rfl dX1_paidInAll_6 ?_
      refine lv_icmp_ge (tgt := 38) hx hb dX1_paidInAll_9 (by decide) (fun c_1 => ?_) (fun c_1 => ?_)
      · have h := ite_t h c_1
        exact KX _ (Option.some.inj h).symm _ _ _ (lv_sub hl [1] rfl) hG
      · have h := ite_f h c_1
        refine lv_iload_n hx hb dX1_paidInAll_12 rfl (lv_at hl 1 rfl) ?_
        refine lv_aload_n hx hb dX1_paidInAll_13 rfl (lv_at hl 0 rfl) ?_
        refine r_get X hG in_X1 rfl 0 (by decide) w_161 0 rfl rfl dX1_paidInAll_14 ?_
        refine lv_aload_n hx hb dX1_paidInAll_17 rfl (lv_at hl 0 rfl) ?_
        refine r_get X hG in_X1 rfl 1 (by decide) w_162 0 rfl rfl dX1_paidInAll_18 ?_
        refine lv_iload_n hx hb dX1_paidInAll_21 rfl (lv_at hl 2 rfl) ?_
        obtain ⟨r_2, hz_3, h⟩ := bd1_some h
        refine aft_i (ws' := (W_X1 a0 a1 a2 a3 cI cJ c_loads_cells c_loads_filled c_order c_done c_start c_end)) (run_SN (rest := [.ref a1, .int x1]) X hG hl.1 (mX8_at l dC dI cI cJ a3 7 c_order x2 hz_3) gi_N_yX8_at w_384 w_296 w_41 hd_S_yX8_at ⟨rfl, rfl⟩ rfl ⟨Nat.le_of_ble_eq_true rfl, Nat.le_of_ble_eq_true rfl⟩ [3] (by decide) rfl rfl (Nat.le_of_ble_eq_true rfl) ⟨Nat.le_of_ble_eq_true rfl, Nat.le_of_ble_eq_true rfl⟩ dX1_paidInAll_22) hG [3] rfl rfl rfl (fun H locs hG => ?_)
        clear hz_3
        refine lv_bipush (v := (8 : Int32)) hx hb dX1_paidInAll_25 (by decide) ?_
        obtain ⟨r_4, hz_5, h⟩ := bd1_some h
        refine aft_i (ws' := (W_X1 a0 a1 a2 a3 cI cJ c_loads_cells c_loads_filled c_order c_done c_start c_end)) (run_V (rest := [.int x1]) X hG hl.1 (mX5_get l dC dI cI cJ a1 a2 (7 : Int32) (10 : Int32) 70 c_loads_cells c_loads_filled r_2 (8 : Int32) hz_5) gi_V_X1_43 hd_V_yX5_get ⟨rfl, rfl⟩ rfl ⟨Nat.le_of_ble_eq_true rfl, Nat.le_of_ble_eq_true rfl⟩ [1, 2] (by decide) rfl 1 rfl rfl rfl rfl (Nat.le_of_ble_eq_true rfl) ⟨Nat.le_of_ble_eq_true rfl, Nat.le_of_ble_eq_true rfl⟩ dX1_paidInAll_27) hG [1, 2] rfl rfl rfl (fun H locs hG => ?_)
        clear hz_5
        refine lv_iadd hx hb dX1_paidInAll_30 ?_
        refine lv_istore_n (lv' := [(1, .int (x1 + r_4)), (0, .ref a0), (2, .int x2)]) hx hb dX1_paidInAll_31 rfl hl (by decide) rfl (fun ls hl => ?_)
        refine lv_iinc (v := (x2 + (1 : Int32))) (lv' := [(2, .int (x2 + (1 : Int32))), (1, .int (x1 + r_4)), (0, .ref a0)]) hx hb dX1_paidInAll_32 hl (k := 2) rfl rfl (by decide) rfl (fun ls hl => ?_)
        refine lv_goto (tgt := 4) hx hb dX1_paidInAll_35 (by decide) ?_
        exact KC _ _ (Option.some.inj h).symm _ _ _ (lv_sub hl [2, 1, 0] rfl) hG
  have h := hD
  unfold DX1_paidInAll at h
  clear hD
  refine lv_iconst (v := (0 : Int32)) hx hb dX1_paidInAll_0 (by decide) ?_
  refine lv_istore_n (lv' := [(1, .int (0 : Int32)), (0, .ref a0)]) hx hb dX1_paidInAll_1 rfl hl (by decide) rfl (fun ls hl => ?_)
  refine lv_iconst (v := (0 : Int32)) hx hb dX1_paidInAll_2 (by decide) ?_
  refine lv_istore_n (lv' := [(2, .int (0 : Int32)), (1, .int (0 : Int32)), (0, .ref a0)]) hx hb dX1_paidInAll_3 rfl hl (by decide) rfl (fun ls hl => ?_)
  obtain ⟨z1_6, hz, h⟩ := bd1_some h
  refine L4  FU (0 : Int32) (0 : Int32) _ hz (fun ls H locs hl hG => ?_) _ _ _ (lv_sub hl [2, 1, 0] rfl) hG
  clear hz
  refine lv_iload_n hx hb dX1_paidInAll_38 rfl (lv_at hl 0 rfl) ?_
  cases h
  exact ret _ _ _ _ dX1_paidInAll_39 hG
set_option maxRecDepth 100000 in
set_option maxHeartbeats 4000000 in
theorem mX1_caughtWith (l : Launch) (dC : Nat → ClassId) (dI : Nat → Nat → Nat) (cI cJ : ClassId) (a0 a1 a2 a3 : Nat) (c_loads_cells : Nat → Int32) (c_loads_filled : Int32) (c_order : Nat → Int32) (c_done : Int32) (c_start : Int32) (c_end : Int32) (x1 : Int32) (x2 : Int32) {res : Int32} (hD : DX1_caughtWith x1 x2 c_loads_cells c_order c_done = some res) : Met l yX1_caughtWith (WZ yX1_caughtWith cX1_caughtWith 7 (some .int)) (RM 2 44) (PC dC dI cI cJ [.ref a0, .int x1, .int x2] (W_X1 a0 a1 a2 a3 cI cJ c_loads_cells c_loads_filled c_order c_done c_start c_end)) (QI dC dI (W_X1 a0 a1 a2 a3 cI cJ c_loads_cells c_loads_filled c_order c_done c_start c_end) (W_X1 a0 a1 a2 a3 cI cJ c_loads_cells c_loads_filled c_order c_done c_start c_end) res) 0 0 (FA (W_X1 a0 a1 a2 a3 cI cJ c_loads_cells c_loads_filled c_order c_done c_start c_end)) := by
  refine r_metI (by decide +kernel) (Nat.le_of_ble_eq_true rfl) ?_
  intro p e s m args below meth c A H0 QQ X ret ls hl hG
  have X : Cx p m c cX1_caughtWith 7 s args RX1 dC dI cI cJ meth (some .int) := X
  have hx := X.1.1
  have hb := X.1.2.1
  have hl : lv_has ls 7 [(0, .ref a0), (1, .int x1), (2, .int x2)] := hl
  have J64 : ∀ (y0 : Int32) (x3 : Int32) (x4 : Int32) (x5 : Int32), ∀ (w : (Int32 × Int32) ⊕ (Int32)), DX1_caughtWith_J64 c_loads_cells y0 x3 x4 x5 = some w → (∀ (x3 : Int32) (x4 : Int32), w = .inl (x3, x4) → ∀ (ls : Array Slot) (H : Heap) (locs : List Loc), lv_has ls 7 [(0, .ref a0), (1, .int x1), (2, .int x2), (3, .int x3), (4, .int x4)] → G dC dI A H0 (W_X1 a0 a1 a2 a3 cI cJ c_loads_cells c_loads_filled c_order c_done c_start c_end) H locs → W p l e (RM 2 44) s m args below meth c H locs 0 0 QQ (F0 m 5 ls [])) → (∀ (x3 : Int32), w = .inr x3 → ∀ (ls : Array Slot) (H : Heap) (locs : List Loc), lv_has ls 7 [(3, .int x3)] → G dC dI A H0 (W_X1 a0 a1 a2 a3 cI cJ c_loads_cells c_loads_filled c_order c_done c_start c_end) H locs → W p l e (RM 2 44) s m args below meth c H locs 0 0 QQ (F0 m 94 ls [])) → ∀ (ls : Array Slot) (H : Heap) (locs : List Loc), lv_has ls 7 [(0, .ref a0), (1, .int x1), (2, .int x2), (3, .int x3), (4, .int x4), (5, .int x5)] → G dC dI A H0 (W_X1 a0 a1 a2 a3 cI cJ c_loads_cells c_loads_filled c_order c_done c_start c_end) H locs → W p l e (RM 2 44) s m args below meth c H locs 0 0 QQ (F0 m 64 ls [.int y0]) := by
    intro y0 x3 x4 x5 w h KC KX ls H locs hl hG
    unfold DX1_caughtWith_J64 at h
    refine lv_istore (lv' := [(6, .int y0), (0, .ref a0), (1, .int x1), (2, .int x2), (3, .int x3), (4, .int x4), (5, .int x5)]) hx hb dX1_caughtWith_64 hl (by decide) rfl (fun ls hl => ?_)
    refine lv_iload hx hb dX1_caughtWith_66 (lv_at hl 0 rfl) ?_
    refine lv_if_ne (tgt := 85) hx hb dX1_caughtWith_68 (by decide) (fun c_7 => ?_) (fun c_7 => ?_)
    · have h := ite_f h c_7
      refine lv_iinc (v := (x3 + (1 : Int32))) (lv' := [(3, .int (x3 + (1 : Int32))), (6, .int y0), (0, .ref a0), (1, .int x1), (2, .int x2), (4, .int x4), (5, .int x5)]) hx hb dX1_caughtWith_85 hl (k := 4) rfl rfl (by decide) rfl (fun ls hl => ?_)
      refine lv_iinc (v := (x4 + (1 : Int32))) (lv' := [(4, .int (x4 + (1 : Int32))), (3, .int (x3 + (1 : Int32))), (6, .int y0), (0, .ref a0), (1, .int x1), (2, .int x2), (5, .int x5)]) hx hb dX1_caughtWith_88 hl (k := 5) rfl rfl (by decide) rfl (fun ls hl => ?_)
      refine lv_goto (tgt := 5) hx hb dX1_caughtWith_91 (by decide) ?_
      exact KC _ _ (Option.some.inj h).symm _ _ _ (lv_sub hl [3, 4, 5, 1, 0] rfl) hG
    · have h := ite_t h c_7
      refine lv_aload_n hx hb dX1_caughtWith_71 rfl (lv_at hl 1 rfl) ?_
      refine r_get X hG in_X1 rfl 0 (by decide) w_161 0 rfl rfl dX1_caughtWith_72 ?_
      refine lv_iload hx hb dX1_caughtWith_75 (lv_at hl 6 rfl) ?_
      refine lv_bipush (v := (6 : Int32)) hx hb dX1_caughtWith_77 (by decide) ?_
      obtain ⟨r_8, hz_9, h⟩ := bd1_some h
      refine aft_i (ws' := (W_X1 a0 a1 a2 a3 cI cJ c_loads_cells c_loads_filled c_order c_done c_start c_end)) (run_V (rest := []) X hG hl.1 (mX5_get l dC dI cI cJ a1 a2 (7 : Int32) (10 : Int32) 70 c_loads_cells c_loads_filled x5 (6 : Int32) hz_9) gi_V_X1_43 hd_V_yX5_get ⟨rfl, rfl⟩ rfl ⟨Nat.le_of_ble_eq_true rfl, Nat.le_of_ble_eq_true rfl⟩ [1, 2] (by decide) rfl 1 rfl rfl rfl rfl (Nat.le_of_ble_eq_true rfl) ⟨Nat.le_of_ble_eq_true rfl, Nat.le_of_ble_eq_true rfl⟩ dX1_caughtWith_79) hG [1, 2] rfl rfl rfl (fun H locs hG => ?_)
      clear hz_9
      refine lv_if_ne (tgt := 88) hx hb dX1_caughtWith_82 (by decide) (fun c_10 => ?_) (fun c_10 => ?_)
      · have h := ite_f h c_10
        refine lv_iinc (v := (x4 + (1 : Int32))) (lv' := [(4, .int (x4 + (1 : Int32))), (6, .int y0), (0, .ref a0), (1, .int x1), (2, .int x2), (3, .int x3), (5, .int x5)]) hx hb dX1_caughtWith_88 hl (k := 5) rfl rfl (by decide) rfl (fun ls hl => ?_)
        refine lv_goto (tgt := 5) hx hb dX1_caughtWith_91 (by decide) ?_
        exact KC _ _ (Option.some.inj h).symm _ _ _ (lv_sub hl [2, 3, 4, 5, 0] rfl) hG
      · have h := ite_t h c_10
        refine lv_iinc (v := (x3 + (1 : Int32))) (lv' := [(3, .int (x3 + (1 : Int32))), (6, .int y0), (0, .ref a0), (1, .int x1), (2, .int x2), (4, .int x4), (5, .int x5)]) hx hb dX1_caughtWith_85 hl (k := 4) rfl rfl (by decide) rfl (fun ls hl => ?_)
        refine lv_iinc (v := (x4 + (1 : Int32))) (lv' := [(4, .int (x4 + (1 : Int32))), (3, .int (x3 + (1 : Int32))), (6, .int y0), (0, .ref a0), (1, .int x1), (2, .int x2), (5, .int x5)]) hx hb dX1_caughtWith_88 hl (k := 5) rfl rfl (by decide) rfl (fun ls hl => ?_)
        refine lv_goto (tgt := 5) hx hb dX1_caughtWith_91 (by decide) ?_
        exact KC _ _ (Option.some.inj h).symm _ _ _ (lv_sub hl [3, 4, 5, 1, 0] rfl) hG
  have L5 : ∀ (n : Nat) (x3 : Int32) (x4 : Int32) (ex3 : Int32), DX1_caughtWith_L5 x1 x2 c_loads_cells c_order c_done n x3 x4 = some ex3 → (∀ (ls : Array Slot) (H : Heap) (locs : List Loc), lv_has ls 7 [(3, .int ex3)] → G dC dI A H0 (W_X1 a0 a1 a2 a3 cI cJ c_loads_cells c_loads_filled c_order c_done c_start c_end) H locs → W p l e (RM 2 44) s m args below meth c H locs 0 0 QQ (F0 m 94 ls [])) → ∀ (ls : Array Slot) (H : Heap) (locs : List Loc), lv_has ls 7 [(0, .ref a0), (1, .int x1), (2, .int x2), (3, .int x3), (4, .int x4)] → G dC dI A H0 (W_X1 a0 a1 a2 a3 cI cJ c_loads_cells c_loads_filled c_order c_done c_start c_end) H locs → W p l e (RM 2 44) s m args below meth c H locs 0 0 QQ (F0 m 5 ls []) := by
    intro  n
    induction n with
    | zero => intro x3 x4 ex3 h; exact it_zero h
    | succ n ih =>
      intro x3 x4 ex3 h0 K0 ls H locs hl hG
      obtain ⟨w, h, hi, hr⟩ := it_succ h0
      have h : DX1_caughtWith_L5s x1 x2 c_loads_cells c_order c_done x3 x4 = some w := h
      have KC : ∀ (x3 : Int32) (x4 : Int32), w = .inl (x3, x4) → ∀ (ls : Array Slot) (H : Heap) (locs : List Loc), lv_has ls 7 [(0, .ref a0), (1, .int x1), (2, .int x2), (3, .int x3), (4, .int x4)] → G dC dI A H0 (W_X1 a0 a1 a2 a3 cI cJ c_loads_cells c_loads_filled c_order c_done c_start c_end) H locs → W p l e (RM 2 44) s m args below meth c H locs 0 0 QQ (F0 m 5 ls []) := fun b0 b1 e ls H locs hl hG => ih b0 b1 ex3 (hi _ e) K0 ls H locs hl hG
      have KX : ∀ (x3 : Int32), w = .inr x3 → ∀ (ls : Array Slot) (H : Heap) (locs : List Loc), lv_has ls 7 [(3, .int x3)] → G dC dI A H0 (W_X1 a0 a1 a2 a3 cI cJ c_loads_cells c_loads_filled c_order c_done c_start c_end) H locs → W p l e (RM 2 44) s m args below meth c H locs 0 0 QQ (F0 m 94 ls []) := fun b0 e ls H locs hl hG => by cases hr _ e; exact K0 ls H locs hl hG
      clear h0 hi hr K0 ih
      unfold DX1_caughtWith_L5s at h
      refine lv_iload hx hb dX1_caughtWith_5 (lv_at hl 4 rfl) ?_
      refine lv_aload_n hx hb dX1_caughtWith_7 rfl (lv_at hl 0 rfl) ?_
      refine r_get X hG in_X1 rfl 2 (by decide) w_163 0 rfl rfl dX1_caughtWith_8 ?_
      refine lv_icmp_ge (tgt := 94) hx hb dX1_caughtWith_11 (by decide) (fun c_1 => ?_) (fun c_1 => ?_)
      · have h := ite_t h c_1
        exact KX _ (Option.some.inj h).symm _ _ _ (lv_sub hl [3] rfl) hG
      · have h := ite_f h c_1
        refine lv_aload_n hx hb dX1_caughtWith_14 rfl (lv_at hl 0 rfl) ?_
        refine r_get X hG in_X1 rfl 1 (by decide) w_162 0 rfl rfl dX1_caughtWith_15 ?_
        refine lv_iload hx hb dX1_caughtWith_18 (lv_at hl 4 rfl) ?_
        obtain ⟨r_2, hz_3, h⟩ := bd1_some h
        refine aft_i (ws' := (W_X1 a0 a1 a2 a3 cI cJ c_loads_cells c_loads_filled c_order c_done c_start c_end)) (run_SN (rest := []) X hG hl.1 (mX8_at l dC dI cI cJ a3 7 c_order x4 hz_3) gi_N_yX8_at w_384 w_296 w_41 hd_S_yX8_at ⟨rfl, rfl⟩ rfl ⟨Nat.le_of_ble_eq_true rfl, Nat.le_of_ble_eq_true rfl⟩ [3] (by decide) rfl rfl (Nat.le_of_ble_eq_true rfl) ⟨Nat.le_of_ble_eq_true rfl, Nat.le_of_ble_eq_true rfl⟩ dX1_caughtWith_20) hG [3] rfl rfl rfl (fun H locs hG => ?_)
        clear hz_3
        refine lv_istore (lv' := [(5, .int r_2), (0, .ref a0), (1, .int x1), (2, .int x2), (3, .int x3), (4, .int x4)]) hx hb dX1_caughtWith_23 hl (by decide) rfl (fun ls hl => ?_)
        refine lv_aload_n hx hb dX1_caughtWith_25 rfl (lv_at hl 1 rfl) ?_
        refine r_get X hG in_X1 rfl 0 (by decide) w_161 0 rfl rfl dX1_caughtWith_26 ?_
        refine lv_iload hx hb dX1_caughtWith_29 (lv_at hl 0 rfl) ?_
        refine lv_bipush (v := (6 : Int32)) hx hb dX1_caughtWith_31 (by decide) ?_
        obtain ⟨r_4, hz_5, h⟩ := bd1_some h
        refine aft_i (ws' := (W_X1 a0 a1 a2 a3 cI cJ c_loads_cells c_loads_filled c_order c_done c_start c_end)) (run_V (rest := []) X hG hl.1 (mX5_get l dC dI cI cJ a1 a2 (7 : Int32) (10 : Int32) 70 c_loads_cells c_loads_filled r_2 (6 : Int32) hz_5) gi_V_X1_43 hd_V_yX5_get ⟨rfl, rfl⟩ rfl ⟨Nat.le_of_ble_eq_true rfl, Nat.le_of_ble_eq_true rfl⟩ [1, 2] (by decide) rfl 1 rfl rfl rfl rfl (Nat.le_of_ble_eq_true rfl) ⟨Nat.le_of_ble_eq_true rfl, Nat.le_of_ble_eq_true rfl⟩ dX1_caughtWith_33) hG [1, 2] rfl rfl rfl (fun H locs hG => ?_)
        clear hz_5
        refine lv_iconst (v := (1 : Int32)) hx hb dX1_caughtWith_36 (by decide) ?_
        refine lv_icmp_ne (tgt := 63) hx hb dX1_caughtWith_37 (by decide) (fun c_6 => ?_) (fun c_6 => ?_)
        · have h := ite_f h c_6
          refine lv_iconst (v := (0 : Int32)) hx hb dX1_caughtWith_63 (by decide) ?_
          exact J64 (0 : Int32) x3 x4 r_2 _ h KC KX _ _ _ (lv_sub hl [1, 2, 3, 4, 5, 0] rfl) hG
        · have h := ite_t h c_6
          refine lv_aload_n hx hb dX1_caughtWith_40 rfl (lv_at hl 1 rfl) ?_
          refine r_get X hG in_X1 rfl 0 (by decide) w_161 0 rfl rfl dX1_caughtWith_41 ?_
          refine lv_iload hx hb dX1_caughtWith_44 (lv_at hl 0 rfl) ?_
          refine lv_bipush (v := (9 : Int32)) hx hb dX1_caughtWith_46 (by decide) ?_
          obtain ⟨r_11, hz_12, h⟩ := bd1_some h
          refine aft_i (ws' := (W_X1 a0 a1 a2 a3 cI cJ c_loads_cells c_loads_filled c_order c_done c_start c_end)) (run_V (rest := []) X hG hl.1 (mX5_get l dC dI cI cJ a1 a2 (7 : Int32) (10 : Int32) 70 c_loads_cells c_loads_filled r_2 (9 : Int32) hz_12) gi_V_X1_43 hd_V_yX5_get ⟨rfl, rfl⟩ rfl ⟨Nat.le_of_ble_eq_true rfl, Nat.le_of_ble_eq_true rfl⟩ [1, 2] (by decide) rfl 1 rfl rfl rfl rfl (Nat.le_of_ble_eq_true rfl) ⟨Nat.le_of_ble_eq_true rfl, Nat.le_of_ble_eq_true rfl⟩ dX1_caughtWith_48) hG [1, 2] rfl rfl rfl (fun H locs hG => ?_)
          clear hz_12
          refine lv_iload_n hx hb dX1_caughtWith_51 rfl (lv_at hl 2 rfl) ?_
          obtain ⟨r_13, hz_14, h⟩ := bd1_some h
          refine aft_i (ws' := (W_X1 a0 a1 a2 a3 cI cJ c_loads_cells c_loads_filled c_order c_done c_start c_end)) (run_SN (rest := []) X hG hl.1 (mX8_apart l dC dI cI cJ r_11 x1 hz_14) gi_N_yX8_apart w_531 w_433 w_41 hd_S_yX8_apart ⟨rfl, rfl⟩ rfl ⟨Nat.le_of_ble_eq_true rfl, Nat.le_of_ble_eq_true rfl⟩ [] (by decide) rfl rfl (Nat.le_of_ble_eq_true rfl) ⟨Nat.le_of_ble_eq_true rfl, Nat.le_of_ble_eq_true rfl⟩ dX1_caughtWith_52) hG [] rfl rfl rfl (fun H locs hG => ?_)
          clear hz_14
          refine lv_iload_n hx hb dX1_caughtWith_55 rfl (lv_at hl 3 rfl) ?_
          refine lv_icmp_gt (tgt := 63) hx hb dX1_caughtWith_56 (by decide) (fun c_15 => ?_) (fun c_15 => ?_)
          · have h := ite_t h c_15
            refine lv_iconst (v := (0 : Int32)) hx hb dX1_caughtWith_63 (by decide) ?_
            exact J64 (0 : Int32) x3 x4 r_2 _ h KC KX _ _ _ (lv_sub hl [1, 2, 3, 4, 5, 0] rfl) hG
          · have h := ite_f h c_15
            refine lv_iconst (v := (1 : Int32)) hx hb dX1_caughtWith_59 (by decide) ?_
            refine lv_goto (tgt := 64) hx hb dX1_caughtWith_60 (by decide) ?_
            exact J64 (1 : Int32) x3 x4 r_2 _ h KC KX _ _ _ (lv_sub hl [1, 2, 3, 4, 5, 0] rfl) hG
  have h := hD
  unfold DX1_caughtWith at h
  clear hD
  refine lv_iconst (v := (0 : Int32)) hx hb dX1_caughtWith_0 (by decide) ?_
  refine lv_istore_n (lv' := [(3, .int (0 : Int32)), (0, .ref a0), (1, .int x1), (2, .int x2)]) hx hb dX1_caughtWith_1 rfl hl (by decide) rfl (fun ls hl => ?_)
  refine lv_iconst (v := (0 : Int32)) hx hb dX1_caughtWith_2 (by decide) ?_
  refine lv_istore (lv' := [(4, .int (0 : Int32)), (3, .int (0 : Int32)), (0, .ref a0), (1, .int x1), (2, .int x2)]) hx hb dX1_caughtWith_3 hl (by decide) rfl (fun ls hl => ?_)
  obtain ⟨z3_16, hz, h⟩ := bd1_some h
  refine L5  FU (0 : Int32) (0 : Int32) _ hz (fun ls H locs hl hG => ?_) _ _ _ (lv_sub hl [2, 3, 4, 1, 0] rfl) hG
  clear hz
  refine lv_iload_n hx hb dX1_caughtWith_94 rfl (lv_at hl 0 rfl) ?_
  cases h
  exact ret _ _ _ _ dX1_caughtWith_95 hG
set_option maxRecDepth 100000 in
set_option maxHeartbeats 4000000 in
theorem mX2_forget (l : Launch) (dC : Nat → ClassId) (dI : Nat → Nat → Nat) (cI cJ : ClassId) (a0 a1 a2 a3 a4 : Nat) (c_older_cells : Nat → Int32) (c_older_filled : Int32) (c_newer_cells : Nat → Int32) (c_newer_filled : Int32) (c_held : Int32) {n_held : Int32} (hD : DX2_forget = some n_held) : Met l yX2_forget (WZ yX2_forget cX2_forget 1 none) (RM 0 0) (PC dC dI cI cJ [.ref a0] (W_X2 a0 a1 a2 a3 a4 cI cJ c_older_cells c_older_filled c_newer_cells c_newer_filled c_held)) (QV dC dI (W_X2 a0 a1 a2 a3 a4 cI cJ c_older_cells c_older_filled c_newer_cells c_newer_filled c_held) (W_X2 a0 a1 a2 a3 a4 cI cJ c_older_cells c_older_filled c_newer_cells c_newer_filled n_held)) 0 0 (FA (W_X2 a0 a1 a2 a3 a4 cI cJ c_older_cells c_older_filled c_newer_cells c_newer_filled c_held)) := by
  refine r_metV (by decide +kernel) (Nat.le_of_ble_eq_true rfl) ?_
  intro p e s m args below meth c A H0 QQ X ret ls hl hG
  have X : Cx p m c cX2_forget 1 s args RX2 dC dI cI cJ meth none := X
  have hx := X.1.1
  have hb := X.1.2.1
  have hl : lv_has ls 1 [(0, .ref a0)] := hl
  have h := hD
  unfold DX2_forget at h
  clear hD
  refine lv_aload_n hx hb dX2_forget_0 rfl (lv_at hl 0 rfl) ?_
  refine lv_iconst (v := (0 : Int32)) hx hb dX2_forget_1 (by decide) ?_
  refine r_put X hG in_X2 rfl tyX2 tyX2_ok nmX2 2 (by decide) rfl (by decide +kernel) w_208 0 (ws' := (W_X2 a0 a1 a2 a3 a4 cI cJ c_older_cells c_older_filled c_newer_cells c_newer_filled (0 : Int32))) rfl (Nat.le_of_ble_eq_true rfl) rfl dX2_forget_2 (fun H locs hG => ?_)
  cases h
  exact ret _ _ _ _ dX2_forget_5 hG
set_option maxRecDepth 100000 in
set_option maxHeartbeats 4000000 in
theorem mX5_takeOver (l : Launch) (dC : Nat → ClassId) (dI : Nat → Nat → Nat) (cI cJ : ClassId) (a0 a1 a2 a3 : Nat) (pm : Int32) (pw : Int32) (pn : Nat) (qm : Int32) (qw : Int32) (qn : Nat) (c_cells : Nat → Int32) (c_filled : Int32) (o_cells : Nat → Int32) (o_filled : Int32) {n_cells : Nat → Int32} {n_filled : Int32} (hD : DX5_takeOver pm pn qn c_cells o_cells o_filled = some (n_cells, n_filled)) : Met l yX5_takeOver (WZ yX5_takeOver cX5_takeOver 2 none) (RM 1 18) (PC dC dI cI cJ [.ref a0, .ref a2] (W_X5_X5 a0 a1 a2 a3 cI cJ pm pw pn qm qw qn c_cells c_filled o_cells o_filled)) (QV dC dI (W_X5_X5 a0 a1 a2 a3 cI cJ pm pw pn qm qw qn c_cells c_filled o_cells o_filled) (W_X5_X5 a0 a1 a2 a3 cI cJ pm pw pn qm qw qn n_cells n_filled o_cells o_filled)) 0 0 (FA (W_X5_X5 a0 a1 a2 a3 cI cJ pm pw pn qm qw qn c_cells c_filled o_cells o_filled)) := by
  refine r_metV (by decide +kernel) (Nat.le_of_ble_eq_true rfl) ?_
  intro p e s m args below meth c A H0 QQ X ret ls hl hG
  have X : Cx p m c cX5_takeOver 2 s args RX5 dC dI cI cJ meth none := X
  have hx := X.1.1
  have hb := X.1.2.1
  have hl : lv_has ls 2 [(0, .ref a0), (1, .ref a2)] := hl
  have h := hD
  unfold DX5_takeOver at h
  clear hD
  refine lv_aload_n hx hb dX5_takeOver_0 rfl (lv_at hl 1 rfl) ?_
  refine r_get X hG in_X5 rfl 0 (by decide) w_106 2 rfl rfl dX5_takeOver_1 ?_
  refine lv_iconst (v := (0 : Int32)) hx hb dX5_takeOver_4 (by decide) ?_
  refine lv_aload_n hx hb dX5_takeOver_5 rfl (lv_at hl 0 rfl) ?_
  refine r_get X hG in_X5 rfl 0 (by decide) w_106 0 rfl rfl dX5_takeOver_6 ?_
  refine lv_iconst (v := (0 : Int32)) hx hb dX5_takeOver_9 (by decide) ?_
  refine lv_aload_n hx hb dX5_takeOver_10 rfl (lv_at hl 0 rfl) ?_
  refine r_get X hG in_X5 rfl 0 (by decide) w_106 0 rfl rfl dX5_takeOver_11 ?_
  refine r_alen X hG 1 rfl dX5_takeOver_14 ?_
  refine lv_aload_n hx hb dX5_takeOver_15 rfl (lv_at hl 1 rfl) ?_
  refine r_get X hG in_X5 rfl 0 (by decide) w_106 2 rfl rfl dX5_takeOver_16 ?_
  refine r_alen X hG 3 rfl dX5_takeOver_19 ?_
  refine va_mmin hx hb (X.1.2.2.1.trans hl.1.symm) X.1.2.2.2.1 (X.1.2.2.2.2 _ w_348) (X.1.2.2.2.2 _ w_349) (X.1.2.2.2.2 _ w_46) (X.1.2.2.2.2 _ w_350) (Nat.le_of_ble_eq_true rfl) (Nat.le_of_ble_eq_true rfl) (Nat.le_of_ble_eq_true rfl) (Nat.le_of_ble_eq_true rfl) dX5_takeOver_20 ?_
  obtain ⟨g_1, h⟩ := gd h
  obtain ⟨g_2, h⟩ := gd h
  obtain ⟨g_3, h⟩ := gd h
  refine r_copy X hG hl.1 w_351 w_353 w_352 w_52 3 1 (ws' := (W_X5_X5 a0 a1 a2 a3 cI cJ pm pw pn qm qw qn (va_cpy o_cells c_cells (0 : Int32).toNatClampNeg (0 : Int32).toNatClampNeg (if (Int32.ofNat qn) < (Int32.ofNat pn) then (Int32.ofNat qn) else (Int32.ofNat pn)).toNatClampNeg) c_filled o_cells o_filled)) rfl rfl (by decide) (by decide) g_1 (Decidable.not_not.mp g_2) (Decidable.not_not.mp g_3) rfl (Nat.le_of_ble_eq_true rfl) (Nat.le_of_ble_eq_true rfl) dX5_takeOver_23 (fun H locs hG => ?_)
  refine lv_aload_n hx hb dX5_takeOver_26 rfl (lv_at hl 0 rfl) ?_
  refine lv_aload_n hx hb dX5_takeOver_27 rfl (lv_at hl 1 rfl) ?_
  refine r_get X hG in_X5 rfl 3 (by decide) w_109 2 rfl rfl dX5_takeOver_28 ?_
  refine lv_aload_n hx hb dX5_takeOver_31 rfl (lv_at hl 0 rfl) ?_
  refine r_get X hG in_X5 rfl 1 (by decide) w_107 0 rfl rfl dX5_takeOver_32 ?_
  refine va_mmin hx hb (X.1.2.2.1.trans hl.1.symm) X.1.2.2.2.1 (X.1.2.2.2.2 _ w_348) (X.1.2.2.2.2 _ w_349) (X.1.2.2.2.2 _ w_46) (X.1.2.2.2.2 _ w_350) (Nat.le_of_ble_eq_true rfl) (Nat.le_of_ble_eq_true rfl) (Nat.le_of_ble_eq_true rfl) (Nat.le_of_ble_eq_true rfl) dX5_takeOver_35 ?_
  refine r_put X hG in_X5 rfl tyX5 tyX5_ok nmX5 3 (by decide) rfl (by decide +kernel) w_109 0 (ws' := (W_X5_X5 a0 a1 a2 a3 cI cJ pm pw pn qm qw qn (va_cpy o_cells c_cells (0 : Int32).toNatClampNeg (0 : Int32).toNatClampNeg (if (Int32.ofNat qn) < (Int32.ofNat pn) then (Int32.ofNat qn) else (Int32.ofNat pn)).toNatClampNeg) (if pm < o_filled then pm else o_filled) o_cells o_filled)) rfl (Nat.le_of_ble_eq_true rfl) rfl dX5_takeOver_38 (fun H locs hG => ?_)
  cases h
  exact ret _ _ _ _ dX5_takeOver_41 hG
set_option maxRecDepth 100000 in
set_option maxHeartbeats 4000000 in
theorem mX2_take (l : Launch) (dC : Nat → ClassId) (dI : Nat → Nat → Nat) (cI cJ : ClassId) (a0 a1 a2 a3 a4 a5 a6 : Nat) (c_older_cells : Nat → Int32) (c_older_filled : Int32) (c_newer_cells : Nat → Int32) (c_newer_filled : Int32) (c_held : Int32) (o_cells : Nat → Int32) (o_filled : Int32) {res : Int32} {n_older_cells : Nat → Int32} {n_older_filled : Int32} {n_newer_cells : Nat → Int32} {n_newer_filled : Int32} {n_held : Int32} (hD : DX2_take c_older_cells c_older_filled c_newer_cells c_newer_filled c_held o_cells o_filled = some (res, n_older_cells, n_older_filled, n_newer_cells, n_newer_filled, n_held)) : Met l yX2_take (WZ yX2_take cX2_take 2 (some .boolean)) (RM 2 39) (PC dC dI cI cJ [.ref a0, .ref a5] (W_X2_X5 a0 a1 a2 a3 a4 a5 a6 cI cJ c_older_cells c_older_filled c_newer_cells c_newer_filled c_held o_cells o_filled)) (QI dC dI (W_X2_X5 a0 a1 a2 a3 a4 a5 a6 cI cJ c_older_cells c_older_filled c_newer_cells c_newer_filled c_held o_cells o_filled) (W_X2_X5 a0 a1 a2 a3 a4 a5 a6 cI cJ n_older_cells n_older_filled n_newer_cells n_newer_filled n_held o_cells o_filled) res) 0 0 (FA (W_X2_X5 a0 a1 a2 a3 a4 a5 a6 cI cJ c_older_cells c_older_filled c_newer_cells c_newer_filled c_held o_cells o_filled)) := by
  refine r_metZ (by decide +kernel) (Nat.le_of_ble_eq_true rfl) ?_
  intro p e s m args below meth c A H0 QQ X ret ls hl hG
  have X : Cx p m c cX2_take 2 s args RX2 dC dI cI cJ meth (some .boolean) := X
  have hx := X.1.1
  have hb := X.1.2.1
  have hl : lv_has ls 2 [(0, .ref a0), (1, .ref a5)] := hl
  have h := hD
  unfold DX2_take at h
  clear hD
  refine lv_aload_n hx hb dX2_take_0 rfl (lv_at hl 0 rfl) ?_
  refine r_get X hG in_X2 rfl 2 (by decide) w_208 0 rfl rfl dX2_take_1 ?_
  refine lv_iconst (v := (2 : Int32)) hx hb dX2_take_4 (by decide) ?_
  refine lv_icmp_ne (tgt := 10) hx hb dX2_take_5 (by decide) (fun c_1 => ?_) (fun c_1 => ?_)
  · have h := ite_f h c_1
    refine lv_aload_n hx hb dX2_take_10 rfl (lv_at hl 0 rfl) ?_
    refine r_get X hG in_X2 rfl 2 (by decide) w_208 0 rfl rfl dX2_take_11 ?_
    refine lv_if_ne (tgt := 24) hx hb dX2_take_14 (by decide) (fun c_2 => ?_) (fun c_2 => ?_)
    · have h := ite_f h c_2
      refine lv_aload_n hx hb dX2_take_24 rfl (lv_at hl 0 rfl) ?_
      refine r_get X hG in_X2 rfl 1 (by decide) w_207 0 rfl rfl dX2_take_25 ?_
      refine lv_aload_n hx hb dX2_take_28 rfl (lv_at hl 1 rfl) ?_
      obtain ⟨k_newer_cells_3, k_newer_filled_4, hz_5, h⟩ := bd2_some h
      refine aft_v (ws' := (W_X2_X5 a0 a1 a2 a3 a4 a5 a6 cI cJ c_older_cells c_older_filled k_newer_cells_3 k_newer_filled_4 c_held o_cells o_filled)) (run_V (rest := []) X hG hl.1 (mX5_takeOver l dC dI cI cJ a3 a4 a5 a6 (7 : Int32) (4 : Int32) 28 (7 : Int32) (4 : Int32) 28 c_newer_cells c_newer_filled o_cells o_filled hz_5) gi_V_X2_27 hd_V_yX5_takeOver ⟨rfl, rfl⟩ rfl ⟨Nat.le_of_ble_eq_true rfl, Nat.le_of_ble_eq_true rfl⟩ [3, 4, 5, 6] (by decide) rfl 3 rfl rfl rfl rfl (Nat.le_of_ble_eq_true rfl) ⟨Nat.le_of_ble_eq_true rfl, Nat.le_of_ble_eq_true rfl⟩ dX2_take_29) hG [3, 4, 5, 6] rfl rfl rfl (fun H locs hG => ?_)
      clear hz_5
      refine lv_aload_n hx hb dX2_take_32 rfl (lv_at hl 0 rfl) ?_
      refine lv_dup hx hb dX2_take_33 rfl ?_
      refine r_get X hG in_X2 rfl 2 (by decide) w_208 0 rfl rfl dX2_take_34 ?_
      refine lv_iconst (v := (1 : Int32)) hx hb dX2_take_37 (by decide) ?_
      refine lv_iadd hx hb dX2_take_38 ?_
      refine r_put X hG in_X2 rfl tyX2 tyX2_ok nmX2 2 (by decide) rfl (by decide +kernel) w_208 0 (ws' := (W_X2_X5 a0 a1 a2 a3 a4 a5 a6 cI cJ c_older_cells c_older_filled k_newer_cells_3 k_newer_filled_4 (c_held + (1 : Int32)) o_cells o_filled)) rfl (Nat.le_of_ble_eq_true rfl) rfl dX2_take_39 (fun H locs hG => ?_)
      refine lv_iconst (v := (1 : Int32)) hx hb dX2_take_42 (by decide) ?_
      cases h
      exact ret _ _ _ _ dX2_take_43 (by decide) hG
    · have h := ite_t h c_2
      refine lv_aload_n hx hb dX2_take_17 rfl (lv_at hl 0 rfl) ?_
      refine r_get X hG in_X2 rfl 0 (by decide) w_206 0 rfl rfl dX2_take_18 ?_
      refine lv_goto (tgt := 28) hx hb dX2_take_21 (by decide) ?_
      refine lv_aload_n hx hb dX2_take_28 rfl (lv_at hl 1 rfl) ?_
      obtain ⟨k_older_cells_6, k_older_filled_7, hz_8, h⟩ := bd2_some h
      refine aft_v (ws' := (W_X2_X5 a0 a1 a2 a3 a4 a5 a6 cI cJ k_older_cells_6 k_older_filled_7 c_newer_cells c_newer_filled c_held o_cells o_filled)) (run_V (rest := []) X hG hl.1 (mX5_takeOver l dC dI cI cJ a1 a2 a5 a6 (7 : Int32) (4 : Int32) 28 (7 : Int32) (4 : Int32) 28 c_older_cells c_older_filled o_cells o_filled hz_8) gi_V_X2_27 hd_V_yX5_takeOver ⟨rfl, rfl⟩ rfl ⟨Nat.le_of_ble_eq_true rfl, Nat.le_of_ble_eq_true rfl⟩ [1, 2, 5, 6] (by decide) rfl 1 rfl rfl rfl rfl (Nat.le_of_ble_eq_true rfl) ⟨Nat.le_of_ble_eq_true rfl, Nat.le_of_ble_eq_true rfl⟩ dX2_take_29) hG [1, 2, 5, 6] rfl rfl rfl (fun H locs hG => ?_)
      clear hz_8
      refine lv_aload_n hx hb dX2_take_32 rfl (lv_at hl 0 rfl) ?_
      refine lv_dup hx hb dX2_take_33 rfl ?_
      refine r_get X hG in_X2 rfl 2 (by decide) w_208 0 rfl rfl dX2_take_34 ?_
      refine lv_iconst (v := (1 : Int32)) hx hb dX2_take_37 (by decide) ?_
      refine lv_iadd hx hb dX2_take_38 ?_
      refine r_put X hG in_X2 rfl tyX2 tyX2_ok nmX2 2 (by decide) rfl (by decide +kernel) w_208 0 (ws' := (W_X2_X5 a0 a1 a2 a3 a4 a5 a6 cI cJ k_older_cells_6 k_older_filled_7 c_newer_cells c_newer_filled (c_held + (1 : Int32)) o_cells o_filled)) rfl (Nat.le_of_ble_eq_true rfl) rfl dX2_take_39 (fun H locs hG => ?_)
      refine lv_iconst (v := (1 : Int32)) hx hb dX2_take_42 (by decide) ?_
      cases h
      exact ret _ _ _ _ dX2_take_43 (by decide) hG
  · have h := ite_t h c_1
    refine lv_iconst (v := (0 : Int32)) hx hb dX2_take_8 (by decide) ?_
    cases h
    exact ret _ _ _ _ dX2_take_9 (by decide) hG
set_option maxRecDepth 100000 in
set_option maxHeartbeats 4000000 in
theorem mX2_giveBack (l : Launch) (dC : Nat → ClassId) (dI : Nat → Nat → Nat) (cI cJ : ClassId) (a0 a1 a2 a3 a4 a5 a6 : Nat) (c_older_cells : Nat → Int32) (c_older_filled : Int32) (c_newer_cells : Nat → Int32) (c_newer_filled : Int32) (c_held : Int32) (o_cells : Nat → Int32) (o_filled : Int32) {res : Int32} {n_held : Int32} {n_cells : Nat → Int32} {n_filled : Int32} (hD : DX2_giveBack c_older_cells c_older_filled c_newer_cells c_newer_filled c_held o_cells o_filled = some (res, n_held, n_cells, n_filled)) : Met l yX2_giveBack (WZ yX2_giveBack cX2_giveBack 2 (some .boolean)) (RM 2 39) (PC dC dI cI cJ [.ref a0, .ref a5] (W_X2_X5 a0 a1 a2 a3 a4 a5 a6 cI cJ c_older_cells c_older_filled c_newer_cells c_newer_filled c_held o_cells o_filled)) (QI dC dI (W_X2_X5 a0 a1 a2 a3 a4 a5 a6 cI cJ c_older_cells c_older_filled c_newer_cells c_newer_filled c_held o_cells o_filled) (W_X2_X5 a0 a1 a2 a3 a4 a5 a6 cI cJ c_older_cells c_older_filled c_newer_cells c_newer_filled n_held n_cells n_filled) res) 0 0 (FA (W_X2_X5 a0 a1 a2 a3 a4 a5 a6 cI cJ c_older_cells c_older_filled c_newer_cells c_newer_filled c_held o_cells o_filled)) := by
  refine r_metZ (by decide +kernel) (Nat.le_of_ble_eq_true rfl) ?_
  intro p e s m args below meth c A H0 QQ X ret ls hl hG
  have X : Cx p m c cX2_giveBack 2 s args RX2 dC dI cI cJ meth (some .boolean) := X
  have hx := X.1.1
  have hb := X.1.2.1
  have hl : lv_has ls 2 [(0, .ref a0), (1, .ref a5)] := hl
  have h := hD
  unfold DX2_giveBack at h
  clear hD
  refine lv_aload_n hx hb dX2_giveBack_0 rfl (lv_at hl 0 rfl) ?_
  refine r_get X hG in_X2 rfl 2 (by decide) w_208 0 rfl rfl dX2_giveBack_1 ?_
  refine lv_if_ne (tgt := 9) hx hb dX2_giveBack_4 (by decide) (fun c_1 => ?_) (fun c_1 => ?_)
  · have h := ite_f h c_1
    refine lv_aload_n hx hb dX2_giveBack_9 rfl (lv_at hl 0 rfl) ?_
    refine lv_dup hx hb dX2_giveBack_10 rfl ?_
    refine r_get X hG in_X2 rfl 2 (by decide) w_208 0 rfl rfl dX2_giveBack_11 ?_
    refine lv_iconst (v := (1 : Int32)) hx hb dX2_giveBack_14 (by decide) ?_
    refine lv_isub hx hb dX2_giveBack_15 ?_
    refine r_put X hG in_X2 rfl tyX2 tyX2_ok nmX2 2 (by decide) rfl (by decide +kernel) w_208 0 (ws' := (W_X2_X5 a0 a1 a2 a3 a4 a5 a6 cI cJ c_older_cells c_older_filled c_newer_cells c_newer_filled (c_held - (1 : Int32)) o_cells o_filled)) rfl (Nat.le_of_ble_eq_true rfl) rfl dX2_giveBack_16 (fun H locs hG => ?_)
    refine lv_aload_n hx hb dX2_giveBack_19 rfl (lv_at hl 1 rfl) ?_
    refine lv_aload_n hx hb dX2_giveBack_20 rfl (lv_at hl 0 rfl) ?_
    refine r_get X hG in_X2 rfl 2 (by decide) w_208 0 rfl rfl dX2_giveBack_21 ?_
    refine lv_if_ne (tgt := 34) hx hb dX2_giveBack_24 (by decide) (fun c_2 => ?_) (fun c_2 => ?_)
    · have h := ite_f h c_2
      refine lv_aload_n hx hb dX2_giveBack_34 rfl (lv_at hl 0 rfl) ?_
      refine r_get X hG in_X2 rfl 1 (by decide) w_207 0 rfl rfl dX2_giveBack_35 ?_
      obtain ⟨k_cells_3, k_filled_4, hz_5, h⟩ := bd2_some h
      refine aft_v (ws' := (W_X2_X5 a0 a1 a2 a3 a4 a5 a6 cI cJ c_older_cells c_older_filled c_newer_cells c_newer_filled (c_held - (1 : Int32)) k_cells_3 k_filled_4)) (run_V (rest := []) X hG hl.1 (mX5_takeOver l dC dI cI cJ a5 a6 a3 a4 (7 : Int32) (4 : Int32) 28 (7 : Int32) (4 : Int32) 28 o_cells o_filled c_newer_cells c_newer_filled hz_5) gi_V_X2_27 hd_V_yX5_takeOver ⟨rfl, rfl⟩ rfl ⟨Nat.le_of_ble_eq_true rfl, Nat.le_of_ble_eq_true rfl⟩ [5, 6, 3, 4] (by decide) rfl 5 rfl rfl rfl rfl (Nat.le_of_ble_eq_true rfl) ⟨Nat.le_of_ble_eq_true rfl, Nat.le_of_ble_eq_true rfl⟩ dX2_giveBack_38) hG [5, 6, 3, 4] rfl rfl rfl (fun H locs hG => ?_)
      clear hz_5
      refine lv_iconst (v := (1 : Int32)) hx hb dX2_giveBack_41 (by decide) ?_
      cases h
      exact ret _ _ _ _ dX2_giveBack_42 (by decide) hG
    · have h := ite_t h c_2
      refine lv_aload_n hx hb dX2_giveBack_27 rfl (lv_at hl 0 rfl) ?_
      refine r_get X hG in_X2 rfl 0 (by decide) w_206 0 rfl rfl dX2_giveBack_28 ?_
      refine lv_goto (tgt := 38) hx hb dX2_giveBack_31 (by decide) ?_
      obtain ⟨k_cells_6, k_filled_7, hz_8, h⟩ := bd2_some h
      refine aft_v (ws' := (W_X2_X5 a0 a1 a2 a3 a4 a5 a6 cI cJ c_older_cells c_older_filled c_newer_cells c_newer_filled (c_held - (1 : Int32)) k_cells_6 k_filled_7)) (run_V (rest := []) X hG hl.1 (mX5_takeOver l dC dI cI cJ a5 a6 a1 a2 (7 : Int32) (4 : Int32) 28 (7 : Int32) (4 : Int32) 28 o_cells o_filled c_older_cells c_older_filled hz_8) gi_V_X2_27 hd_V_yX5_takeOver ⟨rfl, rfl⟩ rfl ⟨Nat.le_of_ble_eq_true rfl, Nat.le_of_ble_eq_true rfl⟩ [5, 6, 1, 2] (by decide) rfl 5 rfl rfl rfl rfl (Nat.le_of_ble_eq_true rfl) ⟨Nat.le_of_ble_eq_true rfl, Nat.le_of_ble_eq_true rfl⟩ dX2_giveBack_38) hG [5, 6, 1, 2] rfl rfl rfl (fun H locs hG => ?_)
      clear hz_8
      refine lv_iconst (v := (1 : Int32)) hx hb dX2_giveBack_41 (by decide) ?_
      cases h
      exact ret _ _ _ _ dX2_giveBack_42 (by decide) hG
  · have h := ite_t h c_1
    refine lv_iconst (v := (0 : Int32)) hx hb dX2_giveBack_7 (by decide) ?_
    cases h
    exact ret _ _ _ _ dX2_giveBack_8 (by decide) hG
set_option maxRecDepth 100000 in
set_option maxHeartbeats 4000000 in
theorem mX5_empty (l : Launch) (dC : Nat → ClassId) (dI : Nat → Nat → Nat) (cI cJ : ClassId) (a0 a1 : Nat) (pm : Int32) (pw : Int32) (pn : Nat) (c_cells : Nat → Int32) (c_filled : Int32) {n_filled : Int32} (hD : DX5_empty = some n_filled) : Met l yX5_empty (WZ yX5_empty cX5_empty 1 none) (RM 0 0) (PC dC dI cI cJ [.ref a0] (W_X5 a0 a1 cI cJ pm pw pn c_cells c_filled)) (QV dC dI (W_X5 a0 a1 cI cJ pm pw pn c_cells c_filled) (W_X5 a0 a1 cI cJ pm pw pn c_cells n_filled)) 0 0 (FA (W_X5 a0 a1 cI cJ pm pw pn c_cells c_filled)) := by
  refine r_metV (by decide +kernel) (Nat.le_of_ble_eq_true rfl) ?_
  intro p e s m args below meth c A H0 QQ X ret ls hl hG
  have X : Cx p m c cX5_empty 1 s args RX5 dC dI cI cJ meth none := X
  have hx := X.1.1
  have hb := X.1.2.1
  have hl : lv_has ls 1 [(0, .ref a0)] := hl
  have h := hD
  unfold DX5_empty at h
  clear hD
  refine lv_aload_n hx hb dX5_empty_0 rfl (lv_at hl 0 rfl) ?_
  refine lv_iconst (v := (0 : Int32)) hx hb dX5_empty_1 (by decide) ?_
  refine r_put X hG in_X5 rfl tyX5 tyX5_ok nmX5 3 (by decide) rfl (by decide +kernel) w_109 0 (ws' := (W_X5 a0 a1 cI cJ pm pw pn c_cells (0 : Int32))) rfl (Nat.le_of_ble_eq_true rfl) rfl dX5_empty_2 (fun H locs hG => ?_)
  cases h
  exact ret _ _ _ _ dX5_empty_5 hG
set_option maxRecDepth 100000 in
set_option maxHeartbeats 4000000 in
theorem mX3_makeBare (l : Launch) (dC : Nat → ClassId) (dI : Nat → Nat → Nat) (cI cJ : ClassId) (a0 a1 a2 a3 a4 : Nat) (c_stand : Int32) (c_home : Int32) (c_priceStart : Int32) (c_priceStep : Int32) (c_thrown_cells : Nat → Int32) (c_thrown_filled : Int32) (c_nets_cells : Nat → Int32) (c_nets_filled : Int32) {n_stand : Int32} {n_home : Int32} {n_priceStart : Int32} {n_priceStep : Int32} {n_thrown_filled : Int32} {n_nets_filled : Int32} (hD : DX3_makeBare = some (n_stand, n_home, n_priceStart, n_priceStep, n_thrown_filled, n_nets_filled)) : Met l yX3_makeBare (WZ yX3_makeBare cX3_makeBare 1 none) (RM 1 20) (PC dC dI cI cJ [.ref a0] (W_X3 a0 a1 a2 a3 a4 cI cJ c_stand c_home c_priceStart c_priceStep c_thrown_cells c_thrown_filled c_nets_cells c_nets_filled)) (QV dC dI (W_X3 a0 a1 a2 a3 a4 cI cJ c_stand c_home c_priceStart c_priceStep c_thrown_cells c_thrown_filled c_nets_cells c_nets_filled) (W_X3 a0 a1 a2 a3 a4 cI cJ n_stand n_home n_priceStart n_priceStep c_thrown_cells n_thrown_filled c_nets_cells n_nets_filled)) 0 0 (FA (W_X3 a0 a1 a2 a3 a4 cI cJ c_stand c_home c_priceStart c_priceStep c_thrown_cells c_thrown_filled c_nets_cells c_nets_filled)) := by
  refine r_metV (by decide +kernel) (Nat.le_of_ble_eq_true rfl) ?_
  intro p e s m args below meth c A H0 QQ X ret ls hl hG
  have X : Cx p m c cX3_makeBare 1 s args RX3 dC dI cI cJ meth none := X
  have hx := X.1.1
  have hb := X.1.2.1
  have hl : lv_has ls 1 [(0, .ref a0)] := hl
  have h := hD
  unfold DX3_makeBare at h
  clear hD
  refine lv_aload_n hx hb dX3_makeBare_0 rfl (lv_at hl 0 rfl) ?_
  refine lv_iconst (v := (0 : Int32)) hx hb dX3_makeBare_1 (by decide) ?_
  refine r_put X hG in_X3 rfl tyX3 tyX3_ok nmX3 0 (by decide) rfl (by decide +kernel) w_127 0 (ws' := (W_X3 a0 a1 a2 a3 a4 cI cJ (0 : Int32) c_home c_priceStart c_priceStep c_thrown_cells c_thrown_filled c_nets_cells c_nets_filled)) rfl (Nat.le_of_ble_eq_true rfl) rfl dX3_makeBare_2 (fun H locs hG => ?_)
  refine lv_aload_n hx hb dX3_makeBare_5 rfl (lv_at hl 0 rfl) ?_
  refine lv_bipush (v := (12 : Int32)) hx hb dX3_makeBare_6 (by decide) ?_
  refine r_put X hG in_X3 rfl tyX3 tyX3_ok nmX3 1 (by decide) rfl (by decide +kernel) w_130 0 (ws' := (W_X3 a0 a1 a2 a3 a4 cI cJ (0 : Int32) (12 : Int32) c_priceStart c_priceStep c_thrown_cells c_thrown_filled c_nets_cells c_nets_filled)) rfl (Nat.le_of_ble_eq_true rfl) rfl dX3_makeBare_8 (fun H locs hG => ?_)
  refine lv_aload_n hx hb dX3_makeBare_11 rfl (lv_at hl 0 rfl) ?_
  refine lv_iconst (v := (0 : Int32)) hx hb dX3_makeBare_12 (by decide) ?_
  refine r_put X hG in_X3 rfl tyX3 tyX3_ok nmX3 2 (by decide) rfl (by decide +kernel) w_133 0 (ws' := (W_X3 a0 a1 a2 a3 a4 cI cJ (0 : Int32) (12 : Int32) (0 : Int32) c_priceStep c_thrown_cells c_thrown_filled c_nets_cells c_nets_filled)) rfl (Nat.le_of_ble_eq_true rfl) rfl dX3_makeBare_13 (fun H locs hG => ?_)
  refine lv_aload_n hx hb dX3_makeBare_16 rfl (lv_at hl 0 rfl) ?_
  refine lv_bipush (v := (7 : Int32)) hx hb dX3_makeBare_17 (by decide) ?_
  refine r_put X hG in_X3 rfl tyX3 tyX3_ok nmX3 3 (by decide) rfl (by decide +kernel) w_134 0 (ws' := (W_X3 a0 a1 a2 a3 a4 cI cJ (0 : Int32) (12 : Int32) (0 : Int32) (7 : Int32) c_thrown_cells c_thrown_filled c_nets_cells c_nets_filled)) rfl (Nat.le_of_ble_eq_true rfl) rfl dX3_makeBare_19 (fun H locs hG => ?_)
  refine lv_aload_n hx hb dX3_makeBare_22 rfl (lv_at hl 0 rfl) ?_
  refine r_get X hG in_X3 rfl 4 (by decide) w_135 0 rfl rfl dX3_makeBare_23 ?_
  obtain ⟨k_thrown_filled_1, hz_2, h⟩ := bd1_some h
  refine aft_v (ws' := (W_X3 a0 a1 a2 a3 a4 cI cJ (0 : Int32) (12 : Int32) (0 : Int32) (7 : Int32) c_thrown_cells k_thrown_filled_1 c_nets_cells c_nets_filled)) (run_V (rest := []) X hG hl.1 (mX5_empty l dC dI cI cJ a1 a2 (7 : Int32) (4 : Int32) 28 c_thrown_cells c_thrown_filled hz_2) gi_V_X3_39 hd_V_yX5_empty ⟨rfl, rfl⟩ rfl ⟨Nat.le_of_ble_eq_true rfl, Nat.le_of_ble_eq_true rfl⟩ [1, 2] (by decide) rfl 1 rfl rfl rfl rfl (Nat.le_of_ble_eq_true rfl) ⟨Nat.le_of_ble_eq_true rfl, Nat.le_of_ble_eq_true rfl⟩ dX3_makeBare_26) hG [1, 2] rfl rfl rfl (fun H locs hG => ?_)
  clear hz_2
  refine lv_aload_n hx hb dX3_makeBare_29 rfl (lv_at hl 0 rfl) ?_
  refine r_get X hG in_X3 rfl 5 (by decide) w_138 0 rfl rfl dX3_makeBare_30 ?_
  obtain ⟨k_nets_filled_3, hz_4, h⟩ := bd1_some h
  refine aft_v (ws' := (W_X3 a0 a1 a2 a3 a4 cI cJ (0 : Int32) (12 : Int32) (0 : Int32) (7 : Int32) c_thrown_cells k_thrown_filled_1 c_nets_cells k_nets_filled_3)) (run_V (rest := []) X hG hl.1 (mX5_empty l dC dI cI cJ a3 a4 (5 : Int32) (4 : Int32) 20 c_nets_cells c_nets_filled hz_4) gi_V_X3_39 hd_V_yX5_empty ⟨rfl, rfl⟩ rfl ⟨Nat.le_of_ble_eq_true rfl, Nat.le_of_ble_eq_true rfl⟩ [3, 4] (by decide) rfl 3 rfl rfl rfl rfl (Nat.le_of_ble_eq_true rfl) ⟨Nat.le_of_ble_eq_true rfl, Nat.le_of_ble_eq_true rfl⟩ dX3_makeBare_33) hG [3, 4] rfl rfl rfl (fun H locs hG => ?_)
  clear hz_4
  cases h
  exact ret _ _ _ _ dX3_makeBare_36 hG
set_option maxRecDepth 100000 in
set_option maxHeartbeats 4000000 in
theorem mX3_takeOver (l : Launch) (dC : Nat → ClassId) (dI : Nat → Nat → Nat) (cI cJ : ClassId) (a0 a1 a2 a3 a4 a5 a6 a7 a8 a9 : Nat) (c_stand : Int32) (c_home : Int32) (c_priceStart : Int32) (c_priceStep : Int32) (c_thrown_cells : Nat → Int32) (c_thrown_filled : Int32) (c_nets_cells : Nat → Int32) (c_nets_filled : Int32) (o_stand : Int32) (o_home : Int32) (o_priceStart : Int32) (o_priceStep : Int32) (o_thrown_cells : Nat → Int32) (o_thrown_filled : Int32) (o_nets_cells : Nat → Int32) (o_nets_filled : Int32) {n_stand : Int32} {n_home : Int32} {n_priceStart : Int32} {n_priceStep : Int32} {n_thrown_cells : Nat → Int32} {n_thrown_filled : Int32} {n_nets_cells : Nat → Int32} {n_nets_filled : Int32} (hD : DX3_takeOver c_thrown_cells c_nets_cells o_stand o_home o_priceStart o_priceStep o_thrown_cells o_thrown_filled o_nets_cells o_nets_filled = some (n_stand, n_home, n_priceStart, n_priceStep, n_thrown_cells, n_thrown_filled, n_nets_cells, n_nets_filled)) : Met l yX3_takeOver (WZ yX3_takeOver cX3_takeOver 2 none) (RM 2 39) (PC dC dI cI cJ [.ref a0, .ref a5] (W_X3_X3 a0 a1 a2 a3 a4 a5 a6 a7 a8 a9 cI cJ c_stand c_home c_priceStart c_priceStep c_thrown_cells c_thrown_filled c_nets_cells c_nets_filled o_stand o_home o_priceStart o_priceStep o_thrown_cells o_thrown_filled o_nets_cells o_nets_filled)) (QV dC dI (W_X3_X3 a0 a1 a2 a3 a4 a5 a6 a7 a8 a9 cI cJ c_stand c_home c_priceStart c_priceStep c_thrown_cells c_thrown_filled c_nets_cells c_nets_filled o_stand o_home o_priceStart o_priceStep o_thrown_cells o_thrown_filled o_nets_cells o_nets_filled) (W_X3_X3 a0 a1 a2 a3 a4 a5 a6 a7 a8 a9 cI cJ n_stand n_home n_priceStart n_priceStep n_thrown_cells n_thrown_filled n_nets_cells n_nets_filled o_stand o_home o_priceStart o_priceStep o_thrown_cells o_thrown_filled o_nets_cells o_nets_filled)) 0 0 (FA (W_X3_X3 a0 a1 a2 a3 a4 a5 a6 a7 a8 a9 cI cJ c_stand c_home c_priceStart c_priceStep c_thrown_cells c_thrown_filled c_nets_cells c_nets_filled o_stand o_home o_priceStart o_priceStep o_thrown_cells o_thrown_filled o_nets_cells o_nets_filled)) := by
  refine r_metV (by decide +kernel) (Nat.le_of_ble_eq_true rfl) ?_
  intro p e s m args below meth c A H0 QQ X ret ls hl hG
  have X : Cx p m c cX3_takeOver 2 s args RX3 dC dI cI cJ meth none := X
  have hx := X.1.1
  have hb := X.1.2.1
  have hl : lv_has ls 2 [(0, .ref a0), (1, .ref a5)] := hl
  have h := hD
  unfold DX3_takeOver at h
  clear hD
  refine lv_aload_n hx hb dX3_takeOver_0 rfl (lv_at hl 0 rfl) ?_
  refine lv_aload_n hx hb dX3_takeOver_1 rfl (lv_at hl 1 rfl) ?_
  refine r_get X hG in_X3 rfl 0 (by decide) w_127 5 rfl rfl dX3_takeOver_2 ?_
  refine r_put X hG in_X3 rfl tyX3 tyX3_ok nmX3 0 (by decide) rfl (by decide +kernel) w_127 0 (ws' := (W_X3_X3 a0 a1 a2 a3 a4 a5 a6 a7 a8 a9 cI cJ o_stand c_home c_priceStart c_priceStep c_thrown_cells c_thrown_filled c_nets_cells c_nets_filled o_stand o_home o_priceStart o_priceStep o_thrown_cells o_thrown_filled o_nets_cells o_nets_filled)) rfl (Nat.le_of_ble_eq_true rfl) rfl dX3_takeOver_5 (fun H locs hG => ?_)
  refine lv_aload_n hx hb dX3_takeOver_8 rfl (lv_at hl 0 rfl) ?_
  refine lv_aload_n hx hb dX3_takeOver_9 rfl (lv_at hl 1 rfl) ?_
  refine r_get X hG in_X3 rfl 1 (by decide) w_130 5 rfl rfl dX3_takeOver_10 ?_
  refine r_put X hG in_X3 rfl tyX3 tyX3_ok nmX3 1 (by decide) rfl (by decide +kernel) w_130 0 (ws' := (W_X3_X3 a0 a1 a2 a3 a4 a5 a6 a7 a8 a9 cI cJ o_stand o_home c_priceStart c_priceStep c_thrown_cells c_thrown_filled c_nets_cells c_nets_filled o_stand o_home o_priceStart o_priceStep o_thrown_cells o_thrown_filled o_nets_cells o_nets_filled)) rfl (Nat.le_of_ble_eq_true rfl) rfl dX3_takeOver_13 (fun H locs hG => ?_)
  refine lv_aload_n hx hb dX3_takeOver_16 rfl (lv_at hl 0 rfl) ?_
  refine lv_aload_n hx hb dX3_takeOver_17 rfl (lv_at hl 1 rfl) ?_
  refine r_get X hG in_X3 rfl 2 (by decide) w_133 5 rfl rfl dX3_takeOver_18 ?_
  refine r_put X hG in_X3 rfl tyX3 tyX3_ok nmX3 2 (by decide) rfl (by decide +kernel) w_133 0 (ws' := (W_X3_X3 a0 a1 a2 a3 a4 a5 a6 a7 a8 a9 cI cJ o_stand o_home o_priceStart c_priceStep c_thrown_cells c_thrown_filled c_nets_cells c_nets_filled o_stand o_home o_priceStart o_priceStep o_thrown_cells o_thrown_filled o_nets_cells o_nets_filled)) rfl (Nat.le_of_ble_eq_true rfl) rfl dX3_takeOver_21 (fun H locs hG => ?_)
  refine lv_aload_n hx hb dX3_takeOver_24 rfl (lv_at hl 0 rfl) ?_
  refine lv_aload_n hx hb dX3_takeOver_25 rfl (lv_at hl 1 rfl) ?_
  refine r_get X hG in_X3 rfl 3 (by decide) w_134 5 rfl rfl dX3_takeOver_26 ?_
  refine r_put X hG in_X3 rfl tyX3 tyX3_ok nmX3 3 (by decide) rfl (by decide +kernel) w_134 0 (ws' := (W_X3_X3 a0 a1 a2 a3 a4 a5 a6 a7 a8 a9 cI cJ o_stand o_home o_priceStart o_priceStep c_thrown_cells c_thrown_filled c_nets_cells c_nets_filled o_stand o_home o_priceStart o_priceStep o_thrown_cells o_thrown_filled o_nets_cells o_nets_filled)) rfl (Nat.le_of_ble_eq_true rfl) rfl dX3_takeOver_29 (fun H locs hG => ?_)
  refine lv_aload_n hx hb dX3_takeOver_32 rfl (lv_at hl 0 rfl) ?_
  refine r_get X hG in_X3 rfl 4 (by decide) w_135 0 rfl rfl dX3_takeOver_33 ?_
  refine lv_aload_n hx hb dX3_takeOver_36 rfl (lv_at hl 1 rfl) ?_
  refine r_get X hG in_X3 rfl 4 (by decide) w_135 5 rfl rfl dX3_takeOver_37 ?_
  obtain ⟨k_thrown_cells_1, k_thrown_filled_2, hz_3, h⟩ := bd2_some h
  refine aft_v (ws' := (W_X3_X3 a0 a1 a2 a3 a4 a5 a6 a7 a8 a9 cI cJ o_stand o_home o_priceStart o_priceStep k_thrown_cells_1 k_thrown_filled_2 c_nets_cells c_nets_filled o_stand o_home o_priceStart o_priceStep o_thrown_cells o_thrown_filled o_nets_cells o_nets_filled)) (run_V (rest := []) X hG hl.1 (mX5_takeOver l dC dI cI cJ a1 a2 a6 a7 (7 : Int32) (4 : Int32) 28 (7 : Int32) (4 : Int32) 28 c_thrown_cells c_thrown_filled o_thrown_cells o_thrown_filled hz_3) gi_V_X3_42 hd_V_yX5_takeOver ⟨rfl, rfl⟩ rfl ⟨Nat.le_of_ble_eq_true rfl, Nat.le_of_ble_eq_true rfl⟩ [1, 2, 6, 7] (by decide) rfl 1 rfl rfl rfl rfl (Nat.le_of_ble_eq_true rfl) ⟨Nat.le_of_ble_eq_true rfl, Nat.le_of_ble_eq_true rfl⟩ dX3_takeOver_40) hG [1, 2, 6, 7] rfl rfl rfl (fun H locs hG => ?_)
  clear hz_3
  refine lv_aload_n hx hb dX3_takeOver_43 rfl (lv_at hl 0 rfl) ?_
  refine r_get X hG in_X3 rfl 5 (by decide) w_138 0 rfl rfl dX3_takeOver_44 ?_
  refine lv_aload_n hx hb dX3_takeOver_47 rfl (lv_at hl 1 rfl) ?_
  refine r_get X hG in_X3 rfl 5 (by decide) w_138 5 rfl rfl dX3_takeOver_48 ?_
  obtain ⟨k_nets_cells_4, k_nets_filled_5, hz_6, h⟩ := bd2_some h
  refine aft_v (ws' := (W_X3_X3 a0 a1 a2 a3 a4 a5 a6 a7 a8 a9 cI cJ o_stand o_home o_priceStart o_priceStep k_thrown_cells_1 k_thrown_filled_2 k_nets_cells_4 k_nets_filled_5 o_stand o_home o_priceStart o_priceStep o_thrown_cells o_thrown_filled o_nets_cells o_nets_filled)) (run_V (rest := []) X hG hl.1 (mX5_takeOver l dC dI cI cJ a3 a4 a8 a9 (5 : Int32) (4 : Int32) 20 (5 : Int32) (4 : Int32) 20 c_nets_cells c_nets_filled o_nets_cells o_nets_filled hz_6) gi_V_X3_42 hd_V_yX5_takeOver ⟨rfl, rfl⟩ rfl ⟨Nat.le_of_ble_eq_true rfl, Nat.le_of_ble_eq_true rfl⟩ [3, 4, 8, 9] (by decide) rfl 3 rfl rfl rfl rfl (Nat.le_of_ble_eq_true rfl) ⟨Nat.le_of_ble_eq_true rfl, Nat.le_of_ble_eq_true rfl⟩ dX3_takeOver_51) hG [3, 4, 8, 9] rfl rfl rfl (fun H locs hG => ?_)
  clear hz_6
  cases h
  exact ret _ _ _ _ dX3_takeOver_54 hG
set_option maxRecDepth 100000 in
set_option maxHeartbeats 4000000 in
theorem mX8_within (l : Launch) (dC : Nat → ClassId) (dI : Nat → Nat → Nat) (cI cJ : ClassId) (x0 : Int32) (x1 : Int32) (x2 : Int32) {res : Int32} (hD : DX8_within x0 x1 x2 = some res) : Met l yX8_within (WZ yX8_within cX8_within 3 (some .boolean)) (RM 0 0) (PC dC dI cI cJ [.int x0, .int x1, .int x2] []) (QI dC dI [] [] res) 0 0 (FA []) := by
  refine r_metZ (by decide +kernel) (Nat.le_of_ble_eq_true rfl) ?_
  intro p e s m args below meth c A H0 QQ X ret ls hl hG
  have X : Cx p m c cX8_within 3 s args RX8 dC dI cI cJ meth (some .boolean) := X
  have hx := X.1.1
  have hb := X.1.2.1
  have hl : lv_has ls 3 [(0, .int x0), (1, .int x1), (2, .int x2)] := hl
  have h := hD
  unfold DX8_within at h
  clear hD
  refine lv_iload_n hx hb dX8_within_0 rfl (lv_at hl 0 rfl) ?_
  refine lv_iload_n hx hb dX8_within_1 rfl (lv_at hl 1 rfl) ?_
  refine lv_icmp_lt (tgt := 14) hx hb dX8_within_2 (by decide) (fun c_1 => ?_) (fun c_1 => ?_)
  · have h := ite_t h c_1
    refine lv_iconst (v := (0 : Int32)) hx hb dX8_within_14 (by decide) ?_
    cases h
    exact ret _ _ _ _ dX8_within_15 (by decide) hG
  · have h := ite_f h c_1
    refine lv_iload_n hx hb dX8_within_5 rfl (lv_at hl 0 rfl) ?_
    refine lv_iload_n hx hb dX8_within_6 rfl (lv_at hl 2 rfl) ?_
    refine lv_icmp_gt (tgt := 14) hx hb dX8_within_7 (by decide) (fun c_2 => ?_) (fun c_2 => ?_)
    · have h := ite_t h c_2
      refine lv_iconst (v := (0 : Int32)) hx hb dX8_within_14 (by decide) ?_
      cases h
      exact ret _ _ _ _ dX8_within_15 (by decide) hG
    · have h := ite_f h c_2
      refine lv_iconst (v := (1 : Int32)) hx hb dX8_within_10 (by decide) ?_
      refine lv_goto (tgt := 15) hx hb dX8_within_11 (by decide) ?_
      cases h
      exact ret _ _ _ _ dX8_within_15 (by decide) hG
