/-! CONTRACTS, laid by wip/gen/lay.py: yX5_has, yX6_append, yX7_isIn, yX7_goOn, yX7_reach, yX7_fewest, yX7_firstSpeed, yX8_write, yX8_wipe, yX8_fault, yX8_lay, yX8_load -/
set_option maxRecDepth 100000 in
set_option maxHeartbeats 4000000 in
theorem mX5_has (l : Launch) (dC : Nat → ClassId) (dI : Nat → Nat → Nat) (cI cJ : ClassId) (a0 a1 : Nat) (pm : Int32) (pw : Int32) (pn : Nat) (c_cells : Nat → Int32) (c_filled : Int32) (x1 : Int32) {res : Int32} (hD : DX5_has x1 c_filled = some res) : Met l yX5_has (WZ yX5_has cX5_has 2 (some .boolean)) (RM 0 0) (PC dC dI cI cJ [.ref a0, .int x1] (W_X5 a0 a1 cI cJ pm pw pn c_cells c_filled)) (QI dC dI (W_X5 a0 a1 cI cJ pm pw pn c_cells c_filled) (W_X5 a0 a1 cI cJ pm pw pn c_cells c_filled) res) 0 0 (FA (W_X5 a0 a1 cI cJ pm pw pn c_cells c_filled)) := by
  refine r_metZ (by decide +kernel) (Nat.le_of_ble_eq_true rfl) ?_
  intro p e s m args below meth c A H0 QQ X ret ls hl hG
  have X : Cx p m c cX5_has 2 s args RX5 dC dI cI cJ meth (some .boolean) := X
  have hx := X.1.1
  have hb := X.1.2.1
  have hl : lv_has ls 2 [(0, .ref a0), (1, .int x1)] := hl
  have h := hD
  unfold DX5_has at h
  clear hD
  refine lv_iload_n hx hb dX5_has_0 rfl (lv_at hl 1 rfl) ?_
  refine lv_if_lt (tgt := 16) hx hb dX5_has_1 (by decide) (fun c_1 => ?_) (fun c_1 => ?_)
  · have h := ite_t h c_1
    refine lv_iconst (v := (0 : Int32)) hx hb dX5_has_16 (by decide) ?_
    cases h
    exact ret _ _ _ _ dX5_has_17 (by decide) hG
  · have h := ite_f h c_1
    refine lv_iload_n hx hb dX5_has_4 rfl (lv_at hl 1 rfl) ?_
    refine lv_aload_n hx hb dX5_has_5 rfl (lv_at hl 0 rfl) ?_
    refine r_get X hG in_X5 rfl 3 (by decide) w_109 0 rfl rfl dX5_has_6 ?_
    refine lv_icmp_ge (tgt := 16) hx hb dX5_has_9 (by decide) (fun c_2 => ?_) (fun c_2 => ?_)
    · have h := ite_t h c_2
      refine lv_iconst (v := (0 : Int32)) hx hb dX5_has_16 (by decide) ?_
      cases h
      exact ret _ _ _ _ dX5_has_17 (by decide) hG
    · have h := ite_f h c_2
      refine lv_iconst (v := (1 : Int32)) hx hb dX5_has_12 (by decide) ?_
      refine lv_goto (tgt := 17) hx hb dX5_has_13 (by decide) ?_
      cases h
      exact ret _ _ _ _ dX5_has_17 (by decide) hG
set_option maxRecDepth 100000 in
set_option maxHeartbeats 4000000 in
theorem mX6_append (l : Launch) (dC : Nat → ClassId) (dI : Nat → Nat → Nat) (cI cJ : ClassId) (a0 a1 : Nat) (c_bytes : Nat → Int32) (c_length : Int32) (x1 : Int32) {n_bytes : Nat → Int32} {n_length : Int32} (hD : DX6_append x1 c_bytes c_length = some (n_bytes, n_length)) : Met l yX6_append (WZ yX6_append cX6_append 2 none) (RM 1 22) (PC dC dI cI cJ [.ref a0, .int x1] (W_X6 a0 a1 cI cJ c_bytes c_length)) (QV dC dI (W_X6 a0 a1 cI cJ c_bytes c_length) (W_X6 a0 a1 cI cJ n_bytes n_length)) 0 0 (FA (W_X6 a0 a1 cI cJ c_bytes c_length)) := by
  refine r_metV (by decide +kernel) (Nat.le_of_ble_eq_true rfl) ?_
  intro p e s m args below meth c A H0 QQ X ret ls hl hG
  have X : Cx p m c cX6_append 2 s args RX6 dC dI cI cJ meth none := X
  have hx := X.1.1
  have hb := X.1.2.1
  have hl : lv_has ls 2 [(0, .ref a0), (1, .int x1)] := hl
  have h := hD
  unfold DX6_append at h
  clear hD
  refine lv_aload_n hx hb dX6_append_0 rfl (lv_at hl 0 rfl) ?_
  refine r_get X hG in_X6 rfl 1 (by decide) w_69 0 rfl rfl dX6_append_1 ?_
  refine lv_sipush (v := (300 : Int32)) hx hb dX6_append_4 (by decide) ?_
  refine lv_icmp_ge (tgt := 32) hx hb dX6_append_7 (by decide) (fun c_1 => ?_) (fun c_1 => ?_)
  · have h := ite_t h c_1
    cases h
    exact ret _ _ _ _ dX6_append_32 hG
  · have h := ite_f h c_1
    refine lv_aload_n hx hb dX6_append_10 rfl (lv_at hl 0 rfl) ?_
    refine r_get X hG in_X6 rfl 0 (by decide) w_68 0 rfl rfl dX6_append_11 ?_
    refine lv_aload_n hx hb dX6_append_14 rfl (lv_at hl 0 rfl) ?_
    refine r_get X hG in_X6 rfl 1 (by decide) w_69 0 rfl rfl dX6_append_15 ?_
    refine lv_iload_n hx hb dX6_append_18 rfl (lv_at hl 1 rfl) ?_
    obtain ⟨k_bytes_2, hz_3, h⟩ := bd1_some h
    refine aft_v (ws' := (W_X6 a0 a1 cI cJ k_bytes_2 c_length)) (run_SN (rest := []) X hG hl.1 (mX8_put l dC dI cI cJ a1 300 c_bytes c_length x1 hz_3) gi_N_yX8_put w_271 w_272 w_41 hd_S_yX8_put ⟨rfl, rfl⟩ rfl ⟨Nat.le_of_ble_eq_true rfl, Nat.le_of_ble_eq_true rfl⟩ [1] (by decide) rfl rfl (Nat.le_of_ble_eq_true rfl) ⟨Nat.le_of_ble_eq_true rfl, Nat.le_of_ble_eq_true rfl⟩ dX6_append_19) hG [1] rfl rfl rfl (fun H locs hG => ?_)
    clear hz_3
    refine lv_aload_n hx hb dX6_append_22 rfl (lv_at hl 0 rfl) ?_
    refine lv_dup hx hb dX6_append_23 rfl ?_
    refine r_get X hG in_X6 rfl 1 (by decide) w_69 0 rfl rfl dX6_append_24 ?_
    refine lv_iconst (v := (1 : Int32)) hx hb dX6_append_27 (by decide) ?_
    refine lv_iadd hx hb dX6_append_28 ?_
    refine r_put X hG in_X6 rfl tyX6 tyX6_ok nmX6 1 (by decide) rfl (by decide +kernel) w_69 0 (ws' := (W_X6 a0 a1 cI cJ k_bytes_2 (c_length + (1 : Int32)))) rfl (Nat.le_of_ble_eq_true rfl) rfl dX6_append_29 (fun H locs hG => ?_)
    cases h
    exact ret _ _ _ _ dX6_append_32 hG
set_option maxRecDepth 100000 in
set_option maxHeartbeats 4000000 in
theorem mX7_isIn (l : Launch) (dC : Nat → ClassId) (dI : Nat → Nat → Nat) (cI cJ : ClassId) (x0 : Int32) (x1 : Int32) {res : Int32} (hD : DX7_isIn x0 x1 = some res) : Met l yX7_isIn (WZ yX7_isIn cX7_isIn 2 (some .boolean)) (RM 0 0) (PC dC dI cI cJ [.int x0, .int x1] []) (QI dC dI [] [] res) 0 0 (FA []) := by
  refine r_metZ (by decide +kernel) (Nat.le_of_ble_eq_true rfl) ?_
  intro p e s m args below meth c A H0 QQ X ret ls hl hG
  have X : Cx p m c cX7_isIn 2 s args RX7 dC dI cI cJ meth (some .boolean) := X
  have hx := X.1.1
  have hb := X.1.2.1
  have hl : lv_has ls 2 [(0, .int x0), (1, .int x1)] := hl
  have h := hD
  unfold DX7_isIn at h
  clear hD
  refine lv_iload_n hx hb dX7_isIn_0 rfl (lv_at hl 1 rfl) ?_
  refine lv_iload_n hx hb dX7_isIn_1 rfl (lv_at hl 0 rfl) ?_
  refine lv_iconst (v := (1 : Int32)) hx hb dX7_isIn_2 (by decide) ?_
  refine lv_isub hx hb dX7_isIn_3 ?_
  refine lv_ishr hx hb dX7_isIn_4 ?_
  refine lv_iconst (v := (1 : Int32)) hx hb dX7_isIn_5 (by decide) ?_
  refine lv_iand hx hb dX7_isIn_6 ?_
  refine lv_iconst (v := (1 : Int32)) hx hb dX7_isIn_7 (by decide) ?_
  refine lv_icmp_ne (tgt := 15) hx hb dX7_isIn_8 (by decide) (fun c_1 => ?_) (fun c_1 => ?_)
  · have h := ite_f h c_1
    refine lv_iconst (v := (0 : Int32)) hx hb dX7_isIn_15 (by decide) ?_
    cases h
    exact ret _ _ _ _ dX7_isIn_16 (by decide) hG
  · have h := ite_t h c_1
    refine lv_iconst (v := (1 : Int32)) hx hb dX7_isIn_11 (by decide) ?_
    refine lv_goto (tgt := 16) hx hb dX7_isIn_12 (by decide) ?_
    cases h
    exact ret _ _ _ _ dX7_isIn_16 (by decide) hG
set_option maxRecDepth 100000 in
set_option maxHeartbeats 4000000 in
theorem mX7_goOn (l : Launch) (dC : Nat → ClassId) (dI : Nat → Nat → Nat) (cI cJ : ClassId) (a0 a1 : Nat) (c_need : Nat → Int32) (x1 : Int32) (x2 : Int32) (x3 : Int32) {n_need : Nat → Int32} (hD : DX7_goOn x1 x2 x3 c_need = some n_need) : Met l yX7_goOn (WZ yX7_goOn cX7_goOn 6 none) (RM 1 22) (PC dC dI cI cJ [.ref a0, .int x1, .int x2, .int x3] (W_X7 a0 a1 cI cJ c_need)) (QV dC dI (W_X7 a0 a1 cI cJ c_need) (W_X7 a0 a1 cI cJ n_need)) 0 0 (FA (W_X7 a0 a1 cI cJ c_need)) := by
  refine r_metV (by decide +kernel) (Nat.le_of_ble_eq_true rfl) ?_
  intro p e s m args below meth c A H0 QQ X ret ls hl hG
  have X : Cx p m c cX7_goOn 6 s args RX7 dC dI cI cJ meth none := X
  have hx := X.1.1
  have hb := X.1.2.1
  have hl : lv_has ls 6 [(0, .ref a0), (1, .int x1), (2, .int x2), (3, .int x3)] := hl
  have L3 : ∀ (n : Nat) (x4 : Int32) (c_need : Nat → Int32) (ec_need : Nat → Int32), DX7_goOn_L3 x1 x2 x3 n x4 c_need = some ec_need → (∀ (ls : Array Slot) (H : Heap) (locs : List Loc), lv_has ls 6 [] → G dC dI A H0 (W_X7 a0 a1 cI cJ ec_need) H locs → W p l e (RM 1 22) s m args below meth c H locs 0 0 QQ (F0 m 59 ls [])) → ∀ (ls : Array Slot) (H : Heap) (locs : List Loc), lv_has ls 6 [(0, .ref a0), (1, .int x1), (2, .int x2), (3, .int x3), (4, .int x4)] → G dC dI A H0 (W_X7 a0 a1 cI cJ c_need) H locs → W p l e (RM 1 22) s m args below meth c H locs 0 0 QQ (F0 m 3 ls []) := by
    intro  n
    induction n with
    | zero => intro x4 c_need ec_need h; exact it_zero h
    | succ n ih =>
      intro x4 c_need ec_need h0 K0 ls H locs hl hG
      obtain ⟨w, h, hi, hr⟩ := it_succ h0
      have h : DX7_goOn_L3s x1 x2 x3 x4 c_need = some w := h
      have KC : ∀ (x4 : Int32) (c_need : Nat → Int32), w = .inl (x4, c_need) → ∀ (ls : Array Slot) (H : Heap) (locs : List Loc), lv_has ls 6 [(0, .ref a0), (1, .int x1), (2, .int x2), (3, .int x3), (4, .int x4)] → G dC dI A H0 (W_X7 a0 a1 cI cJ c_need) H locs → W p l e (RM 1 22) s m args below meth c H locs 0 0 QQ (F0 m 3 ls []) := fun b0 b1 e ls H locs hl hG => ih b0 b1 ec_need (hi _ e) K0 ls H locs hl hG
      have KX : ∀ (c_need : Nat → Int32), w = .inr c_need → ∀ (ls : Array Slot) (H : Heap) (locs : List Loc), lv_has ls 6 [] → G dC dI A H0 (W_X7 a0 a1 cI cJ c_need) H locs → W p l e (RM 1 22) s m args below meth c H locs 0 0 QQ (F0 m 59 ls []) := fun b0 e ls H locs hl hG => by cases hr _ e; exact K0 ls H locs hl hG
      clear h0 hi hr K0 ih
      unfold DX7_goOn_L3s at h
      refine lv_iload hx hb dX7_goOn_3 (lv_at hl 4 rfl) ?_
      refine lv_bipush (v := (6 : Int32)) hx hb dX7_goOn_5 (by decide) ?_
      refine lv_icmp_gt (tgt := 59) hx hb dX7_goOn_7 (by decide) (fun c_1 => ?_) (fun c_1 => ?_)
      · have h := ite_t h c_1
        exact KX _ (Option.some.inj h).symm _ _ _ (lv_sub hl [] rfl) hG
      · have h := ite_f h c_1
        refine lv_iload_n hx hb dX7_goOn_10 rfl (lv_at hl 1 rfl) ?_
        refine lv_iload hx hb dX7_goOn_11 (lv_at hl 4 rfl) ?_
        refine lv_iadd hx hb dX7_goOn_13 ?_
        refine lv_bipush (v := (24 : Int32)) hx hb dX7_goOn_14 (by decide) ?_
        refine lv_irem hx hb dX7_goOn_16 (by decide) ?_
        refine lv_istore (lv' := [(5, .int ((x1 + x4) - (x1 + x4) / (24 : Int32) * (24 : Int32))), (0, .ref a0), (1, .int x1), (2, .int x2), (3, .int x3), (4, .int x4)]) hx hb dX7_goOn_17 hl (by decide) rfl (fun ls hl => ?_)
        refine lv_iload hx hb dX7_goOn_19 (lv_at hl 5 rfl) ?_
        refine lv_iload_n hx hb dX7_goOn_21 rfl (lv_at hl 3 rfl) ?_
        obtain ⟨r_2, hz_3, h⟩ := bd1_some h
        refine aft_i (ws' := (W_X7 a0 a1 cI cJ c_need)) (run_S (rest := []) X hG hl.1 (mX7_isIn l dC dI cI cJ x4 x2 hz_3) gi_S_X7_27 hd_S_yX7_isIn ⟨rfl, rfl⟩ rfl ⟨Nat.le_of_ble_eq_true rfl, Nat.le_of_ble_eq_true rfl⟩ [] (by decide) rfl rfl (Nat.le_of_ble_eq_true rfl) ⟨Nat.le_of_ble_eq_true rfl, Nat.le_of_ble_eq_true rfl⟩ dX7_goOn_22) hG [] rfl rfl rfl (fun H locs hG => ?_)
        clear hz_3
        refine lv_if_eq (tgt := 53) hx hb dX7_goOn_25 (by decide) (fun c_4 => ?_) (fun c_4 => ?_)
        · have h := ite_t h c_4
          refine lv_iinc (v := (x4 + (1 : Int32))) (lv' := [(4, .int (x4 + (1 : Int32))), (5, .int ((x1 + x4) - (x1 + x4) / (24 : Int32) * (24 : Int32))), (0, .ref a0), (1, .int x1), (2, .int x2), (3, .int x3)]) hx hb dX7_goOn_53 hl (k := 5) rfl rfl (by decide) rfl (fun ls hl => ?_)
          refine lv_goto (tgt := 3) hx hb dX7_goOn_56 (by decide) ?_
          exact KC _ _ (Option.some.inj h).symm _ _ _ (lv_sub hl [2, 3, 4, 5, 0] rfl) hG
        · have h := ite_f h c_4
          refine lv_aload_n hx hb dX7_goOn_28 rfl (lv_at hl 1 rfl) ?_
          refine r_get X hG in_X7 rfl 0 (by decide) w_223 0 rfl rfl dX7_goOn_29 ?_
          refine lv_iload hx hb dX7_goOn_32 (lv_at hl 0 rfl) ?_
          obtain ⟨r_5, hz_6, h⟩ := bd1_some h
          refine aft_i (ws' := (W_X7 a0 a1 cI cJ c_need)) (run_SN (rest := []) X hG hl.1 (mX8_at l dC dI cI cJ a1 24 c_need ((x1 + x4) - (x1 + x4) / (24 : Int32) * (24 : Int32)) hz_6) gi_N_yX8_at w_560 w_296 w_41 hd_S_yX8_at ⟨rfl, rfl⟩ rfl ⟨Nat.le_of_ble_eq_true rfl, Nat.le_of_ble_eq_true rfl⟩ [1] (by decide) rfl rfl (Nat.le_of_ble_eq_true rfl) ⟨Nat.le_of_ble_eq_true rfl, Nat.le_of_ble_eq_true rfl⟩ dX7_goOn_34) hG [1] rfl rfl rfl (fun H locs hG => ?_)
          clear hz_6
          refine lv_sipush (v := (1000 : Int32)) hx hb dX7_goOn_37 (by decide) ?_
          refine lv_icmp_ne (tgt := 53) hx hb dX7_goOn_40 (by decide) (fun c_7 => ?_) (fun c_7 => ?_)
          · have h := ite_f h c_7
            refine lv_iinc (v := (x4 + (1 : Int32))) (lv' := [(4, .int (x4 + (1 : Int32))), (5, .int ((x1 + x4) - (x1 + x4) / (24 : Int32) * (24 : Int32))), (0, .ref a0), (1, .int x1), (2, .int x2), (3, .int x3)]) hx hb dX7_goOn_53 hl (k := 5) rfl rfl (by decide) rfl (fun ls hl => ?_)
            refine lv_goto (tgt := 3) hx hb dX7_goOn_56 (by decide) ?_
            exact KC _ _ (Option.some.inj h).symm _ _ _ (lv_sub hl [2, 3, 4, 5, 0] rfl) hG
          · have h := ite_t h c_7
            refine lv_aload_n hx hb dX7_goOn_43 rfl (lv_at hl 1 rfl) ?_
            refine r_get X hG in_X7 rfl 0 (by decide) w_223 0 rfl rfl dX7_goOn_44 ?_
            refine lv_iload hx hb dX7_goOn_47 (lv_at hl 0 rfl) ?_
            refine lv_iload_n hx hb dX7_goOn_49 rfl (lv_at hl 4 rfl) ?_
            obtain ⟨k_need_8, hz_9, h⟩ := bd1_some h
            refine aft_v (ws' := (W_X7 a0 a1 cI cJ k_need_8)) (run_SN (rest := []) X hG hl.1 (mX8_put l dC dI cI cJ a1 24 c_need ((x1 + x4) - (x1 + x4) / (24 : Int32) * (24 : Int32)) x3 hz_9) gi_N_yX8_put w_559 w_272 w_41 hd_S_yX8_put ⟨rfl, rfl⟩ rfl ⟨Nat.le_of_ble_eq_true rfl, Nat.le_of_ble_eq_true rfl⟩ [1] (by decide) rfl rfl (Nat.le_of_ble_eq_true rfl) ⟨Nat.le_of_ble_eq_true rfl, Nat.le_of_ble_eq_true rfl⟩ dX7_goOn_50) hG [1] rfl rfl rfl (fun H locs hG => ?_)
            clear hz_9
            refine lv_iinc (v := (x4 + (1 : Int32))) (lv' := [(4, .int (x4 + (1 : Int32))), (5, .int ((x1 + x4) - (x1 + x4) / (24 : Int32) * (24 : Int32))), (0, .ref a0), (1, .int x1), (2, .int x2), (3, .int x3)]) hx hb dX7_goOn_53 hl (k := 5) rfl rfl (by decide) rfl (fun ls hl => ?_)
            refine lv_goto (tgt := 3) hx hb dX7_goOn_56 (by decide) ?_
            exact KC _ _ (Option.some.inj h).symm _ _ _ (lv_sub hl [2, 3, 4, 5, 0] rfl) hG
  have h := hD
  unfold DX7_goOn at h
  clear hD
  refine lv_iconst (v := (1 : Int32)) hx hb dX7_goOn_0 (by decide) ?_
  refine lv_istore (lv' := [(4, .int (1 : Int32)), (0, .ref a0), (1, .int x1), (2, .int x2), (3, .int x3)]) hx hb dX7_goOn_1 hl (by decide) rfl (fun ls hl => ?_)
  obtain ⟨k_need_10, hz, h⟩ := bd1_some h
  refine L3  FU (1 : Int32) c_need _ hz (fun ls H locs hl hG => ?_) _ _ _ (lv_sub hl [1, 2, 3, 4, 0] rfl) hG
  clear hz
  cases h
  exact ret _ _ _ _ dX7_goOn_59 hG
set_option maxRecDepth 100000 in
set_option maxHeartbeats 4000000 in
theorem mX7_reach (l : Launch) (dC : Nat → ClassId) (dI : Nat → Nat → Nat) (cI cJ : ClassId) (a0 a1 : Nat) (c_need : Nat → Int32) (x1 : Int32) {n_need : Nat → Int32} (hD : DX7_reach x1 c_need = some n_need) : Met l yX7_reach (WZ yX7_reach cX7_reach 4 none) (RM 2 47) (PC dC dI cI cJ [.ref a0, .int x1] (W_X7 a0 a1 cI cJ c_need)) (QV dC dI (W_X7 a0 a1 cI cJ c_need) (W_X7 a0 a1 cI cJ n_need)) 0 0 (FA (W_X7 a0 a1 cI cJ c_need)) := by
  refine r_metV (by decide +kernel) (Nat.le_of_ble_eq_true rfl) ?_
  intro p e s m args below meth c A H0 QQ X ret ls hl hG
  have X : Cx p m c cX7_reach 4 s args RX7 dC dI cI cJ meth none := X
  have hx := X.1.1
  have hb := X.1.2.1
  have hl : lv_has ls 4 [(0, .ref a0), (1, .int x1)] := hl
  have L2 : ∀ (n : Nat) (x2 : Int32) (c_need : Nat → Int32) (ec_need : Nat → Int32), DX7_reach_L2 n x2 c_need = some ec_need → (∀ (ls : Array Slot) (H : Heap) (locs : List Loc), lv_has ls 4 [(0, .ref a0), (1, .int x1)] → G dC dI A H0 (W_X7 a0 a1 cI cJ ec_need) H locs → W p l e (RM 2 47) s m args below meth c H locs 0 0 QQ (F0 m 33 ls [])) → ∀ (ls : Array Slot) (H : Heap) (locs : List Loc), lv_has ls 4 [(0, .ref a0), (1, .int x1), (2, .int x2)] → G dC dI A H0 (W_X7 a0 a1 cI cJ c_need) H locs → W p l e (RM 2 47) s m args below meth c H locs 0 0 QQ (F0 m 2 ls []) := by
    intro  n
    induction n with
    | zero => intro x2 c_need ec_need h; exact it_zero h
    | succ n ih =>
      intro x2 c_need ec_need h0 K0 ls H locs hl hG
      obtain ⟨w, h, hi, hr⟩ := it_succ h0
      have h : DX7_reach_L2s x2 c_need = some w := h
      have KC : ∀ (x2 : Int32) (c_need : Nat → Int32), w = .inl (x2, c_need) → ∀ (ls : Array Slot) (H : Heap) (locs : List Loc), lv_has ls 4 [(0, .ref a0), (1, .int x1), (2, .int x2)] → G dC dI A H0 (W_X7 a0 a1 cI cJ c_need) H locs → W p l e (RM 2 47) s m args below meth c H locs 0 0 QQ (F0 m 2 ls []) := fun b0 b1 e ls H locs hl hG => ih b0 b1 ec_need (hi _ e) K0 ls H locs hl hG
      have KX : ∀ (c_need : Nat → Int32), w = .inr c_need → ∀ (ls : Array Slot) (H : Heap) (locs : List Loc), lv_has ls 4 [(0, .ref a0), (1, .int x1)] → G dC dI A H0 (W_X7 a0 a1 cI cJ c_need) H locs → W p l e (RM 2 47) s m args below meth c H locs 0 0 QQ (F0 m 33 ls []) := fun b0 e ls H locs hl hG => by cases hr _ e; exact K0 ls H locs hl hG
      clear h0 hi hr K0 ih
      unfold DX7_reach_L2s at h
      refine lv_iload_n hx hb dX7_reach_2 rfl (lv_at hl 2 rfl) ?_
      refine lv_bipush (v := (24 : Int32)) hx hb dX7_reach_3 (by decide) ?_
      refine lv_icmp_ge (tgt := 33) hx hb dX7_reach_5 (by decide) (fun c_1 => ?_) (fun c_1 => ?_)
      · have h := ite_t h c_1
        exact KX _ (Option.some.inj h).symm _ _ _ (lv_sub hl [0, 1] rfl) hG
      · have h := ite_f h c_1
        refine lv_aload_n hx hb dX7_reach_8 rfl (lv_at hl 0 rfl) ?_
        refine r_get X hG in_X7 rfl 0 (by decide) w_223 0 rfl rfl dX7_reach_9 ?_
        refine lv_iload_n hx hb dX7_reach_12 rfl (lv_at hl 2 rfl) ?_
        refine lv_iload_n hx hb dX7_reach_13 rfl (lv_at hl 2 rfl) ?_
        refine lv_if_ne (tgt := 21) hx hb dX7_reach_14 (by decide) (fun c_2 => ?_) (fun c_2 => ?_)
        · have h := ite_f h c_2
          refine lv_sipush (v := (1000 : Int32)) hx hb dX7_reach_21 (by decide) ?_
          obtain ⟨k_need_3, hz_4, h⟩ := bd1_some h
          refine aft_v (ws' := (W_X7 a0 a1 cI cJ k_need_3)) (run_SN (rest := []) X hG hl.1 (mX8_put l dC dI cI cJ a1 24 c_need x2 (1000 : Int32) hz_4) gi_N_yX8_put w_559 w_272 w_41 hd_S_yX8_put ⟨rfl, rfl⟩ rfl ⟨Nat.le_of_ble_eq_true rfl, Nat.le_of_ble_eq_true rfl⟩ [1] (by decide) rfl rfl (Nat.le_of_ble_eq_true rfl) ⟨Nat.le_of_ble_eq_true rfl, Nat.le_of_ble_eq_true rfl⟩ dX7_reach_24) hG [1] rfl rfl rfl (fun H locs hG => ?_)
          clear hz_4
          refine lv_iinc (v := (x2 + (1 : Int32))) (lv' := [(2, .int (x2 + (1 : Int32))), (0, .ref a0), (1, .int x1)]) hx hb dX7_reach_27 hl (k := 2) rfl rfl (by decide) rfl (fun ls hl => ?_)
          refine lv_goto (tgt := 2) hx hb dX7_reach_30 (by decide) ?_
          exact KC _ _ (Option.some.inj h).symm _ _ _ (lv_sub hl [1, 2, 0] rfl) hG
        · have h := ite_t h c_2
          refine lv_iconst (v := (0 : Int32)) hx hb dX7_reach_17 (by decide) ?_
          refine lv_goto (tgt := 24) hx hb dX7_reach_18 (by decide) ?_
          obtain ⟨k_need_5, hz_6, h⟩ := bd1_some h
          refine aft_v (ws' := (W_X7 a0 a1 cI cJ k_need_5)) (run_SN (rest := []) X hG hl.1 (mX8_put l dC dI cI cJ a1 24 c_need x2 (0 : Int32) hz_6) gi_N_yX8_put w_559 w_272 w_41 hd_S_yX8_put ⟨rfl, rfl⟩ rfl ⟨Nat.le_of_ble_eq_true rfl, Nat.le_of_ble_eq_true rfl⟩ [1] (by decide) rfl rfl (Nat.le_of_ble_eq_true rfl) ⟨Nat.le_of_ble_eq_true rfl, Nat.le_of_ble_eq_true rfl⟩ dX7_reach_24) hG [1] rfl rfl rfl (fun H locs hG => ?_)
          clear hz_6
          refine lv_iinc (v := (x2 + (1 : Int32))) (lv' := [(2, .int (x2 + (1 : Int32))), (0, .ref a0), (1, .int x1)]) hx hb dX7_reach_27 hl (k := 2) rfl rfl (by decide) rfl (fun ls hl => ?_)
          refine lv_goto (tgt := 2) hx hb dX7_reach_30 (by decide) ?_
          exact KC _ _ (Option.some.inj h).symm _ _ _ (lv_sub hl [1, 2, 0] rfl) hG
  have L43 : ∀ (x2 : Int32), ∀ (n : Nat) (x3 : Int32) (c_need : Nat → Int32) (ec_need : Nat → Int32), DX7_reach_L43 x1 x2 n x3 c_need = some ec_need → (∀ (ls : Array Slot) (H : Heap) (locs : List Loc), lv_has ls 4 [(0, .ref a0), (1, .int x1), (2, .int x2)] → G dC dI A H0 (W_X7 a0 a1 cI cJ ec_need) H locs → W p l e (RM 2 47) s m args below meth c H locs 0 0 QQ (F0 m 76 ls [])) → ∀ (ls : Array Slot) (H : Heap) (locs : List Loc), lv_has ls 4 [(0, .ref a0), (1, .int x1), (2, .int x2), (3, .int x3)] → G dC dI A H0 (W_X7 a0 a1 cI cJ c_need) H locs → W p l e (RM 2 47) s m args below meth c H locs 0 0 QQ (F0 m 43 ls []) := by
    intro x2 n
    induction n with
    | zero => intro x3 c_need ec_need h; exact it_zero h
    | succ n ih =>
      intro x3 c_need ec_need h0 K0 ls H locs hl hG
      obtain ⟨w, h, hi, hr⟩ := it_succ h0
      have h : DX7_reach_L43s x1 x2 x3 c_need = some w := h
      have KC : ∀ (x3 : Int32) (c_need : Nat → Int32), w = .inl (x3, c_need) → ∀ (ls : Array Slot) (H : Heap) (locs : List Loc), lv_has ls 4 [(0, .ref a0), (1, .int x1), (2, .int x2), (3, .int x3)] → G dC dI A H0 (W_X7 a0 a1 cI cJ c_need) H locs → W p l e (RM 2 47) s m args below meth c H locs 0 0 QQ (F0 m 43 ls []) := fun b0 b1 e ls H locs hl hG => ih b0 b1 ec_need (hi _ e) K0 ls H locs hl hG
      have KX : ∀ (c_need : Nat → Int32), w = .inr c_need → ∀ (ls : Array Slot) (H : Heap) (locs : List Loc), lv_has ls 4 [(0, .ref a0), (1, .int x1), (2, .int x2)] → G dC dI A H0 (W_X7 a0 a1 cI cJ c_need) H locs → W p l e (RM 2 47) s m args below meth c H locs 0 0 QQ (F0 m 76 ls []) := fun b0 e ls H locs hl hG => by cases hr _ e; exact K0 ls H locs hl hG
      clear h0 hi hr K0 ih
      unfold DX7_reach_L43s at h
      refine lv_iload_n hx hb dX7_reach_43 rfl (lv_at hl 3 rfl) ?_
      refine lv_bipush (v := (24 : Int32)) hx hb dX7_reach_44 (by decide) ?_
      refine lv_icmp_ge (tgt := 76) hx hb dX7_reach_46 (by decide) (fun c_9 => ?_) (fun c_9 => ?_)
      · have h := ite_t h c_9
        exact KX _ (Option.some.inj h).symm _ _ _ (lv_sub hl [0, 1, 2] rfl) hG
      · have h := ite_f h c_9
        refine lv_aload_n hx hb dX7_reach_49 rfl (lv_at hl 0 rfl) ?_
        refine r_get X hG in_X7 rfl 0 (by decide) w_223 0 rfl rfl dX7_reach_50 ?_
        refine lv_iload_n hx hb dX7_reach_53 rfl (lv_at hl 3 rfl) ?_
        obtain ⟨r_10, hz_11, h⟩ := bd1_some h
        refine aft_i (ws' := (W_X7 a0 a1 cI cJ c_need)) (run_SN (rest := []) X hG hl.1 (mX8_at l dC dI cI cJ a1 24 c_need x3 hz_11) gi_N_yX8_at w_560 w_296 w_41 hd_S_yX8_at ⟨rfl, rfl⟩ rfl ⟨Nat.le_of_ble_eq_true rfl, Nat.le_of_ble_eq_true rfl⟩ [1] (by decide) rfl rfl (Nat.le_of_ble_eq_true rfl) ⟨Nat.le_of_ble_eq_true rfl, Nat.le_of_ble_eq_true rfl⟩ dX7_reach_54) hG [1] rfl rfl rfl (fun H locs hG => ?_)
        clear hz_11
        refine lv_iload_n hx hb dX7_reach_57 rfl (lv_at hl 2 rfl) ?_
        refine lv_icmp_ne (tgt := 70) hx hb dX7_reach_58 (by decide) (fun c_12 => ?_) (fun c_12 => ?_)
        · have h := ite_f h c_12
          refine lv_iinc (v := (x3 + (1 : Int32))) (lv' := [(3, .int (x3 + (1 : Int32))), (0, .ref a0), (1, .int x1), (2, .int x2)]) hx hb dX7_reach_70 hl (k := 3) rfl rfl (by decide) rfl (fun ls hl => ?_)
          refine lv_goto (tgt := 43) hx hb dX7_reach_73 (by decide) ?_
          exact KC _ _ (Option.some.inj h).symm _ _ _ (lv_sub hl [1, 2, 3, 0] rfl) hG
        · have h := ite_t h c_12
          refine lv_aload_n hx hb dX7_reach_61 rfl (lv_at hl 0 rfl) ?_
          refine lv_iload_n hx hb dX7_reach_62 rfl (lv_at hl 3 rfl) ?_
          refine lv_iload_n hx hb dX7_reach_63 rfl (lv_at hl 1 rfl) ?_
          refine lv_iload_n hx hb dX7_reach_64 rfl (lv_at hl 2 rfl) ?_
          refine lv_iconst (v := (1 : Int32)) hx hb dX7_reach_65 (by decide) ?_
          refine lv_iadd hx hb dX7_reach_66 ?_
          obtain ⟨k_need_13, hz_14, h⟩ := bd1_some h
          refine aft_v1 (run_V1 (rest := []) X hG hl.1 (mX7_goOn l dC dI cI cJ a0 a1 c_need x3 x1 (x2 + (1 : Int32)) hz_14) gi_V_X7_23 hd_V_yX7_goOn ⟨rfl, rfl⟩ rfl ⟨Nat.le_of_ble_eq_true rfl, Nat.le_of_ble_eq_true rfl⟩ 0 rfl rfl rfl rfl (Nat.le_of_ble_eq_true rfl) ⟨Nat.le_of_ble_eq_true rfl, Nat.le_of_ble_eq_true rfl⟩ dX7_reach_67) hG rfl (fun H locs hG => ?_)
          clear hz_14
          refine lv_iinc (v := (x3 + (1 : Int32))) (lv' := [(3, .int (x3 + (1 : Int32))), (0, .ref a0), (1, .int x1), (2, .int x2)]) hx hb dX7_reach_70 hl (k := 3) rfl rfl (by decide) rfl (fun ls hl => ?_)
          refine lv_goto (tgt := 43) hx hb dX7_reach_73 (by decide) ?_
          exact KC _ _ (Option.some.inj h).symm _ _ _ (lv_sub hl [1, 2, 3, 0] rfl) hG
  have L35 : ∀ (n : Nat) (x2 : Int32) (c_need : Nat → Int32) (ec_need : Nat → Int32), DX7_reach_L35 x1 n x2 c_need = some ec_need → (∀ (ls : Array Slot) (H : Heap) (locs : List Loc), lv_has ls 4 [] → G dC dI A H0 (W_X7 a0 a1 cI cJ ec_need) H locs → W p l e (RM 2 47) s m args below meth c H locs 0 0 QQ (F0 m 82 ls [])) → ∀ (ls : Array Slot) (H : Heap) (locs : List Loc), lv_has ls 4 [(0, .ref a0), (1, .int x1), (2, .int x2)] → G dC dI A H0 (W_X7 a0 a1 cI cJ c_need) H locs → W p l e (RM 2 47) s m args below meth c H locs 0 0 QQ (F0 m 35 ls []) := by
    intro  n
    induction n with
    | zero => intro x2 c_need ec_need h; exact it_zero h
    | succ n ih =>
      intro x2 c_need ec_need h0 K0 ls H locs hl hG
      obtain ⟨w, h, hi, hr⟩ := it_succ h0
      have h : DX7_reach_L35s x1 x2 c_need = some w := h
      have KC : ∀ (x2 : Int32) (c_need : Nat → Int32), w = .inl (x2, c_need) → ∀ (ls : Array Slot) (H : Heap) (locs : List Loc), lv_has ls 4 [(0, .ref a0), (1, .int x1), (2, .int x2)] → G dC dI A H0 (W_X7 a0 a1 cI cJ c_need) H locs → W p l e (RM 2 47) s m args below meth c H locs 0 0 QQ (F0 m 35 ls []) := fun b0 b1 e ls H locs hl hG => ih b0 b1 ec_need (hi _ e) K0 ls H locs hl hG
      have KX : ∀ (c_need : Nat → Int32), w = .inr c_need → ∀ (ls : Array Slot) (H : Heap) (locs : List Loc), lv_has ls 4 [] → G dC dI A H0 (W_X7 a0 a1 cI cJ c_need) H locs → W p l e (RM 2 47) s m args below meth c H locs 0 0 QQ (F0 m 82 ls []) := fun b0 e ls H locs hl hG => by cases hr _ e; exact K0 ls H locs hl hG
      clear h0 hi hr K0 ih
      unfold DX7_reach_L35s at h
      refine lv_iload_n hx hb dX7_reach_35 rfl (lv_at hl 2 rfl) ?_
      refine lv_bipush (v := (24 : Int32)) hx hb dX7_reach_36 (by decide) ?_
      refine lv_icmp_ge (tgt := 82) hx hb dX7_reach_38 (by decide) (fun c_8 => ?_) (fun c_8 => ?_)
      · have h := ite_t h c_8
        exact KX _ (Option.some.inj h).symm _ _ _ (lv_sub hl [] rfl) hG
      · have h := ite_f h c_8
        refine lv_iconst (v := (0 : Int32)) hx hb dX7_reach_41 (by decide) ?_
        refine lv_istore_n (lv' := [(3, .int (0 : Int32)), (0, .ref a0), (1, .int x1), (2, .int x2)]) hx hb dX7_reach_42 rfl hl (by decide) rfl (fun ls hl => ?_)
        obtain ⟨k_need_15, hz, h⟩ := bd1_some h
        refine L43 x2 FU (0 : Int32) c_need _ hz (fun ls H locs hl hG => ?_) _ _ _ (lv_sub hl [1, 2, 3, 0] rfl) hG
        clear hz
        refine lv_iinc (v := (x2 + (1 : Int32))) (lv' := [(2, .int (x2 + (1 : Int32))), (0, .ref a0), (1, .int x1)]) hx hb dX7_reach_76 hl (k := 2) rfl rfl (by decide) rfl (fun ls hl => ?_)
        refine lv_goto (tgt := 35) hx hb dX7_reach_79 (by decide) ?_
        exact KC _ _ (Option.some.inj h).symm _ _ _ (lv_sub hl [1, 2, 0] rfl) hG
  have h := hD
  unfold DX7_reach at h
  clear hD
  refine lv_iconst (v := (0 : Int32)) hx hb dX7_reach_0 (by decide) ?_
  refine lv_istore_n (lv' := [(2, .int (0 : Int32)), (0, .ref a0), (1, .int x1)]) hx hb dX7_reach_1 rfl hl (by decide) rfl (fun ls hl => ?_)
  obtain ⟨k_need_7, hz, h⟩ := bd1_some h
  refine L2  FU (0 : Int32) c_need _ hz (fun ls H locs hl hG => ?_) _ _ _ (lv_sub hl [1, 2, 0] rfl) hG
  clear hz
  refine lv_iconst (v := (0 : Int32)) hx hb dX7_reach_33 (by decide) ?_
  refine lv_istore_n (lv' := [(2, .int (0 : Int32)), (0, .ref a0), (1, .int x1)]) hx hb dX7_reach_34 rfl hl (by decide) rfl (fun ls hl => ?_)
  obtain ⟨k_need_16, hz, h⟩ := bd1_some h
  refine L35  FU (0 : Int32) k_need_7 _ hz (fun ls H locs hl hG => ?_) _ _ _ (lv_sub hl [1, 2, 0] rfl) hG
  clear hz
  cases h
  exact ret _ _ _ _ dX7_reach_82 hG
set_option maxRecDepth 100000 in
set_option maxHeartbeats 4000000 in
theorem mX7_fewest (l : Launch) (dC : Nat → ClassId) (dI : Nat → Nat → Nat) (cI cJ : ClassId) (a0 a1 : Nat) (c_need : Nat → Int32) (x1 : Int32) {res : Int32} (hD : DX7_fewest x1 c_need = some res) : Met l yX7_fewest (WZ yX7_fewest cX7_fewest 2 (some .int)) (RM 1 21) (PC dC dI cI cJ [.ref a0, .int x1] (W_X7 a0 a1 cI cJ c_need)) (QI dC dI (W_X7 a0 a1 cI cJ c_need) (W_X7 a0 a1 cI cJ c_need) res) 0 0 (FA (W_X7 a0 a1 cI cJ c_need)) := by
  refine r_metI (by decide +kernel) (Nat.le_of_ble_eq_true rfl) ?_
  intro p e s m args below meth c A H0 QQ X ret ls hl hG
  have X : Cx p m c cX7_fewest 2 s args RX7 dC dI cI cJ meth (some .int) := X
  have hx := X.1.1
  have hb := X.1.2.1
  have hl : lv_has ls 2 [(0, .ref a0), (1, .int x1)] := hl
  have h := hD
  unfold DX7_fewest at h
  clear hD
  refine lv_aload_n hx hb dX7_fewest_0 rfl (lv_at hl 0 rfl) ?_
  refine r_get X hG in_X7 rfl 0 (by decide) w_223 0 rfl rfl dX7_fewest_1 ?_
  refine lv_iload_n hx hb dX7_fewest_4 rfl (lv_at hl 1 rfl) ?_
  obtain ⟨r_1, hz_2, h⟩ := bd1_some h
  refine aft_i (ws' := (W_X7 a0 a1 cI cJ c_need)) (run_SN (rest := []) X hG hl.1 (mX8_at l dC dI cI cJ a1 24 c_need x1 hz_2) gi_N_yX8_at w_560 w_296 w_41 hd_S_yX8_at ⟨rfl, rfl⟩ rfl ⟨Nat.le_of_ble_eq_true rfl, Nat.le_of_ble_eq_true rfl⟩ [1] (by decide) rfl rfl (Nat.le_of_ble_eq_true rfl) ⟨Nat.le_of_ble_eq_true rfl, Nat.le_of_ble_eq_true rfl⟩ dX7_fewest_5) hG [1] rfl rfl rfl (fun H locs hG => ?_)
  clear hz_2
  refine lv_sipush (v := (1000 : Int32)) hx hb dX7_fewest_8 (by decide) ?_
  refine lv_icmp_ne (tgt := 19) hx hb dX7_fewest_11 (by decide) (fun c_3 => ?_) (fun c_3 => ?_)
  · have h := ite_f h c_3
    refine lv_aload_n hx hb dX7_fewest_19 rfl (lv_at hl 0 rfl) ?_
    refine r_get X hG in_X7 rfl 0 (by decide) w_223 0 rfl rfl dX7_fewest_20 ?_
    refine lv_iload_n hx hb dX7_fewest_23 rfl (lv_at hl 1 rfl) ?_
    obtain ⟨r_4, hz_5, h⟩ := bd1_some h
    refine aft_i (ws' := (W_X7 a0 a1 cI cJ c_need)) (run_SN (rest := []) X hG hl.1 (mX8_at l dC dI cI cJ a1 24 c_need x1 hz_5) gi_N_yX8_at w_560 w_296 w_41 hd_S_yX8_at ⟨rfl, rfl⟩ rfl ⟨Nat.le_of_ble_eq_true rfl, Nat.le_of_ble_eq_true rfl⟩ [1] (by decide) rfl rfl (Nat.le_of_ble_eq_true rfl) ⟨Nat.le_of_ble_eq_true rfl, Nat.le_of_ble_eq_true rfl⟩ dX7_fewest_24) hG [1] rfl rfl rfl (fun H locs hG => ?_)
    clear hz_5
    cases h
    exact ret _ _ _ _ dX7_fewest_27 hG
  · have h := ite_t h c_3
    refine lv_bipush (v := (-4 : Int32)) hx hb dX7_fewest_14 (by decide) ?_
    refine lv_goto (tgt := 27) hx hb dX7_fewest_16 (by decide) ?_
    cases h
    exact ret _ _ _ _ dX7_fewest_27 hG
set_option maxRecDepth 100000 in
set_option maxHeartbeats 4000000 in
theorem mX7_firstSpeed (l : Launch) (dC : Nat → ClassId) (dI : Nat → Nat → Nat) (cI cJ : ClassId) (a0 a1 : Nat) (c_need : Nat → Int32) (x1 : Int32) (x2 : Int32) {res : Int32} (hD : DX7_firstSpeed x1 x2 c_need = some res) : Met l yX7_firstSpeed (WZ yX7_firstSpeed cX7_firstSpeed 5 (some .int)) (RM 1 22) (PC dC dI cI cJ [.ref a0, .int x1, .int x2] (W_X7 a0 a1 cI cJ c_need)) (QI dC dI (W_X7 a0 a1 cI cJ c_need) (W_X7 a0 a1 cI cJ c_need) res) 0 0 (FA (W_X7 a0 a1 cI cJ c_need)) := by
  refine r_metI (by decide +kernel) (Nat.le_of_ble_eq_true rfl) ?_
  intro p e s m args below meth c A H0 QQ X ret ls hl hG
  have X : Cx p m c cX7_firstSpeed 5 s args RX7 dC dI cI cJ meth (some .int) := X
  have hx := X.1.1
  have hb := X.1.2.1
  have hl : lv_has ls 5 [(0, .ref a0), (1, .int x1), (2, .int x2)] := hl
  have L19 : ∀ (n : Nat) (x3 : Int32) (v : (Unit) ⊕ (Int32)), DX7_firstSpeed_L19 x1 x2 c_need n x3 = some v → (v = .inl () → ∀ (ls : Array Slot) (H : Heap) (locs : List Loc), lv_has ls 5 [] → G dC dI A H0 (W_X7 a0 a1 cI cJ c_need) H locs → W p l e (RM 1 22) s m args below meth c H locs 0 0 QQ (F0 m 73 ls [])) → (∀ (r : Int32), v = .inr r → r = res) → ∀ (ls : Array Slot) (H : Heap) (locs : List Loc), lv_has ls 5 [(0, .ref a0), (1, .int x1), (2, .int x2), (3, .int x3)] → G dC dI A H0 (W_X7 a0 a1 cI cJ c_need) H locs → W p l e (RM 1 22) s m args below meth c H locs 0 0 QQ (F0 m 19 ls []) := by
    intro  n
    induction n with
    | zero => intro x3 v h; exact it_zero h
    | succ n ih =>
      intro x3 v h0 K0 KR0 ls H locs hl hG
      obtain ⟨w, h, hi, hr⟩ := it_succ h0
      have h : DX7_firstSpeed_L19s x1 x2 c_need x3 = some w := h
      have KC : ∀ (x3 : Int32), w = .inl x3 → ∀ (ls : Array Slot) (H : Heap) (locs : List Loc), lv_has ls 5 [(0, .ref a0), (1, .int x1), (2, .int x2), (3, .int x3)] → G dC dI A H0 (W_X7 a0 a1 cI cJ c_need) H locs → W p l e (RM 1 22) s m args below meth c H locs 0 0 QQ (F0 m 19 ls []) := fun b0 e ls H locs hl hG => ih b0 v (hi _ e) K0 KR0 ls H locs hl hG
      have KX : w = .inr (.inl ()) → ∀ (ls : Array Slot) (H : Heap) (locs : List Loc), lv_has ls 5 [] → G dC dI A H0 (W_X7 a0 a1 cI cJ c_need) H locs → W p l e (RM 1 22) s m args below meth c H locs 0 0 QQ (F0 m 73 ls []) := fun  e ls H locs hl hG => K0  (hr _ e) ls H locs hl hG
      have KR : ∀ (r : Int32), w = .inr (.inr r) → r = res := fun r e => KR0 r (hr _ e)
      clear h0 hi hr K0 ih KR0
      unfold DX7_firstSpeed_L19s at h
      refine lv_iload_n hx hb dX7_firstSpeed_19 rfl (lv_at hl 3 rfl) ?_
      refine lv_bipush (v := (6 : Int32)) hx hb dX7_firstSpeed_20 (by decide) ?_
      refine lv_icmp_gt (tgt := 73) hx hb dX7_firstSpeed_22 (by decide) (fun c_4 => ?_) (fun c_4 => ?_)
      · have h := ite_t h c_4
        exact KX  (Option.some.inj h).symm _ _ _ (lv_sub hl [] rfl) hG
      · have h := ite_f h c_4
        refine lv_iload_n hx hb dX7_firstSpeed_25 rfl (lv_at hl 1 rfl) ?_
        refine lv_iload_n hx hb dX7_firstSpeed_26 rfl (lv_at hl 3 rfl) ?_
        refine lv_isub hx hb dX7_firstSpeed_27 ?_
        refine lv_bipush (v := (24 : Int32)) hx hb dX7_firstSpeed_28 (by decide) ?_
        obtain ⟨r_5, hz_6, h⟩ := bd1_some h
        refine aft_i (ws' := (W_X7 a0 a1 cI cJ c_need)) (run_S (rest := []) X hG hl.1 (mJ9_floorMod_7cf53 l dC dI cI cJ (x1 - x3) (24 : Int32) hz_6) gi_S_X7_31 hd_S_yJ9_floorMod_7cf53 ⟨rfl, rfl⟩ rfl ⟨Nat.le_of_ble_eq_true rfl, Nat.le_of_ble_eq_true rfl⟩ [] (by decide) rfl rfl (Nat.le_of_ble_eq_true rfl) ⟨Nat.le_of_ble_eq_true rfl, Nat.le_of_ble_eq_true rfl⟩ dX7_firstSpeed_30) hG [] rfl rfl rfl (fun H locs hG => ?_)
        clear hz_6
        refine lv_istore (lv' := [(4, .int r_5), (0, .ref a0), (1, .int x1), (2, .int x2), (3, .int x3)]) hx hb dX7_firstSpeed_33 hl (by decide) rfl (fun ls hl => ?_)
        refine lv_iload_n hx hb dX7_firstSpeed_35 rfl (lv_at hl 4 rfl) ?_
        refine lv_iload_n hx hb dX7_firstSpeed_36 rfl (lv_at hl 3 rfl) ?_
        obtain ⟨r_7, hz_8, h⟩ := bd1_some h
        refine aft_i (ws' := (W_X7 a0 a1 cI cJ c_need)) (run_S (rest := []) X hG hl.1 (mX7_isIn l dC dI cI cJ x3 x2 hz_8) gi_S_X7_27 hd_S_yX7_isIn ⟨rfl, rfl⟩ rfl ⟨Nat.le_of_ble_eq_true rfl, Nat.le_of_ble_eq_true rfl⟩ [] (by decide) rfl rfl (Nat.le_of_ble_eq_true rfl) ⟨Nat.le_of_ble_eq_true rfl, Nat.le_of_ble_eq_true rfl⟩ dX7_firstSpeed_37) hG [] rfl rfl rfl (fun H locs hG => ?_)
        clear hz_8
        refine lv_if_eq (tgt := 67) hx hb dX7_firstSpeed_40 (by decide) (fun c_9 => ?_) (fun c_9 => ?_)
        · have h := ite_t h c_9
          refine lv_iinc (v := (x3 + (1 : Int32))) (lv' := [(3, .int (x3 + (1 : Int32))), (4, .int r_5), (0, .ref a0), (1, .int x1), (2, .int x2)]) hx hb dX7_firstSpeed_67 hl (k := 4) rfl rfl (by decide) rfl (fun ls hl => ?_)
          refine lv_goto (tgt := 19) hx hb dX7_firstSpeed_70 (by decide) ?_
          exact KC _ (Option.some.inj h).symm _ _ _ (lv_sub hl [2, 3, 4, 0] rfl) hG
        · have h := ite_f h c_9
          refine lv_aload_n hx hb dX7_firstSpeed_43 rfl (lv_at hl 1 rfl) ?_
          refine r_get X hG in_X7 rfl 0 (by decide) w_223 0 rfl rfl dX7_firstSpeed_44 ?_
          refine lv_iload hx hb dX7_firstSpeed_47 (lv_at hl 0 rfl) ?_
          obtain ⟨r_10, hz_11, h⟩ := bd1_some h
          refine aft_i (ws' := (W_X7 a0 a1 cI cJ c_need)) (run_SN (rest := []) X hG hl.1 (mX8_at l dC dI cI cJ a1 24 c_need r_5 hz_11) gi_N_yX8_at w_560 w_296 w_41 hd_S_yX8_at ⟨rfl, rfl⟩ rfl ⟨Nat.le_of_ble_eq_true rfl, Nat.le_of_ble_eq_true rfl⟩ [1] (by decide) rfl rfl (Nat.le_of_ble_eq_true rfl) ⟨Nat.le_of_ble_eq_true rfl, Nat.le_of_ble_eq_true rfl⟩ dX7_firstSpeed_49) hG [1] rfl rfl rfl (fun H locs hG => ?_)
          clear hz_11
          refine lv_aload_n hx hb dX7_firstSpeed_52 rfl (lv_at hl 1 rfl) ?_
          refine r_get X hG in_X7 rfl 0 (by decide) w_223 0 rfl rfl dX7_firstSpeed_53 ?_
          refine lv_iload_n hx hb dX7_firstSpeed_56 rfl (lv_at hl 2 rfl) ?_
          obtain ⟨r_12, hz_13, h⟩ := bd1_some h
          refine aft_i (ws' := (W_X7 a0 a1 cI cJ c_need)) (run_SN (rest := [.int r_10]) X hG hl.1 (mX8_at l dC dI cI cJ a1 24 c_need x1 hz_13) gi_N_yX8_at w_560 w_296 w_41 hd_S_yX8_at ⟨rfl, rfl⟩ rfl ⟨Nat.le_of_ble_eq_true rfl, Nat.le_of_ble_eq_true rfl⟩ [1] (by decide) rfl rfl (Nat.le_of_ble_eq_true rfl) ⟨Nat.le_of_ble_eq_true rfl, Nat.le_of_ble_eq_true rfl⟩ dX7_firstSpeed_57) hG [1] rfl rfl rfl (fun H locs hG => ?_)
          clear hz_13
          refine lv_iconst (v := (1 : Int32)) hx hb dX7_firstSpeed_60 (by decide) ?_
          refine lv_isub hx hb dX7_firstSpeed_61 ?_
          refine lv_icmp_ne (tgt := 67) hx hb dX7_firstSpeed_62 (by decide) (fun c_14 => ?_) (fun c_14 => ?_)
          · have h := ite_f h c_14
            refine lv_iinc (v := (x3 + (1 : Int32))) (lv' := [(3, .int (x3 + (1 : Int32))), (4, .int r_5), (0, .ref a0), (1, .int x1), (2, .int x2)]) hx hb dX7_firstSpeed_67 hl (k := 4) rfl rfl (by decide) rfl (fun ls hl => ?_)
            refine lv_goto (tgt := 19) hx hb dX7_firstSpeed_70 (by decide) ?_
            exact KC _ (Option.some.inj h).symm _ _ _ (lv_sub hl [2, 3, 4, 0] rfl) hG
          · have h := ite_t h c_14
            refine lv_iload_n hx hb dX7_firstSpeed_65 rfl (lv_at hl 4 rfl) ?_
            cases KR _ (Option.some.inj h).symm
            exact ret _ _ _ _ dX7_firstSpeed_66 hG
  have h := hD
  unfold DX7_firstSpeed at h
  clear hD
  refine lv_aload_n hx hb dX7_firstSpeed_0 rfl (lv_at hl 0 rfl) ?_
  refine r_get X hG in_X7 rfl 0 (by decide) w_223 0 rfl rfl dX7_firstSpeed_1 ?_
  refine lv_iload_n hx hb dX7_firstSpeed_4 rfl (lv_at hl 1 rfl) ?_
  obtain ⟨r_1, hz_2, h⟩ := bd1_some h
  refine aft_i (ws' := (W_X7 a0 a1 cI cJ c_need)) (run_SN (rest := []) X hG hl.1 (mX8_at l dC dI cI cJ a1 24 c_need x1 hz_2) gi_N_yX8_at w_560 w_296 w_41 hd_S_yX8_at ⟨rfl, rfl⟩ rfl ⟨Nat.le_of_ble_eq_true rfl, Nat.le_of_ble_eq_true rfl⟩ [1] (by decide) rfl rfl (Nat.le_of_ble_eq_true rfl) ⟨Nat.le_of_ble_eq_true rfl, Nat.le_of_ble_eq_true rfl⟩ dX7_firstSpeed_5) hG [1] rfl rfl rfl (fun H locs hG => ?_)
  clear hz_2
  refine lv_sipush (v := (1000 : Int32)) hx hb dX7_firstSpeed_8 (by decide) ?_
  refine lv_icmp_ne (tgt := 17) hx hb dX7_firstSpeed_11 (by decide) (fun c_3 => ?_) (fun c_3 => ?_)
  · have h := ite_f h c_3
    refine lv_iconst (v := (1 : Int32)) hx hb dX7_firstSpeed_17 (by decide) ?_
    refine lv_istore_n (lv' := [(3, .int (1 : Int32)), (0, .ref a0), (1, .int x1), (2, .int x2)]) hx hb dX7_firstSpeed_18 rfl hl (by decide) rfl (fun ls hl => ?_)
    rcases el0_some h with ⟨hz, h⟩ | ⟨r, hz, h⟩
    · refine L19  FU (1 : Int32) _ hz ?_ (fun r e => by cases e) _ _ _ (lv_sub hl [1, 2, 3, 0] rfl) hG
      rintro  ⟨⟩ ls H locs hl hG
      clear hz
      refine lv_bipush (v := (-4 : Int32)) hx hb dX7_firstSpeed_73 (by decide) ?_
      cases h
      exact ret _ _ _ _ dX7_firstSpeed_75 hG
    · refine L19  FU (1 : Int32) _ hz (fun  e => by cases e) (fun r2 e => ?_) _ _ _ (lv_sub hl [1, 2, 3, 0] rfl) hG
      cases e; cases h; rfl
  · have h := ite_t h c_3
    refine lv_bipush (v := (-4 : Int32)) hx hb dX7_firstSpeed_14 (by decide) ?_
    cases h
    exact ret _ _ _ _ dX7_firstSpeed_16 hG
set_option maxRecDepth 100000 in
set_option maxHeartbeats 4000000 in
theorem mX8_write (l : Launch) (dC : Nat → ClassId) (dI : Nat → Nat → Nat) (cI cJ : ClassId) (a0 a1 a2 a3 a4 a5 a6 a7 a8 a9 a10 a11 a12 a13 a14 a15 a16 a17 a18 a19 a20 a21 a22 a23 a24 a25 a26 a27 a28 a29 : Nat) (c_text_bytes : Nat → Int32) (c_text_length : Int32) (c_reader_numbers : Nat → Int32) (c_reader_next : Int32) (c_laid_stand : Int32) (c_laid_home : Int32) (c_laid_priceStart : Int32) (c_laid_priceStep : Int32) (c_laid_thrown_cells : Nat → Int32) (c_laid_thrown_filled : Int32) (c_laid_nets_cells : Nat → Int32) (c_laid_nets_filled : Int32) (c_trial_stand : Int32) (c_trial_home : Int32) (c_trial_priceStart : Int32) (c_trial_priceStep : Int32) (c_trial_thrown_cells : Nat → Int32) (c_trial_thrown_filled : Int32) (c_trial_nets_cells : Nat → Int32) (c_trial_nets_filled : Int32) (c_flight_loads_cells : Nat → Int32) (c_flight_loads_filled : Int32) (c_flight_order : Nat → Int32) (c_flight_done : Int32) (c_flight_start : Int32) (c_flight_end : Int32) (c_changes_who : Nat → Int32) (c_changes_column : Nat → Int32) (c_changes_was : Nat → Int32) (c_changes_held : Int32) (c_kept_older_cells : Nat → Int32) (c_kept_older_filled : Int32) (c_kept_newer_cells : Nat → Int32) (c_kept_newer_filled : Int32) (c_kept_held : Int32) (c_turns_need : Nat → Int32) (x1 : Int32) (x2 : Int64) {res : Int32} {n_text_bytes : Nat → Int32} {n_text_length : Int32} (hD : DX8_write x1 x2 c_text_bytes c_text_length = some (res, n_text_bytes, n_text_length)) : Met l yX8_write (WZ yX8_write cX8_write 5 (some .int)) (RM 2 43) (PC dC dI cI cJ [.ref a0, .int x1, .long x2] (W_X8 a0 a1 a2 a3 a4 a5 a6 a7 a8 a9 a10 a11 a12 a13 a14 a15 a16 a17 a18 a19 a20 a21 a22 a23 a24 a25 a26 a27 a28 a29 cI cJ c_text_bytes c_text_length c_reader_numbers c_reader_next c_laid_stand c_laid_home c_laid_priceStart c_laid_priceStep c_laid_thrown_cells c_laid_thrown_filled c_laid_nets_cells c_laid_nets_filled c_trial_stand c_trial_home c_trial_priceStart c_trial_priceStep c_trial_thrown_cells c_trial_thrown_filled c_trial_nets_cells c_trial_nets_filled c_flight_loads_cells c_flight_loads_filled c_flight_order c_flight_done c_flight_start c_flight_end c_changes_who c_changes_column c_changes_was c_changes_held c_kept_older_cells c_kept_older_filled c_kept_newer_cells c_kept_newer_filled c_kept_held c_turns_need)) (QI dC dI (W_X8 a0 a1 a2 a3 a4 a5 a6 a7 a8 a9 a10 a11 a12 a13 a14 a15 a16 a17 a18 a19 a20 a21 a22 a23 a24 a25 a26 a27 a28 a29 cI cJ c_text_bytes c_text_length c_reader_numbers c_reader_next c_laid_stand c_laid_home c_laid_priceStart c_laid_priceStep c_laid_thrown_cells c_laid_thrown_filled c_laid_nets_cells c_laid_nets_filled c_trial_stand c_trial_home c_trial_priceStart c_trial_priceStep c_trial_thrown_cells c_trial_thrown_filled c_trial_nets_cells c_trial_nets_filled c_flight_loads_cells c_flight_loads_filled c_flight_order c_flight_done c_flight_start c_flight_end c_changes_who c_changes_column c_changes_was c_changes_held c_kept_older_cells c_kept_older_filled c_kept_newer_cells c_kept_newer_filled c_kept_held c_turns_need) (W_X8 a0 a1 a2 a3 a4 a5 a6 a7 a8 a9 a10 a11 a12 a13 a14 a15 a16 a17 a18 a19 a20 a21 a22 a23 a24 a25 a26 a27 a28 a29 cI cJ n_text_bytes n_text_length c_reader_numbers c_reader_next c_laid_stand c_laid_home c_laid_priceStart c_laid_priceStep c_laid_thrown_cells c_laid_thrown_filled c_laid_nets_cells c_laid_nets_filled c_trial_stand c_trial_home c_trial_priceStart c_trial_priceStep c_trial_thrown_cells c_trial_thrown_filled c_trial_nets_cells c_trial_nets_filled c_flight_loads_cells c_flight_loads_filled c_flight_order c_flight_done c_flight_start c_flight_end c_changes_who c_changes_column c_changes_was c_changes_held c_kept_older_cells c_kept_older_filled c_kept_newer_cells c_kept_newer_filled c_kept_held c_turns_need) res) 0 0 (FA (W_X8 a0 a1 a2 a3 a4 a5 a6 a7 a8 a9 a10 a11 a12 a13 a14 a15 a16 a17 a18 a19 a20 a21 a22 a23 a24 a25 a26 a27 a28 a29 cI cJ c_text_bytes c_text_length c_reader_numbers c_reader_next c_laid_stand c_laid_home c_laid_priceStart c_laid_priceStep c_laid_thrown_cells c_laid_thrown_filled c_laid_nets_cells c_laid_nets_filled c_trial_stand c_trial_home c_trial_priceStart c_trial_priceStep c_trial_thrown_cells c_trial_thrown_filled c_trial_nets_cells c_trial_nets_filled c_flight_loads_cells c_flight_loads_filled c_flight_order c_flight_done c_flight_start c_flight_end c_changes_who c_changes_column c_changes_was c_changes_held c_kept_older_cells c_kept_older_filled c_kept_newer_cells c_kept_newer_filled c_kept_held c_turns_need)) := by
  refine r_metI (by decide +kernel) (Nat.le_of_ble_eq_true rfl) ?_
  intro p e s m args below meth c A H0 QQ X ret ls hl hG
  have X : Cx p m c cX8_write 5 s args RX8 dC dI cI cJ meth (some .int) := X
  have hx := X.1.1
  have hb := X.1.2.1
  have hl : lv_has ls 5 [(0, .ref a0), (1, .int x1), (2, .long x2)] := hl
  have L35 : ∀ (n : Nat) (x4 : Int32) (c_text_bytes : Nat → Int32) (c_text_length : Int32) (ec_text_bytes : Nat → Int32) (ec_text_length : Int32), DX8_write_L35 x2 n x4 c_text_bytes c_text_length = some (ec_text_bytes, ec_text_length) → (∀ (ls : Array Slot) (H : Heap) (locs : List Loc), lv_has ls 5 [(0, .ref a0)] → G dC dI A H0 (W_X8 a0 a1 a2 a3 a4 a5 a6 a7 a8 a9 a10 a11 a12 a13 a14 a15 a16 a17 a18 a19 a20 a21 a22 a23 a24 a25 a26 a27 a28 a29 cI cJ ec_text_bytes ec_text_length c_reader_numbers c_reader_next c_laid_stand c_laid_home c_laid_priceStart c_laid_priceStep c_laid_thrown_cells c_laid_thrown_filled c_laid_nets_cells c_laid_nets_filled c_trial_stand c_trial_home c_trial_priceStart c_trial_priceStep c_trial_thrown_cells c_trial_thrown_filled c_trial_nets_cells c_trial_nets_filled c_flight_loads_cells c_flight_loads_filled c_flight_order c_flight_done c_flight_start c_flight_end c_changes_who c_changes_column c_changes_was c_changes_held c_kept_older_cells c_kept_older_filled c_kept_newer_cells c_kept_newer_filled c_kept_held c_turns_need) H locs → W p l e (RM 2 43) s m args below meth c H locs 0 0 QQ (F0 m 65 ls [])) → ∀ (ls : Array Slot) (H : Heap) (locs : List Loc), lv_has ls 5 [(0, .ref a0), (2, .long x2), (4, .int x4)] → G dC dI A H0 (W_X8 a0 a1 a2 a3 a4 a5 a6 a7 a8 a9 a10 a11 a12 a13 a14 a15 a16 a17 a18 a19 a20 a21 a22 a23 a24 a25 a26 a27 a28 a29 cI cJ c_text_bytes c_text_length c_reader_numbers c_reader_next c_laid_stand c_laid_home c_laid_priceStart c_laid_priceStep c_laid_thrown_cells c_laid_thrown_filled c_laid_nets_cells c_laid_nets_filled c_trial_stand c_trial_home c_trial_priceStart c_trial_priceStep c_trial_thrown_cells c_trial_thrown_filled c_trial_nets_cells c_trial_nets_filled c_flight_loads_cells c_flight_loads_filled c_flight_order c_flight_done c_flight_start c_flight_end c_changes_who c_changes_column c_changes_was c_changes_held c_kept_older_cells c_kept_older_filled c_kept_newer_cells c_kept_newer_filled c_kept_held c_turns_need) H locs → W p l e (RM 2 43) s m args below meth c H locs 0 0 QQ (F0 m 35 ls []) := by
    intro  n
    induction n with
    | zero => intro x4 c_text_bytes c_text_length ec_text_bytes ec_text_length h; exact it_zero h
    | succ n ih =>
      intro x4 c_text_bytes c_text_length ec_text_bytes ec_text_length h0 K0 ls H locs hl hG
      obtain ⟨w, h, hi, hr⟩ := it_succ h0
      have h : DX8_write_L35s x2 x4 c_text_bytes c_text_length = some w := h
      have KC : ∀ (x4 : Int32) (c_text_bytes : Nat → Int32) (c_text_length : Int32), w = .inl (x4, c_text_bytes, c_text_length) → ∀ (ls : Array Slot) (H : Heap) (locs : List Loc), lv_has ls 5 [(0, .ref a0), (2, .long x2), (4, .int x4)] → G dC dI A H0 (W_X8 a0 a1 a2 a3 a4 a5 a6 a7 a8 a9 a10 a11 a12 a13 a14 a15 a16 a17 a18 a19 a20 a21 a22 a23 a24 a25 a26 a27 a28 a29 cI cJ c_text_bytes c_text_length c_reader_numbers c_reader_next c_laid_stand c_laid_home c_laid_priceStart c_laid_priceStep c_laid_thrown_cells c_laid_thrown_filled c_laid_nets_cells c_laid_nets_filled c_trial_stand c_trial_home c_trial_priceStart c_trial_priceStep c_trial_thrown_cells c_trial_thrown_filled c_trial_nets_cells c_trial_nets_filled c_flight_loads_cells c_flight_loads_filled c_flight_order c_flight_done c_flight_start c_flight_end c_changes_who c_changes_column c_changes_was c_changes_held c_kept_older_cells c_kept_older_filled c_kept_newer_cells c_kept_newer_filled c_kept_held c_turns_need) H locs → W p l e (RM 2 43) s m args below meth c H locs 0 0 QQ (F0 m 35 ls []) := fun b0 b1 b2 e ls H locs hl hG => ih b0 b1 b2 ec_text_bytes ec_text_length (hi _ e) K0 ls H locs hl hG
      have KX : ∀ (c_text_bytes : Nat → Int32) (c_text_length : Int32), w = .inr (c_text_bytes, c_text_length) → ∀ (ls : Array Slot) (H : Heap) (locs : List Loc), lv_has ls 5 [(0, .ref a0)] → G dC dI A H0 (W_X8 a0 a1 a2 a3 a4 a5 a6 a7 a8 a9 a10 a11 a12 a13 a14 a15 a16 a17 a18 a19 a20 a21 a22 a23 a24 a25 a26 a27 a28 a29 cI cJ c_text_bytes c_text_length c_reader_numbers c_reader_next c_laid_stand c_laid_home c_laid_priceStart c_laid_priceStep c_laid_thrown_cells c_laid_thrown_filled c_laid_nets_cells c_laid_nets_filled c_trial_stand c_trial_home c_trial_priceStart c_trial_priceStep c_trial_thrown_cells c_trial_thrown_filled c_trial_nets_cells c_trial_nets_filled c_flight_loads_cells c_flight_loads_filled c_flight_order c_flight_done c_flight_start c_flight_end c_changes_who c_changes_column c_changes_was c_changes_held c_kept_older_cells c_kept_older_filled c_kept_newer_cells c_kept_newer_filled c_kept_held c_turns_need) H locs → W p l e (RM 2 43) s m args below meth c H locs 0 0 QQ (F0 m 65 ls []) := fun b0 b1 e ls H locs hl hG => by cases hr _ e; exact K0 ls H locs hl hG
      clear h0 hi hr K0 ih
      unfold DX8_write_L35s at h
      refine lv_iload hx hb dX8_write_35 (lv_at hl 2 rfl) ?_
      refine lv_if_lt (tgt := 65) hx hb dX8_write_37 (by decide) (fun c_5 => ?_) (fun c_5 => ?_)
      · have h := ite_t h c_5
        exact KX _ _ (Option.some.inj h).symm _ _ _ (lv_sub hl [0] rfl) hG
      · have h := ite_f h c_5
        refine lv_aload_n hx hb dX8_write_40 rfl (lv_at hl 0 rfl) ?_
        refine r_get X hG in_X8 rfl 0 (by decide) w_235 0 rfl rfl dX8_write_41 ?_
        refine lv_lload_n hx hb dX8_write_44 rfl (lv_at hl 1 rfl) ?_
        refine lv_bipush (v := (8 : Int32)) hx hb dX8_write_45 (by decide) ?_
        refine lv_iload hx hb dX8_write_47 (lv_at hl 2 rfl) ?_
        refine lv_imul hx hb dX8_write_49 ?_
        refine lv_lushr (v := ((x2.toUInt64 >>> (((8 : Int32) * x4).toInt64.toUInt64 &&& Int64.toUInt64 63)).toInt64)) hx hb dX8_write_50 rfl ?_
        refine lv_l2i (v := (((x2.toUInt64 >>> (((8 : Int32) * x4).toInt64.toUInt64 &&& Int64.toUInt64 63)).toInt64).toInt32)) hx hb dX8_write_51 rfl ?_
        refine lv_sipush (v := (255 : Int32)) hx hb dX8_write_52 (by decide) ?_
        refine lv_iand hx hb dX8_write_55 ?_
        obtain ⟨k_text_bytes_6, k_text_length_7, hz_8, h⟩ := bd2_some h
        refine aft_v (ws' := (W_X8 a0 a1 a2 a3 a4 a5 a6 a7 a8 a9 a10 a11 a12 a13 a14 a15 a16 a17 a18 a19 a20 a21 a22 a23 a24 a25 a26 a27 a28 a29 cI cJ k_text_bytes_6 k_text_length_7 c_reader_numbers c_reader_next c_laid_stand c_laid_home c_laid_priceStart c_laid_priceStep c_laid_thrown_cells c_laid_thrown_filled c_laid_nets_cells c_laid_nets_filled c_trial_stand c_trial_home c_trial_priceStart c_trial_priceStep c_trial_thrown_cells c_trial_thrown_filled c_trial_nets_cells c_trial_nets_filled c_flight_loads_cells c_flight_loads_filled c_flight_order c_flight_done c_flight_start c_flight_end c_changes_who c_changes_column c_changes_was c_changes_held c_kept_older_cells c_kept_older_filled c_kept_newer_cells c_kept_newer_filled c_kept_held c_turns_need)) (run_V (rest := []) X hG hl.1 (mX6_append l dC dI cI cJ a1 a2 c_text_bytes c_text_length ((((x2.toUInt64 >>> (((8 : Int32) * x4).toInt64.toUInt64 &&& Int64.toUInt64 63)).toInt64).toInt32) &&& (255 : Int32)) hz_8) gi_V_X8_82 hd_V_yX6_append ⟨rfl, rfl⟩ rfl ⟨Nat.le_of_ble_eq_true rfl, Nat.le_of_ble_eq_true rfl⟩ [1, 2] (by decide) rfl 1 rfl rfl rfl rfl (Nat.le_of_ble_eq_true rfl) ⟨Nat.le_of_ble_eq_true rfl, Nat.le_of_ble_eq_true rfl⟩ dX8_write_56) hG [1, 2] rfl rfl rfl (fun H locs hG => ?_)
        clear hz_8
        refine lv_iinc (v := (x4 + (-1 : Int32))) (lv' := [(4, .int (x4 + (-1 : Int32))), (0, .ref a0), (2, .long x2)]) hx hb dX8_write_59 hl (k := 2) rfl rfl (by decide) rfl (fun ls hl => ?_)
        refine lv_goto (tgt := 35) hx hb dX8_write_62 (by decide) ?_
        exact KC _ _ _ (Option.some.inj h).symm _ _ _ (lv_sub hl [1, 2, 0] rfl) hG
  have h := hD
  unfold DX8_write at h
  clear hD
  refine lv_iload_n hx hb dX8_write_0 rfl (lv_at hl 1 rfl) ?_
  refine lv_iconst (v := (1 : Int32)) hx hb dX8_write_1 (by decide) ?_
  refine lv_bipush (v := (8 : Int32)) hx hb dX8_write_2 (by decide) ?_
  obtain ⟨r_1, hz_2, h⟩ := bd1_some h
  refine aft_i (ws' := (W_X8 a0 a1 a2 a3 a4 a5 a6 a7 a8 a9 a10 a11 a12 a13 a14 a15 a16 a17 a18 a19 a20 a21 a22 a23 a24 a25 a26 a27 a28 a29 cI cJ c_text_bytes c_text_length c_reader_numbers c_reader_next c_laid_stand c_laid_home c_laid_priceStart c_laid_priceStep c_laid_thrown_cells c_laid_thrown_filled c_laid_nets_cells c_laid_nets_filled c_trial_stand c_trial_home c_trial_priceStart c_trial_priceStep c_trial_thrown_cells c_trial_thrown_filled c_trial_nets_cells c_trial_nets_filled c_flight_loads_cells c_flight_loads_filled c_flight_order c_flight_done c_flight_start c_flight_end c_changes_who c_changes_column c_changes_was c_changes_held c_kept_older_cells c_kept_older_filled c_kept_newer_cells c_kept_newer_filled c_kept_held c_turns_need)) (run_S (rest := []) X hG hl.1 (mX8_within l dC dI cI cJ x1 (1 : Int32) (8 : Int32) hz_2) gi_S_X8_74 hd_S_yX8_within ⟨rfl, rfl⟩ rfl ⟨Nat.le_of_ble_eq_true rfl, Nat.le_of_ble_eq_true rfl⟩ [] (by decide) rfl rfl (Nat.le_of_ble_eq_true rfl) ⟨Nat.le_of_ble_eq_true rfl, Nat.le_of_ble_eq_true rfl⟩ dX8_write_4) hG [] rfl rfl rfl (fun H locs hG => ?_)
  clear hz_2
  refine lv_if_ne (tgt := 12) hx hb dX8_write_7 (by decide) (fun c_3 => ?_) (fun c_3 => ?_)
  · have h := ite_f h c_3
    refine lv_aload_n hx hb dX8_write_12 rfl (lv_at hl 0 rfl) ?_
    refine r_get X hG in_X8 rfl 0 (by decide) w_235 0 rfl rfl dX8_write_13 ?_
    refine r_getN X hG in_X6 rfl 1 (by decide) w_70 1 rfl rfl dX8_write_16 ?_
    refine lv_iload_n hx hb dX8_write_19 rfl (lv_at hl 1 rfl) ?_
    refine lv_iadd hx hb dX8_write_20 ?_
    refine lv_sipush (v := (300 : Int32)) hx hb dX8_write_21 (by decide) ?_
    refine lv_icmp_le (tgt := 30) hx hb dX8_write_24 (by decide) (fun c_4 => ?_) (fun c_4 => ?_)
    · have h := ite_t h c_4
      refine lv_iload_n hx hb dX8_write_30 rfl (lv_at hl 1 rfl) ?_
      refine lv_iconst (v := (1 : Int32)) hx hb dX8_write_31 (by decide) ?_
      refine lv_isub hx hb dX8_write_32 ?_
      refine lv_istore (lv' := [(4, .int (x1 - (1 : Int32))), (0, .ref a0), (1, .int x1), (2, .long x2)]) hx hb dX8_write_33 hl (by decide) rfl (fun ls hl => ?_)
      obtain ⟨k_text_bytes_9, k_text_length_10, hz, h⟩ := bd2_some h
      refine L35  FU (x1 - (1 : Int32)) c_text_bytes c_text_length _ _ hz (fun ls H locs hl hG => ?_) _ _ _ (lv_sub hl [1, 3, 0] rfl) hG
      clear hz
      refine lv_aload_n hx hb dX8_write_65 rfl (lv_at hl 0 rfl) ?_
      refine r_get X hG in_X8 rfl 0 (by decide) w_235 0 rfl rfl dX8_write_66 ?_
      refine r_getN X hG in_X6 rfl 1 (by decide) w_70 1 rfl rfl dX8_write_69 ?_
      cases h
      exact ret _ _ _ _ dX8_write_72 hG
    · have h := ite_f h c_4
      refine lv_bipush (v := (-3 : Int32)) hx hb dX8_write_27 (by decide) ?_
      cases h
      exact ret _ _ _ _ dX8_write_29 hG
  · have h := ite_t h c_3
    refine lv_iconst (v := (-1 : Int32)) hx hb dX8_write_10 (by decide) ?_
    cases h
    exact ret _ _ _ _ dX8_write_11 hG
set_option maxRecDepth 100000 in
set_option maxHeartbeats 4000000 in
theorem mX8_wipe (l : Launch) (dC : Nat → ClassId) (dI : Nat → Nat → Nat) (cI cJ : ClassId) (a0 a1 a2 a3 a4 a5 a6 a7 a8 a9 a10 a11 a12 a13 a14 a15 a16 a17 a18 a19 a20 a21 a22 a23 a24 a25 a26 a27 a28 a29 : Nat) (c_text_bytes : Nat → Int32) (c_text_length : Int32) (c_reader_numbers : Nat → Int32) (c_reader_next : Int32) (c_laid_stand : Int32) (c_laid_home : Int32) (c_laid_priceStart : Int32) (c_laid_priceStep : Int32) (c_laid_thrown_cells : Nat → Int32) (c_laid_thrown_filled : Int32) (c_laid_nets_cells : Nat → Int32) (c_laid_nets_filled : Int32) (c_trial_stand : Int32) (c_trial_home : Int32) (c_trial_priceStart : Int32) (c_trial_priceStep : Int32) (c_trial_thrown_cells : Nat → Int32) (c_trial_thrown_filled : Int32) (c_trial_nets_cells : Nat → Int32) (c_trial_nets_filled : Int32) (c_flight_loads_cells : Nat → Int32) (c_flight_loads_filled : Int32) (c_flight_order : Nat → Int32) (c_flight_done : Int32) (c_flight_start : Int32) (c_flight_end : Int32) (c_changes_who : Nat → Int32) (c_changes_column : Nat → Int32) (c_changes_was : Nat → Int32) (c_changes_held : Int32) (c_kept_older_cells : Nat → Int32) (c_kept_older_filled : Int32) (c_kept_newer_cells : Nat → Int32) (c_kept_newer_filled : Int32) (c_kept_held : Int32) (c_turns_need : Nat → Int32) {res : Int32} {n_text_length : Int32} (hD : DX8_wipe c_text_length = some (res, n_text_length)) : Met l yX8_wipe (WZ yX8_wipe cX8_wipe 2 (some .int)) (RM 0 0) (PC dC dI cI cJ [.ref a0] (W_X8 a0 a1 a2 a3 a4 a5 a6 a7 a8 a9 a10 a11 a12 a13 a14 a15 a16 a17 a18 a19 a20 a21 a22 a23 a24 a25 a26 a27 a28 a29 cI cJ c_text_bytes c_text_length c_reader_numbers c_reader_next c_laid_stand c_laid_home c_laid_priceStart c_laid_priceStep c_laid_thrown_cells c_laid_thrown_filled c_laid_nets_cells c_laid_nets_filled c_trial_stand c_trial_home c_trial_priceStart c_trial_priceStep c_trial_thrown_cells c_trial_thrown_filled c_trial_nets_cells c_trial_nets_filled c_flight_loads_cells c_flight_loads_filled c_flight_order c_flight_done c_flight_start c_flight_end c_changes_who c_changes_column c_changes_was c_changes_held c_kept_older_cells c_kept_older_filled c_kept_newer_cells c_kept_newer_filled c_kept_held c_turns_need)) (QI dC dI (W_X8 a0 a1 a2 a3 a4 a5 a6 a7 a8 a9 a10 a11 a12 a13 a14 a15 a16 a17 a18 a19 a20 a21 a22 a23 a24 a25 a26 a27 a28 a29 cI cJ c_text_bytes c_text_length c_reader_numbers c_reader_next c_laid_stand c_laid_home c_laid_priceStart c_laid_priceStep c_laid_thrown_cells c_laid_thrown_filled c_laid_nets_cells c_laid_nets_filled c_trial_stand c_trial_home c_trial_priceStart c_trial_priceStep c_trial_thrown_cells c_trial_thrown_filled c_trial_nets_cells c_trial_nets_filled c_flight_loads_cells c_flight_loads_filled c_flight_order c_flight_done c_flight_start c_flight_end c_changes_who c_changes_column c_changes_was c_changes_held c_kept_older_cells c_kept_older_filled c_kept_newer_cells c_kept_newer_filled c_kept_held c_turns_need) (W_X8 a0 a1 a2 a3 a4 a5 a6 a7 a8 a9 a10 a11 a12 a13 a14 a15 a16 a17 a18 a19 a20 a21 a22 a23 a24 a25 a26 a27 a28 a29 cI cJ c_text_bytes n_text_length c_reader_numbers c_reader_next c_laid_stand c_laid_home c_laid_priceStart c_laid_priceStep c_laid_thrown_cells c_laid_thrown_filled c_laid_nets_cells c_laid_nets_filled c_trial_stand c_trial_home c_trial_priceStart c_trial_priceStep c_trial_thrown_cells c_trial_thrown_filled c_trial_nets_cells c_trial_nets_filled c_flight_loads_cells c_flight_loads_filled c_flight_order c_flight_done c_flight_start c_flight_end c_changes_who c_changes_column c_changes_was c_changes_held c_kept_older_cells c_kept_older_filled c_kept_newer_cells c_kept_newer_filled c_kept_held c_turns_need) res) 0 0 (FA (W_X8 a0 a1 a2 a3 a4 a5 a6 a7 a8 a9 a10 a11 a12 a13 a14 a15 a16 a17 a18 a19 a20 a21 a22 a23 a24 a25 a26 a27 a28 a29 cI cJ c_text_bytes c_text_length c_reader_numbers c_reader_next c_laid_stand c_laid_home c_laid_priceStart c_laid_priceStep c_laid_thrown_cells c_laid_thrown_filled c_laid_nets_cells c_laid_nets_filled c_trial_stand c_trial_home c_trial_priceStart c_trial_priceStep c_trial_thrown_cells c_trial_thrown_filled c_trial_nets_cells c_trial_nets_filled c_flight_loads_cells c_flight_loads_filled c_flight_order c_flight_done c_flight_start c_flight_end c_changes_who c_changes_column c_changes_was c_changes_held c_kept_older_cells c_kept_older_filled c_kept_newer_cells c_kept_newer_filled c_kept_held c_turns_need)) := by
  refine r_metI (by decide +kernel) (Nat.le_of_ble_eq_true rfl) ?_
  intro p e s m args below meth c A H0 QQ X ret ls hl hG
  have X : Cx p m c cX8_wipe 2 s args RX8 dC dI cI cJ meth (some .int) := X
  have hx := X.1.1
  have hb := X.1.2.1
  have hl : lv_has ls 2 [(0, .ref a0)] := hl
  have h := hD
  unfold DX8_wipe at h
  clear hD
  refine lv_aload_n hx hb dX8_wipe_0 rfl (lv_at hl 0 rfl) ?_
  refine r_get X hG in_X8 rfl 0 (by decide) w_235 0 rfl rfl dX8_wipe_1 ?_
  refine r_getN X hG in_X6 rfl 1 (by decide) w_70 1 rfl rfl dX8_wipe_4 ?_
  refine lv_istore_n (lv' := [(1, .int c_text_length), (0, .ref a0)]) hx hb dX8_wipe_7 rfl hl (by decide) rfl (fun ls hl => ?_)
  refine lv_aload_n hx hb dX8_wipe_8 rfl (lv_at hl 1 rfl) ?_
  refine r_get X hG in_X8 rfl 0 (by decide) w_235 0 rfl rfl dX8_wipe_9 ?_
  refine lv_iconst (v := (0 : Int32)) hx hb dX8_wipe_12 (by decide) ?_
  refine r_putN X hG in_X6 rfl tyX6 tyX6_ok nmX6 1 (by decide) rfl (by decide +kernel) w_70 1 (ws' := (W_X8 a0 a1 a2 a3 a4 a5 a6 a7 a8 a9 a10 a11 a12 a13 a14 a15 a16 a17 a18 a19 a20 a21 a22 a23 a24 a25 a26 a27 a28 a29 cI cJ c_text_bytes (0 : Int32) c_reader_numbers c_reader_next c_laid_stand c_laid_home c_laid_priceStart c_laid_priceStep c_laid_thrown_cells c_laid_thrown_filled c_laid_nets_cells c_laid_nets_filled c_trial_stand c_trial_home c_trial_priceStart c_trial_priceStep c_trial_thrown_cells c_trial_thrown_filled c_trial_nets_cells c_trial_nets_filled c_flight_loads_cells c_flight_loads_filled c_flight_order c_flight_done c_flight_start c_flight_end c_changes_who c_changes_column c_changes_was c_changes_held c_kept_older_cells c_kept_older_filled c_kept_newer_cells c_kept_newer_filled c_kept_held c_turns_need)) rfl (Nat.le_of_ble_eq_true rfl) rfl dX8_wipe_13 (fun H locs hG => ?_)
  refine lv_iload_n hx hb dX8_wipe_16 rfl (lv_at hl 0 rfl) ?_
  cases h
  exact ret _ _ _ _ dX8_wipe_17 hG
set_option maxRecDepth 100000 in
set_option maxHeartbeats 4000000 in
theorem mX8_fault (l : Launch) (dC : Nat → ClassId) (dI : Nat → Nat → Nat) (cI cJ : ClassId) (a0 a1 a2 a3 a4 a5 a6 a7 a8 a9 a10 a11 a12 a13 a14 a15 a16 a17 a18 a19 a20 a21 a22 a23 a24 a25 a26 a27 a28 a29 : Nat) (c_text_bytes : Nat → Int32) (c_text_length : Int32) (c_reader_numbers : Nat → Int32) (c_reader_next : Int32) (c_laid_stand : Int32) (c_laid_home : Int32) (c_laid_priceStart : Int32) (c_laid_priceStep : Int32) (c_laid_thrown_cells : Nat → Int32) (c_laid_thrown_filled : Int32) (c_laid_nets_cells : Nat → Int32) (c_laid_nets_filled : Int32) (c_trial_stand : Int32) (c_trial_home : Int32) (c_trial_priceStart : Int32) (c_trial_priceStep : Int32) (c_trial_thrown_cells : Nat → Int32) (c_trial_thrown_filled : Int32) (c_trial_nets_cells : Nat → Int32) (c_trial_nets_filled : Int32) (c_flight_loads_cells : Nat → Int32) (c_flight_loads_filled : Int32) (c_flight_order : Nat → Int32) (c_flight_done : Int32) (c_flight_start : Int32) (c_flight_end : Int32) (c_changes_who : Nat → Int32) (c_changes_column : Nat → Int32) (c_changes_was : Nat → Int32) (c_changes_held : Int32) (c_kept_older_cells : Nat → Int32) (c_kept_older_filled : Int32) (c_kept_newer_cells : Nat → Int32) (c_kept_newer_filled : Int32) (c_kept_held : Int32) (c_turns_need : Nat → Int32) {res : Int32} {n_reader_numbers : Nat → Int32} {n_reader_next : Int32} {n_trial_stand : Int32} {n_trial_home : Int32} {n_trial_priceStart : Int32} {n_trial_priceStep : Int32} {n_trial_thrown_cells : Nat → Int32} {n_trial_thrown_filled : Int32} {n_trial_nets_cells : Nat → Int32} {n_trial_nets_filled : Int32} (hD : DX8_fault c_text_bytes c_text_length c_reader_numbers c_trial_thrown_cells c_trial_nets_cells = some (res, n_reader_numbers, n_reader_next, n_trial_stand, n_trial_home, n_trial_priceStart, n_trial_priceStep, n_trial_thrown_cells, n_trial_thrown_filled, n_trial_nets_cells, n_trial_nets_filled)) : Met l yX8_fault (WZ yX8_fault cX8_fault 1 (some .int)) (RM 6 146) (PC dC dI cI cJ [.ref a0] (W_X8 a0 a1 a2 a3 a4 a5 a6 a7 a8 a9 a10 a11 a12 a13 a14 a15 a16 a17 a18 a19 a20 a21 a22 a23 a24 a25 a26 a27 a28 a29 cI cJ c_text_bytes c_text_length c_reader_numbers c_reader_next c_laid_stand c_laid_home c_laid_priceStart c_laid_priceStep c_laid_thrown_cells c_laid_thrown_filled c_laid_nets_cells c_laid_nets_filled c_trial_stand c_trial_home c_trial_priceStart c_trial_priceStep c_trial_thrown_cells c_trial_thrown_filled c_trial_nets_cells c_trial_nets_filled c_flight_loads_cells c_flight_loads_filled c_flight_order c_flight_done c_flight_start c_flight_end c_changes_who c_changes_column c_changes_was c_changes_held c_kept_older_cells c_kept_older_filled c_kept_newer_cells c_kept_newer_filled c_kept_held c_turns_need)) (QI dC dI (W_X8 a0 a1 a2 a3 a4 a5 a6 a7 a8 a9 a10 a11 a12 a13 a14 a15 a16 a17 a18 a19 a20 a21 a22 a23 a24 a25 a26 a27 a28 a29 cI cJ c_text_bytes c_text_length c_reader_numbers c_reader_next c_laid_stand c_laid_home c_laid_priceStart c_laid_priceStep c_laid_thrown_cells c_laid_thrown_filled c_laid_nets_cells c_laid_nets_filled c_trial_stand c_trial_home c_trial_priceStart c_trial_priceStep c_trial_thrown_cells c_trial_thrown_filled c_trial_nets_cells c_trial_nets_filled c_flight_loads_cells c_flight_loads_filled c_flight_order c_flight_done c_flight_start c_flight_end c_changes_who c_changes_column c_changes_was c_changes_held c_kept_older_cells c_kept_older_filled c_kept_newer_cells c_kept_newer_filled c_kept_held c_turns_need) (W_X8 a0 a1 a2 a3 a4 a5 a6 a7 a8 a9 a10 a11 a12 a13 a14 a15 a16 a17 a18 a19 a20 a21 a22 a23 a24 a25 a26 a27 a28 a29 cI cJ c_text_bytes c_text_length n_reader_numbers n_reader_next c_laid_stand c_laid_home c_laid_priceStart c_laid_priceStep c_laid_thrown_cells c_laid_thrown_filled c_laid_nets_cells c_laid_nets_filled n_trial_stand n_trial_home n_trial_priceStart n_trial_priceStep n_trial_thrown_cells n_trial_thrown_filled n_trial_nets_cells n_trial_nets_filled c_flight_loads_cells c_flight_loads_filled c_flight_order c_flight_done c_flight_start c_flight_end c_changes_who c_changes_column c_changes_was c_changes_held c_kept_older_cells c_kept_older_filled c_kept_newer_cells c_kept_newer_filled c_kept_held c_turns_need) res) 0 0 (FA (W_X8 a0 a1 a2 a3 a4 a5 a6 a7 a8 a9 a10 a11 a12 a13 a14 a15 a16 a17 a18 a19 a20 a21 a22 a23 a24 a25 a26 a27 a28 a29 cI cJ c_text_bytes c_text_length c_reader_numbers c_reader_next c_laid_stand c_laid_home c_laid_priceStart c_laid_priceStep c_laid_thrown_cells c_laid_thrown_filled c_laid_nets_cells c_laid_nets_filled c_trial_stand c_trial_home c_trial_priceStart c_trial_priceStep c_trial_thrown_cells c_trial_thrown_filled c_trial_nets_cells c_trial_nets_filled c_flight_loads_cells c_flight_loads_filled c_flight_order c_flight_done c_flight_start c_flight_end c_changes_who c_changes_column c_changes_was c_changes_held c_kept_older_cells c_kept_older_filled c_kept_newer_cells c_kept_newer_filled c_kept_held c_turns_need)) := by
  refine r_metI (by decide +kernel) (Nat.le_of_ble_eq_true rfl) ?_
  intro p e s m args below meth c A H0 QQ X ret ls hl hG
  have X : Cx p m c cX8_fault 1 s args RX8 dC dI cI cJ meth (some .int) := X
  have hx := X.1.1
  have hb := X.1.2.1
  have hl : lv_has ls 1 [(0, .ref a0)] := hl
  have h := hD
  unfold DX8_fault at h
  clear hD
  refine lv_aload_n hx hb dX8_fault_0 rfl (lv_at hl 0 rfl) ?_
  refine r_get X hG in_X8 rfl 1 (by decide) w_236 0 rfl rfl dX8_fault_1 ?_
  refine lv_aload_n hx hb dX8_fault_4 rfl (lv_at hl 0 rfl) ?_
  refine r_get X hG in_X8 rfl 0 (by decide) w_235 0 rfl rfl dX8_fault_5 ?_
  refine lv_aload_n hx hb dX8_fault_8 rfl (lv_at hl 0 rfl) ?_
  refine r_get X hG in_X8 rfl 3 (by decide) w_238 0 rfl rfl dX8_fault_9 ?_
  obtain ⟨r_1, k_reader_numbers_2, k_reader_next_3, k_trial_stand_4, k_trial_home_5, k_trial_priceStart_6, k_trial_priceStep_7, k_trial_thrown_cells_8, k_trial_thrown_filled_9, k_trial_nets_cells_10, k_trial_nets_filled_11, hz_12, h⟩ := bd11_some h
  refine aft_i (ws' := (W_X8 a0 a1 a2 a3 a4 a5 a6 a7 a8 a9 a10 a11 a12 a13 a14 a15 a16 a17 a18 a19 a20 a21 a22 a23 a24 a25 a26 a27 a28 a29 cI cJ c_text_bytes c_text_length k_reader_numbers_2 k_reader_next_3 c_laid_stand c_laid_home c_laid_priceStart c_laid_priceStep c_laid_thrown_cells c_laid_thrown_filled c_laid_nets_cells c_laid_nets_filled k_trial_stand_4 k_trial_home_5 k_trial_priceStart_6 k_trial_priceStep_7 k_trial_thrown_cells_8 k_trial_thrown_filled_9 k_trial_nets_cells_10 k_trial_nets_filled_11 c_flight_loads_cells c_flight_loads_filled c_flight_order c_flight_done c_flight_start c_flight_end c_changes_who c_changes_column c_changes_was c_changes_held c_kept_older_cells c_kept_older_filled c_kept_newer_cells c_kept_newer_filled c_kept_held c_turns_need)) (run_V (rest := []) X hG hl.1 (mX4_firstFault l dC dI cI cJ a3 a4 a1 a2 a10 a11 a12 a13 a14 c_reader_numbers c_reader_next c_text_bytes c_text_length c_trial_stand c_trial_home c_trial_priceStart c_trial_priceStep c_trial_thrown_cells c_trial_thrown_filled c_trial_nets_cells c_trial_nets_filled hz_12) gi_V_X8_86 hd_V_yX4_firstFault ⟨rfl, rfl⟩ rfl ⟨Nat.le_of_ble_eq_true rfl, Nat.le_of_ble_eq_true rfl⟩ [3, 4, 1, 2, 10, 11, 12, 13, 14] (by decide) rfl 3 rfl rfl rfl rfl (Nat.le_of_ble_eq_true rfl) ⟨Nat.le_of_ble_eq_true rfl, Nat.le_of_ble_eq_true rfl⟩ dX8_fault_12) hG [3, 4, 1, 2, 10, 11, 12, 13, 14] rfl rfl rfl (fun H locs hG => ?_)
  clear hz_12
  cases h
  exact ret _ _ _ _ dX8_fault_15 hG
set_option maxRecDepth 100000 in
set_option maxHeartbeats 4000000 in
theorem mX8_lay (l : Launch) (dC : Nat → ClassId) (dI : Nat → Nat → Nat) (cI cJ : ClassId) (a0 a1 a2 a3 a4 a5 a6 a7 a8 a9 a10 a11 a12 a13 a14 a15 a16 a17 a18 a19 a20 a21 a22 a23 a24 a25 a26 a27 a28 a29 : Nat) (c_text_bytes : Nat → Int32) (c_text_length : Int32) (c_reader_numbers : Nat → Int32) (c_reader_next : Int32) (c_laid_stand : Int32) (c_laid_home : Int32) (c_laid_priceStart : Int32) (c_laid_priceStep : Int32) (c_laid_thrown_cells : Nat → Int32) (c_laid_thrown_filled : Int32) (c_laid_nets_cells : Nat → Int32) (c_laid_nets_filled : Int32) (c_trial_stand : Int32) (c_trial_home : Int32) (c_trial_priceStart : Int32) (c_trial_priceStep : Int32) (c_trial_thrown_cells : Nat → Int32) (c_trial_thrown_filled : Int32) (c_trial_nets_cells : Nat → Int32) (c_trial_nets_filled : Int32) (c_flight_loads_cells : Nat → Int32) (c_flight_loads_filled : Int32) (c_flight_order : Nat → Int32) (c_flight_done : Int32) (c_flight_start : Int32) (c_flight_end : Int32) (c_changes_who : Nat → Int32) (c_changes_column : Nat → Int32) (c_changes_was : Nat → Int32) (c_changes_held : Int32) (c_kept_older_cells : Nat → Int32) (c_kept_older_filled : Int32) (c_kept_newer_cells : Nat → Int32) (c_kept_newer_filled : Int32) (c_kept_held : Int32) (c_turns_need : Nat → Int32) {res : Int32} {n_reader_numbers : Nat → Int32} {n_reader_next : Int32} {n_laid_stand : Int32} {n_laid_home : Int32} {n_laid_priceStart : Int32} {n_laid_priceStep : Int32} {n_laid_thrown_cells : Nat → Int32} {n_laid_thrown_filled : Int32} {n_laid_nets_cells : Nat → Int32} {n_laid_nets_filled : Int32} {n_trial_stand : Int32} {n_trial_home : Int32} {n_trial_priceStart : Int32} {n_trial_priceStep : Int32} {n_trial_thrown_cells : Nat → Int32} {n_trial_thrown_filled : Int32} {n_trial_nets_cells : Nat → Int32} {n_trial_nets_filled : Int32} {n_changes_held : Int32} {n_kept_held : Int32} (hD : DX8_lay c_text_bytes c_text_length c_reader_numbers c_laid_stand c_laid_home c_laid_priceStart c_laid_priceStep c_laid_thrown_cells c_laid_thrown_filled c_laid_nets_cells c_laid_nets_filled c_trial_thrown_cells c_trial_nets_cells c_changes_held c_kept_held = some (res, n_reader_numbers, n_reader_next, n_laid_stand, n_laid_home, n_laid_priceStart, n_laid_priceStep, n_laid_thrown_cells, n_laid_thrown_filled, n_laid_nets_cells, n_laid_nets_filled, n_trial_stand, n_trial_home, n_trial_priceStart, n_trial_priceStep, n_trial_thrown_cells, n_trial_thrown_filled, n_trial_nets_cells, n_trial_nets_filled, n_changes_held, n_kept_held)) : Met l yX8_lay (WZ yX8_lay cX8_lay 1 (some .int)) (RM 6 146) (PC dC dI cI cJ [.ref a0] (W_X8 a0 a1 a2 a3 a4 a5 a6 a7 a8 a9 a10 a11 a12 a13 a14 a15 a16 a17 a18 a19 a20 a21 a22 a23 a24 a25 a26 a27 a28 a29 cI cJ c_text_bytes c_text_length c_reader_numbers c_reader_next c_laid_stand c_laid_home c_laid_priceStart c_laid_priceStep c_laid_thrown_cells c_laid_thrown_filled c_laid_nets_cells c_laid_nets_filled c_trial_stand c_trial_home c_trial_priceStart c_trial_priceStep c_trial_thrown_cells c_trial_thrown_filled c_trial_nets_cells c_trial_nets_filled c_flight_loads_cells c_flight_loads_filled c_flight_order c_flight_done c_flight_start c_flight_end c_changes_who c_changes_column c_changes_was c_changes_held c_kept_older_cells c_kept_older_filled c_kept_newer_cells c_kept_newer_filled c_kept_held c_turns_need)) (QI dC dI (W_X8 a0 a1 a2 a3 a4 a5 a6 a7 a8 a9 a10 a11 a12 a13 a14 a15 a16 a17 a18 a19 a20 a21 a22 a23 a24 a25 a26 a27 a28 a29 cI cJ c_text_bytes c_text_length c_reader_numbers c_reader_next c_laid_stand c_laid_home c_laid_priceStart c_laid_priceStep c_laid_thrown_cells c_laid_thrown_filled c_laid_nets_cells c_laid_nets_filled c_trial_stand c_trial_home c_trial_priceStart c_trial_priceStep c_trial_thrown_cells c_trial_thrown_filled c_trial_nets_cells c_trial_nets_filled c_flight_loads_cells c_flight_loads_filled c_flight_order c_flight_done c_flight_start c_flight_end c_changes_who c_changes_column c_changes_was c_changes_held c_kept_older_cells c_kept_older_filled c_kept_newer_cells c_kept_newer_filled c_kept_held c_turns_need) (W_X8 a0 a1 a2 a3 a4 a5 a6 a7 a8 a9 a10 a11 a12 a13 a14 a15 a16 a17 a18 a19 a20 a21 a22 a23 a24 a25 a26 a27 a28 a29 cI cJ c_text_bytes c_text_length n_reader_numbers n_reader_next n_laid_stand n_laid_home n_laid_priceStart n_laid_priceStep n_laid_thrown_cells n_laid_thrown_filled n_laid_nets_cells n_laid_nets_filled n_trial_stand n_trial_home n_trial_priceStart n_trial_priceStep n_trial_thrown_cells n_trial_thrown_filled n_trial_nets_cells n_trial_nets_filled c_flight_loads_cells c_flight_loads_filled c_flight_order c_flight_done c_flight_start c_flight_end c_changes_who c_changes_column c_changes_was n_changes_held c_kept_older_cells c_kept_older_filled c_kept_newer_cells c_kept_newer_filled n_kept_held c_turns_need) res) 0 0 (FA (W_X8 a0 a1 a2 a3 a4 a5 a6 a7 a8 a9 a10 a11 a12 a13 a14 a15 a16 a17 a18 a19 a20 a21 a22 a23 a24 a25 a26 a27 a28 a29 cI cJ c_text_bytes c_text_length c_reader_numbers c_reader_next c_laid_stand c_laid_home c_laid_priceStart c_laid_priceStep c_laid_thrown_cells c_laid_thrown_filled c_laid_nets_cells c_laid_nets_filled c_trial_stand c_trial_home c_trial_priceStart c_trial_priceStep c_trial_thrown_cells c_trial_thrown_filled c_trial_nets_cells c_trial_nets_filled c_flight_loads_cells c_flight_loads_filled c_flight_order c_flight_done c_flight_start c_flight_end c_changes_who c_changes_column c_changes_was c_changes_held c_kept_older_cells c_kept_older_filled c_kept_newer_cells c_kept_newer_filled c_kept_held c_turns_need)) := by
  refine r_metI (by decide +kernel) (Nat.le_of_ble_eq_true rfl) ?_
  intro p e s m args below meth c A H0 QQ X ret ls hl hG
  have X : Cx p m c cX8_lay 1 s args RX8 dC dI cI cJ meth (some .int) := X
  have hx := X.1.1
  have hb := X.1.2.1
  have hl : lv_has ls 1 [(0, .ref a0)] := hl
  have h := hD
  unfold DX8_lay at h
  clear hD
  refine lv_aload_n hx hb dX8_lay_0 rfl (lv_at hl 0 rfl) ?_
  refine r_get X hG in_X8 rfl 1 (by decide) w_236 0 rfl rfl dX8_lay_1 ?_
  refine lv_aload_n hx hb dX8_lay_4 rfl (lv_at hl 0 rfl) ?_
  refine r_get X hG in_X8 rfl 0 (by decide) w_235 0 rfl rfl dX8_lay_5 ?_
  refine lv_aload_n hx hb dX8_lay_8 rfl (lv_at hl 0 rfl) ?_
  refine r_get X hG in_X8 rfl 3 (by decide) w_238 0 rfl rfl dX8_lay_9 ?_
  obtain ⟨r_1, k_reader_numbers_2, k_reader_next_3, k_trial_stand_4, k_trial_home_5, k_trial_priceStart_6, k_trial_priceStep_7, k_trial_thrown_cells_8, k_trial_thrown_filled_9, k_trial_nets_cells_10, k_trial_nets_filled_11, hz_12, h⟩ := bd11_some h
  refine aft_i (ws' := (W_X8 a0 a1 a2 a3 a4 a5 a6 a7 a8 a9 a10 a11 a12 a13 a14 a15 a16 a17 a18 a19 a20 a21 a22 a23 a24 a25 a26 a27 a28 a29 cI cJ c_text_bytes c_text_length k_reader_numbers_2 k_reader_next_3 c_laid_stand c_laid_home c_laid_priceStart c_laid_priceStep c_laid_thrown_cells c_laid_thrown_filled c_laid_nets_cells c_laid_nets_filled k_trial_stand_4 k_trial_home_5 k_trial_priceStart_6 k_trial_priceStep_7 k_trial_thrown_cells_8 k_trial_thrown_filled_9 k_trial_nets_cells_10 k_trial_nets_filled_11 c_flight_loads_cells c_flight_loads_filled c_flight_order c_flight_done c_flight_start c_flight_end c_changes_who c_changes_column c_changes_was c_changes_held c_kept_older_cells c_kept_older_filled c_kept_newer_cells c_kept_newer_filled c_kept_held c_turns_need)) (run_V (rest := []) X hG hl.1 (mX4_firstFault l dC dI cI cJ a3 a4 a1 a2 a10 a11 a12 a13 a14 c_reader_numbers c_reader_next c_text_bytes c_text_length c_trial_stand c_trial_home c_trial_priceStart c_trial_priceStep c_trial_thrown_cells c_trial_thrown_filled c_trial_nets_cells c_trial_nets_filled hz_12) gi_V_X8_86 hd_V_yX4_firstFault ⟨rfl, rfl⟩ rfl ⟨Nat.le_of_ble_eq_true rfl, Nat.le_of_ble_eq_true rfl⟩ [3, 4, 1, 2, 10, 11, 12, 13, 14] (by decide) rfl 3 rfl rfl rfl rfl (Nat.le_of_ble_eq_true rfl) ⟨Nat.le_of_ble_eq_true rfl, Nat.le_of_ble_eq_true rfl⟩ dX8_lay_12) hG [3, 4, 1, 2, 10, 11, 12, 13, 14] rfl rfl rfl (fun H locs hG => ?_)
  clear hz_12
  refine lv_bipush (v := (-4 : Int32)) hx hb dX8_lay_15 (by decide) ?_
  refine lv_icmp_ne (tgt := 33) hx hb dX8_lay_17 (by decide) (fun c_13 => ?_) (fun c_13 => ?_)
  · have h := ite_f h c_13
    refine lv_bipush (v := (-2 : Int32)) hx hb dX8_lay_33 (by decide) ?_
    cases h
    exact ret _ _ _ _ dX8_lay_35 hG
  · have h := ite_t h c_13
    refine lv_aload_n hx hb dX8_lay_20 rfl (lv_at hl 0 rfl) ?_
    refine r_get X hG in_X8 rfl 3 (by decide) w_238 0 rfl rfl dX8_lay_21 ?_
    refine r_getN X hG in_X3 rfl 4 (by decide) w_136 10 rfl rfl dX8_lay_24 ?_
    obtain ⟨r_14, hz_15, h⟩ := bd1_some h
    refine aft_i (ws' := (W_X8 a0 a1 a2 a3 a4 a5 a6 a7 a8 a9 a10 a11 a12 a13 a14 a15 a16 a17 a18 a19 a20 a21 a22 a23 a24 a25 a26 a27 a28 a29 cI cJ c_text_bytes c_text_length k_reader_numbers_2 k_reader_next_3 c_laid_stand c_laid_home c_laid_priceStart c_laid_priceStep c_laid_thrown_cells c_laid_thrown_filled c_laid_nets_cells c_laid_nets_filled k_trial_stand_4 k_trial_home_5 k_trial_priceStart_6 k_trial_priceStep_7 k_trial_thrown_cells_8 k_trial_thrown_filled_9 k_trial_nets_cells_10 k_trial_nets_filled_11 c_flight_loads_cells c_flight_loads_filled c_flight_order c_flight_done c_flight_start c_flight_end c_changes_who c_changes_column c_changes_was c_changes_held c_kept_older_cells c_kept_older_filled c_kept_newer_cells c_kept_newer_filled c_kept_held c_turns_need)) (run_V (rest := []) X hG hl.1 (mX5_rows l dC dI cI cJ a11 a12 (7 : Int32) (4 : Int32) 28 k_trial_thrown_cells_8 k_trial_thrown_filled_9 hz_15) gi_V_X8_90 hd_V_yX5_rows ⟨rfl, rfl⟩ rfl ⟨Nat.le_of_ble_eq_true rfl, Nat.le_of_ble_eq_true rfl⟩ [11, 12] (by decide) rfl 11 rfl rfl rfl rfl (Nat.le_of_ble_eq_true rfl) ⟨Nat.le_of_ble_eq_true rfl, Nat.le_of_ble_eq_true rfl⟩ dX8_lay_27) hG [11, 12] rfl rfl rfl (fun H locs hG => ?_)
    clear hz_15
    refine lv_if_ne (tgt := 36) hx hb dX8_lay_30 (by decide) (fun c_16 => ?_) (fun c_16 => ?_)
    · have h := ite_f h c_16
      refine lv_aload_n hx hb dX8_lay_36 rfl (lv_at hl 0 rfl) ?_
      refine r_get X hG in_X8 rfl 2 (by decide) w_237 0 rfl rfl dX8_lay_37 ?_
      refine lv_aload_n hx hb dX8_lay_40 rfl (lv_at hl 0 rfl) ?_
      refine r_get X hG in_X8 rfl 3 (by decide) w_238 0 rfl rfl dX8_lay_41 ?_
      obtain ⟨k_laid_stand_17, k_laid_home_18, k_laid_priceStart_19, k_laid_priceStep_20, k_laid_thrown_cells_21, k_laid_thrown_filled_22, k_laid_nets_cells_23, k_laid_nets_filled_24, hz_25, h⟩ := bd8_some h
      refine aft_v (ws' := (W_X8 a0 a1 a2 a3 a4 a5 a6 a7 a8 a9 a10 a11 a12 a13 a14 a15 a16 a17 a18 a19 a20 a21 a22 a23 a24 a25 a26 a27 a28 a29 cI cJ c_text_bytes c_text_length k_reader_numbers_2 k_reader_next_3 k_laid_stand_17 k_laid_home_18 k_laid_priceStart_19 k_laid_priceStep_20 k_laid_thrown_cells_21 k_laid_thrown_filled_22 k_laid_nets_cells_23 k_laid_nets_filled_24 k_trial_stand_4 k_trial_home_5 k_trial_priceStart_6 k_trial_priceStep_7 k_trial_thrown_cells_8 k_trial_thrown_filled_9 k_trial_nets_cells_10 k_trial_nets_filled_11 c_flight_loads_cells c_flight_loads_filled c_flight_order c_flight_done c_flight_start c_flight_end c_changes_who c_changes_column c_changes_was c_changes_held c_kept_older_cells c_kept_older_filled c_kept_newer_cells c_kept_newer_filled c_kept_held c_turns_need)) (run_V (rest := []) X hG hl.1 (mX3_takeOver l dC dI cI cJ a5 a6 a7 a8 a9 a10 a11 a12 a13 a14 c_laid_stand c_laid_home c_laid_priceStart c_laid_priceStep c_laid_thrown_cells c_laid_thrown_filled c_laid_nets_cells c_laid_nets_filled k_trial_stand_4 k_trial_home_5 k_trial_priceStart_6 k_trial_priceStep_7 k_trial_thrown_cells_8 k_trial_thrown_filled_9 k_trial_nets_cells_10 k_trial_nets_filled_11 hz_25) gi_V_X8_94 hd_V_yX3_takeOver ⟨rfl, rfl⟩ rfl ⟨Nat.le_of_ble_eq_true rfl, Nat.le_of_ble_eq_true rfl⟩ [5, 6, 7, 8, 9, 10, 11, 12, 13, 14] (by decide) rfl 5 rfl rfl rfl rfl (Nat.le_of_ble_eq_true rfl) ⟨Nat.le_of_ble_eq_true rfl, Nat.le_of_ble_eq_true rfl⟩ dX8_lay_44) hG [5, 6, 7, 8, 9, 10, 11, 12, 13, 14] rfl rfl rfl (fun H locs hG => ?_)
      clear hz_25
      refine lv_aload_n hx hb dX8_lay_47 rfl (lv_at hl 0 rfl) ?_
      refine r_get X hG in_X8 rfl 5 (by decide) w_240 0 rfl rfl dX8_lay_48 ?_
      obtain ⟨k_changes_held_26, hz_27, h⟩ := bd1_some h
      refine aft_v (ws' := (W_X8 a0 a1 a2 a3 a4 a5 a6 a7 a8 a9 a10 a11 a12 a13 a14 a15 a16 a17 a18 a19 a20 a21 a22 a23 a24 a25 a26 a27 a28 a29 cI cJ c_text_bytes c_text_length k_reader_numbers_2 k_reader_next_3 k_laid_stand_17 k_laid_home_18 k_laid_priceStart_19 k_laid_priceStep_20 k_laid_thrown_cells_21 k_laid_thrown_filled_22 k_laid_nets_cells_23 k_laid_nets_filled_24 k_trial_stand_4 k_trial_home_5 k_trial_priceStart_6 k_trial_priceStep_7 k_trial_thrown_cells_8 k_trial_thrown_filled_9 k_trial_nets_cells_10 k_trial_nets_filled_11 c_flight_loads_cells c_flight_loads_filled c_flight_order c_flight_done c_flight_start c_flight_end c_changes_who c_changes_column c_changes_was k_changes_held_26 c_kept_older_cells c_kept_older_filled c_kept_newer_cells c_kept_newer_filled c_kept_held c_turns_need)) (run_V (rest := []) X hG hl.1 (mX0_forget l dC dI cI cJ a19 a20 a21 a22 c_changes_who c_changes_column c_changes_was c_changes_held hz_27) gi_V_X8_98 hd_V_yX0_forget ⟨rfl, rfl⟩ rfl ⟨Nat.le_of_ble_eq_true rfl, Nat.le_of_ble_eq_true rfl⟩ [19, 20, 21, 22] (by decide) rfl 19 rfl rfl rfl rfl (Nat.le_of_ble_eq_true rfl) ⟨Nat.le_of_ble_eq_true rfl, Nat.le_of_ble_eq_true rfl⟩ dX8_lay_51) hG [19, 20, 21, 22] rfl rfl rfl (fun H locs hG => ?_)
      clear hz_27
      refine lv_aload_n hx hb dX8_lay_54 rfl (lv_at hl 0 rfl) ?_
      refine r_get X hG in_X8 rfl 6 (by decide) w_241 0 rfl rfl dX8_lay_55 ?_
      obtain ⟨k_kept_held_28, hz_29, h⟩ := bd1_some h
      refine aft_v (ws' := (W_X8 a0 a1 a2 a3 a4 a5 a6 a7 a8 a9 a10 a11 a12 a13 a14 a15 a16 a17 a18 a19 a20 a21 a22 a23 a24 a25 a26 a27 a28 a29 cI cJ c_text_bytes c_text_length k_reader_numbers_2 k_reader_next_3 k_laid_stand_17 k_laid_home_18 k_laid_priceStart_19 k_laid_priceStep_20 k_laid_thrown_cells_21 k_laid_thrown_filled_22 k_laid_nets_cells_23 k_laid_nets_filled_24 k_trial_stand_4 k_trial_home_5 k_trial_priceStart_6 k_trial_priceStep_7 k_trial_thrown_cells_8 k_trial_thrown_filled_9 k_trial_nets_cells_10 k_trial_nets_filled_11 c_flight_loads_cells c_flight_loads_filled c_flight_order c_flight_done c_flight_start c_flight_end c_changes_who c_changes_column c_changes_was k_changes_held_26 c_kept_older_cells c_kept_older_filled c_kept_newer_cells c_kept_newer_filled k_kept_held_28 c_turns_need)) (run_V (rest := []) X hG hl.1 (mX2_forget l dC dI cI cJ a23 a24 a25 a26 a27 c_kept_older_cells c_kept_older_filled c_kept_newer_cells c_kept_newer_filled c_kept_held hz_29) gi_V_X8_101 hd_V_yX2_forget ⟨rfl, rfl⟩ rfl ⟨Nat.le_of_ble_eq_true rfl, Nat.le_of_ble_eq_true rfl⟩ [23, 24, 25, 26, 27] (by decide) rfl 23 rfl rfl rfl rfl (Nat.le_of_ble_eq_true rfl) ⟨Nat.le_of_ble_eq_true rfl, Nat.le_of_ble_eq_true rfl⟩ dX8_lay_58) hG [23, 24, 25, 26, 27] rfl rfl rfl (fun H locs hG => ?_)
      clear hz_29
      refine lv_aload_n hx hb dX8_lay_61 rfl (lv_at hl 0 rfl) ?_
      refine r_get X hG in_X8 rfl 2 (by decide) w_237 0 rfl rfl dX8_lay_62 ?_
      refine r_getN X hG in_X3 rfl 4 (by decide) w_136 5 rfl rfl dX8_lay_65 ?_
      obtain ⟨r_30, hz_31, h⟩ := bd1_some h
      refine aft_i (ws' := (W_X8 a0 a1 a2 a3 a4 a5 a6 a7 a8 a9 a10 a11 a12 a13 a14 a15 a16 a17 a18 a19 a20 a21 a22 a23 a24 a25 a26 a27 a28 a29 cI cJ c_text_bytes c_text_length k_reader_numbers_2 k_reader_next_3 k_laid_stand_17 k_laid_home_18 k_laid_priceStart_19 k_laid_priceStep_20 k_laid_thrown_cells_21 k_laid_thrown_filled_22 k_laid_nets_cells_23 k_laid_nets_filled_24 k_trial_stand_4 k_trial_home_5 k_trial_priceStart_6 k_trial_priceStep_7 k_trial_thrown_cells_8 k_trial_thrown_filled_9 k_trial_nets_cells_10 k_trial_nets_filled_11 c_flight_loads_cells c_flight_loads_filled c_flight_order c_flight_done c_flight_start c_flight_end c_changes_who c_changes_column c_changes_was k_changes_held_26 c_kept_older_cells c_kept_older_filled c_kept_newer_cells c_kept_newer_filled k_kept_held_28 c_turns_need)) (run_V (rest := []) X hG hl.1 (mX5_rows l dC dI cI cJ a6 a7 (7 : Int32) (4 : Int32) 28 k_laid_thrown_cells_21 k_laid_thrown_filled_22 hz_31) gi_V_X8_90 hd_V_yX5_rows ⟨rfl, rfl⟩ rfl ⟨Nat.le_of_ble_eq_true rfl, Nat.le_of_ble_eq_true rfl⟩ [6, 7] (by decide) rfl 6 rfl rfl rfl rfl (Nat.le_of_ble_eq_true rfl) ⟨Nat.le_of_ble_eq_true rfl, Nat.le_of_ble_eq_true rfl⟩ dX8_lay_68) hG [6, 7] rfl rfl rfl (fun H locs hG => ?_)
      clear hz_31
      cases h
      exact ret _ _ _ _ dX8_lay_71 hG
    · have h := ite_t h c_16
      refine lv_bipush (v := (-2 : Int32)) hx hb dX8_lay_33 (by decide) ?_
      cases h
      exact ret _ _ _ _ dX8_lay_35 hG
set_option maxRecDepth 100000 in
set_option maxHeartbeats 4000000 in
theorem mX8_load (l : Launch) (dC : Nat → ClassId) (dI : Nat → Nat → Nat) (cI cJ : ClassId) (a0 a1 a2 a3 a4 a5 a6 a7 a8 a9 a10 a11 a12 a13 a14 a15 a16 a17 a18 a19 a20 a21 a22 a23 a24 a25 a26 a27 a28 a29 : Nat) (c_text_bytes : Nat → Int32) (c_text_length : Int32) (c_reader_numbers : Nat → Int32) (c_reader_next : Int32) (c_laid_stand : Int32) (c_laid_home : Int32) (c_laid_priceStart : Int32) (c_laid_priceStep : Int32) (c_laid_thrown_cells : Nat → Int32) (c_laid_thrown_filled : Int32) (c_laid_nets_cells : Nat → Int32) (c_laid_nets_filled : Int32) (c_trial_stand : Int32) (c_trial_home : Int32) (c_trial_priceStart : Int32) (c_trial_priceStep : Int32) (c_trial_thrown_cells : Nat → Int32) (c_trial_thrown_filled : Int32) (c_trial_nets_cells : Nat → Int32) (c_trial_nets_filled : Int32) (c_flight_loads_cells : Nat → Int32) (c_flight_loads_filled : Int32) (c_flight_order : Nat → Int32) (c_flight_done : Int32) (c_flight_start : Int32) (c_flight_end : Int32) (c_changes_who : Nat → Int32) (c_changes_column : Nat → Int32) (c_changes_was : Nat → Int32) (c_changes_held : Int32) (c_kept_older_cells : Nat → Int32) (c_kept_older_filled : Int32) (c_kept_newer_cells : Nat → Int32) (c_kept_newer_filled : Int32) (c_kept_held : Int32) (c_turns_need : Nat → Int32) (x1 : Int32) (x2 : Int32) {res : Int32} {n_flight_loads_cells : Nat → Int32} {n_flight_order : Nat → Int32} {n_flight_done : Int32} {n_flight_start : Int32} {n_flight_end : Int32} (hD : DX8_load x1 x2 c_laid_stand c_laid_home c_laid_priceStart c_laid_priceStep c_laid_thrown_cells c_laid_thrown_filled c_laid_nets_cells c_laid_nets_filled c_flight_loads_cells c_flight_order c_flight_done c_flight_start c_flight_end = some (res, n_flight_loads_cells, n_flight_order, n_flight_done, n_flight_start, n_flight_end)) : Met l yX8_load (WZ yX8_load cX8_load 3 (some .int)) (RM 6 143) (PC dC dI cI cJ [.ref a0, .int x1, .int x2] (W_X8 a0 a1 a2 a3 a4 a5 a6 a7 a8 a9 a10 a11 a12 a13 a14 a15 a16 a17 a18 a19 a20 a21 a22 a23 a24 a25 a26 a27 a28 a29 cI cJ c_text_bytes c_text_length c_reader_numbers c_reader_next c_laid_stand c_laid_home c_laid_priceStart c_laid_priceStep c_laid_thrown_cells c_laid_thrown_filled c_laid_nets_cells c_laid_nets_filled c_trial_stand c_trial_home c_trial_priceStart c_trial_priceStep c_trial_thrown_cells c_trial_thrown_filled c_trial_nets_cells c_trial_nets_filled c_flight_loads_cells c_flight_loads_filled c_flight_order c_flight_done c_flight_start c_flight_end c_changes_who c_changes_column c_changes_was c_changes_held c_kept_older_cells c_kept_older_filled c_kept_newer_cells c_kept_newer_filled c_kept_held c_turns_need)) (QI dC dI (W_X8 a0 a1 a2 a3 a4 a5 a6 a7 a8 a9 a10 a11 a12 a13 a14 a15 a16 a17 a18 a19 a20 a21 a22 a23 a24 a25 a26 a27 a28 a29 cI cJ c_text_bytes c_text_length c_reader_numbers c_reader_next c_laid_stand c_laid_home c_laid_priceStart c_laid_priceStep c_laid_thrown_cells c_laid_thrown_filled c_laid_nets_cells c_laid_nets_filled c_trial_stand c_trial_home c_trial_priceStart c_trial_priceStep c_trial_thrown_cells c_trial_thrown_filled c_trial_nets_cells c_trial_nets_filled c_flight_loads_cells c_flight_loads_filled c_flight_order c_flight_done c_flight_start c_flight_end c_changes_who c_changes_column c_changes_was c_changes_held c_kept_older_cells c_kept_older_filled c_kept_newer_cells c_kept_newer_filled c_kept_held c_turns_need) (W_X8 a0 a1 a2 a3 a4 a5 a6 a7 a8 a9 a10 a11 a12 a13 a14 a15 a16 a17 a18 a19 a20 a21 a22 a23 a24 a25 a26 a27 a28 a29 cI cJ c_text_bytes c_text_length c_reader_numbers c_reader_next c_laid_stand c_laid_home c_laid_priceStart c_laid_priceStep c_laid_thrown_cells c_laid_thrown_filled c_laid_nets_cells c_laid_nets_filled c_trial_stand c_trial_home c_trial_priceStart c_trial_priceStep c_trial_thrown_cells c_trial_thrown_filled c_trial_nets_cells c_trial_nets_filled n_flight_loads_cells c_flight_loads_filled n_flight_order n_flight_done n_flight_start n_flight_end c_changes_who c_changes_column c_changes_was c_changes_held c_kept_older_cells c_kept_older_filled c_kept_newer_cells c_kept_newer_filled c_kept_held c_turns_need) res) 0 0 (FA (W_X8 a0 a1 a2 a3 a4 a5 a6 a7 a8 a9 a10 a11 a12 a13 a14 a15 a16 a17 a18 a19 a20 a21 a22 a23 a24 a25 a26 a27 a28 a29 cI cJ c_text_bytes c_text_length c_reader_numbers c_reader_next c_laid_stand c_laid_home c_laid_priceStart c_laid_priceStep c_laid_thrown_cells c_laid_thrown_filled c_laid_nets_cells c_laid_nets_filled c_trial_stand c_trial_home c_trial_priceStart c_trial_priceStep c_trial_thrown_cells c_trial_thrown_filled c_trial_nets_cells c_trial_nets_filled c_flight_loads_cells c_flight_loads_filled c_flight_order c_flight_done c_flight_start c_flight_end c_changes_who c_changes_column c_changes_was c_changes_held c_kept_older_cells c_kept_older_filled c_kept_newer_cells c_kept_newer_filled c_kept_held c_turns_need)) := by
  refine r_metI (by decide +kernel) (Nat.le_of_ble_eq_true rfl) ?_
  intro p e s m args below meth c A H0 QQ X ret ls hl hG
  have X : Cx p m c cX8_load 3 s args RX8 dC dI cI cJ meth (some .int) := X
  have hx := X.1.1
  have hb := X.1.2.1
  have hl : lv_has ls 3 [(0, .ref a0), (1, .int x1), (2, .int x2)] := hl
  have h := hD
  unfold DX8_load at h
  clear hD
  refine lv_aload_n hx hb dX8_load_0 rfl (lv_at hl 0 rfl) ?_
  refine r_get X hG in_X8 rfl 2 (by decide) w_237 0 rfl rfl dX8_load_1 ?_
  refine r_getN X hG in_X3 rfl 4 (by decide) w_136 5 rfl rfl dX8_load_4 ?_
  refine lv_iload_n hx hb dX8_load_7 rfl (lv_at hl 1 rfl) ?_
  obtain ⟨r_1, hz_2, h⟩ := bd1_some h
  refine aft_i (ws' := (W_X8 a0 a1 a2 a3 a4 a5 a6 a7 a8 a9 a10 a11 a12 a13 a14 a15 a16 a17 a18 a19 a20 a21 a22 a23 a24 a25 a26 a27 a28 a29 cI cJ c_text_bytes c_text_length c_reader_numbers c_reader_next c_laid_stand c_laid_home c_laid_priceStart c_laid_priceStep c_laid_thrown_cells c_laid_thrown_filled c_laid_nets_cells c_laid_nets_filled c_trial_stand c_trial_home c_trial_priceStart c_trial_priceStep c_trial_thrown_cells c_trial_thrown_filled c_trial_nets_cells c_trial_nets_filled c_flight_loads_cells c_flight_loads_filled c_flight_order c_flight_done c_flight_start c_flight_end c_changes_who c_changes_column c_changes_was c_changes_held c_kept_older_cells c_kept_older_filled c_kept_newer_cells c_kept_newer_filled c_kept_held c_turns_need)) (run_V (rest := []) X hG hl.1 (mX5_has l dC dI cI cJ a6 a7 (7 : Int32) (4 : Int32) 28 c_laid_thrown_cells c_laid_thrown_filled x1 hz_2) gi_V_X8_102 hd_V_yX5_has ⟨rfl, rfl⟩ rfl ⟨Nat.le_of_ble_eq_true rfl, Nat.le_of_ble_eq_true rfl⟩ [6, 7] (by decide) rfl 6 rfl rfl rfl rfl (Nat.le_of_ble_eq_true rfl) ⟨Nat.le_of_ble_eq_true rfl, Nat.le_of_ble_eq_true rfl⟩ dX8_load_8) hG [6, 7] rfl rfl rfl (fun H locs hG => ?_)
  clear hz_2
  refine lv_if_eq (tgt := 24) hx hb dX8_load_11 (by decide) (fun c_3 => ?_) (fun c_3 => ?_)
  · have h := ite_t h c_3
    refine lv_iconst (v := (-1 : Int32)) hx hb dX8_load_24 (by decide) ?_
    cases h
    exact ret _ _ _ _ dX8_load_25 hG
  · have h := ite_f h c_3
    refine lv_iload_n hx hb dX8_load_14 rfl (lv_at hl 2 rfl) ?_
    refine lv_iconst (v := (0 : Int32)) hx hb dX8_load_15 (by decide) ?_
    refine lv_bipush (v := (8 : Int32)) hx hb dX8_load_16 (by decide) ?_
    obtain ⟨r_4, hz_5, h⟩ := bd1_some h
    refine aft_i (ws' := (W_X8 a0 a1 a2 a3 a4 a5 a6 a7 a8 a9 a10 a11 a12 a13 a14 a15 a16 a17 a18 a19 a20 a21 a22 a23 a24 a25 a26 a27 a28 a29 cI cJ c_text_bytes c_text_length c_reader_numbers c_reader_next c_laid_stand c_laid_home c_laid_priceStart c_laid_priceStep c_laid_thrown_cells c_laid_thrown_filled c_laid_nets_cells c_laid_nets_filled c_trial_stand c_trial_home c_trial_priceStart c_trial_priceStep c_trial_thrown_cells c_trial_thrown_filled c_trial_nets_cells c_trial_nets_filled c_flight_loads_cells c_flight_loads_filled c_flight_order c_flight_done c_flight_start c_flight_end c_changes_who c_changes_column c_changes_was c_changes_held c_kept_older_cells c_kept_older_filled c_kept_newer_cells c_kept_newer_filled c_kept_held c_turns_need)) (run_S (rest := []) X hG hl.1 (mX8_within l dC dI cI cJ x2 (0 : Int32) (8 : Int32) hz_5) gi_S_X8_74 hd_S_yX8_within ⟨rfl, rfl⟩ rfl ⟨Nat.le_of_ble_eq_true rfl, Nat.le_of_ble_eq_true rfl⟩ [] (by decide) rfl rfl (Nat.le_of_ble_eq_true rfl) ⟨Nat.le_of_ble_eq_true rfl, Nat.le_of_ble_eq_true rfl⟩ dX8_load_18) hG [] rfl rfl rfl (fun H locs hG => ?_)
    clear hz_5
    refine lv_if_ne (tgt := 26) hx hb dX8_load_21 (by decide) (fun c_6 => ?_) (fun c_6 => ?_)
    · have h := ite_f h c_6
      refine lv_aload_n hx hb dX8_load_26 rfl (lv_at hl 0 rfl) ?_
      refine r_get X hG in_X8 rfl 4 (by decide) w_239 0 rfl rfl dX8_load_27 ?_
      refine lv_aload_n hx hb dX8_load_30 rfl (lv_at hl 0 rfl) ?_
      refine r_get X hG in_X8 rfl 2 (by decide) w_237 0 rfl rfl dX8_load_31 ?_
      refine lv_iconst (v := (0 : Int32)) hx hb dX8_load_34 (by decide) ?_
      obtain ⟨k_flight_loads_cells_7, k_flight_order_8, k_flight_done_9, k_flight_start_10, k_flight_end_11, hz_12, h⟩ := bd5_some h
      refine aft_v (ws' := (W_X8 a0 a1 a2 a3 a4 a5 a6 a7 a8 a9 a10 a11 a12 a13 a14 a15 a16 a17 a18 a19 a20 a21 a22 a23 a24 a25 a26 a27 a28 a29 cI cJ c_text_bytes c_text_length c_reader_numbers c_reader_next c_laid_stand c_laid_home c_laid_priceStart c_laid_priceStep c_laid_thrown_cells c_laid_thrown_filled c_laid_nets_cells c_laid_nets_filled c_trial_stand c_trial_home c_trial_priceStart c_trial_priceStep c_trial_thrown_cells c_trial_thrown_filled c_trial_nets_cells c_trial_nets_filled k_flight_loads_cells_7 c_flight_loads_filled k_flight_order_8 k_flight_done_9 k_flight_start_10 k_flight_end_11 c_changes_who c_changes_column c_changes_was c_changes_held c_kept_older_cells c_kept_older_filled c_kept_newer_cells c_kept_newer_filled c_kept_held c_turns_need)) (run_V (rest := []) X hG hl.1 (mX1_fly l dC dI cI cJ a15 a16 a17 a18 a5 a6 a7 a8 a9 c_flight_loads_cells c_flight_loads_filled c_flight_order c_flight_done c_flight_start c_flight_end c_laid_stand c_laid_home c_laid_priceStart c_laid_priceStep c_laid_thrown_cells c_laid_thrown_filled c_laid_nets_cells c_laid_nets_filled (0 : Int32) hz_12) gi_V_X8_106 hd_V_yX1_fly ⟨rfl, rfl⟩ rfl ⟨Nat.le_of_ble_eq_true rfl, Nat.le_of_ble_eq_true rfl⟩ [15, 16, 17, 18, 5, 6, 7, 8, 9] (by decide) rfl 15 rfl rfl rfl rfl (Nat.le_of_ble_eq_true rfl) ⟨Nat.le_of_ble_eq_true rfl, Nat.le_of_ble_eq_true rfl⟩ dX8_load_35) hG [15, 16, 17, 18, 5, 6, 7, 8, 9] rfl rfl rfl (fun H locs hG => ?_)
      clear hz_12
      refine lv_aload_n hx hb dX8_load_38 rfl (lv_at hl 0 rfl) ?_
      refine r_get X hG in_X8 rfl 4 (by decide) w_239 0 rfl rfl dX8_load_39 ?_
      refine lv_iload_n hx hb dX8_load_42 rfl (lv_at hl 1 rfl) ?_
      refine lv_iload_n hx hb dX8_load_43 rfl (lv_at hl 2 rfl) ?_
      obtain ⟨r_13, hz_14, h⟩ := bd1_some h
      refine aft_i (ws' := (W_X8 a0 a1 a2 a3 a4 a5 a6 a7 a8 a9 a10 a11 a12 a13 a14 a15 a16 a17 a18 a19 a20 a21 a22 a23 a24 a25 a26 a27 a28 a29 cI cJ c_text_bytes c_text_length c_reader_numbers c_reader_next c_laid_stand c_laid_home c_laid_priceStart c_laid_priceStep c_laid_thrown_cells c_laid_thrown_filled c_laid_nets_cells c_laid_nets_filled c_trial_stand c_trial_home c_trial_priceStart c_trial_priceStep c_trial_thrown_cells c_trial_thrown_filled c_trial_nets_cells c_trial_nets_filled k_flight_loads_cells_7 c_flight_loads_filled k_flight_order_8 k_flight_done_9 k_flight_start_10 k_flight_end_11 c_changes_who c_changes_column c_changes_was c_changes_held c_kept_older_cells c_kept_older_filled c_kept_newer_cells c_kept_newer_filled c_kept_held c_turns_need)) (run_V (rest := []) X hG hl.1 (mX1_known l dC dI cI cJ a15 a16 a17 a18 k_flight_loads_cells_7 c_flight_loads_filled k_flight_order_8 k_flight_done_9 k_flight_start_10 k_flight_end_11 x1 x2 hz_14) gi_V_X8_110 hd_V_yX1_known ⟨rfl, rfl⟩ rfl ⟨Nat.le_of_ble_eq_true rfl, Nat.le_of_ble_eq_true rfl⟩ [15, 16, 17, 18] (by decide) rfl 15 rfl rfl rfl rfl (Nat.le_of_ble_eq_true rfl) ⟨Nat.le_of_ble_eq_true rfl, Nat.le_of_ble_eq_true rfl⟩ dX8_load_44) hG [15, 16, 17, 18] rfl rfl rfl (fun H locs hG => ?_)
      clear hz_14
      cases h
      exact ret _ _ _ _ dX8_load_47 hG
    · have h := ite_t h c_6
      refine lv_iconst (v := (-1 : Int32)) hx hb dX8_load_24 (by decide) ?_
      cases h
      exact ret _ _ _ _ dX8_load_25 hG
