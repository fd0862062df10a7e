/-! CONTRACTS, laid by wip/gen/lay.py: yX8_net, yJ6_bitCount_0f7a4, yX8_clear, yX8_stray, yX8_meeters, yX8_stand, yX8_power -/
set_option maxRecDepth 100000 in
set_option maxHeartbeats 4000000 in
theorem mX8_net (l : Launch) (dC : Nat → ClassId) (dI : Nat → Nat → Nat) (cI cJ : ClassId) (a0 a1 a2 a3 a4 a5 a6 a7 a8 a9 a10 a11 a12 a13 a14 a15 a16 a17 a18 a19 a20 a21 a22 a23 a24 a25 a26 a27 a28 a29 : Nat) (c_text_bytes : Nat → Int32) (c_text_length : Int32) (c_reader_numbers : Nat → Int32) (c_reader_next : Int32) (c_laid_stand : Int32) (c_laid_home : Int32) (c_laid_priceStart : Int32) (c_laid_priceStep : Int32) (c_laid_thrown_cells : Nat → Int32) (c_laid_thrown_filled : Int32) (c_laid_nets_cells : Nat → Int32) (c_laid_nets_filled : Int32) (c_trial_stand : Int32) (c_trial_home : Int32) (c_trial_priceStart : Int32) (c_trial_priceStep : Int32) (c_trial_thrown_cells : Nat → Int32) (c_trial_thrown_filled : Int32) (c_trial_nets_cells : Nat → Int32) (c_trial_nets_filled : Int32) (c_flight_loads_cells : Nat → Int32) (c_flight_loads_filled : Int32) (c_flight_order : Nat → Int32) (c_flight_done : Int32) (c_flight_start : Int32) (c_flight_end : Int32) (c_changes_who : Nat → Int32) (c_changes_column : Nat → Int32) (c_changes_was : Nat → Int32) (c_changes_held : Int32) (c_kept_older_cells : Nat → Int32) (c_kept_older_filled : Int32) (c_kept_newer_cells : Nat → Int32) (c_kept_newer_filled : Int32) (c_kept_held : Int32) (c_turns_need : Nat → Int32) (x1 : Int32) (x2 : Int32) {res : Int32} {n_flight_loads_cells : Nat → Int32} {n_flight_order : Nat → Int32} {n_flight_done : Int32} {n_flight_start : Int32} {n_flight_end : Int32} (hD : DX8_net x1 x2 c_laid_stand c_laid_home c_laid_priceStart c_laid_priceStep c_laid_thrown_cells c_laid_thrown_filled c_laid_nets_cells c_laid_nets_filled c_flight_loads_cells c_flight_order c_flight_done c_flight_start c_flight_end = some (res, n_flight_loads_cells, n_flight_order, n_flight_done, n_flight_start, n_flight_end)) : Met l yX8_net (WZ yX8_net cX8_net 7 (some .int)) (RM 6 143) (PC dC dI cI cJ [.ref a0, .int x1, .int x2] (W_X8 a0 a1 a2 a3 a4 a5 a6 a7 a8 a9 a10 a11 a12 a13 a14 a15 a16 a17 a18 a19 a20 a21 a22 a23 a24 a25 a26 a27 a28 a29 cI cJ c_text_bytes c_text_length c_reader_numbers c_reader_next c_laid_stand c_laid_home c_laid_priceStart c_laid_priceStep c_laid_thrown_cells c_laid_thrown_filled c_laid_nets_cells c_laid_nets_filled c_trial_stand c_trial_home c_trial_priceStart c_trial_priceStep c_trial_thrown_cells c_trial_thrown_filled c_trial_nets_cells c_trial_nets_filled c_flight_loads_cells c_flight_loads_filled c_flight_order c_flight_done c_flight_start c_flight_end c_changes_who c_changes_column c_changes_was c_changes_held c_kept_older_cells c_kept_older_filled c_kept_newer_cells c_kept_newer_filled c_kept_held c_turns_need)) (QI dC dI (W_X8 a0 a1 a2 a3 a4 a5 a6 a7 a8 a9 a10 a11 a12 a13 a14 a15 a16 a17 a18 a19 a20 a21 a22 a23 a24 a25 a26 a27 a28 a29 cI cJ c_text_bytes c_text_length c_reader_numbers c_reader_next c_laid_stand c_laid_home c_laid_priceStart c_laid_priceStep c_laid_thrown_cells c_laid_thrown_filled c_laid_nets_cells c_laid_nets_filled c_trial_stand c_trial_home c_trial_priceStart c_trial_priceStep c_trial_thrown_cells c_trial_thrown_filled c_trial_nets_cells c_trial_nets_filled c_flight_loads_cells c_flight_loads_filled c_flight_order c_flight_done c_flight_start c_flight_end c_changes_who c_changes_column c_changes_was c_changes_held c_kept_older_cells c_kept_older_filled c_kept_newer_cells c_kept_newer_filled c_kept_held c_turns_need) (W_X8 a0 a1 a2 a3 a4 a5 a6 a7 a8 a9 a10 a11 a12 a13 a14 a15 a16 a17 a18 a19 a20 a21 a22 a23 a24 a25 a26 a27 a28 a29 cI cJ c_text_bytes c_text_length c_reader_numbers c_reader_next c_laid_stand c_laid_home c_laid_priceStart c_laid_priceStep c_laid_thrown_cells c_laid_thrown_filled c_laid_nets_cells c_laid_nets_filled c_trial_stand c_trial_home c_trial_priceStart c_trial_priceStep c_trial_thrown_cells c_trial_thrown_filled c_trial_nets_cells c_trial_nets_filled n_flight_loads_cells c_flight_loads_filled n_flight_order n_flight_done n_flight_start n_flight_end c_changes_who c_changes_column c_changes_was c_changes_held c_kept_older_cells c_kept_older_filled c_kept_newer_cells c_kept_newer_filled c_kept_held c_turns_need) res) 0 0 (FA (W_X8 a0 a1 a2 a3 a4 a5 a6 a7 a8 a9 a10 a11 a12 a13 a14 a15 a16 a17 a18 a19 a20 a21 a22 a23 a24 a25 a26 a27 a28 a29 cI cJ c_text_bytes c_text_length c_reader_numbers c_reader_next c_laid_stand c_laid_home c_laid_priceStart c_laid_priceStep c_laid_thrown_cells c_laid_thrown_filled c_laid_nets_cells c_laid_nets_filled c_trial_stand c_trial_home c_trial_priceStart c_trial_priceStep c_trial_thrown_cells c_trial_thrown_filled c_trial_nets_cells c_trial_nets_filled c_flight_loads_cells c_flight_loads_filled c_flight_order c_flight_done c_flight_start c_flight_end c_changes_who c_changes_column c_changes_was c_changes_held c_kept_older_cells c_kept_older_filled c_kept_newer_cells c_kept_newer_filled c_kept_held c_turns_need)) := by
  refine r_metI (by decide +kernel) (Nat.le_of_ble_eq_true rfl) ?_
  intro p e s m args below meth c A H0 QQ X ret ls hl hG
  have X : Cx p m c cX8_net 7 s args RX8 dC dI cI cJ meth (some .int) := X
  have hx := X.1.1
  have hb := X.1.2.1
  have hl : lv_has ls 7 [(0, .ref a0), (1, .int x1), (2, .int x2)] := hl
  have L40 : ∀ (c_flight_loads_cells : Nat → Int32) (c_flight_order : Nat → Int32) (c_flight_done : Int32) (c_flight_start : Int32) (c_flight_end : Int32), ∀ (n : Nat) (x3 : Int32) (x4 : Int32) (x5 : Int32) (ex3 : Int32) (ex4 : Int32), DX8_net_L40 x1 c_flight_loads_cells c_flight_order c_flight_done n x3 x4 x5 = some (ex3, ex4) → (∀ (ls : Array Slot) (H : Heap) (locs : List Loc), lv_has ls 7 [(2, .int x2), (3, .int ex3), (4, .int ex4)] → G dC dI A H0 (W_X8 a0 a1 a2 a3 a4 a5 a6 a7 a8 a9 a10 a11 a12 a13 a14 a15 a16 a17 a18 a19 a20 a21 a22 a23 a24 a25 a26 a27 a28 a29 cI cJ c_text_bytes c_text_length c_reader_numbers c_reader_next c_laid_stand c_laid_home c_laid_priceStart c_laid_priceStep c_laid_thrown_cells c_laid_thrown_filled c_laid_nets_cells c_laid_nets_filled c_trial_stand c_trial_home c_trial_priceStart c_trial_priceStep c_trial_thrown_cells c_trial_thrown_filled c_trial_nets_cells c_trial_nets_filled c_flight_loads_cells c_flight_loads_filled c_flight_order c_flight_done c_flight_start c_flight_end c_changes_who c_changes_column c_changes_was c_changes_held c_kept_older_cells c_kept_older_filled c_kept_newer_cells c_kept_newer_filled c_kept_held c_turns_need) H locs → W p l e (RM 6 143) s m args below meth c H locs 0 0 QQ (F0 m 79 ls [])) → ∀ (ls : Array Slot) (H : Heap) (locs : List Loc), lv_has ls 7 [(0, .ref a0), (1, .int x1), (2, .int x2), (3, .int x3), (4, .int x4), (5, .int x5)] → G dC dI A H0 (W_X8 a0 a1 a2 a3 a4 a5 a6 a7 a8 a9 a10 a11 a12 a13 a14 a15 a16 a17 a18 a19 a20 a21 a22 a23 a24 a25 a26 a27 a28 a29 cI cJ c_text_bytes c_text_length c_reader_numbers c_reader_next c_laid_stand c_laid_home c_laid_priceStart c_laid_priceStep c_laid_thrown_cells c_laid_thrown_filled c_laid_nets_cells c_laid_nets_filled c_trial_stand c_trial_home c_trial_priceStart c_trial_priceStep c_trial_thrown_cells c_trial_thrown_filled c_trial_nets_cells c_trial_nets_filled c_flight_loads_cells c_flight_loads_filled c_flight_order c_flight_done c_flight_start c_flight_end c_changes_who c_changes_column c_changes_was c_changes_held c_kept_older_cells c_kept_older_filled c_kept_newer_cells c_kept_newer_filled c_kept_held c_turns_need) H locs → W p l e (RM 6 143) s m args below meth c H locs 0 0 QQ (F0 m 40 ls []) := by
    intro c_flight_loads_cells c_flight_order c_flight_done c_flight_start c_flight_end n
    induction n with
    | zero => intro x3 x4 x5 ex3 ex4 h; exact it_zero h
    | succ n ih =>
      intro x3 x4 x5 ex3 ex4 h0 K0 ls H locs hl hG
      obtain ⟨w, h, hi, hr⟩ := it_succ h0
      have h : DX8_net_L40s x1 c_flight_loads_cells c_flight_order c_flight_done x3 x4 x5 = some w := h
      have KC : ∀ (x3 : Int32) (x4 : Int32) (x5 : Int32), w = .inl (x3, x4, x5) → ∀ (ls : Array Slot) (H : Heap) (locs : List Loc), lv_has ls 7 [(0, .ref a0), (1, .int x1), (2, .int x2), (3, .int x3), (4, .int x4), (5, .int x5)] → G dC dI A H0 (W_X8 a0 a1 a2 a3 a4 a5 a6 a7 a8 a9 a10 a11 a12 a13 a14 a15 a16 a17 a18 a19 a20 a21 a22 a23 a24 a25 a26 a27 a28 a29 cI cJ c_text_bytes c_text_length c_reader_numbers c_reader_next c_laid_stand c_laid_home c_laid_priceStart c_laid_priceStep c_laid_thrown_cells c_laid_thrown_filled c_laid_nets_cells c_laid_nets_filled c_trial_stand c_trial_home c_trial_priceStart c_trial_priceStep c_trial_thrown_cells c_trial_thrown_filled c_trial_nets_cells c_trial_nets_filled c_flight_loads_cells c_flight_loads_filled c_flight_order c_flight_done c_flight_start c_flight_end c_changes_who c_changes_column c_changes_was c_changes_held c_kept_older_cells c_kept_older_filled c_kept_newer_cells c_kept_newer_filled c_kept_held c_turns_need) H locs → W p l e (RM 6 143) s m args below meth c H locs 0 0 QQ (F0 m 40 ls []) := fun b0 b1 b2 e ls H locs hl hG => ih b0 b1 b2 ex3 ex4 (hi _ e) K0 ls H locs hl hG
      have KX : ∀ (x3 : Int32) (x4 : Int32), w = .inr (x3, x4) → ∀ (ls : Array Slot) (H : Heap) (locs : List Loc), lv_has ls 7 [(2, .int x2), (3, .int x3), (4, .int x4)] → G dC dI A H0 (W_X8 a0 a1 a2 a3 a4 a5 a6 a7 a8 a9 a10 a11 a12 a13 a14 a15 a16 a17 a18 a19 a20 a21 a22 a23 a24 a25 a26 a27 a28 a29 cI cJ c_text_bytes c_text_length c_reader_numbers c_reader_next c_laid_stand c_laid_home c_laid_priceStart c_laid_priceStep c_laid_thrown_cells c_laid_thrown_filled c_laid_nets_cells c_laid_nets_filled c_trial_stand c_trial_home c_trial_priceStart c_trial_priceStep c_trial_thrown_cells c_trial_thrown_filled c_trial_nets_cells c_trial_nets_filled c_flight_loads_cells c_flight_loads_filled c_flight_order c_flight_done c_flight_start c_flight_end c_changes_who c_changes_column c_changes_was c_changes_held c_kept_older_cells c_kept_older_filled c_kept_newer_cells c_kept_newer_filled c_kept_held c_turns_need) H locs → W p l e (RM 6 143) s m args below meth c H locs 0 0 QQ (F0 m 79 ls []) := fun b0 b1 e ls H locs hl hG => by cases hr _ e; exact K0 ls H locs hl hG
      clear h0 hi hr K0 ih
      unfold DX8_net_L40s at h
      refine lv_iload hx hb dX8_net_40 (lv_at hl 5 rfl) ?_
      refine lv_bipush (v := (24 : Int32)) hx hb dX8_net_42 (by decide) ?_
      refine lv_icmp_ge (tgt := 79) hx hb dX8_net_44 (by decide) (fun c_13 => ?_) (fun c_13 => ?_)
      · have h := ite_t h c_13
        exact KX _ _ (Option.some.inj h).symm _ _ _ (lv_sub hl [2, 3, 4] rfl) hG
      · have h := ite_f h c_13
        refine lv_aload_n hx hb dX8_net_47 rfl (lv_at hl 0 rfl) ?_
        refine r_get X hG in_X8 rfl 4 (by decide) w_239 0 rfl rfl dX8_net_48 ?_
        refine lv_iload hx hb dX8_net_51 (lv_at hl 5 rfl) ?_
        refine lv_iload_n hx hb dX8_net_53 rfl (lv_at hl 1 rfl) ?_
        obtain ⟨r_14, hz_15, h⟩ := bd1_some h
        refine aft_i (ws' := (W_X8 a0 a1 a2 a3 a4 a5 a6 a7 a8 a9 a10 a11 a12 a13 a14 a15 a16 a17 a18 a19 a20 a21 a22 a23 a24 a25 a26 a27 a28 a29 cI cJ c_text_bytes c_text_length c_reader_numbers c_reader_next c_laid_stand c_laid_home c_laid_priceStart c_laid_priceStep c_laid_thrown_cells c_laid_thrown_filled c_laid_nets_cells c_laid_nets_filled c_trial_stand c_trial_home c_trial_priceStart c_trial_priceStep c_trial_thrown_cells c_trial_thrown_filled c_trial_nets_cells c_trial_nets_filled c_flight_loads_cells c_flight_loads_filled c_flight_order c_flight_done c_flight_start c_flight_end c_changes_who c_changes_column c_changes_was c_changes_held c_kept_older_cells c_kept_older_filled c_kept_newer_cells c_kept_newer_filled c_kept_held c_turns_need)) (run_V (rest := []) X hG hl.1 (mX1_caughtWith l dC dI cI cJ a15 a16 a17 a18 c_flight_loads_cells c_flight_loads_filled c_flight_order c_flight_done c_flight_start c_flight_end x5 x1 hz_15) gi_V_X8_151 hd_V_yX1_caughtWith ⟨rfl, rfl⟩ rfl ⟨Nat.le_of_ble_eq_true rfl, Nat.le_of_ble_eq_true rfl⟩ [15, 16, 17, 18] (by decide) rfl 15 rfl rfl rfl rfl (Nat.le_of_ble_eq_true rfl) ⟨Nat.le_of_ble_eq_true rfl, Nat.le_of_ble_eq_true rfl⟩ dX8_net_54) hG [15, 16, 17, 18] rfl rfl rfl (fun H locs hG => ?_)
        clear hz_15
        refine lv_istore (lv' := [(6, .int r_14), (0, .ref a0), (1, .int x1), (2, .int x2), (3, .int x3), (4, .int x4), (5, .int x5)]) hx hb dX8_net_57 hl (by decide) rfl (fun ls hl => ?_)
        refine lv_iload hx hb dX8_net_59 (lv_at hl 0 rfl) ?_
        refine lv_iload hx hb dX8_net_61 (lv_at hl 5 rfl) ?_
        refine lv_icmp_le (tgt := 73) hx hb dX8_net_63 (by decide) (fun c_16 => ?_) (fun c_16 => ?_)
        · have h := ite_t h c_16
          refine lv_iinc (v := (x5 + (1 : Int32))) (lv' := [(5, .int (x5 + (1 : Int32))), (6, .int r_14), (0, .ref a0), (1, .int x1), (2, .int x2), (3, .int x3), (4, .int x4)]) hx hb dX8_net_73 hl (k := 6) rfl rfl (by decide) rfl (fun ls hl => ?_)
          refine lv_goto (tgt := 40) hx hb dX8_net_76 (by decide) ?_
          exact KC _ _ _ (Option.some.inj h).symm _ _ _ (lv_sub hl [2, 3, 4, 5, 6, 0] rfl) hG
        · have h := ite_f h c_16
          refine lv_iload hx hb dX8_net_66 (lv_at hl 0 rfl) ?_
          refine lv_istore (lv' := [(4, .int r_14), (6, .int r_14), (0, .ref a0), (1, .int x1), (2, .int x2), (3, .int x3), (5, .int x5)]) hx hb dX8_net_68 hl (by decide) rfl (fun ls hl => ?_)
          refine lv_iload hx hb dX8_net_70 (lv_at hl 6 rfl) ?_
          refine lv_istore_n (lv' := [(3, .int x5), (4, .int r_14), (6, .int r_14), (0, .ref a0), (1, .int x1), (2, .int x2), (5, .int x5)]) hx hb dX8_net_72 rfl hl (by decide) rfl (fun ls hl => ?_)
          refine lv_iinc (v := (x5 + (1 : Int32))) (lv' := [(5, .int (x5 + (1 : Int32))), (3, .int x5), (4, .int r_14), (6, .int r_14), (0, .ref a0), (1, .int x1), (2, .int x2)]) hx hb dX8_net_73 hl (k := 6) rfl rfl (by decide) rfl (fun ls hl => ?_)
          refine lv_goto (tgt := 40) hx hb dX8_net_76 (by decide) ?_
          exact KC _ _ _ (Option.some.inj h).symm _ _ _ (lv_sub hl [4, 5, 6, 1, 2, 0] rfl) hG
  have h := hD
  unfold DX8_net at h
  clear hD
  refine lv_iload_n hx hb dX8_net_0 rfl (lv_at hl 1 rfl) ?_
  refine lv_iconst (v := (0 : Int32)) hx hb dX8_net_1 (by decide) ?_
  refine lv_iconst (v := (3 : Int32)) hx hb dX8_net_2 (by decide) ?_
  obtain ⟨r_1, hz_2, h⟩ := bd1_some h
  refine aft_i (ws' := (W_X8 a0 a1 a2 a3 a4 a5 a6 a7 a8 a9 a10 a11 a12 a13 a14 a15 a16 a17 a18 a19 a20 a21 a22 a23 a24 a25 a26 a27 a28 a29 cI cJ c_text_bytes c_text_length c_reader_numbers c_reader_next c_laid_stand c_laid_home c_laid_priceStart c_laid_priceStep c_laid_thrown_cells c_laid_thrown_filled c_laid_nets_cells c_laid_nets_filled c_trial_stand c_trial_home c_trial_priceStart c_trial_priceStep c_trial_thrown_cells c_trial_thrown_filled c_trial_nets_cells c_trial_nets_filled c_flight_loads_cells c_flight_loads_filled c_flight_order c_flight_done c_flight_start c_flight_end c_changes_who c_changes_column c_changes_was c_changes_held c_kept_older_cells c_kept_older_filled c_kept_newer_cells c_kept_newer_filled c_kept_held c_turns_need)) (run_S (rest := []) X hG hl.1 (mX8_within l dC dI cI cJ x1 (0 : Int32) (3 : Int32) hz_2) gi_S_X8_74 hd_S_yX8_within ⟨rfl, rfl⟩ rfl ⟨Nat.le_of_ble_eq_true rfl, Nat.le_of_ble_eq_true rfl⟩ [] (by decide) rfl rfl (Nat.le_of_ble_eq_true rfl) ⟨Nat.le_of_ble_eq_true rfl, Nat.le_of_ble_eq_true rfl⟩ dX8_net_3) hG [] rfl rfl rfl (fun H locs hG => ?_)
  clear hz_2
  refine lv_if_eq (tgt := 18) hx hb dX8_net_6 (by decide) (fun c_3 => ?_) (fun c_3 => ?_)
  · have h := ite_t h c_3
    refine lv_iconst (v := (-1 : Int32)) hx hb dX8_net_18 (by decide) ?_
    cases h
    exact ret _ _ _ _ dX8_net_19 hG
  · have h := ite_f h c_3
    refine lv_iload_n hx hb dX8_net_9 rfl (lv_at hl 2 rfl) ?_
    refine lv_iconst (v := (0 : Int32)) hx hb dX8_net_10 (by decide) ?_
    refine lv_iconst (v := (1 : Int32)) hx hb dX8_net_11 (by decide) ?_
    obtain ⟨r_4, hz_5, h⟩ := bd1_some h
    refine aft_i (ws' := (W_X8 a0 a1 a2 a3 a4 a5 a6 a7 a8 a9 a10 a11 a12 a13 a14 a15 a16 a17 a18 a19 a20 a21 a22 a23 a24 a25 a26 a27 a28 a29 cI cJ c_text_bytes c_text_length c_reader_numbers c_reader_next c_laid_stand c_laid_home c_laid_priceStart c_laid_priceStep c_laid_thrown_cells c_laid_thrown_filled c_laid_nets_cells c_laid_nets_filled c_trial_stand c_trial_home c_trial_priceStart c_trial_priceStep c_trial_thrown_cells c_trial_thrown_filled c_trial_nets_cells c_trial_nets_filled c_flight_loads_cells c_flight_loads_filled c_flight_order c_flight_done c_flight_start c_flight_end c_changes_who c_changes_column c_changes_was c_changes_held c_kept_older_cells c_kept_older_filled c_kept_newer_cells c_kept_newer_filled c_kept_held c_turns_need)) (run_S (rest := []) X hG hl.1 (mX8_within l dC dI cI cJ x2 (0 : Int32) (1 : Int32) hz_5) gi_S_X8_74 hd_S_yX8_within ⟨rfl, rfl⟩ rfl ⟨Nat.le_of_ble_eq_true rfl, Nat.le_of_ble_eq_true rfl⟩ [] (by decide) rfl rfl (Nat.le_of_ble_eq_true rfl) ⟨Nat.le_of_ble_eq_true rfl, Nat.le_of_ble_eq_true rfl⟩ dX8_net_12) hG [] rfl rfl rfl (fun H locs hG => ?_)
    clear hz_5
    refine lv_if_ne (tgt := 20) hx hb dX8_net_15 (by decide) (fun c_6 => ?_) (fun c_6 => ?_)
    · have h := ite_f h c_6
      refine lv_iconst (v := (0 : Int32)) hx hb dX8_net_20 (by decide) ?_
      refine lv_istore_n (lv' := [(3, .int (0 : Int32)), (0, .ref a0), (1, .int x1), (2, .int x2)]) hx hb dX8_net_21 rfl hl (by decide) rfl (fun ls hl => ?_)
      refine lv_iconst (v := (-1 : Int32)) hx hb dX8_net_22 (by decide) ?_
      refine lv_istore (lv' := [(4, .int (-1 : Int32)), (3, .int (0 : Int32)), (0, .ref a0), (1, .int x1), (2, .int x2)]) hx hb dX8_net_23 hl (by decide) rfl (fun ls hl => ?_)
      refine lv_aload_n hx hb dX8_net_25 rfl (lv_at hl 2 rfl) ?_
      refine r_get X hG in_X8 rfl 4 (by decide) w_239 0 rfl rfl dX8_net_26 ?_
      refine lv_aload_n hx hb dX8_net_29 rfl (lv_at hl 2 rfl) ?_
      refine r_get X hG in_X8 rfl 2 (by decide) w_237 0 rfl rfl dX8_net_30 ?_
      refine lv_iconst (v := (0 : Int32)) hx hb dX8_net_33 (by decide) ?_
      obtain ⟨k_flight_loads_cells_7, k_flight_order_8, k_flight_done_9, k_flight_start_10, k_flight_end_11, hz_12, h⟩ := bd5_some h
      refine aft_v (ws' := (W_X8 a0 a1 a2 a3 a4 a5 a6 a7 a8 a9 a10 a11 a12 a13 a14 a15 a16 a17 a18 a19 a20 a21 a22 a23 a24 a25 a26 a27 a28 a29 cI cJ c_text_bytes c_text_length c_reader_numbers c_reader_next c_laid_stand c_laid_home c_laid_priceStart c_laid_priceStep c_laid_thrown_cells c_laid_thrown_filled c_laid_nets_cells c_laid_nets_filled c_trial_stand c_trial_home c_trial_priceStart c_trial_priceStep c_trial_thrown_cells c_trial_thrown_filled c_trial_nets_cells c_trial_nets_filled k_flight_loads_cells_7 c_flight_loads_filled k_flight_order_8 k_flight_done_9 k_flight_start_10 k_flight_end_11 c_changes_who c_changes_column c_changes_was c_changes_held c_kept_older_cells c_kept_older_filled c_kept_newer_cells c_kept_newer_filled c_kept_held c_turns_need)) (run_V (rest := []) X hG hl.1 (mX1_fly l dC dI cI cJ a15 a16 a17 a18 a5 a6 a7 a8 a9 c_flight_loads_cells c_flight_loads_filled c_flight_order c_flight_done c_flight_start c_flight_end c_laid_stand c_laid_home c_laid_priceStart c_laid_priceStep c_laid_thrown_cells c_laid_thrown_filled c_laid_nets_cells c_laid_nets_filled (0 : Int32) hz_12) gi_V_X8_106 hd_V_yX1_fly ⟨rfl, rfl⟩ rfl ⟨Nat.le_of_ble_eq_true rfl, Nat.le_of_ble_eq_true rfl⟩ [15, 16, 17, 18, 5, 6, 7, 8, 9] (by decide) rfl 15 rfl rfl rfl rfl (Nat.le_of_ble_eq_true rfl) ⟨Nat.le_of_ble_eq_true rfl, Nat.le_of_ble_eq_true rfl⟩ dX8_net_34) hG [15, 16, 17, 18, 5, 6, 7, 8, 9] rfl rfl rfl (fun H locs hG => ?_)
      clear hz_12
      refine lv_iconst (v := (0 : Int32)) hx hb dX8_net_37 (by decide) ?_
      refine lv_istore (lv' := [(5, .int (0 : Int32)), (4, .int (-1 : Int32)), (3, .int (0 : Int32)), (0, .ref a0), (1, .int x1), (2, .int x2)]) hx hb dX8_net_38 hl (by decide) rfl (fun ls hl => ?_)
      obtain ⟨z3_17, z4_18, hz, h⟩ := bd2_some h
      refine L40 k_flight_loads_cells_7 k_flight_order_8 k_flight_done_9 k_flight_start_10 k_flight_end_11 FU (0 : Int32) (-1 : Int32) (0 : Int32) _ _ hz (fun ls H locs hl hG => ?_) _ _ _ (lv_sub hl [3, 4, 5, 2, 1, 0] rfl) hG
      clear hz
      refine lv_iload_n hx hb dX8_net_79 rfl (lv_at hl 0 rfl) ?_
      refine lv_if_ne (tgt := 87) hx hb dX8_net_80 (by decide) (fun c_19 => ?_) (fun c_19 => ?_)
      · have h := ite_f h c_19
        refine lv_iload hx hb dX8_net_87 (lv_at hl 2 rfl) ?_
        cases h
        exact ret _ _ _ _ dX8_net_89 hG
      · have h := ite_t h c_19
        refine lv_iload_n hx hb dX8_net_83 rfl (lv_at hl 1 rfl) ?_
        refine lv_goto (tgt := 89) hx hb dX8_net_84 (by decide) ?_
        cases h
        exact ret _ _ _ _ dX8_net_89 hG
    · have h := ite_t h c_6
      refine lv_iconst (v := (-1 : Int32)) hx hb dX8_net_18 (by decide) ?_
      cases h
      exact ret _ _ _ _ dX8_net_19 hG
set_option maxRecDepth 100000 in
set_option maxHeartbeats 4000000 in
theorem mJ6_bitCount_0f7a4 (l : Launch) (dC : Nat → ClassId) (dI : Nat → Nat → Nat) (cI cJ : ClassId) (x0 : Int32) {res : Int32} (hD : DJ6_bitCount_0f7a4 x0 = some res) : Met l yJ6_bitCount_0f7a4 (WZ yJ6_bitCount_0f7a4 cJ6_bitCount_0f7a4 1 (some .int)) (RM 0 0) (PC dC dI cI cJ [.int x0] []) (QI dC dI [] [] res) 0 0 (FA []) := by
  refine r_metI (by decide +kernel) (Nat.le_of_ble_eq_true rfl) ?_
  intro p e s m args below meth c A H0 QQ X ret ls hl hG
  have X : Cx p m c cJ6_bitCount_0f7a4 1 s args RJ6 dC dI cI cJ meth (some .int) := X
  have hx := X.1.1
  have hb := X.1.2.1
  have hl : lv_has ls 1 [(0, .int x0)] := hl
  have h := hD
  unfold DJ6_bitCount_0f7a4 at h
  clear hD
  refine lv_iload_n hx hb dJ6_bitCount_0f7a4_0 rfl (lv_at hl 0 rfl) ?_
  refine lv_iload_n hx hb dJ6_bitCount_0f7a4_1 rfl (lv_at hl 0 rfl) ?_
  refine lv_iconst (v := (1 : Int32)) hx hb dJ6_bitCount_0f7a4_2 (by decide) ?_
  refine lv_iushr (v := ((x0.toUInt32 >>> ((1 : Int32).toUInt32 &&& Int32.toUInt32 31)).toInt32)) hx hb dJ6_bitCount_0f7a4_3 rfl ?_
  refine lv_ldcw (v := (1431655765 : Int32)) hx hb X.1.2.2.2.1 (X.1.2.2.2.2 _ w_539) dJ6_bitCount_0f7a4_4 ?_
  refine lv_iand hx hb dJ6_bitCount_0f7a4_7 ?_
  refine lv_isub hx hb dJ6_bitCount_0f7a4_8 ?_
  refine lv_istore_n (lv' := [(0, .int (x0 - (((x0.toUInt32 >>> ((1 : Int32).toUInt32 &&& Int32.toUInt32 31)).toInt32) &&& (1431655765 : Int32))))]) hx hb dJ6_bitCount_0f7a4_9 rfl hl (by decide) rfl (fun ls hl => ?_)
  refine lv_iload_n hx hb dJ6_bitCount_0f7a4_10 rfl (lv_at hl 0 rfl) ?_
  refine lv_ldcw (v := (858993459 : Int32)) hx hb X.1.2.2.2.1 (X.1.2.2.2.2 _ w_540) dJ6_bitCount_0f7a4_11 ?_
  refine lv_iand hx hb dJ6_bitCount_0f7a4_14 ?_
  refine lv_iload_n hx hb dJ6_bitCount_0f7a4_15 rfl (lv_at hl 0 rfl) ?_
  refine lv_iconst (v := (2 : Int32)) hx hb dJ6_bitCount_0f7a4_16 (by decide) ?_
  refine lv_iushr (v := (((x0 - (((x0.toUInt32 >>> ((1 : Int32).toUInt32 &&& Int32.toUInt32 31)).toInt32) &&& (1431655765 : Int32))).toUInt32 >>> ((2 : Int32).toUInt32 &&& Int32.toUInt32 31)).toInt32)) hx hb dJ6_bitCount_0f7a4_17 rfl ?_
  refine lv_ldcw (v := (858993459 : Int32)) hx hb X.1.2.2.2.1 (X.1.2.2.2.2 _ w_540) dJ6_bitCount_0f7a4_18 ?_
  refine lv_iand hx hb dJ6_bitCount_0f7a4_21 ?_
  refine lv_iadd hx hb dJ6_bitCount_0f7a4_22 ?_
  refine lv_istore_n (lv' := [(0, .int (((x0 - (((x0.toUInt32 >>> ((1 : Int32).toUInt32 &&& Int32.toUInt32 31)).toInt32) &&& (1431655765 : Int32))) &&& (858993459 : Int32)) + ((((x0 - (((x0.toUInt32 >>> ((1 : Int32).toUInt32 &&& Int32.toUInt32 31)).toInt32) &&& (1431655765 : Int32))).toUInt32 >>> ((2 : Int32).toUInt32 &&& Int32.toUInt32 31)).toInt32) &&& (858993459 : Int32))))]) hx hb dJ6_bitCount_0f7a4_23 rfl hl (by decide) rfl (fun ls hl => ?_)
  refine lv_iload_n hx hb dJ6_bitCount_0f7a4_24 rfl (lv_at hl 0 rfl) ?_
  refine lv_iload_n hx hb dJ6_bitCount_0f7a4_25 rfl (lv_at hl 0 rfl) ?_
  refine lv_iconst (v := (4 : Int32)) hx hb dJ6_bitCount_0f7a4_26 (by decide) ?_
  refine lv_iushr (v := (((((x0 - (((x0.toUInt32 >>> ((1 : Int32).toUInt32 &&& Int32.toUInt32 31)).toInt32) &&& (1431655765 : Int32))) &&& (858993459 : Int32)) + ((((x0 - (((x0.toUInt32 >>> ((1 : Int32).toUInt32 &&& Int32.toUInt32 31)).toInt32) &&& (1431655765 : Int32))).toUInt32 >>> ((2 : Int32).toUInt32 &&& Int32.toUInt32 31)).toInt32) &&& (858993459 : Int32))).toUInt32 >>> ((4 : Int32).toUInt32 &&& Int32.toUInt32 31)).toInt32)) hx hb dJ6_bitCount_0f7a4_27 rfl ?_
  refine lv_iadd hx hb dJ6_bitCount_0f7a4_28 ?_
  refine lv_ldcw (v := (252645135 : Int32)) hx hb X.1.2.2.2.1 (X.1.2.2.2.2 _ w_541) dJ6_bitCount_0f7a4_29 ?_
  refine lv_iand hx hb dJ6_bitCount_0f7a4_32 ?_
  refine lv_istore_n (lv' := [(0, .int (((((x0 - (((x0.toUInt32 >>> ((1 : Int32).toUInt32 &&& Int32.toUInt32 31)).toInt32) &&& (1431655765 : Int32))) &&& (858993459 : Int32)) + ((((x0 - (((x0.toUInt32 >>> ((1 : Int32).toUInt32 &&& Int32.toUInt32 31)).toInt32) &&& (1431655765 : Int32))).toUInt32 >>> ((2 : Int32).toUInt32 &&& Int32.toUInt32 31)).toInt32) &&& (858993459 : Int32))) + (((((x0 - (((x0.toUInt32 >>> ((1 : Int32).toUInt32 &&& Int32.toUInt32 31)).toInt32) &&& (1431655765 : Int32))) &&& (858993459 : Int32)) + ((((x0 - (((x0.toUInt32 >>> ((1 : Int32).toUInt32 &&& Int32.toUInt32 31)).toInt32) &&& (1431655765 : Int32))).toUInt32 >>> ((2 : Int32).toUInt32 &&& Int32.toUInt32 31)).toInt32) &&& (858993459 : Int32))).toUInt32 >>> ((4 : Int32).toUInt32 &&& Int32.toUInt32 31)).toInt32)) &&& (252645135 : Int32)))]) hx hb dJ6_bitCount_0f7a4_33 rfl hl (by decide) rfl (fun ls hl => ?_)
  refine lv_iload_n hx hb dJ6_bitCount_0f7a4_34 rfl (lv_at hl 0 rfl) ?_
  refine lv_iload_n hx hb dJ6_bitCount_0f7a4_35 rfl (lv_at hl 0 rfl) ?_
  refine lv_bipush (v := (8 : Int32)) hx hb dJ6_bitCount_0f7a4_36 (by decide) ?_
  refine lv_iushr (v := (((((((x0 - (((x0.toUInt32 >>> ((1 : Int32).toUInt32 &&& Int32.toUInt32 31)).toInt32) &&& (1431655765 : Int32))) &&& (858993459 : Int32)) + ((((x0 - (((x0.toUInt32 >>> ((1 : Int32).toUInt32 &&& Int32.toUInt32 31)).toInt32) &&& (1431655765 : Int32))).toUInt32 >>> ((2 : Int32).toUInt32 &&& Int32.toUInt32 31)).toInt32) &&& (858993459 : Int32))) + (((((x0 - (((x0.toUInt32 >>> ((1 : Int32).toUInt32 &&& Int32.toUInt32 31)).toInt32) &&& (1431655765 : Int32))) &&& (858993459 : Int32)) + ((((x0 - (((x0.toUInt32 >>> ((1 : Int32).toUInt32 &&& Int32.toUInt32 31)).toInt32) &&& (1431655765 : Int32))).toUInt32 >>> ((2 : Int32).toUInt32 &&& Int32.toUInt32 31)).toInt32) &&& (858993459 : Int32))).toUInt32 >>> ((4 : Int32).toUInt32 &&& Int32.toUInt32 31)).toInt32)) &&& (252645135 : Int32)).toUInt32 >>> ((8 : Int32).toUInt32 &&& Int32.toUInt32 31)).toInt32)) hx hb dJ6_bitCount_0f7a4_38 rfl ?_
  refine lv_iadd hx hb dJ6_bitCount_0f7a4_39 ?_
  refine lv_istore_n (lv' := [(0, .int ((((((x0 - (((x0.toUInt32 >>> ((1 : Int32).toUInt32 &&& Int32.toUInt32 31)).toInt32) &&& (1431655765 : Int32))) &&& (858993459 : Int32)) + ((((x0 - (((x0.toUInt32 >>> ((1 : Int32).toUInt32 &&& Int32.toUInt32 31)).toInt32) &&& (1431655765 : Int32))).toUInt32 >>> ((2 : Int32).toUInt32 &&& Int32.toUInt32 31)).toInt32) &&& (858993459 : Int32))) + (((((x0 - (((x0.toUInt32 >>> ((1 : Int32).toUInt32 &&& Int32.toUInt32 31)).toInt32) &&& (1431655765 : Int32))) &&& (858993459 : Int32)) + ((((x0 - (((x0.toUInt32 >>> ((1 : Int32).toUInt32 &&& Int32.toUInt32 31)).toInt32) &&& (1431655765 : Int32))).toUInt32 >>> ((2 : Int32).toUInt32 &&& Int32.toUInt32 31)).toInt32) &&& (858993459 : Int32))).toUInt32 >>> ((4 : Int32).toUInt32 &&& Int32.toUInt32 31)).toInt32)) &&& (252645135 : Int32)) + (((((((x0 - (((x0.toUInt32 >>> ((1 : Int32).toUInt32 &&& Int32.toUInt32 31)).toInt32) &&& (1431655765 : Int32))) &&& (858993459 : Int32)) + ((((x0 - (((x0.toUInt32 >>> ((1 : Int32).toUInt32 &&& Int32.toUInt32 31)).toInt32) &&& (1431655765 : Int32))).toUInt32 >>> ((2 : Int32).toUInt32 &&& Int32.toUInt32 31)).toInt32) &&& (858993459 : Int32))) + (((((x0 - (((x0.toUInt32 >>> ((1 : Int32).toUInt32 &&& Int32.toUInt32 31)).toInt32) &&& (1431655765 : Int32))) &&& (858993459 : Int32)) + ((((x0 - (((x0.toUInt32 >>> ((1 : Int32).toUInt32 &&& Int32.toUInt32 31)).toInt32) &&& (1431655765 : Int32))).toUInt32 >>> ((2 : Int32).toUInt32 &&& Int32.toUInt32 31)).toInt32) &&& (858993459 : Int32))).toUInt32 >>> ((4 : Int32).toUInt32 &&& Int32.toUInt32 31)).toInt32)) &&& (252645135 : Int32)).toUInt32 >>> ((8 : Int32).toUInt32 &&& Int32.toUInt32 31)).toInt32)))]) hx hb dJ6_bitCount_0f7a4_40 rfl hl (by decide) rfl (fun ls hl => ?_)
  refine lv_iload_n hx hb dJ6_bitCount_0f7a4_41 rfl (lv_at hl 0 rfl) ?_
  refine lv_iload_n hx hb dJ6_bitCount_0f7a4_42 rfl (lv_at hl 0 rfl) ?_
  refine lv_bipush (v := (16 : Int32)) hx hb dJ6_bitCount_0f7a4_43 (by decide) ?_
  refine lv_iushr (v := ((((((((x0 - (((x0.toUInt32 >>> ((1 : Int32).toUInt32 &&& Int32.toUInt32 31)).toInt32) &&& (1431655765 : Int32))) &&& (858993459 : Int32)) + ((((x0 - (((x0.toUInt32 >>> ((1 : Int32).toUInt32 &&& Int32.toUInt32 31)).toInt32) &&& (1431655765 : Int32))).toUInt32 >>> ((2 : Int32).toUInt32 &&& Int32.toUInt32 31)).toInt32) &&& (858993459 : Int32))) + (((((x0 - (((x0.toUInt32 >>> ((1 : Int32).toUInt32 &&& Int32.toUInt32 31)).toInt32) &&& (1431655765 : Int32))) &&& (858993459 : Int32)) + ((((x0 - (((x0.toUInt32 >>> ((1 : Int32).toUInt32 &&& Int32.toUInt32 31)).toInt32) &&& (1431655765 : Int32))).toUInt32 >>> ((2 : Int32).toUInt32 &&& Int32.toUInt32 31)).toInt32) &&& (858993459 : Int32))).toUInt32 >>> ((4 : Int32).toUInt32 &&& Int32.toUInt32 31)).toInt32)) &&& (252645135 : Int32)) + (((((((x0 - (((x0.toUInt32 >>> ((1 : Int32).toUInt32 &&& Int32.toUInt32 31)).toInt32) &&& (1431655765 : Int32))) &&& (858993459 : Int32)) + ((((x0 - (((x0.toUInt32 >>> ((1 : Int32).toUInt32 &&& Int32.toUInt32 31)).toInt32) &&& (1431655765 : Int32))).toUInt32 >>> ((2 : Int32).toUInt32 &&& Int32.toUInt32 31)).toInt32) &&& (858993459 : Int32))) + (((((x0 - (((x0.toUInt32 >>> ((1 : Int32).toUInt32 &&& Int32.toUInt32 31)).toInt32) &&& (1431655765 : Int32))) &&& (858993459 : Int32)) + ((((x0 - (((x0.toUInt32 >>> ((1 : Int32).toUInt32 &&& Int32.toUInt32 31)).toInt32) &&& (1431655765 : Int32))).toUInt32 >>> ((2 : Int32).toUInt32 &&& Int32.toUInt32 31)).toInt32) &&& (858993459 : Int32))).toUInt32 >>> ((4 : Int32).toUInt32 &&& Int32.toUInt32 31)).toInt32)) &&& (252645135 : Int32)).toUInt32 >>> ((8 : Int32).toUInt32 &&& Int32.toUInt32 31)).toInt32)).toUInt32 >>> ((16 : Int32).toUInt32 &&& Int32.toUInt32 31)).toInt32)) hx hb dJ6_bitCount_0f7a4_45 rfl ?_
  refine lv_iadd hx hb dJ6_bitCount_0f7a4_46 ?_
  refine lv_istore_n (lv' := [(0, .int (((((((x0 - (((x0.toUInt32 >>> ((1 : Int32).toUInt32 &&& Int32.toUInt32 31)).toInt32) &&& (1431655765 : Int32))) &&& (858993459 : Int32)) + ((((x0 - (((x0.toUInt32 >>> ((1 : Int32).toUInt32 &&& Int32.toUInt32 31)).toInt32) &&& (1431655765 : Int32))).toUInt32 >>> ((2 : Int32).toUInt32 &&& Int32.toUInt32 31)).toInt32) &&& (858993459 : Int32))) + (((((x0 - (((x0.toUInt32 >>> ((1 : Int32).toUInt32 &&& Int32.toUInt32 31)).toInt32) &&& (1431655765 : Int32))) &&& (858993459 : Int32)) + ((((x0 - (((x0.toUInt32 >>> ((1 : Int32).toUInt32 &&& Int32.toUInt32 31)).toInt32) &&& (1431655765 : Int32))).toUInt32 >>> ((2 : Int32).toUInt32 &&& Int32.toUInt32 31)).toInt32) &&& (858993459 : Int32))).toUInt32 >>> ((4 : Int32).toUInt32 &&& Int32.toUInt32 31)).toInt32)) &&& (252645135 : Int32)) + (((((((x0 - (((x0.toUInt32 >>> ((1 : Int32).toUInt32 &&& Int32.toUInt32 31)).toInt32) &&& (1431655765 : Int32))) &&& (858993459 : Int32)) + ((((x0 - (((x0.toUInt32 >>> ((1 : Int32).toUInt32 &&& Int32.toUInt32 31)).toInt32) &&& (1431655765 : Int32))).toUInt32 >>> ((2 : Int32).toUInt32 &&& Int32.toUInt32 31)).toInt32) &&& (858993459 : Int32))) + (((((x0 - (((x0.toUInt32 >>> ((1 : Int32).toUInt32 &&& Int32.toUInt32 31)).toInt32) &&& (1431655765 : Int32))) &&& (858993459 : Int32)) + ((((x0 - (((x0.toUInt32 >>> ((1 : Int32).toUInt32 &&& Int32.toUInt32 31)).toInt32) &&& (1431655765 : Int32))).toUInt32 >>> ((2 : Int32).toUInt32 &&& Int32.toUInt32 31)).toInt32) &&& (858993459 : Int32))).toUInt32 >>> ((4 : Int32).toUInt32 &&& Int32.toUInt32 31)).toInt32)) &&& (252645135 : Int32)).toUInt32 >>> ((8 : Int32).toUInt32 &&& Int32.toUInt32 31)).toInt32)) + ((((((((x0 - (((x0.toUInt32 >>> ((1 : Int32).toUInt32 &&& Int32.toUInt32 31)).toInt32) &&& (1431655765 : Int32))) &&& (858993459 : Int32)) + ((((x0 - (((x0.toUInt32 >>> ((1 : Int32).toUInt32 &&& Int32.toUInt32 31)).toInt32) &&& (1431655765 : Int32))).toUInt32 >>> ((2 : Int32).toUInt32 &&& Int32.toUInt32 31)).toInt32) &&& (858993459 : Int32))) + (((((x0 - (((x0.toUInt32 >>> ((1 : Int32).toUInt32 &&& Int32.toUInt32 31)).toInt32) &&& (1431655765 : Int32))) &&& (858993459 : Int32)) + ((((x0 - (((x0.toUInt32 >>> ((1 : Int32).toUInt32 &&& Int32.toUInt32 31)).toInt32) &&& (1431655765 : Int32))).toUInt32 >>> ((2 : Int32).toUInt32 &&& Int32.toUInt32 31)).toInt32) &&& (858993459 : Int32))).toUInt32 >>> ((4 : Int32).toUInt32 &&& Int32.toUInt32 31)).toInt32)) &&& (252645135 : Int32)) + (((((((x0 - (((x0.toUInt32 >>> ((1 : Int32).toUInt32 &&& Int32.toUInt32 31)).toInt32) &&& (1431655765 : Int32))) &&& (858993459 : Int32)) + ((((x0 - (((x0.toUInt32 >>> ((1 : Int32).toUInt32 &&& Int32.toUInt32 31)).toInt32) &&& (1431655765 : Int32))).toUInt32 >>> ((2 : Int32).toUInt32 &&& Int32.toUInt32 31)).toInt32) &&& (858993459 : Int32))) + (((((x0 - (((x0.toUInt32 >>> ((1 : Int32).toUInt32 &&& Int32.toUInt32 31)).toInt32) &&& (1431655765 : Int32))) &&& (858993459 : Int32)) + ((((x0 - (((x0.toUInt32 >>> ((1 : Int32).toUInt32 &&& Int32.toUInt32 31)).toInt32) &&& (1431655765 : Int32))).toUInt32 >>> ((2 : Int32).toUInt32 &&& Int32.toUInt32 31)).toInt32) &&& (858993459 : Int32))).toUInt32 >>> ((4 : Int32).toUInt32 &&& Int32.toUInt32 31)).toInt32)) &&& (252645135 : Int32)).toUInt32 >>> ((8 : Int32).toUInt32 &&& Int32.toUInt32 31)).toInt32)).toUInt32 >>> ((16 : Int32).toUInt32 &&& Int32.toUInt32 31)).toInt32)))]) hx hb dJ6_bitCount_0f7a4_47 rfl hl (by decide) rfl (fun ls hl => ?_)
  refine lv_iload_n hx hb dJ6_bitCount_0f7a4_48 rfl (lv_at hl 0 rfl) ?_
  refine lv_bipush (v := (63 : Int32)) hx hb dJ6_bitCount_0f7a4_49 (by decide) ?_
  refine lv_iand hx hb dJ6_bitCount_0f7a4_51 ?_
  cases h
  exact ret _ _ _ _ dJ6_bitCount_0f7a4_52 hG
set_option maxRecDepth 100000 in
set_option maxHeartbeats 4000000 in
theorem mX8_clear (l : Launch) (dC : Nat → ClassId) (dI : Nat → Nat → Nat) (cI cJ : ClassId) (a0 a1 a2 a3 a4 a5 a6 a7 a8 a9 a10 a11 a12 a13 a14 a15 a16 a17 a18 a19 a20 a21 a22 a23 a24 a25 a26 a27 a28 a29 : Nat) (c_text_bytes : Nat → Int32) (c_text_length : Int32) (c_reader_numbers : Nat → Int32) (c_reader_next : Int32) (c_laid_stand : Int32) (c_laid_home : Int32) (c_laid_priceStart : Int32) (c_laid_priceStep : Int32) (c_laid_thrown_cells : Nat → Int32) (c_laid_thrown_filled : Int32) (c_laid_nets_cells : Nat → Int32) (c_laid_nets_filled : Int32) (c_trial_stand : Int32) (c_trial_home : Int32) (c_trial_priceStart : Int32) (c_trial_priceStep : Int32) (c_trial_thrown_cells : Nat → Int32) (c_trial_thrown_filled : Int32) (c_trial_nets_cells : Nat → Int32) (c_trial_nets_filled : Int32) (c_flight_loads_cells : Nat → Int32) (c_flight_loads_filled : Int32) (c_flight_order : Nat → Int32) (c_flight_done : Int32) (c_flight_start : Int32) (c_flight_end : Int32) (c_changes_who : Nat → Int32) (c_changes_column : Nat → Int32) (c_changes_was : Nat → Int32) (c_changes_held : Int32) (c_kept_older_cells : Nat → Int32) (c_kept_older_filled : Int32) (c_kept_newer_cells : Nat → Int32) (c_kept_newer_filled : Int32) (c_kept_held : Int32) (c_turns_need : Nat → Int32) {res : Int32} {n_flight_loads_cells : Nat → Int32} {n_flight_order : Nat → Int32} {n_flight_done : Int32} {n_flight_start : Int32} {n_flight_end : Int32} (hD : DX8_clear c_laid_stand c_laid_home c_laid_priceStart c_laid_priceStep c_laid_thrown_cells c_laid_thrown_filled c_laid_nets_cells c_laid_nets_filled c_flight_loads_cells c_flight_order c_flight_done c_flight_start c_flight_end = some (res, n_flight_loads_cells, n_flight_order, n_flight_done, n_flight_start, n_flight_end)) : Met l yX8_clear (WZ yX8_clear cX8_clear 5 (some .int)) (RM 6 143) (PC dC dI cI cJ [.ref a0] (W_X8 a0 a1 a2 a3 a4 a5 a6 a7 a8 a9 a10 a11 a12 a13 a14 a15 a16 a17 a18 a19 a20 a21 a22 a23 a24 a25 a26 a27 a28 a29 cI cJ c_text_bytes c_text_length c_reader_numbers c_reader_next c_laid_stand c_laid_home c_laid_priceStart c_laid_priceStep c_laid_thrown_cells c_laid_thrown_filled c_laid_nets_cells c_laid_nets_filled c_trial_stand c_trial_home c_trial_priceStart c_trial_priceStep c_trial_thrown_cells c_trial_thrown_filled c_trial_nets_cells c_trial_nets_filled c_flight_loads_cells c_flight_loads_filled c_flight_order c_flight_done c_flight_start c_flight_end c_changes_who c_changes_column c_changes_was c_changes_held c_kept_older_cells c_kept_older_filled c_kept_newer_cells c_kept_newer_filled c_kept_held c_turns_need)) (QI dC dI (W_X8 a0 a1 a2 a3 a4 a5 a6 a7 a8 a9 a10 a11 a12 a13 a14 a15 a16 a17 a18 a19 a20 a21 a22 a23 a24 a25 a26 a27 a28 a29 cI cJ c_text_bytes c_text_length c_reader_numbers c_reader_next c_laid_stand c_laid_home c_laid_priceStart c_laid_priceStep c_laid_thrown_cells c_laid_thrown_filled c_laid_nets_cells c_laid_nets_filled c_trial_stand c_trial_home c_trial_priceStart c_trial_priceStep c_trial_thrown_cells c_trial_thrown_filled c_trial_nets_cells c_trial_nets_filled c_flight_loads_cells c_flight_loads_filled c_flight_order c_flight_done c_flight_start c_flight_end c_changes_who c_changes_column c_changes_was c_changes_held c_kept_older_cells c_kept_older_filled c_kept_newer_cells c_kept_newer_filled c_kept_held c_turns_need) (W_X8 a0 a1 a2 a3 a4 a5 a6 a7 a8 a9 a10 a11 a12 a13 a14 a15 a16 a17 a18 a19 a20 a21 a22 a23 a24 a25 a26 a27 a28 a29 cI cJ c_text_bytes c_text_length c_reader_numbers c_reader_next c_laid_stand c_laid_home c_laid_priceStart c_laid_priceStep c_laid_thrown_cells c_laid_thrown_filled c_laid_nets_cells c_laid_nets_filled c_trial_stand c_trial_home c_trial_priceStart c_trial_priceStep c_trial_thrown_cells c_trial_thrown_filled c_trial_nets_cells c_trial_nets_filled n_flight_loads_cells c_flight_loads_filled n_flight_order n_flight_done n_flight_start n_flight_end c_changes_who c_changes_column c_changes_was c_changes_held c_kept_older_cells c_kept_older_filled c_kept_newer_cells c_kept_newer_filled c_kept_held c_turns_need) res) 0 0 (FA (W_X8 a0 a1 a2 a3 a4 a5 a6 a7 a8 a9 a10 a11 a12 a13 a14 a15 a16 a17 a18 a19 a20 a21 a22 a23 a24 a25 a26 a27 a28 a29 cI cJ c_text_bytes c_text_length c_reader_numbers c_reader_next c_laid_stand c_laid_home c_laid_priceStart c_laid_priceStep c_laid_thrown_cells c_laid_thrown_filled c_laid_nets_cells c_laid_nets_filled c_trial_stand c_trial_home c_trial_priceStart c_trial_priceStep c_trial_thrown_cells c_trial_thrown_filled c_trial_nets_cells c_trial_nets_filled c_flight_loads_cells c_flight_loads_filled c_flight_order c_flight_done c_flight_start c_flight_end c_changes_who c_changes_column c_changes_was c_changes_held c_kept_older_cells c_kept_older_filled c_kept_newer_cells c_kept_newer_filled c_kept_held c_turns_need)) := by
  refine r_metI (by decide +kernel) (Nat.le_of_ble_eq_true rfl) ?_
  intro p e s m args below meth c A H0 QQ X ret ls hl hG
  have X : Cx p m c cX8_clear 5 s args RX8 dC dI cI cJ meth (some .int) := X
  have hx := X.1.1
  have hb := X.1.2.1
  have hl : lv_has ls 5 [(0, .ref a0)] := hl
  have L26 : ∀ (x3 : Int32), ∀ (n : Nat) (x1 : Int32) (x2 : Int32) (x4 : Int32) (c_flight_loads_cells : Nat → Int32) (c_flight_order : Nat → Int32) (c_flight_done : Int32) (c_flight_start : Int32) (c_flight_end : Int32) (ex1 : Int32) (ec_flight_loads_cells : Nat → Int32) (ec_flight_order : Nat → Int32) (ec_flight_done : Int32) (ec_flight_start : Int32) (ec_flight_end : Int32), DX8_clear_L26 c_laid_stand c_laid_home c_laid_priceStart c_laid_priceStep c_laid_thrown_cells c_laid_thrown_filled c_laid_nets_cells c_laid_nets_filled x3 n x1 x2 x4 c_flight_loads_cells c_flight_order c_flight_done c_flight_start c_flight_end = some (ex1, ec_flight_loads_cells, ec_flight_order, ec_flight_done, ec_flight_start, ec_flight_end) → (∀ (ls : Array Slot) (H : Heap) (locs : List Loc), lv_has ls 5 [(1, .int ex1)] → G dC dI A H0 (W_X8 a0 a1 a2 a3 a4 a5 a6 a7 a8 a9 a10 a11 a12 a13 a14 a15 a16 a17 a18 a19 a20 a21 a22 a23 a24 a25 a26 a27 a28 a29 cI cJ c_text_bytes c_text_length c_reader_numbers c_reader_next c_laid_stand c_laid_home c_laid_priceStart c_laid_priceStep c_laid_thrown_cells c_laid_thrown_filled c_laid_nets_cells c_laid_nets_filled c_trial_stand c_trial_home c_trial_priceStart c_trial_priceStep c_trial_thrown_cells c_trial_thrown_filled c_trial_nets_cells c_trial_nets_filled ec_flight_loads_cells c_flight_loads_filled ec_flight_order ec_flight_done ec_flight_start ec_flight_end c_changes_who c_changes_column c_changes_was c_changes_held c_kept_older_cells c_kept_older_filled c_kept_newer_cells c_kept_newer_filled c_kept_held c_turns_need) H locs → W p l e (RM 6 143) s m args below meth c H locs 0 0 QQ (F0 m 80 ls [])) → ∀ (ls : Array Slot) (H : Heap) (locs : List Loc), lv_has ls 5 [(0, .ref a0), (1, .int x1), (2, .int x2), (3, .int x3), (4, .int x4)] → G dC dI A H0 (W_X8 a0 a1 a2 a3 a4 a5 a6 a7 a8 a9 a10 a11 a12 a13 a14 a15 a16 a17 a18 a19 a20 a21 a22 a23 a24 a25 a26 a27 a28 a29 cI cJ c_text_bytes c_text_length c_reader_numbers c_reader_next c_laid_stand c_laid_home c_laid_priceStart c_laid_priceStep c_laid_thrown_cells c_laid_thrown_filled c_laid_nets_cells c_laid_nets_filled c_trial_stand c_trial_home c_trial_priceStart c_trial_priceStep c_trial_thrown_cells c_trial_thrown_filled c_trial_nets_cells c_trial_nets_filled c_flight_loads_cells c_flight_loads_filled c_flight_order c_flight_done c_flight_start c_flight_end c_changes_who c_changes_column c_changes_was c_changes_held c_kept_older_cells c_kept_older_filled c_kept_newer_cells c_kept_newer_filled c_kept_held c_turns_need) H locs → W p l e (RM 6 143) s m args below meth c H locs 0 0 QQ (F0 m 26 ls []) := by
    intro x3 n
    induction n with
    | zero => intro x1 x2 x4 c_flight_loads_cells c_flight_order c_flight_done c_flight_start c_flight_end ex1 ec_flight_loads_cells ec_flight_order ec_flight_done ec_flight_start ec_flight_end h; exact it_zero h
    | succ n ih =>
      intro x1 x2 x4 c_flight_loads_cells c_flight_order c_flight_done c_flight_start c_flight_end ex1 ec_flight_loads_cells ec_flight_order ec_flight_done ec_flight_start ec_flight_end h0 K0 ls H locs hl hG
      obtain ⟨w, h, hi, hr⟩ := it_succ h0
      have h : DX8_clear_L26s c_laid_stand c_laid_home c_laid_priceStart c_laid_priceStep c_laid_thrown_cells c_laid_thrown_filled c_laid_nets_cells c_laid_nets_filled x3 x1 x2 x4 c_flight_loads_cells c_flight_order c_flight_done c_flight_start c_flight_end = some w := h
      have KC : ∀ (x1 : Int32) (x2 : Int32) (x4 : Int32) (c_flight_loads_cells : Nat → Int32) (c_flight_order : Nat → Int32) (c_flight_done : Int32) (c_flight_start : Int32) (c_flight_end : Int32), w = .inl (x1, x2, x4, c_flight_loads_cells, c_flight_order, c_flight_done, c_flight_start, c_flight_end) → ∀ (ls : Array Slot) (H : Heap) (locs : List Loc), lv_has ls 5 [(0, .ref a0), (1, .int x1), (2, .int x2), (3, .int x3), (4, .int x4)] → G dC dI A H0 (W_X8 a0 a1 a2 a3 a4 a5 a6 a7 a8 a9 a10 a11 a12 a13 a14 a15 a16 a17 a18 a19 a20 a21 a22 a23 a24 a25 a26 a27 a28 a29 cI cJ c_text_bytes c_text_length c_reader_numbers c_reader_next c_laid_stand c_laid_home c_laid_priceStart c_laid_priceStep c_laid_thrown_cells c_laid_thrown_filled c_laid_nets_cells c_laid_nets_filled c_trial_stand c_trial_home c_trial_priceStart c_trial_priceStep c_trial_thrown_cells c_trial_thrown_filled c_trial_nets_cells c_trial_nets_filled c_flight_loads_cells c_flight_loads_filled c_flight_order c_flight_done c_flight_start c_flight_end c_changes_who c_changes_column c_changes_was c_changes_held c_kept_older_cells c_kept_older_filled c_kept_newer_cells c_kept_newer_filled c_kept_held c_turns_need) H locs → W p l e (RM 6 143) s m args below meth c H locs 0 0 QQ (F0 m 26 ls []) := fun b0 b1 b2 b3 b4 b5 b6 b7 e ls H locs hl hG => ih b0 b1 b2 b3 b4 b5 b6 b7 ex1 ec_flight_loads_cells ec_flight_order ec_flight_done ec_flight_start ec_flight_end (hi _ e) K0 ls H locs hl hG
      have KX : ∀ (x1 : Int32) (c_flight_loads_cells : Nat → Int32) (c_flight_order : Nat → Int32) (c_flight_done : Int32) (c_flight_start : Int32) (c_flight_end : Int32), w = .inr (x1, c_flight_loads_cells, c_flight_order, c_flight_done, c_flight_start, c_flight_end) → ∀ (ls : Array Slot) (H : Heap) (locs : List Loc), lv_has ls 5 [(1, .int x1)] → G dC dI A H0 (W_X8 a0 a1 a2 a3 a4 a5 a6 a7 a8 a9 a10 a11 a12 a13 a14 a15 a16 a17 a18 a19 a20 a21 a22 a23 a24 a25 a26 a27 a28 a29 cI cJ c_text_bytes c_text_length c_reader_numbers c_reader_next c_laid_stand c_laid_home c_laid_priceStart c_laid_priceStep c_laid_thrown_cells c_laid_thrown_filled c_laid_nets_cells c_laid_nets_filled c_trial_stand c_trial_home c_trial_priceStart c_trial_priceStep c_trial_thrown_cells c_trial_thrown_filled c_trial_nets_cells c_trial_nets_filled c_flight_loads_cells c_flight_loads_filled c_flight_order c_flight_done c_flight_start c_flight_end c_changes_who c_changes_column c_changes_was c_changes_held c_kept_older_cells c_kept_older_filled c_kept_newer_cells c_kept_newer_filled c_kept_held c_turns_need) H locs → W p l e (RM 6 143) s m args below meth c H locs 0 0 QQ (F0 m 80 ls []) := fun b0 b1 b2 b3 b4 b5 e ls H locs hl hG => by cases hr _ e; exact K0 ls H locs hl hG
      clear h0 hi hr K0 ih
      unfold DX8_clear_L26s at h
      refine lv_iload hx hb dX8_clear_26 (lv_at hl 4 rfl) ?_
      refine lv_iload_n hx hb dX8_clear_28 rfl (lv_at hl 3 rfl) ?_
      refine lv_icmp_ge (tgt := 80) hx hb dX8_clear_29 (by decide) (fun c_3 => ?_) (fun c_3 => ?_)
      · have h := ite_t h c_3
        exact KX _ _ _ _ _ _ (Option.some.inj h).symm _ _ _ (lv_sub hl [1] rfl) hG
      · have h := ite_f h c_3
        refine lv_iload hx hb dX8_clear_32 (lv_at hl 4 rfl) ?_
        obtain ⟨r_4, hz_5, h⟩ := bd1_some h
        refine aft_i (ws' := (W_X8 a0 a1 a2 a3 a4 a5 a6 a7 a8 a9 a10 a11 a12 a13 a14 a15 a16 a17 a18 a19 a20 a21 a22 a23 a24 a25 a26 a27 a28 a29 cI cJ c_text_bytes c_text_length c_reader_numbers c_reader_next c_laid_stand c_laid_home c_laid_priceStart c_laid_priceStep c_laid_thrown_cells c_laid_thrown_filled c_laid_nets_cells c_laid_nets_filled c_trial_stand c_trial_home c_trial_priceStart c_trial_priceStep c_trial_thrown_cells c_trial_thrown_filled c_trial_nets_cells c_trial_nets_filled c_flight_loads_cells c_flight_loads_filled c_flight_order c_flight_done c_flight_start c_flight_end c_changes_who c_changes_column c_changes_was c_changes_held c_kept_older_cells c_kept_older_filled c_kept_newer_cells c_kept_newer_filled c_kept_held c_turns_need)) (run_S (rest := []) X hG hl.1 (mJ6_bitCount_0f7a4 l dC dI cI cJ x4 hz_5) gi_S_X8_159 hd_S_yJ6_bitCount_0f7a4 ⟨rfl, rfl⟩ rfl ⟨Nat.le_of_ble_eq_true rfl, Nat.le_of_ble_eq_true rfl⟩ [] (by decide) rfl rfl (Nat.le_of_ble_eq_true rfl) ⟨Nat.le_of_ble_eq_true rfl, Nat.le_of_ble_eq_true rfl⟩ dX8_clear_34) hG [] rfl rfl rfl (fun H locs hG => ?_)
        clear hz_5
        refine lv_iload_n hx hb dX8_clear_37 rfl (lv_at hl 2 rfl) ?_
        refine lv_icmp_ge (tgt := 74) hx hb dX8_clear_38 (by decide) (fun c_6 => ?_) (fun c_6 => ?_)
        · have h := ite_t h c_6
          refine lv_iinc (v := (x4 + (1 : Int32))) (lv' := [(4, .int (x4 + (1 : Int32))), (0, .ref a0), (1, .int x1), (2, .int x2), (3, .int x3)]) hx hb dX8_clear_74 hl (k := 4) rfl rfl (by decide) rfl (fun ls hl => ?_)
          refine lv_goto (tgt := 26) hx hb dX8_clear_77 (by decide) ?_
          exact KC _ _ _ _ _ _ _ _ (Option.some.inj h).symm _ _ _ (lv_sub hl [1, 2, 3, 4, 0] rfl) hG
        · have h := ite_f h c_6
          refine lv_aload_n hx hb dX8_clear_41 rfl (lv_at hl 0 rfl) ?_
          refine r_get X hG in_X8 rfl 4 (by decide) w_239 0 rfl rfl dX8_clear_42 ?_
          refine lv_aload_n hx hb dX8_clear_45 rfl (lv_at hl 0 rfl) ?_
          refine r_get X hG in_X8 rfl 2 (by decide) w_237 0 rfl rfl dX8_clear_46 ?_
          refine lv_iload hx hb dX8_clear_49 (lv_at hl 4 rfl) ?_
          obtain ⟨k_flight_loads_cells_7, k_flight_order_8, k_flight_done_9, k_flight_start_10, k_flight_end_11, hz_12, h⟩ := bd5_some h
          refine aft_v (ws' := (W_X8 a0 a1 a2 a3 a4 a5 a6 a7 a8 a9 a10 a11 a12 a13 a14 a15 a16 a17 a18 a19 a20 a21 a22 a23 a24 a25 a26 a27 a28 a29 cI cJ c_text_bytes c_text_length c_reader_numbers c_reader_next c_laid_stand c_laid_home c_laid_priceStart c_laid_priceStep c_laid_thrown_cells c_laid_thrown_filled c_laid_nets_cells c_laid_nets_filled c_trial_stand c_trial_home c_trial_priceStart c_trial_priceStep c_trial_thrown_cells c_trial_thrown_filled c_trial_nets_cells c_trial_nets_filled k_flight_loads_cells_7 c_flight_loads_filled k_flight_order_8 k_flight_done_9 k_flight_start_10 k_flight_end_11 c_changes_who c_changes_column c_changes_was c_changes_held c_kept_older_cells c_kept_older_filled c_kept_newer_cells c_kept_newer_filled c_kept_held c_turns_need)) (run_V (rest := []) X hG hl.1 (mX1_fly l dC dI cI cJ a15 a16 a17 a18 a5 a6 a7 a8 a9 c_flight_loads_cells c_flight_loads_filled c_flight_order c_flight_done c_flight_start c_flight_end c_laid_stand c_laid_home c_laid_priceStart c_laid_priceStep c_laid_thrown_cells c_laid_thrown_filled c_laid_nets_cells c_laid_nets_filled x4 hz_12) gi_V_X8_106 hd_V_yX1_fly ⟨rfl, rfl⟩ rfl ⟨Nat.le_of_ble_eq_true rfl, Nat.le_of_ble_eq_true rfl⟩ [15, 16, 17, 18, 5, 6, 7, 8, 9] (by decide) rfl 15 rfl rfl rfl rfl (Nat.le_of_ble_eq_true rfl) ⟨Nat.le_of_ble_eq_true rfl, Nat.le_of_ble_eq_true rfl⟩ dX8_clear_51) hG [15, 16, 17, 18, 5, 6, 7, 8, 9] rfl rfl rfl (fun H locs hG => ?_)
          clear hz_12
          refine lv_aload_n hx hb dX8_clear_54 rfl (lv_at hl 0 rfl) ?_
          refine r_get X hG in_X8 rfl 4 (by decide) w_239 0 rfl rfl dX8_clear_55 ?_
          refine lv_iconst (v := (2 : Int32)) hx hb dX8_clear_58 (by decide) ?_
          obtain ⟨r_13, hz_14, h⟩ := bd1_some h
          refine aft_i (ws' := (W_X8 a0 a1 a2 a3 a4 a5 a6 a7 a8 a9 a10 a11 a12 a13 a14 a15 a16 a17 a18 a19 a20 a21 a22 a23 a24 a25 a26 a27 a28 a29 cI cJ c_text_bytes c_text_length c_reader_numbers c_reader_next c_laid_stand c_laid_home c_laid_priceStart c_laid_priceStep c_laid_thrown_cells c_laid_thrown_filled c_laid_nets_cells c_laid_nets_filled c_trial_stand c_trial_home c_trial_priceStart c_trial_priceStep c_trial_thrown_cells c_trial_thrown_filled c_trial_nets_cells c_trial_nets_filled k_flight_loads_cells_7 c_flight_loads_filled k_flight_order_8 k_flight_done_9 k_flight_start_10 k_flight_end_11 c_changes_who c_changes_column c_changes_was c_changes_held c_kept_older_cells c_kept_older_filled c_kept_newer_cells c_kept_newer_filled c_kept_held c_turns_need)) (run_V (rest := []) X hG hl.1 (mX1_howMany l dC dI cI cJ a15 a16 a17 a18 k_flight_loads_cells_7 c_flight_loads_filled k_flight_order_8 k_flight_done_9 k_flight_start_10 k_flight_end_11 (2 : Int32) hz_14) gi_V_X8_127 hd_V_yX1_howMany ⟨rfl, rfl⟩ rfl ⟨Nat.le_of_ble_eq_true rfl, Nat.le_of_ble_eq_true rfl⟩ [15, 16, 17, 18] (by decide) rfl 15 rfl rfl rfl rfl (Nat.le_of_ble_eq_true rfl) ⟨Nat.le_of_ble_eq_true rfl, Nat.le_of_ble_eq_true rfl⟩ dX8_clear_59) hG [15, 16, 17, 18] rfl rfl rfl (fun H locs hG => ?_)
          clear hz_14
          refine lv_if_ne (tgt := 74) hx hb dX8_clear_62 (by decide) (fun c_15 => ?_) (fun c_15 => ?_)
          · have h := ite_f h c_15
            refine lv_iinc (v := (x4 + (1 : Int32))) (lv' := [(4, .int (x4 + (1 : Int32))), (0, .ref a0), (1, .int x1), (2, .int x2), (3, .int x3)]) hx hb dX8_clear_74 hl (k := 4) rfl rfl (by decide) rfl (fun ls hl => ?_)
            refine lv_goto (tgt := 26) hx hb dX8_clear_77 (by decide) ?_
            exact KC _ _ _ _ _ _ _ _ (Option.some.inj h).symm _ _ _ (lv_sub hl [1, 2, 3, 4, 0] rfl) hG
          · have h := ite_t h c_15
            refine lv_iload hx hb dX8_clear_65 (lv_at hl 4 rfl) ?_
            obtain ⟨r_16, hz_17, h⟩ := bd1_some h
            refine aft_i (ws' := (W_X8 a0 a1 a2 a3 a4 a5 a6 a7 a8 a9 a10 a11 a12 a13 a14 a15 a16 a17 a18 a19 a20 a21 a22 a23 a24 a25 a26 a27 a28 a29 cI cJ c_text_bytes c_text_length c_reader_numbers c_reader_next c_laid_stand c_laid_home c_laid_priceStart c_laid_priceStep c_laid_thrown_cells c_laid_thrown_filled c_laid_nets_cells c_laid_nets_filled c_trial_stand c_trial_home c_trial_priceStart c_trial_priceStep c_trial_thrown_cells c_trial_thrown_filled c_trial_nets_cells c_trial_nets_filled k_flight_loads_cells_7 c_flight_loads_filled k_flight_order_8 k_flight_done_9 k_flight_start_10 k_flight_end_11 c_changes_who c_changes_column c_changes_was c_changes_held c_kept_older_cells c_kept_older_filled c_kept_newer_cells c_kept_newer_filled c_kept_held c_turns_need)) (run_S (rest := []) X hG hl.1 (mJ6_bitCount_0f7a4 l dC dI cI cJ x4 hz_17) gi_S_X8_159 hd_S_yJ6_bitCount_0f7a4 ⟨rfl, rfl⟩ rfl ⟨Nat.le_of_ble_eq_true rfl, Nat.le_of_ble_eq_true rfl⟩ [] (by decide) rfl rfl (Nat.le_of_ble_eq_true rfl) ⟨Nat.le_of_ble_eq_true rfl, Nat.le_of_ble_eq_true rfl⟩ dX8_clear_67) hG [] rfl rfl rfl (fun H locs hG => ?_)
            clear hz_17
            refine lv_istore_n (lv' := [(2, .int r_16), (0, .ref a0), (1, .int x1), (3, .int x3), (4, .int x4)]) hx hb dX8_clear_70 rfl hl (by decide) rfl (fun ls hl => ?_)
            refine lv_iload hx hb dX8_clear_71 (lv_at hl 4 rfl) ?_
            refine lv_istore_n (lv' := [(1, .int x4), (2, .int r_16), (0, .ref a0), (3, .int x3), (4, .int x4)]) hx hb dX8_clear_73 rfl hl (by decide) rfl (fun ls hl => ?_)
            refine lv_iinc (v := (x4 + (1 : Int32))) (lv' := [(4, .int (x4 + (1 : Int32))), (1, .int x4), (2, .int r_16), (0, .ref a0), (3, .int x3)]) hx hb dX8_clear_74 hl (k := 4) rfl rfl (by decide) rfl (fun ls hl => ?_)
            refine lv_goto (tgt := 26) hx hb dX8_clear_77 (by decide) ?_
            exact KC _ _ _ _ _ _ _ _ (Option.some.inj h).symm _ _ _ (lv_sub hl [3, 1, 2, 4, 0] rfl) hG
  have h := hD
  unfold DX8_clear at h
  clear hD
  refine lv_iconst (v := (0 : Int32)) hx hb dX8_clear_0 (by decide) ?_
  refine lv_istore_n (lv' := [(1, .int (0 : Int32)), (0, .ref a0)]) hx hb dX8_clear_1 rfl hl (by decide) rfl (fun ls hl => ?_)
  refine lv_bipush (v := (8 : Int32)) hx hb dX8_clear_2 (by decide) ?_
  refine lv_istore_n (lv' := [(2, .int (8 : Int32)), (1, .int (0 : Int32)), (0, .ref a0)]) hx hb dX8_clear_4 rfl hl (by decide) rfl (fun ls hl => ?_)
  refine lv_iconst (v := (1 : Int32)) hx hb dX8_clear_5 (by decide) ?_
  refine lv_aload_n hx hb dX8_clear_6 rfl (lv_at hl 2 rfl) ?_
  refine r_get X hG in_X8 rfl 2 (by decide) w_237 0 rfl rfl dX8_clear_7 ?_
  refine r_getN X hG in_X3 rfl 4 (by decide) w_136 5 rfl rfl dX8_clear_10 ?_
  obtain ⟨r_1, hz_2, h⟩ := bd1_some h
  refine aft_i (ws' := (W_X8 a0 a1 a2 a3 a4 a5 a6 a7 a8 a9 a10 a11 a12 a13 a14 a15 a16 a17 a18 a19 a20 a21 a22 a23 a24 a25 a26 a27 a28 a29 cI cJ c_text_bytes c_text_length c_reader_numbers c_reader_next c_laid_stand c_laid_home c_laid_priceStart c_laid_priceStep c_laid_thrown_cells c_laid_thrown_filled c_laid_nets_cells c_laid_nets_filled c_trial_stand c_trial_home c_trial_priceStart c_trial_priceStep c_trial_thrown_cells c_trial_thrown_filled c_trial_nets_cells c_trial_nets_filled c_flight_loads_cells c_flight_loads_filled c_flight_order c_flight_done c_flight_start c_flight_end c_changes_who c_changes_column c_changes_was c_changes_held c_kept_older_cells c_kept_older_filled c_kept_newer_cells c_kept_newer_filled c_kept_held c_turns_need)) (run_V (rest := [.int (1 : Int32)]) X hG hl.1 (mX5_rows l dC dI cI cJ a6 a7 (7 : Int32) (4 : Int32) 28 c_laid_thrown_cells c_laid_thrown_filled hz_2) gi_V_X8_90 hd_V_yX5_rows ⟨rfl, rfl⟩ rfl ⟨Nat.le_of_ble_eq_true rfl, Nat.le_of_ble_eq_true rfl⟩ [6, 7] (by decide) rfl 6 rfl rfl rfl rfl (Nat.le_of_ble_eq_true rfl) ⟨Nat.le_of_ble_eq_true rfl, Nat.le_of_ble_eq_true rfl⟩ dX8_clear_13) hG [6, 7] rfl rfl rfl (fun H locs hG => ?_)
  clear hz_2
  refine lv_bipush (v := (7 : Int32)) hx hb dX8_clear_16 (by decide) ?_
  refine va_mmin hx hb (X.1.2.2.1.trans hl.1.symm) X.1.2.2.2.1 (X.1.2.2.2.2 _ w_436) (X.1.2.2.2.2 _ w_349) (X.1.2.2.2.2 _ w_46) (X.1.2.2.2.2 _ w_350) (Nat.le_of_ble_eq_true rfl) (Nat.le_of_ble_eq_true rfl) (Nat.le_of_ble_eq_true rfl) (Nat.le_of_ble_eq_true rfl) dX8_clear_18 ?_
  refine lv_ishl hx hb dX8_clear_21 ?_
  refine lv_istore_n (lv' := [(3, .int ((1 : Int32) <<< ((if (7 : Int32) < r_1 then (7 : Int32) else r_1) &&& 31))), (2, .int (8 : Int32)), (1, .int (0 : Int32)), (0, .ref a0)]) hx hb dX8_clear_22 rfl hl (by decide) rfl (fun ls hl => ?_)
  refine lv_iconst (v := (0 : Int32)) hx hb dX8_clear_23 (by decide) ?_
  refine lv_istore (lv' := [(4, .int (0 : Int32)), (3, .int ((1 : Int32) <<< ((if (7 : Int32) < r_1 then (7 : Int32) else r_1) &&& 31))), (2, .int (8 : Int32)), (1, .int (0 : Int32)), (0, .ref a0)]) hx hb dX8_clear_24 hl (by decide) rfl (fun ls hl => ?_)
  obtain ⟨z1_18, k_flight_loads_cells_19, k_flight_order_20, k_flight_done_21, k_flight_start_22, k_flight_end_23, hz, h⟩ := bd6_some h
  refine L26 ((1 : Int32) <<< ((if (7 : Int32) < r_1 then (7 : Int32) else r_1) &&& 31)) FU (0 : Int32) (8 : Int32) (0 : Int32) c_flight_loads_cells c_flight_order c_flight_done c_flight_start c_flight_end _ _ _ _ _ _ hz (fun ls H locs hl hG => ?_) _ _ _ (lv_sub hl [4, 3, 2, 1, 0] rfl) hG
  clear hz
  refine lv_iload_n hx hb dX8_clear_80 rfl (lv_at hl 0 rfl) ?_
  cases h
  exact ret _ _ _ _ dX8_clear_81 hG
set_option maxRecDepth 100000 in
set_option maxHeartbeats 4000000 in
theorem mX8_stray (l : Launch) (dC : Nat → ClassId) (dI : Nat → Nat → Nat) (cI cJ : ClassId) (a0 a1 a2 a3 a4 a5 a6 a7 a8 a9 a10 a11 a12 a13 a14 a15 a16 a17 a18 a19 a20 a21 a22 a23 a24 a25 a26 a27 a28 a29 : Nat) (c_text_bytes : Nat → Int32) (c_text_length : Int32) (c_reader_numbers : Nat → Int32) (c_reader_next : Int32) (c_laid_stand : Int32) (c_laid_home : Int32) (c_laid_priceStart : Int32) (c_laid_priceStep : Int32) (c_laid_thrown_cells : Nat → Int32) (c_laid_thrown_filled : Int32) (c_laid_nets_cells : Nat → Int32) (c_laid_nets_filled : Int32) (c_trial_stand : Int32) (c_trial_home : Int32) (c_trial_priceStart : Int32) (c_trial_priceStep : Int32) (c_trial_thrown_cells : Nat → Int32) (c_trial_thrown_filled : Int32) (c_trial_nets_cells : Nat → Int32) (c_trial_nets_filled : Int32) (c_flight_loads_cells : Nat → Int32) (c_flight_loads_filled : Int32) (c_flight_order : Nat → Int32) (c_flight_done : Int32) (c_flight_start : Int32) (c_flight_end : Int32) (c_changes_who : Nat → Int32) (c_changes_column : Nat → Int32) (c_changes_was : Nat → Int32) (c_changes_held : Int32) (c_kept_older_cells : Nat → Int32) (c_kept_older_filled : Int32) (c_kept_newer_cells : Nat → Int32) (c_kept_newer_filled : Int32) (c_kept_held : Int32) (c_turns_need : Nat → Int32) (x1 : Int32) (x2 : Int32) (x3 : Int32) {res : Int32} {n_flight_loads_cells : Nat → Int32} {n_flight_order : Nat → Int32} {n_flight_done : Int32} {n_flight_start : Int32} {n_flight_end : Int32} (hD : DX8_stray x1 x2 x3 c_laid_stand c_laid_home c_laid_priceStart c_laid_priceStep c_laid_thrown_cells c_laid_thrown_filled c_laid_nets_cells c_laid_nets_filled c_flight_loads_cells c_flight_order c_flight_done c_flight_start c_flight_end = some (res, n_flight_loads_cells, n_flight_order, n_flight_done, n_flight_start, n_flight_end)) : Met l yX8_stray (WZ yX8_stray cX8_stray 6 (some .int)) (RM 6 143) (PC dC dI cI cJ [.ref a0, .int x1, .int x2, .int x3] (W_X8 a0 a1 a2 a3 a4 a5 a6 a7 a8 a9 a10 a11 a12 a13 a14 a15 a16 a17 a18 a19 a20 a21 a22 a23 a24 a25 a26 a27 a28 a29 cI cJ c_text_bytes c_text_length c_reader_numbers c_reader_next c_laid_stand c_laid_home c_laid_priceStart c_laid_priceStep c_laid_thrown_cells c_laid_thrown_filled c_laid_nets_cells c_laid_nets_filled c_trial_stand c_trial_home c_trial_priceStart c_trial_priceStep c_trial_thrown_cells c_trial_thrown_filled c_trial_nets_cells c_trial_nets_filled c_flight_loads_cells c_flight_loads_filled c_flight_order c_flight_done c_flight_start c_flight_end c_changes_who c_changes_column c_changes_was c_changes_held c_kept_older_cells c_kept_older_filled c_kept_newer_cells c_kept_newer_filled c_kept_held c_turns_need)) (QI dC dI (W_X8 a0 a1 a2 a3 a4 a5 a6 a7 a8 a9 a10 a11 a12 a13 a14 a15 a16 a17 a18 a19 a20 a21 a22 a23 a24 a25 a26 a27 a28 a29 cI cJ c_text_bytes c_text_length c_reader_numbers c_reader_next c_laid_stand c_laid_home c_laid_priceStart c_laid_priceStep c_laid_thrown_cells c_laid_thrown_filled c_laid_nets_cells c_laid_nets_filled c_trial_stand c_trial_home c_trial_priceStart c_trial_priceStep c_trial_thrown_cells c_trial_thrown_filled c_trial_nets_cells c_trial_nets_filled c_flight_loads_cells c_flight_loads_filled c_flight_order c_flight_done c_flight_start c_flight_end c_changes_who c_changes_column c_changes_was c_changes_held c_kept_older_cells c_kept_older_filled c_kept_newer_cells c_kept_newer_filled c_kept_held c_turns_need) (W_X8 a0 a1 a2 a3 a4 a5 a6 a7 a8 a9 a10 a11 a12 a13 a14 a15 a16 a17 a18 a19 a20 a21 a22 a23 a24 a25 a26 a27 a28 a29 cI cJ c_text_bytes c_text_length c_reader_numbers c_reader_next c_laid_stand c_laid_home c_laid_priceStart c_laid_priceStep c_laid_thrown_cells c_laid_thrown_filled c_laid_nets_cells c_laid_nets_filled c_trial_stand c_trial_home c_trial_priceStart c_trial_priceStep c_trial_thrown_cells c_trial_thrown_filled c_trial_nets_cells c_trial_nets_filled n_flight_loads_cells c_flight_loads_filled n_flight_order n_flight_done n_flight_start n_flight_end c_changes_who c_changes_column c_changes_was c_changes_held c_kept_older_cells c_kept_older_filled c_kept_newer_cells c_kept_newer_filled c_kept_held c_turns_need) res) 0 0 (FA (W_X8 a0 a1 a2 a3 a4 a5 a6 a7 a8 a9 a10 a11 a12 a13 a14 a15 a16 a17 a18 a19 a20 a21 a22 a23 a24 a25 a26 a27 a28 a29 cI cJ c_text_bytes c_text_length c_reader_numbers c_reader_next c_laid_stand c_laid_home c_laid_priceStart c_laid_priceStep c_laid_thrown_cells c_laid_thrown_filled c_laid_nets_cells c_laid_nets_filled c_trial_stand c_trial_home c_trial_priceStart c_trial_priceStep c_trial_thrown_cells c_trial_thrown_filled c_trial_nets_cells c_trial_nets_filled c_flight_loads_cells c_flight_loads_filled c_flight_order c_flight_done c_flight_start c_flight_end c_changes_who c_changes_column c_changes_was c_changes_held c_kept_older_cells c_kept_older_filled c_kept_newer_cells c_kept_newer_filled c_kept_held c_turns_need)) := by
  refine r_metI (by decide +kernel) (Nat.le_of_ble_eq_true rfl) ?_
  intro p e s m args below meth c A H0 QQ X ret ls hl hG
  have X : Cx p m c cX8_stray 6 s args RX8 dC dI cI cJ meth (some .int) := X
  have hx := X.1.1
  have hb := X.1.2.1
  have hl : lv_has ls 6 [(0, .ref a0), (1, .int x1), (2, .int x2), (3, .int x3)] := hl
  have L50 : ∀ (c_flight_loads_cells : Nat → Int32) (c_flight_order : Nat → Int32) (c_flight_done : Int32) (c_flight_start : Int32) (c_flight_end : Int32), ∀ (n : Nat) (x4 : Int32) (x5 : Int32) (ex4 : Int32), DX8_stray_L50 x1 x2 x3 c_laid_thrown_filled c_flight_loads_cells n x4 x5 = some ex4 → (∀ (ls : Array Slot) (H : Heap) (locs : List Loc), lv_has ls 6 [(4, .int ex4)] → G dC dI A H0 (W_X8 a0 a1 a2 a3 a4 a5 a6 a7 a8 a9 a10 a11 a12 a13 a14 a15 a16 a17 a18 a19 a20 a21 a22 a23 a24 a25 a26 a27 a28 a29 cI cJ c_text_bytes c_text_length c_reader_numbers c_reader_next c_laid_stand c_laid_home c_laid_priceStart c_laid_priceStep c_laid_thrown_cells c_laid_thrown_filled c_laid_nets_cells c_laid_nets_filled c_trial_stand c_trial_home c_trial_priceStart c_trial_priceStep c_trial_thrown_cells c_trial_thrown_filled c_trial_nets_cells c_trial_nets_filled c_flight_loads_cells c_flight_loads_filled c_flight_order c_flight_done c_flight_start c_flight_end c_changes_who c_changes_column c_changes_was c_changes_held c_kept_older_cells c_kept_older_filled c_kept_newer_cells c_kept_newer_filled c_kept_held c_turns_need) H locs → W p l e (RM 6 143) s m args below meth c H locs 0 0 QQ (F0 m 108 ls [])) → ∀ (ls : Array Slot) (H : Heap) (locs : List Loc), lv_has ls 6 [(0, .ref a0), (1, .int x1), (2, .int x2), (3, .int x3), (4, .int x4), (5, .int x5)] → G dC dI A H0 (W_X8 a0 a1 a2 a3 a4 a5 a6 a7 a8 a9 a10 a11 a12 a13 a14 a15 a16 a17 a18 a19 a20 a21 a22 a23 a24 a25 a26 a27 a28 a29 cI cJ c_text_bytes c_text_length c_reader_numbers c_reader_next c_laid_stand c_laid_home c_laid_priceStart c_laid_priceStep c_laid_thrown_cells c_laid_thrown_filled c_laid_nets_cells c_laid_nets_filled c_trial_stand c_trial_home c_trial_priceStart c_trial_priceStep c_trial_thrown_cells c_trial_thrown_filled c_trial_nets_cells c_trial_nets_filled c_flight_loads_cells c_flight_loads_filled c_flight_order c_flight_done c_flight_start c_flight_end c_changes_who c_changes_column c_changes_was c_changes_held c_kept_older_cells c_kept_older_filled c_kept_newer_cells c_kept_newer_filled c_kept_held c_turns_need) H locs → W p l e (RM 6 143) s m args below meth c H locs 0 0 QQ (F0 m 50 ls []) := by
    intro c_flight_loads_cells c_flight_order c_flight_done c_flight_start c_flight_end n
    induction n with
    | zero => intro x4 x5 ex4 h; exact it_zero h
    | succ n ih =>
      intro x4 x5 ex4 h0 K0 ls H locs hl hG
      obtain ⟨w, h, hi, hr⟩ := it_succ h0
      have h : DX8_stray_L50s x1 x2 x3 c_laid_thrown_filled c_flight_loads_cells x4 x5 = some w := h
      have KC : ∀ (x4 : Int32) (x5 : Int32), w = .inl (x4, x5) → ∀ (ls : Array Slot) (H : Heap) (locs : List Loc), lv_has ls 6 [(0, .ref a0), (1, .int x1), (2, .int x2), (3, .int x3), (4, .int x4), (5, .int x5)] → G dC dI A H0 (W_X8 a0 a1 a2 a3 a4 a5 a6 a7 a8 a9 a10 a11 a12 a13 a14 a15 a16 a17 a18 a19 a20 a21 a22 a23 a24 a25 a26 a27 a28 a29 cI cJ c_text_bytes c_text_length c_reader_numbers c_reader_next c_laid_stand c_laid_home c_laid_priceStart c_laid_priceStep c_laid_thrown_cells c_laid_thrown_filled c_laid_nets_cells c_laid_nets_filled c_trial_stand c_trial_home c_trial_priceStart c_trial_priceStep c_trial_thrown_cells c_trial_thrown_filled c_trial_nets_cells c_trial_nets_filled c_flight_loads_cells c_flight_loads_filled c_flight_order c_flight_done c_flight_start c_flight_end c_changes_who c_changes_column c_changes_was c_changes_held c_kept_older_cells c_kept_older_filled c_kept_newer_cells c_kept_newer_filled c_kept_held c_turns_need) H locs → W p l e (RM 6 143) s m args below meth c H locs 0 0 QQ (F0 m 50 ls []) := fun b0 b1 e ls H locs hl hG => ih b0 b1 ex4 (hi _ e) K0 ls H locs hl hG
      have KX : ∀ (x4 : Int32), w = .inr x4 → ∀ (ls : Array Slot) (H : Heap) (locs : List Loc), lv_has ls 6 [(4, .int x4)] → G dC dI A H0 (W_X8 a0 a1 a2 a3 a4 a5 a6 a7 a8 a9 a10 a11 a12 a13 a14 a15 a16 a17 a18 a19 a20 a21 a22 a23 a24 a25 a26 a27 a28 a29 cI cJ c_text_bytes c_text_length c_reader_numbers c_reader_next c_laid_stand c_laid_home c_laid_priceStart c_laid_priceStep c_laid_thrown_cells c_laid_thrown_filled c_laid_nets_cells c_laid_nets_filled c_trial_stand c_trial_home c_trial_priceStart c_trial_priceStep c_trial_thrown_cells c_trial_thrown_filled c_trial_nets_cells c_trial_nets_filled c_flight_loads_cells c_flight_loads_filled c_flight_order c_flight_done c_flight_start c_flight_end c_changes_who c_changes_column c_changes_was c_changes_held c_kept_older_cells c_kept_older_filled c_kept_newer_cells c_kept_newer_filled c_kept_held c_turns_need) H locs → W p l e (RM 6 143) s m args below meth c H locs 0 0 QQ (F0 m 108 ls []) := fun b0 e ls H locs hl hG => by cases hr _ e; exact K0 ls H locs hl hG
      clear h0 hi hr K0 ih
      unfold DX8_stray_L50s at h
      refine lv_iload hx hb dX8_stray_50 (lv_at hl 5 rfl) ?_
      refine lv_aload_n hx hb dX8_stray_52 rfl (lv_at hl 0 rfl) ?_
      refine r_get X hG in_X8 rfl 2 (by decide) w_237 0 rfl rfl dX8_stray_53 ?_
      refine r_getN X hG in_X3 rfl 4 (by decide) w_136 5 rfl rfl dX8_stray_56 ?_
      obtain ⟨r_16, hz_17, h⟩ := bd1_some h
      refine aft_i (ws' := (W_X8 a0 a1 a2 a3 a4 a5 a6 a7 a8 a9 a10 a11 a12 a13 a14 a15 a16 a17 a18 a19 a20 a21 a22 a23 a24 a25 a26 a27 a28 a29 cI cJ c_text_bytes c_text_length c_reader_numbers c_reader_next c_laid_stand c_laid_home c_laid_priceStart c_laid_priceStep c_laid_thrown_cells c_laid_thrown_filled c_laid_nets_cells c_laid_nets_filled c_trial_stand c_trial_home c_trial_priceStart c_trial_priceStep c_trial_thrown_cells c_trial_thrown_filled c_trial_nets_cells c_trial_nets_filled c_flight_loads_cells c_flight_loads_filled c_flight_order c_flight_done c_flight_start c_flight_end c_changes_who c_changes_column c_changes_was c_changes_held c_kept_older_cells c_kept_older_filled c_kept_newer_cells c_kept_newer_filled c_kept_held c_turns_need)) (run_V (rest := [.int x5]) X hG hl.1 (mX5_rows l dC dI cI cJ a6 a7 (7 : Int32) (4 : Int32) 28 c_laid_thrown_cells c_laid_thrown_filled hz_17) gi_V_X8_90 hd_V_yX5_rows ⟨rfl, rfl⟩ rfl ⟨Nat.le_of_ble_eq_true rfl, Nat.le_of_ble_eq_true rfl⟩ [6, 7] (by decide) rfl 6 rfl rfl rfl rfl (Nat.le_of_ble_eq_true rfl) ⟨Nat.le_of_ble_eq_true rfl, Nat.le_of_ble_eq_true rfl⟩ dX8_stray_59) hG [6, 7] rfl rfl rfl (fun H locs hG => ?_)
      clear hz_17
      refine lv_icmp_ge (tgt := 108) hx hb dX8_stray_62 (by decide) (fun c_18 => ?_) (fun c_18 => ?_)
      · have h := ite_t h c_18
        exact KX _ (Option.some.inj h).symm _ _ _ (lv_sub hl [4] rfl) hG
      · have h := ite_f h c_18
        refine lv_aload_n hx hb dX8_stray_65 rfl (lv_at hl 0 rfl) ?_
        refine r_get X hG in_X8 rfl 4 (by decide) w_239 0 rfl rfl dX8_stray_66 ?_
        refine lv_iload hx hb dX8_stray_69 (lv_at hl 5 rfl) ?_
        refine lv_iload_n hx hb dX8_stray_71 rfl (lv_at hl 3 rfl) ?_
        obtain ⟨r_19, hz_20, h⟩ := bd1_some h
        refine aft_i (ws' := (W_X8 a0 a1 a2 a3 a4 a5 a6 a7 a8 a9 a10 a11 a12 a13 a14 a15 a16 a17 a18 a19 a20 a21 a22 a23 a24 a25 a26 a27 a28 a29 cI cJ c_text_bytes c_text_length c_reader_numbers c_reader_next c_laid_stand c_laid_home c_laid_priceStart c_laid_priceStep c_laid_thrown_cells c_laid_thrown_filled c_laid_nets_cells c_laid_nets_filled c_trial_stand c_trial_home c_trial_priceStart c_trial_priceStep c_trial_thrown_cells c_trial_thrown_filled c_trial_nets_cells c_trial_nets_filled c_flight_loads_cells c_flight_loads_filled c_flight_order c_flight_done c_flight_start c_flight_end c_changes_who c_changes_column c_changes_was c_changes_held c_kept_older_cells c_kept_older_filled c_kept_newer_cells c_kept_newer_filled c_kept_held c_turns_need)) (run_V (rest := []) X hG hl.1 (mX1_farOn l dC dI cI cJ a15 a16 a17 a18 c_flight_loads_cells c_flight_loads_filled c_flight_order c_flight_done c_flight_start c_flight_end x5 x3 hz_20) gi_V_X8_114 hd_V_yX1_farOn ⟨rfl, rfl⟩ rfl ⟨Nat.le_of_ble_eq_true rfl, Nat.le_of_ble_eq_true rfl⟩ [15, 16, 17, 18] (by decide) rfl 15 rfl rfl rfl rfl (Nat.le_of_ble_eq_true rfl) ⟨Nat.le_of_ble_eq_true rfl, Nat.le_of_ble_eq_true rfl⟩ dX8_stray_72) hG [15, 16, 17, 18] rfl rfl rfl (fun H locs hG => ?_)
        clear hz_20
        refine lv_iload_n hx hb dX8_stray_75 rfl (lv_at hl 1 rfl) ?_
        refine lv_icmp_ne (tgt := 102) hx hb dX8_stray_76 (by decide) (fun c_21 => ?_) (fun c_21 => ?_)
        · have h := ite_f h c_21
          refine lv_iinc (v := (x5 + (1 : Int32))) (lv' := [(5, .int (x5 + (1 : Int32))), (0, .ref a0), (1, .int x1), (2, .int x2), (3, .int x3), (4, .int x4)]) hx hb dX8_stray_102 hl (k := 5) rfl rfl (by decide) rfl (fun ls hl => ?_)
          refine lv_goto (tgt := 50) hx hb dX8_stray_105 (by decide) ?_
          exact KC _ _ (Option.some.inj h).symm _ _ _ (lv_sub hl [1, 2, 3, 4, 5, 0] rfl) hG
        · have h := ite_t h c_21
          refine lv_aload_n hx hb dX8_stray_79 rfl (lv_at hl 0 rfl) ?_
          refine r_get X hG in_X8 rfl 4 (by decide) w_239 0 rfl rfl dX8_stray_80 ?_
          refine lv_iload hx hb dX8_stray_83 (lv_at hl 5 rfl) ?_
          refine lv_iconst (v := (4 : Int32)) hx hb dX8_stray_85 (by decide) ?_
          obtain ⟨r_22, hz_23, h⟩ := bd1_some h
          refine aft_i (ws' := (W_X8 a0 a1 a2 a3 a4 a5 a6 a7 a8 a9 a10 a11 a12 a13 a14 a15 a16 a17 a18 a19 a20 a21 a22 a23 a24 a25 a26 a27 a28 a29 cI cJ c_text_bytes c_text_length c_reader_numbers c_reader_next c_laid_stand c_laid_home c_laid_priceStart c_laid_priceStep c_laid_thrown_cells c_laid_thrown_filled c_laid_nets_cells c_laid_nets_filled c_trial_stand c_trial_home c_trial_priceStart c_trial_priceStep c_trial_thrown_cells c_trial_thrown_filled c_trial_nets_cells c_trial_nets_filled c_flight_loads_cells c_flight_loads_filled c_flight_order c_flight_done c_flight_start c_flight_end c_changes_who c_changes_column c_changes_was c_changes_held c_kept_older_cells c_kept_older_filled c_kept_newer_cells c_kept_newer_filled c_kept_held c_turns_need)) (run_V (rest := []) X hG hl.1 (mX1_known l dC dI cI cJ a15 a16 a17 a18 c_flight_loads_cells c_flight_loads_filled c_flight_order c_flight_done c_flight_start c_flight_end x5 (4 : Int32) hz_23) gi_V_X8_110 hd_V_yX1_known ⟨rfl, rfl⟩ rfl ⟨Nat.le_of_ble_eq_true rfl, Nat.le_of_ble_eq_true rfl⟩ [15, 16, 17, 18] (by decide) rfl 15 rfl rfl rfl rfl (Nat.le_of_ble_eq_true rfl) ⟨Nat.le_of_ble_eq_true rfl, Nat.le_of_ble_eq_true rfl⟩ dX8_stray_86) hG [15, 16, 17, 18] rfl rfl rfl (fun H locs hG => ?_)
          clear hz_23
          refine lv_iload_n hx hb dX8_stray_89 rfl (lv_at hl 2 rfl) ?_
          refine lv_icmp_ne (tgt := 102) hx hb dX8_stray_90 (by decide) (fun c_24 => ?_) (fun c_24 => ?_)
          · have h := ite_f h c_24
            refine lv_iinc (v := (x5 + (1 : Int32))) (lv' := [(5, .int (x5 + (1 : Int32))), (0, .ref a0), (1, .int x1), (2, .int x2), (3, .int x3), (4, .int x4)]) hx hb dX8_stray_102 hl (k := 5) rfl rfl (by decide) rfl (fun ls hl => ?_)
            refine lv_goto (tgt := 50) hx hb dX8_stray_105 (by decide) ?_
            exact KC _ _ (Option.some.inj h).symm _ _ _ (lv_sub hl [1, 2, 3, 4, 5, 0] rfl) hG
          · have h := ite_t h c_24
            refine lv_iload hx hb dX8_stray_93 (lv_at hl 4 rfl) ?_
            refine lv_iconst (v := (1 : Int32)) hx hb dX8_stray_95 (by decide) ?_
            refine lv_iload hx hb dX8_stray_96 (lv_at hl 5 rfl) ?_
            refine lv_ishl hx hb dX8_stray_98 ?_
            refine lv_ior hx hb dX8_stray_99 ?_
            refine lv_istore (lv' := [(4, .int (x4 ||| ((1 : Int32) <<< (x5 &&& 31)))), (0, .ref a0), (1, .int x1), (2, .int x2), (3, .int x3), (5, .int x5)]) hx hb dX8_stray_100 hl (by decide) rfl (fun ls hl => ?_)
            refine lv_iinc (v := (x5 + (1 : Int32))) (lv' := [(5, .int (x5 + (1 : Int32))), (4, .int (x4 ||| ((1 : Int32) <<< (x5 &&& 31)))), (0, .ref a0), (1, .int x1), (2, .int x2), (3, .int x3)]) hx hb dX8_stray_102 hl (k := 5) rfl rfl (by decide) rfl (fun ls hl => ?_)
            refine lv_goto (tgt := 50) hx hb dX8_stray_105 (by decide) ?_
            exact KC _ _ (Option.some.inj h).symm _ _ _ (lv_sub hl [2, 3, 4, 5, 1, 0] rfl) hG
  have h := hD
  unfold DX8_stray at h
  clear hD
  refine lv_iload_n hx hb dX8_stray_0 rfl (lv_at hl 1 rfl) ?_
  refine lv_iconst (v := (0 : Int32)) hx hb dX8_stray_1 (by decide) ?_
  refine lv_bipush (v := (60 : Int32)) hx hb dX8_stray_2 (by decide) ?_
  obtain ⟨r_1, hz_2, h⟩ := bd1_some h
  refine aft_i (ws' := (W_X8 a0 a1 a2 a3 a4 a5 a6 a7 a8 a9 a10 a11 a12 a13 a14 a15 a16 a17 a18 a19 a20 a21 a22 a23 a24 a25 a26 a27 a28 a29 cI cJ c_text_bytes c_text_length c_reader_numbers c_reader_next c_laid_stand c_laid_home c_laid_priceStart c_laid_priceStep c_laid_thrown_cells c_laid_thrown_filled c_laid_nets_cells c_laid_nets_filled c_trial_stand c_trial_home c_trial_priceStart c_trial_priceStep c_trial_thrown_cells c_trial_thrown_filled c_trial_nets_cells c_trial_nets_filled c_flight_loads_cells c_flight_loads_filled c_flight_order c_flight_done c_flight_start c_flight_end c_changes_who c_changes_column c_changes_was c_changes_held c_kept_older_cells c_kept_older_filled c_kept_newer_cells c_kept_newer_filled c_kept_held c_turns_need)) (run_S (rest := []) X hG hl.1 (mX8_within l dC dI cI cJ x1 (0 : Int32) (60 : Int32) hz_2) gi_S_X8_74 hd_S_yX8_within ⟨rfl, rfl⟩ rfl ⟨Nat.le_of_ble_eq_true rfl, Nat.le_of_ble_eq_true rfl⟩ [] (by decide) rfl rfl (Nat.le_of_ble_eq_true rfl) ⟨Nat.le_of_ble_eq_true rfl, Nat.le_of_ble_eq_true rfl⟩ dX8_stray_4) hG [] rfl rfl rfl (fun H locs hG => ?_)
  clear hz_2
  refine lv_if_eq (tgt := 30) hx hb dX8_stray_7 (by decide) (fun c_3 => ?_) (fun c_3 => ?_)
  · have h := ite_t h c_3
    refine lv_iconst (v := (-1 : Int32)) hx hb dX8_stray_30 (by decide) ?_
    cases h
    exact ret _ _ _ _ dX8_stray_31 hG
  · have h := ite_f h c_3
    refine lv_iload_n hx hb dX8_stray_10 rfl (lv_at hl 2 rfl) ?_
    refine lv_iconst (v := (0 : Int32)) hx hb dX8_stray_11 (by decide) ?_
    refine lv_bipush (v := (23 : Int32)) hx hb dX8_stray_12 (by decide) ?_
    obtain ⟨r_4, hz_5, h⟩ := bd1_some h
    refine aft_i (ws' := (W_X8 a0 a1 a2 a3 a4 a5 a6 a7 a8 a9 a10 a11 a12 a13 a14 a15 a16 a17 a18 a19 a20 a21 a22 a23 a24 a25 a26 a27 a28 a29 cI cJ c_text_bytes c_text_length c_reader_numbers c_reader_next c_laid_stand c_laid_home c_laid_priceStart c_laid_priceStep c_laid_thrown_cells c_laid_thrown_filled c_laid_nets_cells c_laid_nets_filled c_trial_stand c_trial_home c_trial_priceStart c_trial_priceStep c_trial_thrown_cells c_trial_thrown_filled c_trial_nets_cells c_trial_nets_filled c_flight_loads_cells c_flight_loads_filled c_flight_order c_flight_done c_flight_start c_flight_end c_changes_who c_changes_column c_changes_was c_changes_held c_kept_older_cells c_kept_older_filled c_kept_newer_cells c_kept_newer_filled c_kept_held c_turns_need)) (run_S (rest := []) X hG hl.1 (mX8_within l dC dI cI cJ x2 (0 : Int32) (23 : Int32) hz_5) gi_S_X8_74 hd_S_yX8_within ⟨rfl, rfl⟩ rfl ⟨Nat.le_of_ble_eq_true rfl, Nat.le_of_ble_eq_true rfl⟩ [] (by decide) rfl rfl (Nat.le_of_ble_eq_true rfl) ⟨Nat.le_of_ble_eq_true rfl, Nat.le_of_ble_eq_true rfl⟩ dX8_stray_14) hG [] rfl rfl rfl (fun H locs hG => ?_)
    clear hz_5
    refine lv_if_eq (tgt := 30) hx hb dX8_stray_17 (by decide) (fun c_6 => ?_) (fun c_6 => ?_)
    · have h := ite_t h c_6
      refine lv_iconst (v := (-1 : Int32)) hx hb dX8_stray_30 (by decide) ?_
      cases h
      exact ret _ _ _ _ dX8_stray_31 hG
    · have h := ite_f h c_6
      refine lv_iload_n hx hb dX8_stray_20 rfl (lv_at hl 3 rfl) ?_
      refine lv_iconst (v := (0 : Int32)) hx hb dX8_stray_21 (by decide) ?_
      refine lv_bipush (v := (99 : Int32)) hx hb dX8_stray_22 (by decide) ?_
      obtain ⟨r_7, hz_8, h⟩ := bd1_some h
      refine aft_i (ws' := (W_X8 a0 a1 a2 a3 a4 a5 a6 a7 a8 a9 a10 a11 a12 a13 a14 a15 a16 a17 a18 a19 a20 a21 a22 a23 a24 a25 a26 a27 a28 a29 cI cJ c_text_bytes c_text_length c_reader_numbers c_reader_next c_laid_stand c_laid_home c_laid_priceStart c_laid_priceStep c_laid_thrown_cells c_laid_thrown_filled c_laid_nets_cells c_laid_nets_filled c_trial_stand c_trial_home c_trial_priceStart c_trial_priceStep c_trial_thrown_cells c_trial_thrown_filled c_trial_nets_cells c_trial_nets_filled c_flight_loads_cells c_flight_loads_filled c_flight_order c_flight_done c_flight_start c_flight_end c_changes_who c_changes_column c_changes_was c_changes_held c_kept_older_cells c_kept_older_filled c_kept_newer_cells c_kept_newer_filled c_kept_held c_turns_need)) (run_S (rest := []) X hG hl.1 (mX8_within l dC dI cI cJ x3 (0 : Int32) (99 : Int32) hz_8) gi_S_X8_74 hd_S_yX8_within ⟨rfl, rfl⟩ rfl ⟨Nat.le_of_ble_eq_true rfl, Nat.le_of_ble_eq_true rfl⟩ [] (by decide) rfl rfl (Nat.le_of_ble_eq_true rfl) ⟨Nat.le_of_ble_eq_true rfl, Nat.le_of_ble_eq_true rfl⟩ dX8_stray_24) hG [] rfl rfl rfl (fun H locs hG => ?_)
      clear hz_8
      refine lv_if_ne (tgt := 32) hx hb dX8_stray_27 (by decide) (fun c_9 => ?_) (fun c_9 => ?_)
      · have h := ite_f h c_9
        refine lv_iconst (v := (0 : Int32)) hx hb dX8_stray_32 (by decide) ?_
        refine lv_istore (lv' := [(4, .int (0 : Int32)), (0, .ref a0), (1, .int x1), (2, .int x2), (3, .int x3)]) hx hb dX8_stray_33 hl (by decide) rfl (fun ls hl => ?_)
        refine lv_aload_n hx hb dX8_stray_35 rfl (lv_at hl 1 rfl) ?_
        refine r_get X hG in_X8 rfl 4 (by decide) w_239 0 rfl rfl dX8_stray_36 ?_
        refine lv_aload_n hx hb dX8_stray_39 rfl (lv_at hl 1 rfl) ?_
        refine r_get X hG in_X8 rfl 2 (by decide) w_237 0 rfl rfl dX8_stray_40 ?_
        refine lv_iconst (v := (0 : Int32)) hx hb dX8_stray_43 (by decide) ?_
        obtain ⟨k_flight_loads_cells_10, k_flight_order_11, k_flight_done_12, k_flight_start_13, k_flight_end_14, hz_15, h⟩ := bd5_some h
        refine aft_v (ws' := (W_X8 a0 a1 a2 a3 a4 a5 a6 a7 a8 a9 a10 a11 a12 a13 a14 a15 a16 a17 a18 a19 a20 a21 a22 a23 a24 a25 a26 a27 a28 a29 cI cJ c_text_bytes c_text_length c_reader_numbers c_reader_next c_laid_stand c_laid_home c_laid_priceStart c_laid_priceStep c_laid_thrown_cells c_laid_thrown_filled c_laid_nets_cells c_laid_nets_filled c_trial_stand c_trial_home c_trial_priceStart c_trial_priceStep c_trial_thrown_cells c_trial_thrown_filled c_trial_nets_cells c_trial_nets_filled k_flight_loads_cells_10 c_flight_loads_filled k_flight_order_11 k_flight_done_12 k_flight_start_13 k_flight_end_14 c_changes_who c_changes_column c_changes_was c_changes_held c_kept_older_cells c_kept_older_filled c_kept_newer_cells c_kept_newer_filled c_kept_held c_turns_need)) (run_V (rest := []) X hG hl.1 (mX1_fly l dC dI cI cJ a15 a16 a17 a18 a5 a6 a7 a8 a9 c_flight_loads_cells c_flight_loads_filled c_flight_order c_flight_done c_flight_start c_flight_end c_laid_stand c_laid_home c_laid_priceStart c_laid_priceStep c_laid_thrown_cells c_laid_thrown_filled c_laid_nets_cells c_laid_nets_filled (0 : Int32) hz_15) gi_V_X8_106 hd_V_yX1_fly ⟨rfl, rfl⟩ rfl ⟨Nat.le_of_ble_eq_true rfl, Nat.le_of_ble_eq_true rfl⟩ [15, 16, 17, 18, 5, 6, 7, 8, 9] (by decide) rfl 15 rfl rfl rfl rfl (Nat.le_of_ble_eq_true rfl) ⟨Nat.le_of_ble_eq_true rfl, Nat.le_of_ble_eq_true rfl⟩ dX8_stray_44) hG [15, 16, 17, 18, 5, 6, 7, 8, 9] rfl rfl rfl (fun H locs hG => ?_)
        clear hz_15
        refine lv_iconst (v := (0 : Int32)) hx hb dX8_stray_47 (by decide) ?_
        refine lv_istore (lv' := [(5, .int (0 : Int32)), (4, .int (0 : Int32)), (0, .ref a0), (1, .int x1), (2, .int x2), (3, .int x3)]) hx hb dX8_stray_48 hl (by decide) rfl (fun ls hl => ?_)
        obtain ⟨z4_25, hz, h⟩ := bd1_some h
        refine L50 k_flight_loads_cells_10 k_flight_order_11 k_flight_done_12 k_flight_start_13 k_flight_end_14 FU (0 : Int32) (0 : Int32) _ hz (fun ls H locs hl hG => ?_) _ _ _ (lv_sub hl [2, 3, 4, 5, 1, 0] rfl) hG
        clear hz
        refine lv_iload hx hb dX8_stray_108 (lv_at hl 0 rfl) ?_
        cases h
        exact ret _ _ _ _ dX8_stray_110 hG
      · have h := ite_t h c_9
        refine lv_iconst (v := (-1 : Int32)) hx hb dX8_stray_30 (by decide) ?_
        cases h
        exact ret _ _ _ _ dX8_stray_31 hG
set_option maxRecDepth 100000 in
set_option maxHeartbeats 4000000 in
theorem mX8_meeters (l : Launch) (dC : Nat → ClassId) (dI : Nat → Nat → Nat) (cI cJ : ClassId) (a0 a1 a2 a3 a4 a5 a6 a7 a8 a9 a10 a11 a12 a13 a14 a15 a16 a17 a18 a19 a20 a21 a22 a23 a24 a25 a26 a27 a28 a29 : Nat) (c_text_bytes : Nat → Int32) (c_text_length : Int32) (c_reader_numbers : Nat → Int32) (c_reader_next : Int32) (c_laid_stand : Int32) (c_laid_home : Int32) (c_laid_priceStart : Int32) (c_laid_priceStep : Int32) (c_laid_thrown_cells : Nat → Int32) (c_laid_thrown_filled : Int32) (c_laid_nets_cells : Nat → Int32) (c_laid_nets_filled : Int32) (c_trial_stand : Int32) (c_trial_home : Int32) (c_trial_priceStart : Int32) (c_trial_priceStep : Int32) (c_trial_thrown_cells : Nat → Int32) (c_trial_thrown_filled : Int32) (c_trial_nets_cells : Nat → Int32) (c_trial_nets_filled : Int32) (c_flight_loads_cells : Nat → Int32) (c_flight_loads_filled : Int32) (c_flight_order : Nat → Int32) (c_flight_done : Int32) (c_flight_start : Int32) (c_flight_end : Int32) (c_changes_who : Nat → Int32) (c_changes_column : Nat → Int32) (c_changes_was : Nat → Int32) (c_changes_held : Int32) (c_kept_older_cells : Nat → Int32) (c_kept_older_filled : Int32) (c_kept_newer_cells : Nat → Int32) (c_kept_newer_filled : Int32) (c_kept_held : Int32) (c_turns_need : Nat → Int32) (x1 : Int32) (x2 : Int32) {res : Int32} (hD : DX8_meeters x1 x2 c_laid_home c_laid_thrown_cells c_laid_thrown_filled = some res) : Met l yX8_meeters (WZ yX8_meeters cX8_meeters 8 (some .int)) (RM 1 28) (PC dC dI cI cJ [.ref a0, .int x1, .int x2] (W_X8 a0 a1 a2 a3 a4 a5 a6 a7 a8 a9 a10 a11 a12 a13 a14 a15 a16 a17 a18 a19 a20 a21 a22 a23 a24 a25 a26 a27 a28 a29 cI cJ c_text_bytes c_text_length c_reader_numbers c_reader_next c_laid_stand c_laid_home c_laid_priceStart c_laid_priceStep c_laid_thrown_cells c_laid_thrown_filled c_laid_nets_cells c_laid_nets_filled c_trial_stand c_trial_home c_trial_priceStart c_trial_priceStep c_trial_thrown_cells c_trial_thrown_filled c_trial_nets_cells c_trial_nets_filled c_flight_loads_cells c_flight_loads_filled c_flight_order c_flight_done c_flight_start c_flight_end c_changes_who c_changes_column c_changes_was c_changes_held c_kept_older_cells c_kept_older_filled c_kept_newer_cells c_kept_newer_filled c_kept_held c_turns_need)) (QI dC dI (W_X8 a0 a1 a2 a3 a4 a5 a6 a7 a8 a9 a10 a11 a12 a13 a14 a15 a16 a17 a18 a19 a20 a21 a22 a23 a24 a25 a26 a27 a28 a29 cI cJ c_text_bytes c_text_length c_reader_numbers c_reader_next c_laid_stand c_laid_home c_laid_priceStart c_laid_priceStep c_laid_thrown_cells c_laid_thrown_filled c_laid_nets_cells c_laid_nets_filled c_trial_stand c_trial_home c_trial_priceStart c_trial_priceStep c_trial_thrown_cells c_trial_thrown_filled c_trial_nets_cells c_trial_nets_filled c_flight_loads_cells c_flight_loads_filled c_flight_order c_flight_done c_flight_start c_flight_end c_changes_who c_changes_column c_changes_was c_changes_held c_kept_older_cells c_kept_older_filled c_kept_newer_cells c_kept_newer_filled c_kept_held c_turns_need) (W_X8 a0 a1 a2 a3 a4 a5 a6 a7 a8 a9 a10 a11 a12 a13 a14 a15 a16 a17 a18 a19 a20 a21 a22 a23 a24 a25 a26 a27 a28 a29 cI cJ c_text_bytes c_text_length c_reader_numbers c_reader_next c_laid_stand c_laid_home c_laid_priceStart c_laid_priceStep c_laid_thrown_cells c_laid_thrown_filled c_laid_nets_cells c_laid_nets_filled c_trial_stand c_trial_home c_trial_priceStart c_trial_priceStep c_trial_thrown_cells c_trial_thrown_filled c_trial_nets_cells c_trial_nets_filled c_flight_loads_cells c_flight_loads_filled c_flight_order c_flight_done c_flight_start c_flight_end c_changes_who c_changes_column c_changes_was c_changes_held c_kept_older_cells c_kept_older_filled c_kept_newer_cells c_kept_newer_filled c_kept_held c_turns_need) res) 0 0 (FA (W_X8 a0 a1 a2 a3 a4 a5 a6 a7 a8 a9 a10 a11 a12 a13 a14 a15 a16 a17 a18 a19 a20 a21 a22 a23 a24 a25 a26 a27 a28 a29 cI cJ c_text_bytes c_text_length c_reader_numbers c_reader_next c_laid_stand c_laid_home c_laid_priceStart c_laid_priceStep c_laid_thrown_cells c_laid_thrown_filled c_laid_nets_cells c_laid_nets_filled c_trial_stand c_trial_home c_trial_priceStart c_trial_priceStep c_trial_thrown_cells c_trial_thrown_filled c_trial_nets_cells c_trial_nets_filled c_flight_loads_cells c_flight_loads_filled c_flight_order c_flight_done c_flight_start c_flight_end c_changes_who c_changes_column c_changes_was c_changes_held c_kept_older_cells c_kept_older_filled c_kept_newer_cells c_kept_newer_filled c_kept_held c_turns_need)) := by
  refine r_metI (by decide +kernel) (Nat.le_of_ble_eq_true rfl) ?_
  intro p e s m args below meth c A H0 QQ X ret ls hl hG
  have X : Cx p m c cX8_meeters 8 s args RX8 dC dI cI cJ meth (some .int) := X
  have hx := X.1.1
  have hb := X.1.2.1
  have hl : lv_has ls 8 [(0, .ref a0), (1, .int x1), (2, .int x2)] := hl
  have L44 : ∀ (x5 : Int32), ∀ (n : Nat) (x3 : Int32) (x4 : Int32) (x6 : Int32) (ex3 : Int32) (ex4 : Int32), DX8_meeters_L44 x1 c_laid_home c_laid_thrown_cells x5 n x3 x4 x6 = some (ex3, ex4) → (∀ (ls : Array Slot) (H : Heap) (locs : List Loc), lv_has ls 8 [(0, .ref a0), (1, .int x1), (2, .int x2), (3, .int ex3), (4, .int ex4), (5, .int x5)] → G dC dI A H0 (W_X8 a0 a1 a2 a3 a4 a5 a6 a7 a8 a9 a10 a11 a12 a13 a14 a15 a16 a17 a18 a19 a20 a21 a22 a23 a24 a25 a26 a27 a28 a29 cI cJ c_text_bytes c_text_length c_reader_numbers c_reader_next c_laid_stand c_laid_home c_laid_priceStart c_laid_priceStep c_laid_thrown_cells c_laid_thrown_filled c_laid_nets_cells c_laid_nets_filled c_trial_stand c_trial_home c_trial_priceStart c_trial_priceStep c_trial_thrown_cells c_trial_thrown_filled c_trial_nets_cells c_trial_nets_filled c_flight_loads_cells c_flight_loads_filled c_flight_order c_flight_done c_flight_start c_flight_end c_changes_who c_changes_column c_changes_was c_changes_held c_kept_older_cells c_kept_older_filled c_kept_newer_cells c_kept_newer_filled c_kept_held c_turns_need) H locs → W p l e (RM 1 28) s m args below meth c H locs 0 0 QQ (F0 m 130 ls [])) → ∀ (ls : Array Slot) (H : Heap) (locs : List Loc), lv_has ls 8 [(0, .ref a0), (1, .int x1), (2, .int x2), (3, .int x3), (4, .int x4), (5, .int x5), (6, .int x6)] → G dC dI A H0 (W_X8 a0 a1 a2 a3 a4 a5 a6 a7 a8 a9 a10 a11 a12 a13 a14 a15 a16 a17 a18 a19 a20 a21 a22 a23 a24 a25 a26 a27 a28 a29 cI cJ c_text_bytes c_text_length c_reader_numbers c_reader_next c_laid_stand c_laid_home c_laid_priceStart c_laid_priceStep c_laid_thrown_cells c_laid_thrown_filled c_laid_nets_cells c_laid_nets_filled c_trial_stand c_trial_home c_trial_priceStart c_trial_priceStep c_trial_thrown_cells c_trial_thrown_filled c_trial_nets_cells c_trial_nets_filled c_flight_loads_cells c_flight_loads_filled c_flight_order c_flight_done c_flight_start c_flight_end c_changes_who c_changes_column c_changes_was c_changes_held c_kept_older_cells c_kept_older_filled c_kept_newer_cells c_kept_newer_filled c_kept_held c_turns_need) H locs → W p l e (RM 1 28) s m args below meth c H locs 0 0 QQ (F0 m 44 ls []) := by
    intro x5 n
    induction n with
    | zero => intro x3 x4 x6 ex3 ex4 h; exact it_zero h
    | succ n ih =>
      intro x3 x4 x6 ex3 ex4 h0 K0 ls H locs hl hG
      obtain ⟨w, h, hi, hr⟩ := it_succ h0
      have h : DX8_meeters_L44s x1 c_laid_home c_laid_thrown_cells x5 x3 x4 x6 = some w := h
      have KC : ∀ (x3 : Int32) (x4 : Int32) (x6 : Int32), w = .inl (x3, x4, x6) → ∀ (ls : Array Slot) (H : Heap) (locs : List Loc), lv_has ls 8 [(0, .ref a0), (1, .int x1), (2, .int x2), (3, .int x3), (4, .int x4), (5, .int x5), (6, .int x6)] → G dC dI A H0 (W_X8 a0 a1 a2 a3 a4 a5 a6 a7 a8 a9 a10 a11 a12 a13 a14 a15 a16 a17 a18 a19 a20 a21 a22 a23 a24 a25 a26 a27 a28 a29 cI cJ c_text_bytes c_text_length c_reader_numbers c_reader_next c_laid_stand c_laid_home c_laid_priceStart c_laid_priceStep c_laid_thrown_cells c_laid_thrown_filled c_laid_nets_cells c_laid_nets_filled c_trial_stand c_trial_home c_trial_priceStart c_trial_priceStep c_trial_thrown_cells c_trial_thrown_filled c_trial_nets_cells c_trial_nets_filled c_flight_loads_cells c_flight_loads_filled c_flight_order c_flight_done c_flight_start c_flight_end c_changes_who c_changes_column c_changes_was c_changes_held c_kept_older_cells c_kept_older_filled c_kept_newer_cells c_kept_newer_filled c_kept_held c_turns_need) H locs → W p l e (RM 1 28) s m args below meth c H locs 0 0 QQ (F0 m 44 ls []) := fun b0 b1 b2 e ls H locs hl hG => ih b0 b1 b2 ex3 ex4 (hi _ e) K0 ls H locs hl hG
      have KX : ∀ (x3 : Int32) (x4 : Int32), w = .inr (x3, x4) → ∀ (ls : Array Slot) (H : Heap) (locs : List Loc), lv_has ls 8 [(0, .ref a0), (1, .int x1), (2, .int x2), (3, .int x3), (4, .int x4), (5, .int x5)] → G dC dI A H0 (W_X8 a0 a1 a2 a3 a4 a5 a6 a7 a8 a9 a10 a11 a12 a13 a14 a15 a16 a17 a18 a19 a20 a21 a22 a23 a24 a25 a26 a27 a28 a29 cI cJ c_text_bytes c_text_length c_reader_numbers c_reader_next c_laid_stand c_laid_home c_laid_priceStart c_laid_priceStep c_laid_thrown_cells c_laid_thrown_filled c_laid_nets_cells c_laid_nets_filled c_trial_stand c_trial_home c_trial_priceStart c_trial_priceStep c_trial_thrown_cells c_trial_thrown_filled c_trial_nets_cells c_trial_nets_filled c_flight_loads_cells c_flight_loads_filled c_flight_order c_flight_done c_flight_start c_flight_end c_changes_who c_changes_column c_changes_was c_changes_held c_kept_older_cells c_kept_older_filled c_kept_newer_cells c_kept_newer_filled c_kept_held c_turns_need) H locs → W p l e (RM 1 28) s m args below meth c H locs 0 0 QQ (F0 m 130 ls []) := fun b0 b1 e ls H locs hl hG => by cases hr _ e; exact K0 ls H locs hl hG
      clear h0 hi hr K0 ih
      unfold DX8_meeters_L44s at h
      refine lv_iload hx hb dX8_meeters_44 (lv_at hl 6 rfl) ?_
      refine lv_bipush (v := (6 : Int32)) hx hb dX8_meeters_46 (by decide) ?_
      refine lv_icmp_gt (tgt := 130) hx hb dX8_meeters_48 (by decide) (fun c_8 => ?_) (fun c_8 => ?_)
      · have h := ite_t h c_8
        exact KX _ _ (Option.some.inj h).symm _ _ _ (lv_sub hl [0, 1, 2, 3, 4, 5] rfl) hG
      · have h := ite_f h c_8
        refine lv_aload_n hx hb dX8_meeters_51 rfl (lv_at hl 0 rfl) ?_
        refine r_get X hG in_X8 rfl 2 (by decide) w_237 0 rfl rfl dX8_meeters_52 ?_
        refine r_getN X hG in_X3 rfl 4 (by decide) w_136 5 rfl rfl dX8_meeters_55 ?_
        refine lv_iload_n hx hb dX8_meeters_58 rfl (lv_at hl 1 rfl) ?_
        refine lv_iconst (v := (0 : Int32)) hx hb dX8_meeters_59 (by decide) ?_
        obtain ⟨r_9, hz_10, h⟩ := bd1_some h
        refine aft_i (ws' := (W_X8 a0 a1 a2 a3 a4 a5 a6 a7 a8 a9 a10 a11 a12 a13 a14 a15 a16 a17 a18 a19 a20 a21 a22 a23 a24 a25 a26 a27 a28 a29 cI cJ c_text_bytes c_text_length c_reader_numbers c_reader_next c_laid_stand c_laid_home c_laid_priceStart c_laid_priceStep c_laid_thrown_cells c_laid_thrown_filled c_laid_nets_cells c_laid_nets_filled c_trial_stand c_trial_home c_trial_priceStart c_trial_priceStep c_trial_thrown_cells c_trial_thrown_filled c_trial_nets_cells c_trial_nets_filled c_flight_loads_cells c_flight_loads_filled c_flight_order c_flight_done c_flight_start c_flight_end c_changes_who c_changes_column c_changes_was c_changes_held c_kept_older_cells c_kept_older_filled c_kept_newer_cells c_kept_newer_filled c_kept_held c_turns_need)) (run_V (rest := []) X hG hl.1 (mX5_get l dC dI cI cJ a6 a7 (7 : Int32) (4 : Int32) 28 c_laid_thrown_cells c_laid_thrown_filled x1 (0 : Int32) hz_10) gi_V_X8_141 hd_V_yX5_get ⟨rfl, rfl⟩ rfl ⟨Nat.le_of_ble_eq_true rfl, Nat.le_of_ble_eq_true rfl⟩ [6, 7] (by decide) rfl 6 rfl rfl rfl rfl (Nat.le_of_ble_eq_true rfl) ⟨Nat.le_of_ble_eq_true rfl, Nat.le_of_ble_eq_true rfl⟩ dX8_meeters_60) hG [6, 7] rfl rfl rfl (fun H locs hG => ?_)
        clear hz_10
        refine lv_aload_n hx hb dX8_meeters_63 rfl (lv_at hl 0 rfl) ?_
        refine r_get X hG in_X8 rfl 2 (by decide) w_237 0 rfl rfl dX8_meeters_64 ?_
        refine r_getN X hG in_X3 rfl 4 (by decide) w_136 5 rfl rfl dX8_meeters_67 ?_
        refine lv_iload_n hx hb dX8_meeters_70 rfl (lv_at hl 1 rfl) ?_
        refine lv_iconst (v := (2 : Int32)) hx hb dX8_meeters_71 (by decide) ?_
        obtain ⟨r_11, hz_12, h⟩ := bd1_some h
        refine aft_i (ws' := (W_X8 a0 a1 a2 a3 a4 a5 a6 a7 a8 a9 a10 a11 a12 a13 a14 a15 a16 a17 a18 a19 a20 a21 a22 a23 a24 a25 a26 a27 a28 a29 cI cJ c_text_bytes c_text_length c_reader_numbers c_reader_next c_laid_stand c_laid_home c_laid_priceStart c_laid_priceStep c_laid_thrown_cells c_laid_thrown_filled c_laid_nets_cells c_laid_nets_filled c_trial_stand c_trial_home c_trial_priceStart c_trial_priceStep c_trial_thrown_cells c_trial_thrown_filled c_trial_nets_cells c_trial_nets_filled c_flight_loads_cells c_flight_loads_filled c_flight_order c_flight_done c_flight_start c_flight_end c_changes_who c_changes_column c_changes_was c_changes_held c_kept_older_cells c_kept_older_filled c_kept_newer_cells c_kept_newer_filled c_kept_held c_turns_need)) (run_V (rest := [.int r_9]) X hG hl.1 (mX5_get l dC dI cI cJ a6 a7 (7 : Int32) (4 : Int32) 28 c_laid_thrown_cells c_laid_thrown_filled x1 (2 : Int32) hz_12) gi_V_X8_141 hd_V_yX5_get ⟨rfl, rfl⟩ rfl ⟨Nat.le_of_ble_eq_true rfl, Nat.le_of_ble_eq_true rfl⟩ [6, 7] (by decide) rfl 6 rfl rfl rfl rfl (Nat.le_of_ble_eq_true rfl) ⟨Nat.le_of_ble_eq_true rfl, Nat.le_of_ble_eq_true rfl⟩ dX8_meeters_72) hG [6, 7] rfl rfl rfl (fun H locs hG => ?_)
        clear hz_12
        refine lv_iload hx hb dX8_meeters_75 (lv_at hl 5 rfl) ?_
        refine lv_iload hx hb dX8_meeters_77 (lv_at hl 6 rfl) ?_
        refine lv_aload_n hx hb dX8_meeters_79 rfl (lv_at hl 0 rfl) ?_
        refine r_get X hG in_X8 rfl 2 (by decide) w_237 0 rfl rfl dX8_meeters_80 ?_
        refine r_getN X hG in_X3 rfl 1 (by decide) w_132 5 rfl rfl dX8_meeters_83 ?_
        obtain ⟨r_13, hz_14, h⟩ := bd1_some h
        refine aft_i (ws' := (W_X8 a0 a1 a2 a3 a4 a5 a6 a7 a8 a9 a10 a11 a12 a13 a14 a15 a16 a17 a18 a19 a20 a21 a22 a23 a24 a25 a26 a27 a28 a29 cI cJ c_text_bytes c_text_length c_reader_numbers c_reader_next c_laid_stand c_laid_home c_laid_priceStart c_laid_priceStep c_laid_thrown_cells c_laid_thrown_filled c_laid_nets_cells c_laid_nets_filled c_trial_stand c_trial_home c_trial_priceStart c_trial_priceStep c_trial_thrown_cells c_trial_thrown_filled c_trial_nets_cells c_trial_nets_filled c_flight_loads_cells c_flight_loads_filled c_flight_order c_flight_done c_flight_start c_flight_end c_changes_who c_changes_column c_changes_was c_changes_held c_kept_older_cells c_kept_older_filled c_kept_newer_cells c_kept_newer_filled c_kept_held c_turns_need)) (run_S (rest := []) X hG hl.1 (mX8_meetingDay l dC dI cI cJ r_9 r_11 x5 x6 c_laid_home hz_14) gi_S_X8_167 hd_S_yX8_meetingDay ⟨rfl, rfl⟩ rfl ⟨Nat.le_of_ble_eq_true rfl, Nat.le_of_ble_eq_true rfl⟩ [] (by decide) rfl rfl (Nat.le_of_ble_eq_true rfl) ⟨Nat.le_of_ble_eq_true rfl, Nat.le_of_ble_eq_true rfl⟩ dX8_meeters_86) hG [] rfl rfl rfl (fun H locs hG => ?_)
        clear hz_14
        refine lv_istore (lv' := [(7, .int r_13), (0, .ref a0), (1, .int x1), (2, .int x2), (3, .int x3), (4, .int x4), (5, .int x5), (6, .int x6)]) hx hb dX8_meeters_89 hl (by decide) rfl (fun ls hl => ?_)
        refine lv_iload hx hb dX8_meeters_91 (lv_at hl 0 rfl) ?_
        refine lv_sipush (v := (1000 : Int32)) hx hb dX8_meeters_93 (by decide) ?_
        refine lv_icmp_eq (tgt := 124) hx hb dX8_meeters_96 (by decide) (fun c_15 => ?_) (fun c_15 => ?_)
        · have h := ite_t h c_15
          refine lv_iinc (v := (x6 + (1 : Int32))) (lv' := [(6, .int (x6 + (1 : Int32))), (7, .int r_13), (0, .ref a0), (1, .int x1), (2, .int x2), (3, .int x3), (4, .int x4), (5, .int x5)]) hx hb dX8_meeters_124 hl (k := 7) rfl rfl (by decide) rfl (fun ls hl => ?_)
          refine lv_goto (tgt := 44) hx hb dX8_meeters_127 (by decide) ?_
          exact KC _ _ _ (Option.some.inj h).symm _ _ _ (lv_sub hl [2, 3, 4, 5, 6, 7, 0] rfl) hG
        · have h := ite_f h c_15
          refine lv_iinc (v := (x3 + (1 : Int32))) (lv' := [(3, .int (x3 + (1 : Int32))), (7, .int r_13), (0, .ref a0), (1, .int x1), (2, .int x2), (4, .int x4), (5, .int x5), (6, .int x6)]) hx hb dX8_meeters_99 hl (k := 4) rfl rfl (by decide) rfl (fun ls hl => ?_)
          refine lv_iload hx hb dX8_meeters_102 (lv_at hl 5 rfl) ?_
          refine lv_bipush (v := (-4 : Int32)) hx hb dX8_meeters_104 (by decide) ?_
          refine lv_icmp_ne (tgt := 120) hx hb dX8_meeters_106 (by decide) (fun c_16 => ?_) (fun c_16 => ?_)
          · have h := ite_f h c_16
            refine lv_iload hx hb dX8_meeters_120 (lv_at hl 5 rfl) ?_
            refine lv_istore (lv' := [(4, .int x4), (3, .int (x3 + (1 : Int32))), (7, .int r_13), (0, .ref a0), (1, .int x1), (2, .int x2), (5, .int x5), (6, .int x6)]) hx hb dX8_meeters_122 hl (by decide) rfl (fun ls hl => ?_)
            refine lv_iinc (v := (x6 + (1 : Int32))) (lv' := [(6, .int (x6 + (1 : Int32))), (4, .int x4), (3, .int (x3 + (1 : Int32))), (7, .int r_13), (0, .ref a0), (1, .int x1), (2, .int x2), (5, .int x5)]) hx hb dX8_meeters_124 hl (k := 7) rfl rfl (by decide) rfl (fun ls hl => ?_)
            refine lv_goto (tgt := 44) hx hb dX8_meeters_127 (by decide) ?_
            exact KC _ _ _ (Option.some.inj h).symm _ _ _ (lv_sub hl [4, 5, 6, 2, 1, 7, 0] rfl) hG
          · have h := ite_t h c_16
            refine lv_bipush (v := (10 : Int32)) hx hb dX8_meeters_109 (by decide) ?_
            refine lv_iload hx hb dX8_meeters_111 (lv_at hl 6 rfl) ?_
            refine lv_imul hx hb dX8_meeters_113 ?_
            refine lv_iload hx hb dX8_meeters_114 (lv_at hl 7 rfl) ?_
            refine lv_iadd hx hb dX8_meeters_116 ?_
            refine lv_goto (tgt := 122) hx hb dX8_meeters_117 (by decide) ?_
            refine lv_istore (lv' := [(4, .int (((10 : Int32) * x5) + x6)), (3, .int (x3 + (1 : Int32))), (7, .int r_13), (0, .ref a0), (1, .int x1), (2, .int x2), (5, .int x5), (6, .int x6)]) hx hb dX8_meeters_122 hl (by decide) rfl (fun ls hl => ?_)
            refine lv_iinc (v := (x6 + (1 : Int32))) (lv' := [(6, .int (x6 + (1 : Int32))), (4, .int (((10 : Int32) * x5) + x6)), (3, .int (x3 + (1 : Int32))), (7, .int r_13), (0, .ref a0), (1, .int x1), (2, .int x2), (5, .int x5)]) hx hb dX8_meeters_124 hl (k := 7) rfl rfl (by decide) rfl (fun ls hl => ?_)
            refine lv_goto (tgt := 44) hx hb dX8_meeters_127 (by decide) ?_
            exact KC _ _ _ (Option.some.inj h).symm _ _ _ (lv_sub hl [4, 5, 6, 2, 1, 7, 0] rfl) hG
  have L34 : ∀ (n : Nat) (x3 : Int32) (x4 : Int32) (x5 : Int32) (ex3 : Int32) (ex4 : Int32), DX8_meeters_L34 x1 c_laid_home c_laid_thrown_cells n x3 x4 x5 = some (ex3, ex4) → (∀ (ls : Array Slot) (H : Heap) (locs : List Loc), lv_has ls 8 [(2, .int x2), (3, .int ex3), (4, .int ex4)] → G dC dI A H0 (W_X8 a0 a1 a2 a3 a4 a5 a6 a7 a8 a9 a10 a11 a12 a13 a14 a15 a16 a17 a18 a19 a20 a21 a22 a23 a24 a25 a26 a27 a28 a29 cI cJ c_text_bytes c_text_length c_reader_numbers c_reader_next c_laid_stand c_laid_home c_laid_priceStart c_laid_priceStep c_laid_thrown_cells c_laid_thrown_filled c_laid_nets_cells c_laid_nets_filled c_trial_stand c_trial_home c_trial_priceStart c_trial_priceStep c_trial_thrown_cells c_trial_thrown_filled c_trial_nets_cells c_trial_nets_filled c_flight_loads_cells c_flight_loads_filled c_flight_order c_flight_done c_flight_start c_flight_end c_changes_who c_changes_column c_changes_was c_changes_held c_kept_older_cells c_kept_older_filled c_kept_newer_cells c_kept_newer_filled c_kept_held c_turns_need) H locs → W p l e (RM 1 28) s m args below meth c H locs 0 0 QQ (F0 m 136 ls [])) → ∀ (ls : Array Slot) (H : Heap) (locs : List Loc), lv_has ls 8 [(0, .ref a0), (1, .int x1), (2, .int x2), (3, .int x3), (4, .int x4), (5, .int x5)] → G dC dI A H0 (W_X8 a0 a1 a2 a3 a4 a5 a6 a7 a8 a9 a10 a11 a12 a13 a14 a15 a16 a17 a18 a19 a20 a21 a22 a23 a24 a25 a26 a27 a28 a29 cI cJ c_text_bytes c_text_length c_reader_numbers c_reader_next c_laid_stand c_laid_home c_laid_priceStart c_laid_priceStep c_laid_thrown_cells c_laid_thrown_filled c_laid_nets_cells c_laid_nets_filled c_trial_stand c_trial_home c_trial_priceStart c_trial_priceStep c_trial_thrown_cells c_trial_thrown_filled c_trial_nets_cells c_trial_nets_filled c_flight_loads_cells c_flight_loads_filled c_flight_order c_flight_done c_flight_start c_flight_end c_changes_who c_changes_column c_changes_was c_changes_held c_kept_older_cells c_kept_older_filled c_kept_newer_cells c_kept_newer_filled c_kept_held c_turns_need) H locs → W p l e (RM 1 28) s m args below meth c H locs 0 0 QQ (F0 m 34 ls []) := by
    intro  n
    induction n with
    | zero => intro x3 x4 x5 ex3 ex4 h; exact it_zero h
    | succ n ih =>
      intro x3 x4 x5 ex3 ex4 h0 K0 ls H locs hl hG
      obtain ⟨w, h, hi, hr⟩ := it_succ h0
      have h : DX8_meeters_L34s x1 c_laid_home c_laid_thrown_cells x3 x4 x5 = some w := h
      have KC : ∀ (x3 : Int32) (x4 : Int32) (x5 : Int32), w = .inl (x3, x4, x5) → ∀ (ls : Array Slot) (H : Heap) (locs : List Loc), lv_has ls 8 [(0, .ref a0), (1, .int x1), (2, .int x2), (3, .int x3), (4, .int x4), (5, .int x5)] → G dC dI A H0 (W_X8 a0 a1 a2 a3 a4 a5 a6 a7 a8 a9 a10 a11 a12 a13 a14 a15 a16 a17 a18 a19 a20 a21 a22 a23 a24 a25 a26 a27 a28 a29 cI cJ c_text_bytes c_text_length c_reader_numbers c_reader_next c_laid_stand c_laid_home c_laid_priceStart c_laid_priceStep c_laid_thrown_cells c_laid_thrown_filled c_laid_nets_cells c_laid_nets_filled c_trial_stand c_trial_home c_trial_priceStart c_trial_priceStep c_trial_thrown_cells c_trial_thrown_filled c_trial_nets_cells c_trial_nets_filled c_flight_loads_cells c_flight_loads_filled c_flight_order c_flight_done c_flight_start c_flight_end c_changes_who c_changes_column c_changes_was c_changes_held c_kept_older_cells c_kept_older_filled c_kept_newer_cells c_kept_newer_filled c_kept_held c_turns_need) H locs → W p l e (RM 1 28) s m args below meth c H locs 0 0 QQ (F0 m 34 ls []) := fun b0 b1 b2 e ls H locs hl hG => ih b0 b1 b2 ex3 ex4 (hi _ e) K0 ls H locs hl hG
      have KX : ∀ (x3 : Int32) (x4 : Int32), w = .inr (x3, x4) → ∀ (ls : Array Slot) (H : Heap) (locs : List Loc), lv_has ls 8 [(2, .int x2), (3, .int x3), (4, .int x4)] → G dC dI A H0 (W_X8 a0 a1 a2 a3 a4 a5 a6 a7 a8 a9 a10 a11 a12 a13 a14 a15 a16 a17 a18 a19 a20 a21 a22 a23 a24 a25 a26 a27 a28 a29 cI cJ c_text_bytes c_text_length c_reader_numbers c_reader_next c_laid_stand c_laid_home c_laid_priceStart c_laid_priceStep c_laid_thrown_cells c_laid_thrown_filled c_laid_nets_cells c_laid_nets_filled c_trial_stand c_trial_home c_trial_priceStart c_trial_priceStep c_trial_thrown_cells c_trial_thrown_filled c_trial_nets_cells c_trial_nets_filled c_flight_loads_cells c_flight_loads_filled c_flight_order c_flight_done c_flight_start c_flight_end c_changes_who c_changes_column c_changes_was c_changes_held c_kept_older_cells c_kept_older_filled c_kept_newer_cells c_kept_newer_filled c_kept_held c_turns_need) H locs → W p l e (RM 1 28) s m args below meth c H locs 0 0 QQ (F0 m 136 ls []) := fun b0 b1 e ls H locs hl hG => by cases hr _ e; exact K0 ls H locs hl hG
      clear h0 hi hr K0 ih
      unfold DX8_meeters_L34s at h
      refine lv_iload hx hb dX8_meeters_34 (lv_at hl 5 rfl) ?_
      refine lv_bipush (v := (40 : Int32)) hx hb dX8_meeters_36 (by decide) ?_
      refine lv_icmp_gt (tgt := 136) hx hb dX8_meeters_38 (by decide) (fun c_7 => ?_) (fun c_7 => ?_)
      · have h := ite_t h c_7
        exact KX _ _ (Option.some.inj h).symm _ _ _ (lv_sub hl [2, 3, 4] rfl) hG
      · have h := ite_f h c_7
        refine lv_iconst (v := (1 : Int32)) hx hb dX8_meeters_41 (by decide) ?_
        refine lv_istore (lv' := [(6, .int (1 : Int32)), (0, .ref a0), (1, .int x1), (2, .int x2), (3, .int x3), (4, .int x4), (5, .int x5)]) hx hb dX8_meeters_42 hl (by decide) rfl (fun ls hl => ?_)
        obtain ⟨z3_17, z4_18, hz, h⟩ := bd2_some h
        refine L44 x5 FU x3 x4 (1 : Int32) _ _ hz (fun ls H locs hl hG => ?_) _ _ _ (lv_sub hl [1, 2, 3, 4, 5, 6, 0] rfl) hG
        clear hz
        refine lv_iinc (v := (x5 + (1 : Int32))) (lv' := [(5, .int (x5 + (1 : Int32))), (0, .ref a0), (1, .int x1), (2, .int x2), (3, .int z3_17), (4, .int z4_18)]) hx hb dX8_meeters_130 hl (k := 5) rfl rfl (by decide) rfl (fun ls hl => ?_)
        refine lv_goto (tgt := 34) hx hb dX8_meeters_133 (by decide) ?_
        exact KC _ _ _ (Option.some.inj h).symm _ _ _ (lv_sub hl [1, 2, 3, 4, 5, 0] rfl) hG
  have h := hD
  unfold DX8_meeters at h
  clear hD
  refine lv_aload_n hx hb dX8_meeters_0 rfl (lv_at hl 0 rfl) ?_
  refine r_get X hG in_X8 rfl 2 (by decide) w_237 0 rfl rfl dX8_meeters_1 ?_
  refine r_getN X hG in_X3 rfl 4 (by decide) w_136 5 rfl rfl dX8_meeters_4 ?_
  refine lv_iload_n hx hb dX8_meeters_7 rfl (lv_at hl 1 rfl) ?_
  obtain ⟨r_1, hz_2, h⟩ := bd1_some h
  refine aft_i (ws' := (W_X8 a0 a1 a2 a3 a4 a5 a6 a7 a8 a9 a10 a11 a12 a13 a14 a15 a16 a17 a18 a19 a20 a21 a22 a23 a24 a25 a26 a27 a28 a29 cI cJ c_text_bytes c_text_length c_reader_numbers c_reader_next c_laid_stand c_laid_home c_laid_priceStart c_laid_priceStep c_laid_thrown_cells c_laid_thrown_filled c_laid_nets_cells c_laid_nets_filled c_trial_stand c_trial_home c_trial_priceStart c_trial_priceStep c_trial_thrown_cells c_trial_thrown_filled c_trial_nets_cells c_trial_nets_filled c_flight_loads_cells c_flight_loads_filled c_flight_order c_flight_done c_flight_start c_flight_end c_changes_who c_changes_column c_changes_was c_changes_held c_kept_older_cells c_kept_older_filled c_kept_newer_cells c_kept_newer_filled c_kept_held c_turns_need)) (run_V (rest := []) X hG hl.1 (mX5_has l dC dI cI cJ a6 a7 (7 : Int32) (4 : Int32) 28 c_laid_thrown_cells c_laid_thrown_filled x1 hz_2) gi_V_X8_102 hd_V_yX5_has ⟨rfl, rfl⟩ rfl ⟨Nat.le_of_ble_eq_true rfl, Nat.le_of_ble_eq_true rfl⟩ [6, 7] (by decide) rfl 6 rfl rfl rfl rfl (Nat.le_of_ble_eq_true rfl) ⟨Nat.le_of_ble_eq_true rfl, Nat.le_of_ble_eq_true rfl⟩ dX8_meeters_8) hG [6, 7] rfl rfl rfl (fun H locs hG => ?_)
  clear hz_2
  refine lv_if_eq (tgt := 23) hx hb dX8_meeters_11 (by decide) (fun c_3 => ?_) (fun c_3 => ?_)
  · have h := ite_t h c_3
    refine lv_iconst (v := (-1 : Int32)) hx hb dX8_meeters_23 (by decide) ?_
    cases h
    exact ret _ _ _ _ dX8_meeters_24 hG
  · have h := ite_f h c_3
    refine lv_iload_n hx hb dX8_meeters_14 rfl (lv_at hl 2 rfl) ?_
    refine lv_iconst (v := (0 : Int32)) hx hb dX8_meeters_15 (by decide) ?_
    refine lv_iconst (v := (1 : Int32)) hx hb dX8_meeters_16 (by decide) ?_
    obtain ⟨r_4, hz_5, h⟩ := bd1_some h
    refine aft_i (ws' := (W_X8 a0 a1 a2 a3 a4 a5 a6 a7 a8 a9 a10 a11 a12 a13 a14 a15 a16 a17 a18 a19 a20 a21 a22 a23 a24 a25 a26 a27 a28 a29 cI cJ c_text_bytes c_text_length c_reader_numbers c_reader_next c_laid_stand c_laid_home c_laid_priceStart c_laid_priceStep c_laid_thrown_cells c_laid_thrown_filled c_laid_nets_cells c_laid_nets_filled c_trial_stand c_trial_home c_trial_priceStart c_trial_priceStep c_trial_thrown_cells c_trial_thrown_filled c_trial_nets_cells c_trial_nets_filled c_flight_loads_cells c_flight_loads_filled c_flight_order c_flight_done c_flight_start c_flight_end c_changes_who c_changes_column c_changes_was c_changes_held c_kept_older_cells c_kept_older_filled c_kept_newer_cells c_kept_newer_filled c_kept_held c_turns_need)) (run_S (rest := []) X hG hl.1 (mX8_within l dC dI cI cJ x2 (0 : Int32) (1 : Int32) hz_5) gi_S_X8_74 hd_S_yX8_within ⟨rfl, rfl⟩ rfl ⟨Nat.le_of_ble_eq_true rfl, Nat.le_of_ble_eq_true rfl⟩ [] (by decide) rfl rfl (Nat.le_of_ble_eq_true rfl) ⟨Nat.le_of_ble_eq_true rfl, Nat.le_of_ble_eq_true rfl⟩ dX8_meeters_17) hG [] rfl rfl rfl (fun H locs hG => ?_)
    clear hz_5
    refine lv_if_ne (tgt := 25) hx hb dX8_meeters_20 (by decide) (fun c_6 => ?_) (fun c_6 => ?_)
    · have h := ite_f h c_6
      refine lv_iconst (v := (0 : Int32)) hx hb dX8_meeters_25 (by decide) ?_
      refine lv_istore_n (lv' := [(3, .int (0 : Int32)), (0, .ref a0), (1, .int x1), (2, .int x2)]) hx hb dX8_meeters_26 rfl hl (by decide) rfl (fun ls hl => ?_)
      refine lv_bipush (v := (-4 : Int32)) hx hb dX8_meeters_27 (by decide) ?_
      refine lv_istore (lv' := [(4, .int (-4 : Int32)), (3, .int (0 : Int32)), (0, .ref a0), (1, .int x1), (2, .int x2)]) hx hb dX8_meeters_29 hl (by decide) rfl (fun ls hl => ?_)
      refine lv_iconst (v := (0 : Int32)) hx hb dX8_meeters_31 (by decide) ?_
      refine lv_istore (lv' := [(5, .int (0 : Int32)), (4, .int (-4 : Int32)), (3, .int (0 : Int32)), (0, .ref a0), (1, .int x1), (2, .int x2)]) hx hb dX8_meeters_32 hl (by decide) rfl (fun ls hl => ?_)
      obtain ⟨z3_19, z4_20, hz, h⟩ := bd2_some h
      refine L34  FU (0 : Int32) (-4 : Int32) (0 : Int32) _ _ hz (fun ls H locs hl hG => ?_) _ _ _ (lv_sub hl [3, 4, 5, 2, 1, 0] rfl) hG
      clear hz
      refine lv_iload_n hx hb dX8_meeters_136 rfl (lv_at hl 0 rfl) ?_
      refine lv_if_ne (tgt := 144) hx hb dX8_meeters_137 (by decide) (fun c_21 => ?_) (fun c_21 => ?_)
      · have h := ite_f h c_21
        refine lv_iload hx hb dX8_meeters_144 (lv_at hl 2 rfl) ?_
        cases h
        exact ret _ _ _ _ dX8_meeters_146 hG
      · have h := ite_t h c_21
        refine lv_iload_n hx hb dX8_meeters_140 rfl (lv_at hl 1 rfl) ?_
        refine lv_goto (tgt := 146) hx hb dX8_meeters_141 (by decide) ?_
        cases h
        exact ret _ _ _ _ dX8_meeters_146 hG
    · have h := ite_t h c_6
      refine lv_iconst (v := (-1 : Int32)) hx hb dX8_meeters_23 (by decide) ?_
      cases h
      exact ret _ _ _ _ dX8_meeters_24 hG
set_option maxRecDepth 100000 in
set_option maxHeartbeats 4000000 in
theorem mX8_stand (l : Launch) (dC : Nat → ClassId) (dI : Nat → Nat → Nat) (cI cJ : ClassId) (a0 a1 a2 a3 a4 a5 a6 a7 a8 a9 a10 a11 a12 a13 a14 a15 a16 a17 a18 a19 a20 a21 a22 a23 a24 a25 a26 a27 a28 a29 : Nat) (c_text_bytes : Nat → Int32) (c_text_length : Int32) (c_reader_numbers : Nat → Int32) (c_reader_next : Int32) (c_laid_stand : Int32) (c_laid_home : Int32) (c_laid_priceStart : Int32) (c_laid_priceStep : Int32) (c_laid_thrown_cells : Nat → Int32) (c_laid_thrown_filled : Int32) (c_laid_nets_cells : Nat → Int32) (c_laid_nets_filled : Int32) (c_trial_stand : Int32) (c_trial_home : Int32) (c_trial_priceStart : Int32) (c_trial_priceStep : Int32) (c_trial_thrown_cells : Nat → Int32) (c_trial_thrown_filled : Int32) (c_trial_nets_cells : Nat → Int32) (c_trial_nets_filled : Int32) (c_flight_loads_cells : Nat → Int32) (c_flight_loads_filled : Int32) (c_flight_order : Nat → Int32) (c_flight_done : Int32) (c_flight_start : Int32) (c_flight_end : Int32) (c_changes_who : Nat → Int32) (c_changes_column : Nat → Int32) (c_changes_was : Nat → Int32) (c_changes_held : Int32) (c_kept_older_cells : Nat → Int32) (c_kept_older_filled : Int32) (c_kept_newer_cells : Nat → Int32) (c_kept_newer_filled : Int32) (c_kept_held : Int32) (c_turns_need : Nat → Int32) (x1 : Int32) (x2 : Int32) (x3 : Int32) {res : Int32} {n_flight_loads_cells : Nat → Int32} {n_flight_order : Nat → Int32} {n_flight_done : Int32} {n_flight_start : Int32} {n_flight_end : Int32} {n_turns_need : Nat → Int32} (hD : DX8_stand x1 x2 x3 c_laid_stand c_laid_home c_laid_priceStart c_laid_priceStep c_laid_thrown_cells c_laid_thrown_filled c_laid_nets_cells c_laid_nets_filled c_flight_loads_cells c_flight_order c_flight_done c_flight_start c_flight_end c_turns_need = some (res, n_flight_loads_cells, n_flight_order, n_flight_done, n_flight_start, n_flight_end, n_turns_need)) : Met l yX8_stand (WZ yX8_stand cX8_stand 5 (some .int)) (RM 6 143) (PC dC dI cI cJ [.ref a0, .int x1, .int x2, .int x3] (W_X8 a0 a1 a2 a3 a4 a5 a6 a7 a8 a9 a10 a11 a12 a13 a14 a15 a16 a17 a18 a19 a20 a21 a22 a23 a24 a25 a26 a27 a28 a29 cI cJ c_text_bytes c_text_length c_reader_numbers c_reader_next c_laid_stand c_laid_home c_laid_priceStart c_laid_priceStep c_laid_thrown_cells c_laid_thrown_filled c_laid_nets_cells c_laid_nets_filled c_trial_stand c_trial_home c_trial_priceStart c_trial_priceStep c_trial_thrown_cells c_trial_thrown_filled c_trial_nets_cells c_trial_nets_filled c_flight_loads_cells c_flight_loads_filled c_flight_order c_flight_done c_flight_start c_flight_end c_changes_who c_changes_column c_changes_was c_changes_held c_kept_older_cells c_kept_older_filled c_kept_newer_cells c_kept_newer_filled c_kept_held c_turns_need)) (QI dC dI (W_X8 a0 a1 a2 a3 a4 a5 a6 a7 a8 a9 a10 a11 a12 a13 a14 a15 a16 a17 a18 a19 a20 a21 a22 a23 a24 a25 a26 a27 a28 a29 cI cJ c_text_bytes c_text_length c_reader_numbers c_reader_next c_laid_stand c_laid_home c_laid_priceStart c_laid_priceStep c_laid_thrown_cells c_laid_thrown_filled c_laid_nets_cells c_laid_nets_filled c_trial_stand c_trial_home c_trial_priceStart c_trial_priceStep c_trial_thrown_cells c_trial_thrown_filled c_trial_nets_cells c_trial_nets_filled c_flight_loads_cells c_flight_loads_filled c_flight_order c_flight_done c_flight_start c_flight_end c_changes_who c_changes_column c_changes_was c_changes_held c_kept_older_cells c_kept_older_filled c_kept_newer_cells c_kept_newer_filled c_kept_held c_turns_need) (W_X8 a0 a1 a2 a3 a4 a5 a6 a7 a8 a9 a10 a11 a12 a13 a14 a15 a16 a17 a18 a19 a20 a21 a22 a23 a24 a25 a26 a27 a28 a29 cI cJ c_text_bytes c_text_length c_reader_numbers c_reader_next c_laid_stand c_laid_home c_laid_priceStart c_laid_priceStep c_laid_thrown_cells c_laid_thrown_filled c_laid_nets_cells c_laid_nets_filled c_trial_stand c_trial_home c_trial_priceStart c_trial_priceStep c_trial_thrown_cells c_trial_thrown_filled c_trial_nets_cells c_trial_nets_filled n_flight_loads_cells c_flight_loads_filled n_flight_order n_flight_done n_flight_start n_flight_end c_changes_who c_changes_column c_changes_was c_changes_held c_kept_older_cells c_kept_older_filled c_kept_newer_cells c_kept_newer_filled c_kept_held n_turns_need) res) 0 0 (FA (W_X8 a0 a1 a2 a3 a4 a5 a6 a7 a8 a9 a10 a11 a12 a13 a14 a15 a16 a17 a18 a19 a20 a21 a22 a23 a24 a25 a26 a27 a28 a29 cI cJ c_text_bytes c_text_length c_reader_numbers c_reader_next c_laid_stand c_laid_home c_laid_priceStart c_laid_priceStep c_laid_thrown_cells c_laid_thrown_filled c_laid_nets_cells c_laid_nets_filled c_trial_stand c_trial_home c_trial_priceStart c_trial_priceStep c_trial_thrown_cells c_trial_thrown_filled c_trial_nets_cells c_trial_nets_filled c_flight_loads_cells c_flight_loads_filled c_flight_order c_flight_done c_flight_start c_flight_end c_changes_who c_changes_column c_changes_was c_changes_held c_kept_older_cells c_kept_older_filled c_kept_newer_cells c_kept_newer_filled c_kept_held c_turns_need)) := by
  refine r_metI (by decide +kernel) (Nat.le_of_ble_eq_true rfl) ?_
  intro p e s m args below meth c A H0 QQ X ret ls hl hG
  have X : Cx p m c cX8_stand 5 s args RX8 dC dI cI cJ meth (some .int) := X
  have hx := X.1.1
  have hb := X.1.2.1
  have hl : lv_has ls 5 [(0, .ref a0), (1, .int x1), (2, .int x2), (3, .int x3)] := hl
  have h := hD
  unfold DX8_stand at h
  clear hD
  refine lv_iload_n hx hb dX8_stand_0 rfl (lv_at hl 1 rfl) ?_
  refine lv_iconst (v := (0 : Int32)) hx hb dX8_stand_1 (by decide) ?_
  refine lv_bipush (v := (23 : Int32)) hx hb dX8_stand_2 (by decide) ?_
  obtain ⟨r_1, hz_2, h⟩ := bd1_some h
  refine aft_i (ws' := (W_X8 a0 a1 a2 a3 a4 a5 a6 a7 a8 a9 a10 a11 a12 a13 a14 a15 a16 a17 a18 a19 a20 a21 a22 a23 a24 a25 a26 a27 a28 a29 cI cJ c_text_bytes c_text_length c_reader_numbers c_reader_next c_laid_stand c_laid_home c_laid_priceStart c_laid_priceStep c_laid_thrown_cells c_laid_thrown_filled c_laid_nets_cells c_laid_nets_filled c_trial_stand c_trial_home c_trial_priceStart c_trial_priceStep c_trial_thrown_cells c_trial_thrown_filled c_trial_nets_cells c_trial_nets_filled c_flight_loads_cells c_flight_loads_filled c_flight_order c_flight_done c_flight_start c_flight_end c_changes_who c_changes_column c_changes_was c_changes_held c_kept_older_cells c_kept_older_filled c_kept_newer_cells c_kept_newer_filled c_kept_held c_turns_need)) (run_S (rest := []) X hG hl.1 (mX8_within l dC dI cI cJ x1 (0 : Int32) (23 : Int32) hz_2) gi_S_X8_74 hd_S_yX8_within ⟨rfl, rfl⟩ rfl ⟨Nat.le_of_ble_eq_true rfl, Nat.le_of_ble_eq_true rfl⟩ [] (by decide) rfl rfl (Nat.le_of_ble_eq_true rfl) ⟨Nat.le_of_ble_eq_true rfl, Nat.le_of_ble_eq_true rfl⟩ dX8_stand_4) hG [] rfl rfl rfl (fun H locs hG => ?_)
  clear hz_2
  refine lv_if_eq (tgt := 29) hx hb dX8_stand_7 (by decide) (fun c_3 => ?_) (fun c_3 => ?_)
  · have h := ite_t h c_3
    refine lv_iconst (v := (-1 : Int32)) hx hb dX8_stand_29 (by decide) ?_
    cases h
    exact ret _ _ _ _ dX8_stand_30 hG
  · have h := ite_f h c_3
    refine lv_iload_n hx hb dX8_stand_10 rfl (lv_at hl 2 rfl) ?_
    refine lv_iconst (v := (1 : Int32)) hx hb dX8_stand_11 (by decide) ?_
    refine lv_bipush (v := (63 : Int32)) hx hb dX8_stand_12 (by decide) ?_
    obtain ⟨r_4, hz_5, h⟩ := bd1_some h
    refine aft_i (ws' := (W_X8 a0 a1 a2 a3 a4 a5 a6 a7 a8 a9 a10 a11 a12 a13 a14 a15 a16 a17 a18 a19 a20 a21 a22 a23 a24 a25 a26 a27 a28 a29 cI cJ c_text_bytes c_text_length c_reader_numbers c_reader_next c_laid_stand c_laid_home c_laid_priceStart c_laid_priceStep c_laid_thrown_cells c_laid_thrown_filled c_laid_nets_cells c_laid_nets_filled c_trial_stand c_trial_home c_trial_priceStart c_trial_priceStep c_trial_thrown_cells c_trial_thrown_filled c_trial_nets_cells c_trial_nets_filled c_flight_loads_cells c_flight_loads_filled c_flight_order c_flight_done c_flight_start c_flight_end c_changes_who c_changes_column c_changes_was c_changes_held c_kept_older_cells c_kept_older_filled c_kept_newer_cells c_kept_newer_filled c_kept_held c_turns_need)) (run_S (rest := []) X hG hl.1 (mX8_within l dC dI cI cJ x2 (1 : Int32) (63 : Int32) hz_5) gi_S_X8_74 hd_S_yX8_within ⟨rfl, rfl⟩ rfl ⟨Nat.le_of_ble_eq_true rfl, Nat.le_of_ble_eq_true rfl⟩ [] (by decide) rfl rfl (Nat.le_of_ble_eq_true rfl) ⟨Nat.le_of_ble_eq_true rfl, Nat.le_of_ble_eq_true rfl⟩ dX8_stand_14) hG [] rfl rfl rfl (fun H locs hG => ?_)
    clear hz_5
    refine lv_if_eq (tgt := 29) hx hb dX8_stand_17 (by decide) (fun c_6 => ?_) (fun c_6 => ?_)
    · have h := ite_t h c_6
      refine lv_iconst (v := (-1 : Int32)) hx hb dX8_stand_29 (by decide) ?_
      cases h
      exact ret _ _ _ _ dX8_stand_30 hG
    · have h := ite_f h c_6
      refine lv_iload_n hx hb dX8_stand_20 rfl (lv_at hl 3 rfl) ?_
      refine lv_iconst (v := (0 : Int32)) hx hb dX8_stand_21 (by decide) ?_
      refine lv_iconst (v := (1 : Int32)) hx hb dX8_stand_22 (by decide) ?_
      obtain ⟨r_7, hz_8, h⟩ := bd1_some h
      refine aft_i (ws' := (W_X8 a0 a1 a2 a3 a4 a5 a6 a7 a8 a9 a10 a11 a12 a13 a14 a15 a16 a17 a18 a19 a20 a21 a22 a23 a24 a25 a26 a27 a28 a29 cI cJ c_text_bytes c_text_length c_reader_numbers c_reader_next c_laid_stand c_laid_home c_laid_priceStart c_laid_priceStep c_laid_thrown_cells c_laid_thrown_filled c_laid_nets_cells c_laid_nets_filled c_trial_stand c_trial_home c_trial_priceStart c_trial_priceStep c_trial_thrown_cells c_trial_thrown_filled c_trial_nets_cells c_trial_nets_filled c_flight_loads_cells c_flight_loads_filled c_flight_order c_flight_done c_flight_start c_flight_end c_changes_who c_changes_column c_changes_was c_changes_held c_kept_older_cells c_kept_older_filled c_kept_newer_cells c_kept_newer_filled c_kept_held c_turns_need)) (run_S (rest := []) X hG hl.1 (mX8_within l dC dI cI cJ x3 (0 : Int32) (1 : Int32) hz_8) gi_S_X8_74 hd_S_yX8_within ⟨rfl, rfl⟩ rfl ⟨Nat.le_of_ble_eq_true rfl, Nat.le_of_ble_eq_true rfl⟩ [] (by decide) rfl rfl (Nat.le_of_ble_eq_true rfl) ⟨Nat.le_of_ble_eq_true rfl, Nat.le_of_ble_eq_true rfl⟩ dX8_stand_23) hG [] rfl rfl rfl (fun H locs hG => ?_)
      clear hz_8
      refine lv_if_ne (tgt := 31) hx hb dX8_stand_26 (by decide) (fun c_9 => ?_) (fun c_9 => ?_)
      · have h := ite_f h c_9
        refine lv_aload_n hx hb dX8_stand_31 rfl (lv_at hl 0 rfl) ?_
        refine r_get X hG in_X8 rfl 4 (by decide) w_239 0 rfl rfl dX8_stand_32 ?_
        refine lv_aload_n hx hb dX8_stand_35 rfl (lv_at hl 0 rfl) ?_
        refine r_get X hG in_X8 rfl 2 (by decide) w_237 0 rfl rfl dX8_stand_36 ?_
        refine lv_iconst (v := (0 : Int32)) hx hb dX8_stand_39 (by decide) ?_
        obtain ⟨k_flight_loads_cells_10, k_flight_order_11, k_flight_done_12, k_flight_start_13, k_flight_end_14, hz_15, h⟩ := bd5_some h
        refine aft_v (ws' := (W_X8 a0 a1 a2 a3 a4 a5 a6 a7 a8 a9 a10 a11 a12 a13 a14 a15 a16 a17 a18 a19 a20 a21 a22 a23 a24 a25 a26 a27 a28 a29 cI cJ c_text_bytes c_text_length c_reader_numbers c_reader_next c_laid_stand c_laid_home c_laid_priceStart c_laid_priceStep c_laid_thrown_cells c_laid_thrown_filled c_laid_nets_cells c_laid_nets_filled c_trial_stand c_trial_home c_trial_priceStart c_trial_priceStep c_trial_thrown_cells c_trial_thrown_filled c_trial_nets_cells c_trial_nets_filled k_flight_loads_cells_10 c_flight_loads_filled k_flight_order_11 k_flight_done_12 k_flight_start_13 k_flight_end_14 c_changes_who c_changes_column c_changes_was c_changes_held c_kept_older_cells c_kept_older_filled c_kept_newer_cells c_kept_newer_filled c_kept_held c_turns_need)) (run_V (rest := []) X hG hl.1 (mX1_fly l dC dI cI cJ a15 a16 a17 a18 a5 a6 a7 a8 a9 c_flight_loads_cells c_flight_loads_filled c_flight_order c_flight_done c_flight_start c_flight_end c_laid_stand c_laid_home c_laid_priceStart c_laid_priceStep c_laid_thrown_cells c_laid_thrown_filled c_laid_nets_cells c_laid_nets_filled (0 : Int32) hz_15) gi_V_X8_106 hd_V_yX1_fly ⟨rfl, rfl⟩ rfl ⟨Nat.le_of_ble_eq_true rfl, Nat.le_of_ble_eq_true rfl⟩ [15, 16, 17, 18, 5, 6, 7, 8, 9] (by decide) rfl 15 rfl rfl rfl rfl (Nat.le_of_ble_eq_true rfl) ⟨Nat.le_of_ble_eq_true rfl, Nat.le_of_ble_eq_true rfl⟩ dX8_stand_40) hG [15, 16, 17, 18, 5, 6, 7, 8, 9] rfl rfl rfl (fun H locs hG => ?_)
        clear hz_15
        refine lv_aload_n hx hb dX8_stand_43 rfl (lv_at hl 0 rfl) ?_
        refine r_get X hG in_X8 rfl 7 (by decide) w_242 0 rfl rfl dX8_stand_44 ?_
        refine lv_iload_n hx hb dX8_stand_47 rfl (lv_at hl 2 rfl) ?_
        obtain ⟨k_turns_need_16, hz_17, h⟩ := bd1_some h
        refine aft_v (ws' := (W_X8 a0 a1 a2 a3 a4 a5 a6 a7 a8 a9 a10 a11 a12 a13 a14 a15 a16 a17 a18 a19 a20 a21 a22 a23 a24 a25 a26 a27 a28 a29 cI cJ c_text_bytes c_text_length c_reader_numbers c_reader_next c_laid_stand c_laid_home c_laid_priceStart c_laid_priceStep c_laid_thrown_cells c_laid_thrown_filled c_laid_nets_cells c_laid_nets_filled c_trial_stand c_trial_home c_trial_priceStart c_trial_priceStep c_trial_thrown_cells c_trial_thrown_filled c_trial_nets_cells c_trial_nets_filled k_flight_loads_cells_10 c_flight_loads_filled k_flight_order_11 k_flight_done_12 k_flight_start_13 k_flight_end_14 c_changes_who c_changes_column c_changes_was c_changes_held c_kept_older_cells c_kept_older_filled c_kept_newer_cells c_kept_newer_filled c_kept_held k_turns_need_16)) (run_V (rest := []) X hG hl.1 (mX7_reach l dC dI cI cJ a28 a29 c_turns_need x2 hz_17) gi_V_X8_171 hd_V_yX7_reach ⟨rfl, rfl⟩ rfl ⟨Nat.le_of_ble_eq_true rfl, Nat.le_of_ble_eq_true rfl⟩ [28, 29] (by decide) rfl 28 rfl rfl rfl rfl (Nat.le_of_ble_eq_true rfl) ⟨Nat.le_of_ble_eq_true rfl, Nat.le_of_ble_eq_true rfl⟩ dX8_stand_48) hG [28, 29] rfl rfl rfl (fun H locs hG => ?_)
        clear hz_17
        refine lv_aload_n hx hb dX8_stand_51 rfl (lv_at hl 0 rfl) ?_
        refine r_get X hG in_X8 rfl 4 (by decide) w_239 0 rfl rfl dX8_stand_52 ?_
        refine r_getN X hG in_X1 rfl 4 (by decide) w_166 15 rfl rfl dX8_stand_55 ?_
        refine lv_iload_n hx hb dX8_stand_58 rfl (lv_at hl 1 rfl) ?_
        refine lv_isub hx hb dX8_stand_59 ?_
        refine lv_bipush (v := (24 : Int32)) hx hb dX8_stand_60 (by decide) ?_
        obtain ⟨r_18, hz_19, h⟩ := bd1_some h
        refine aft_i (ws' := (W_X8 a0 a1 a2 a3 a4 a5 a6 a7 a8 a9 a10 a11 a12 a13 a14 a15 a16 a17 a18 a19 a20 a21 a22 a23 a24 a25 a26 a27 a28 a29 cI cJ c_text_bytes c_text_length c_reader_numbers c_reader_next c_laid_stand c_laid_home c_laid_priceStart c_laid_priceStep c_laid_thrown_cells c_laid_thrown_filled c_laid_nets_cells c_laid_nets_filled c_trial_stand c_trial_home c_trial_priceStart c_trial_priceStep c_trial_thrown_cells c_trial_thrown_filled c_trial_nets_cells c_trial_nets_filled k_flight_loads_cells_10 c_flight_loads_filled k_flight_order_11 k_flight_done_12 k_flight_start_13 k_flight_end_14 c_changes_who c_changes_column c_changes_was c_changes_held c_kept_older_cells c_kept_older_filled c_kept_newer_cells c_kept_newer_filled c_kept_held k_turns_need_16)) (run_S (rest := []) X hG hl.1 (mJ9_floorMod_7cf53 l dC dI cI cJ (k_flight_end_14 - x1) (24 : Int32) hz_19) gi_S_X8_177 hd_S_yJ9_floorMod_7cf53 ⟨rfl, rfl⟩ rfl ⟨Nat.le_of_ble_eq_true rfl, Nat.le_of_ble_eq_true rfl⟩ [] (by decide) rfl rfl (Nat.le_of_ble_eq_true rfl) ⟨Nat.le_of_ble_eq_true rfl, Nat.le_of_ble_eq_true rfl⟩ dX8_stand_62) hG [] rfl rfl rfl (fun H locs hG => ?_)
        clear hz_19
        refine lv_istore (lv' := [(4, .int r_18), (0, .ref a0), (1, .int x1), (2, .int x2), (3, .int x3)]) hx hb dX8_stand_65 hl (by decide) rfl (fun ls hl => ?_)
        refine lv_iload_n hx hb dX8_stand_67 rfl (lv_at hl 4 rfl) ?_
        refine lv_if_ne (tgt := 83) hx hb dX8_stand_68 (by decide) (fun c_20 => ?_) (fun c_20 => ?_)
        · have h := ite_f h c_20
          refine lv_aload_n hx hb dX8_stand_83 rfl (lv_at hl 1 rfl) ?_
          refine r_get X hG in_X8 rfl 7 (by decide) w_242 0 rfl rfl dX8_stand_84 ?_
          refine lv_iload hx hb dX8_stand_87 (lv_at hl 0 rfl) ?_
          refine lv_iload_n hx hb dX8_stand_89 rfl (lv_at hl 3 rfl) ?_
          obtain ⟨r_21, hz_22, h⟩ := bd1_some h
          refine aft_i (ws' := (W_X8 a0 a1 a2 a3 a4 a5 a6 a7 a8 a9 a10 a11 a12 a13 a14 a15 a16 a17 a18 a19 a20 a21 a22 a23 a24 a25 a26 a27 a28 a29 cI cJ c_text_bytes c_text_length c_reader_numbers c_reader_next c_laid_stand c_laid_home c_laid_priceStart c_laid_priceStep c_laid_thrown_cells c_laid_thrown_filled c_laid_nets_cells c_laid_nets_filled c_trial_stand c_trial_home c_trial_priceStart c_trial_priceStep c_trial_thrown_cells c_trial_thrown_filled c_trial_nets_cells c_trial_nets_filled k_flight_loads_cells_10 c_flight_loads_filled k_flight_order_11 k_flight_done_12 k_flight_start_13 k_flight_end_14 c_changes_who c_changes_column c_changes_was c_changes_held c_kept_older_cells c_kept_older_filled c_kept_newer_cells c_kept_newer_filled c_kept_held k_turns_need_16)) (run_V (rest := []) X hG hl.1 (mX7_firstSpeed l dC dI cI cJ a28 a29 k_turns_need_16 r_18 x2 hz_22) gi_V_X8_183 hd_V_yX7_firstSpeed ⟨rfl, rfl⟩ rfl ⟨Nat.le_of_ble_eq_true rfl, Nat.le_of_ble_eq_true rfl⟩ [28, 29] (by decide) rfl 28 rfl rfl rfl rfl (Nat.le_of_ble_eq_true rfl) ⟨Nat.le_of_ble_eq_true rfl, Nat.le_of_ble_eq_true rfl⟩ dX8_stand_90) hG [28, 29] rfl rfl rfl (fun H locs hG => ?_)
          clear hz_22
          cases h
          exact ret _ _ _ _ dX8_stand_93 hG
        · have h := ite_t h c_20
          refine lv_aload_n hx hb dX8_stand_71 rfl (lv_at hl 1 rfl) ?_
          refine r_get X hG in_X8 rfl 7 (by decide) w_242 0 rfl rfl dX8_stand_72 ?_
          refine lv_iload hx hb dX8_stand_75 (lv_at hl 0 rfl) ?_
          obtain ⟨r_23, hz_24, h⟩ := bd1_some h
          refine aft_i (ws' := (W_X8 a0 a1 a2 a3 a4 a5 a6 a7 a8 a9 a10 a11 a12 a13 a14 a15 a16 a17 a18 a19 a20 a21 a22 a23 a24 a25 a26 a27 a28 a29 cI cJ c_text_bytes c_text_length c_reader_numbers c_reader_next c_laid_stand c_laid_home c_laid_priceStart c_laid_priceStep c_laid_thrown_cells c_laid_thrown_filled c_laid_nets_cells c_laid_nets_filled c_trial_stand c_trial_home c_trial_priceStart c_trial_priceStep c_trial_thrown_cells c_trial_thrown_filled c_trial_nets_cells c_trial_nets_filled k_flight_loads_cells_10 c_flight_loads_filled k_flight_order_11 k_flight_done_12 k_flight_start_13 k_flight_end_14 c_changes_who c_changes_column c_changes_was c_changes_held c_kept_older_cells c_kept_older_filled c_kept_newer_cells c_kept_newer_filled c_kept_held k_turns_need_16)) (run_V (rest := []) X hG hl.1 (mX7_fewest l dC dI cI cJ a28 a29 k_turns_need_16 r_18 hz_24) gi_V_X8_180 hd_V_yX7_fewest ⟨rfl, rfl⟩ rfl ⟨Nat.le_of_ble_eq_true rfl, Nat.le_of_ble_eq_true rfl⟩ [28, 29] (by decide) rfl 28 rfl rfl rfl rfl (Nat.le_of_ble_eq_true rfl) ⟨Nat.le_of_ble_eq_true rfl, Nat.le_of_ble_eq_true rfl⟩ dX8_stand_77) hG [28, 29] rfl rfl rfl (fun H locs hG => ?_)
          clear hz_24
          refine lv_goto (tgt := 93) hx hb dX8_stand_80 (by decide) ?_
          cases h
          exact ret _ _ _ _ dX8_stand_93 hG
      · have h := ite_t h c_9
        refine lv_iconst (v := (-1 : Int32)) hx hb dX8_stand_29 (by decide) ?_
        cases h
        exact ret _ _ _ _ dX8_stand_30 hG
set_option maxRecDepth 100000 in
set_option maxHeartbeats 4000000 in
theorem mX8_power (l : Launch) (dC : Nat → ClassId) (dI : Nat → Nat → Nat) (cI cJ : ClassId) (x0 : Int64) (x2 : Int32) {res : Int64} (hD : DX8_power x0 x2 = some res) : Met l yX8_power (WZ yX8_power cX8_power 6 (some .long)) (RM 0 0) (PC dC dI cI cJ [.long x0, .int x2] []) (QL dC dI [] [] res) 0 0 (FA []) := by
  refine r_metL (by decide +kernel) (Nat.le_of_ble_eq_true rfl) ?_
  intro p e s m args below meth c A H0 QQ X ret ls hl hG
  have X : Cx p m c cX8_power 6 s args RX8 dC dI cI cJ meth (some .long) := X
  have hx := X.1.1
  have hb := X.1.2.1
  have hl : lv_has ls 6 [(0, .long x0), (2, .int x2)] := hl
  have L5 : ∀ (n : Nat) (x3 : Int64) (x5 : Int32) (ex3 : Int64), DX8_power_L5 x0 x2 n x3 x5 = some ex3 → (∀ (ls : Array Slot) (H : Heap) (locs : List Loc), lv_has ls 6 [(3, .long ex3)] → G dC dI A H0 [] H locs → W p l e (RM 0 0) s m args below meth c H locs 0 0 QQ (F0 m 21 ls [])) → ∀ (ls : Array Slot) (H : Heap) (locs : List Loc), lv_has ls 6 [(0, .long x0), (2, .int x2), (3, .long x3), (5, .int x5)] → G dC dI A H0 [] H locs → W p l e (RM 0 0) s m args below meth c H locs 0 0 QQ (F0 m 5 ls []) := by
    intro  n
    induction n with
    | zero => intro x3 x5 ex3 h; exact it_zero h
    | succ n ih =>
      intro x3 x5 ex3 h0 K0 ls H locs hl hG
      obtain ⟨w, h, hi, hr⟩ := it_succ h0
      have h : DX8_power_L5s x0 x2 x3 x5 = some w := h
      have KC : ∀ (x3 : Int64) (x5 : Int32), w = .inl (x3, x5) → ∀ (ls : Array Slot) (H : Heap) (locs : List Loc), lv_has ls 6 [(0, .long x0), (2, .int x2), (3, .long x3), (5, .int x5)] → G dC dI A H0 [] H locs → W p l e (RM 0 0) s m args below meth c H locs 0 0 QQ (F0 m 5 ls []) := fun b0 b1 e ls H locs hl hG => ih b0 b1 ex3 (hi _ e) K0 ls H locs hl hG
      have KX : ∀ (x3 : Int64), w = .inr x3 → ∀ (ls : Array Slot) (H : Heap) (locs : List Loc), lv_has ls 6 [(3, .long x3)] → G dC dI A H0 [] H locs → W p l e (RM 0 0) s m args below meth c H locs 0 0 QQ (F0 m 21 ls []) := fun b0 e ls H locs hl hG => by cases hr _ e; exact K0 ls H locs hl hG
      clear h0 hi hr K0 ih
      unfold DX8_power_L5s at h
      refine lv_iload hx hb dX8_power_5 (lv_at hl 3 rfl) ?_
      refine lv_iload_n hx hb dX8_power_7 rfl (lv_at hl 1 rfl) ?_
      refine lv_icmp_ge (tgt := 21) hx hb dX8_power_8 (by decide) (fun c_1 => ?_) (fun c_1 => ?_)
      · have h := ite_t h c_1
        exact KX _ (Option.some.inj h).symm _ _ _ (lv_sub hl [2] rfl) hG
      · have h := ite_f h c_1
        refine lv_lload_n hx hb dX8_power_11 rfl (lv_at hl 2 rfl) ?_
        refine lv_lload_n hx hb dX8_power_12 rfl (lv_at hl 0 rfl) ?_
        refine lv_lmul hx hb dX8_power_13 ?_
        refine lv_lstore_n (lv' := [(3, .long (x3 * x0)), (0, .long x0), (2, .int x2), (5, .int x5)]) hx hb dX8_power_14 rfl hl (by decide) rfl (fun ls hl => ?_)
        refine lv_iinc (v := (x5 + (1 : Int32))) (lv' := [(5, .int (x5 + (1 : Int32))), (3, .long (x3 * x0)), (0, .long x0), (2, .int x2)]) hx hb dX8_power_15 hl (k := 3) rfl rfl (by decide) rfl (fun ls hl => ?_)
        refine lv_goto (tgt := 5) hx hb dX8_power_18 (by decide) ?_
        exact KC _ _ (Option.some.inj h).symm _ _ _ (lv_sub hl [2, 3, 1, 0] rfl) hG
  have h := hD
  unfold DX8_power at h
  clear hD
  refine lv_lconst (v := (1 : Int64)) hx hb dX8_power_0 (by decide) ?_
  refine lv_lstore_n (lv' := [(3, .long (1 : Int64)), (0, .long x0), (2, .int x2)]) hx hb dX8_power_1 rfl hl (by decide) rfl (fun ls hl => ?_)
  refine lv_iconst (v := (0 : Int32)) hx hb dX8_power_2 (by decide) ?_
  refine lv_istore (lv' := [(5, .int (0 : Int32)), (3, .long (1 : Int64)), (0, .long x0), (2, .int x2)]) hx hb dX8_power_3 hl (by decide) rfl (fun ls hl => ?_)
  obtain ⟨z3_2, hz, h⟩ := bd1_some h
  refine L5  FU (1 : Int64) (0 : Int32) _ hz (fun ls H locs hl hG => ?_) _ _ _ (lv_sub hl [2, 3, 1, 0] rfl) hG
  clear hz
  refine lv_lload_n hx hb dX8_power_21 rfl (lv_at hl 0 rfl) ?_
  cases h
  exact ret _ _ _ _ dX8_power_22 hG
