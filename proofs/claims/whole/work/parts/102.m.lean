/-! CONTRACTS, laid by wip/gen/lay.py: yX8_stray, yX8_meeters, yX8_stand, yX8_power, yX8_commonDivisor, yX8_ways, yX8_odds, yX8_year, yX8_keep, yX8_back, yX8_count, yX9_in, yX9_has, yX9_noRock, yX9_write, yX9_wipe, yX9_byteAt, yX9_figures, yX9_item, yX9_readAll, yX9_fault, yX9_copy, yX9_lay, yX9_isThrow, yX9_homeDay, yX9_around, yX9_turnTo -/
set_option maxRecDepth 100000 in
set_option maxHeartbeats 4000000 in
theorem mX8_stray (l : Launch) (dC : Nat → ClassId) (dI : Nat → Nat → Nat) (cI cJ : ClassId) (a0 a1 a2 a3 a4 a5 a6 a7 a8 a9 a10 a11 a12 a13 a14 a15 a16 a17 a18 a19 a20 a21 a22 a23 a24 a25 a26 a27 a28 a29 : Nat) (c_text_bytes : Nat → Int32) (c_text_length : Int32) (c_reader_numbers : Nat → Int32) (c_reader_next : Int32) (c_laid_stand : Int32) (c_laid_home : Int32) (c_laid_priceStart : Int32) (c_laid_priceStep : Int32) (c_laid_thrown_cells : Nat → Int32) (c_laid_thrown_filled : Int32) (c_laid_nets_cells : Nat → Int32) (c_laid_nets_filled : Int32) (c_trial_stand : Int32) (c_trial_home : Int32) (c_trial_priceStart : Int32) (c_trial_priceStep : Int32) (c_trial_thrown_cells : Nat → Int32) (c_trial_thrown_filled : Int32) (c_trial_nets_cells : Nat → Int32) (c_trial_nets_filled : Int32) (c_flight_loads_cells : Nat → Int32) (c_flight_loads_filled : Int32) (c_flight_order : Nat → Int32) (c_flight_done : Int32) (c_flight_start : Int32) (c_flight_end : Int32) (c_changes_who : Nat → Int32) (c_changes_column : Nat → Int32) (c_changes_was : Nat → Int32) (c_changes_held : Int32) (c_kept_older_cells : Nat → Int32) (c_kept_older_filled : Int32) (c_kept_newer_cells : Nat → Int32) (c_kept_newer_filled : Int32) (c_kept_held : Int32) (c_turns_need : Nat → Int32) (x1 : Int32) (x2 : Int32) (x3 : Int32) {res : Int32} {n_flight_loads_cells : Nat → Int32} {n_flight_order : Nat → Int32} {n_flight_done : Int32} {n_flight_start : Int32} {n_flight_end : Int32} (hD : DX8_stray x1 x2 x3 c_laid_stand c_laid_home c_laid_priceStart c_laid_priceStep c_laid_thrown_cells c_laid_thrown_filled c_laid_nets_cells c_laid_nets_filled c_flight_loads_cells c_flight_order c_flight_done c_flight_start c_flight_end = some (res, n_flight_loads_cells, n_flight_order, n_flight_done, n_flight_start, n_flight_end)) : Met l yX8_stray (WZ yX8_stray cX8_stray 6 (some .int)) (RM 6 143) (PC dC dI cI cJ [.ref a0, .int x1, .int x2, .int x3] (W_X8 a0 a1 a2 a3 a4 a5 a6 a7 a8 a9 a10 a11 a12 a13 a14 a15 a16 a17 a18 a19 a20 a21 a22 a23 a24 a25 a26 a27 a28 a29 cI cJ c_text_bytes c_text_length c_reader_numbers c_reader_next c_laid_stand c_laid_home c_laid_priceStart c_laid_priceStep c_laid_thrown_cells c_laid_thrown_filled c_laid_nets_cells c_laid_nets_filled c_trial_stand c_trial_home c_trial_priceStart c_trial_priceStep c_trial_thrown_cells c_trial_thrown_filled c_trial_nets_cells c_trial_nets_filled c_flight_loads_cells c_flight_loads_filled c_flight_order c_flight_done c_flight_start c_flight_end c_changes_who c_changes_column c_changes_was c_changes_held c_kept_older_cells c_kept_older_filled c_kept_newer_cells c_kept_newer_filled c_kept_held c_turns_need)) (QI dC dI (W_X8 a0 a1 a2 a3 a4 a5 a6 a7 a8 a9 a10 a11 a12 a13 a14 a15 a16 a17 a18 a19 a20 a21 a22 a23 a24 a25 a26 a27 a28 a29 cI cJ c_text_bytes c_text_length c_reader_numbers c_reader_next c_laid_stand c_laid_home c_laid_priceStart c_laid_priceStep c_laid_thrown_cells c_laid_thrown_filled c_laid_nets_cells c_laid_nets_filled c_trial_stand c_trial_home c_trial_priceStart c_trial_priceStep c_trial_thrown_cells c_trial_thrown_filled c_trial_nets_cells c_trial_nets_filled c_flight_loads_cells c_flight_loads_filled c_flight_order c_flight_done c_flight_start c_flight_end c_changes_who c_changes_column c_changes_was c_changes_held c_kept_older_cells c_kept_older_filled c_kept_newer_cells c_kept_newer_filled c_kept_held c_turns_need) (W_X8 a0 a1 a2 a3 a4 a5 a6 a7 a8 a9 a10 a11 a12 a13 a14 a15 a16 a17 a18 a19 a20 a21 a22 a23 a24 a25 a26 a27 a28 a29 cI cJ c_text_bytes c_text_length c_reader_numbers c_reader_next c_laid_stand c_laid_home c_laid_priceStart c_laid_priceStep c_laid_thrown_cells c_laid_thrown_filled c_laid_nets_cells c_laid_nets_filled c_trial_stand c_trial_home c_trial_priceStart c_trial_priceStep c_trial_thrown_cells c_trial_thrown_filled c_trial_nets_cells c_trial_nets_filled n_flight_loads_cells c_flight_loads_filled n_flight_order n_flight_done n_flight_start n_flight_end c_changes_who c_changes_column c_changes_was c_changes_held c_kept_older_cells c_kept_older_filled c_kept_newer_cells c_kept_newer_filled c_kept_held c_turns_need) res) 0 0 (FA (W_X8 a0 a1 a2 a3 a4 a5 a6 a7 a8 a9 a10 a11 a12 a13 a14 a15 a16 a17 a18 a19 a20 a21 a22 a23 a24 a25 a26 a27 a28 a29 cI cJ c_text_bytes c_text_length c_reader_numbers c_reader_next c_laid_stand c_laid_home c_laid_priceStart c_laid_priceStep c_laid_thrown_cells c_laid_thrown_filled c_laid_nets_cells c_laid_nets_filled c_trial_stand c_trial_home c_trial_priceStart c_trial_priceStep c_trial_thrown_cells c_trial_thrown_filled c_trial_nets_cells c_trial_nets_filled c_flight_loads_cells c_flight_loads_filled c_flight_order c_flight_done c_flight_start c_flight_end c_changes_who c_changes_column c_changes_was c_changes_held c_kept_older_cells c_kept_older_filled c_kept_newer_cells c_kept_newer_filled c_kept_held c_turns_need)) := by
  refine r_metI (by decide +kernel) (Nat.le_of_ble_eq_true rfl) ?_
  intro p e s m args below meth c A H0 QQ X ret ls hl hG
  have X : Cx p m c cX8_stray 6 s args RX8 dC dI cI cJ meth (some .int) := X
  have hx := X.1.1
  have hb := X.1.2.1
  have hl : lv_has ls 6 [(0, .ref a0), (1, .int x1), (2, .int x2), (3, .int x3)] := hl
  have L50 : ∀ (c_flight_loads_cells : Nat → Int32) (c_flight_order : Nat → Int32) (c_flight_done : Int32) (c_flight_start : Int32) (c_flight_end : Int32), ∀ (n : Nat) (x4 : Int32) (x5 : Int32) (ex4 : Int32), DX8_stray_L50 x1 x2 x3 c_laid_thrown_filled c_flight_loads_cells n x4 x5 = some ex4 → (∀ (ls : Array Slot) (H : Heap) (locs : List Loc), lv_has ls 6 [(4, .int ex4)] → G dC dI A H0 (W_X8 a0 a1 a2 a3 a4 a5 a6 a7 a8 a9 a10 a11 a12 a13 a14 a15 a16 a17 a18 a19 a20 a21 a22 a23 a24 a25 a26 a27 a28 a29 cI cJ c_text_bytes c_text_length c_reader_numbers c_reader_next c_laid_stand c_laid_home c_laid_priceStart c_laid_priceStep c_laid_thrown_cells c_laid_thrown_filled c_laid_nets_cells c_laid_nets_filled c_trial_stand c_trial_home c_trial_priceStart c_trial_priceStep c_trial_thrown_cells c_trial_thrown_filled c_trial_nets_cells c_trial_nets_filled c_flight_loads_cells c_flight_loads_filled c_flight_order c_flight_done c_flight_start c_flight_end c_changes_who c_changes_column c_changes_was c_changes_held c_kept_older_cells c_kept_older_filled c_kept_newer_cells c_kept_newer_filled c_kept_held c_turns_need) H locs → W p l e (RM 6 143) s m args below meth c H locs 0 0 QQ (F0 m 108 ls [])) → ∀ (ls : Array Slot) (H : Heap) (locs : List Loc), lv_has ls 6 [(0, .ref a0), (1, .int x1), (2, .int x2), (3, .int x3), (4, .int x4), (5, .int x5)] → G dC dI A H0 (W_X8 a0 a1 a2 a3 a4 a5 a6 a7 a8 a9 a10 a11 a12 a13 a14 a15 a16 a17 a18 a19 a20 a21 a22 a23 a24 a25 a26 a27 a28 a29 cI cJ c_text_bytes c_text_length c_reader_numbers c_reader_next c_laid_stand c_laid_home c_laid_priceStart c_laid_priceStep c_laid_thrown_cells c_laid_thrown_filled c_laid_nets_cells c_laid_nets_filled c_trial_stand c_trial_home c_trial_priceStart c_trial_priceStep c_trial_thrown_cells c_trial_thrown_filled c_trial_nets_cells c_trial_nets_filled c_flight_loads_cells c_flight_loads_filled c_flight_order c_flight_done c_flight_start c_flight_end c_changes_who c_changes_column c_changes_was c_changes_held c_kept_older_cells c_kept_older_filled c_kept_newer_cells c_kept_newer_filled c_kept_held c_turns_need) H locs → W p l e (RM 6 143) s m args below meth c H locs 0 0 QQ (F0 m 50 ls []) := by
    intro c_flight_loads_cells c_flight_order c_flight_done c_flight_start c_flight_end n
    induction n with
    | zero => intro x4 x5 ex4 h; exact it_zero h
    | succ n ih =>
      intro x4 x5 ex4 h0 K0 ls H locs hl hG
      obtain ⟨w, h, hi, hr⟩ := it_succ h0
      have h : DX8_stray_L50s x1 x2 x3 c_laid_thrown_filled c_flight_loads_cells x4 x5 = some w := h
      have KC : ∀ (x4 : Int32) (x5 : Int32), w = .inl (x4, x5) → ∀ (ls : Array Slot) (H : Heap) (locs : List Loc), lv_has ls 6 [(0, .ref a0), (1, .int x1), (2, .int x2), (3, .int x3), (4, .int x4), (5, .int x5)] → G dC dI A H0 (W_X8 a0 a1 a2 a3 a4 a5 a6 a7 a8 a9 a10 a11 a12 a13 a14 a15 a16 a17 a18 a19 a20 a21 a22 a23 a24 a25 a26 a27 a28 a29 cI cJ c_text_bytes c_text_length c_reader_numbers c_reader_next c_laid_stand c_laid_home c_laid_priceStart c_laid_priceStep c_laid_thrown_cells c_laid_thrown_filled c_laid_nets_cells c_laid_nets_filled c_trial_stand c_trial_home c_trial_priceStart c_trial_priceStep c_trial_thrown_cells c_trial_thrown_filled c_trial_nets_cells c_trial_nets_filled c_flight_loads_cells c_flight_loads_filled c_flight_order c_flight_done c_flight_start c_flight_end c_changes_who c_changes_column c_changes_was c_changes_held c_kept_older_cells c_kept_older_filled c_kept_newer_cells c_kept_newer_filled c_kept_held c_turns_need) H locs → W p l e (RM 6 143) s m args below meth c H locs 0 0 QQ (F0 m 50 ls []) := fun b0 b1 e ls H locs hl hG => ih b0 b1 ex4 (hi _ e) K0 ls H locs hl hG
      have KX : ∀ (x4 : Int32), w = .inr x4 → ∀ (ls : Array Slot) (H : Heap) (locs : List Loc), lv_has ls 6 [(4, .int x4)] → G dC dI A H0 (W_X8 a0 a1 a2 a3 a4 a5 a6 a7 a8 a9 a10 a11 a12 a13 a14 a15 a16 a17 a18 a19 a20 a21 a22 a23 a24 a25 a26 a27 a28 a29 cI cJ c_text_bytes c_text_length c_reader_numbers c_reader_next c_laid_stand c_laid_home c_laid_priceStart c_laid_priceStep c_laid_thrown_cells c_laid_thrown_filled c_laid_nets_cells c_laid_nets_filled c_trial_stand c_trial_home c_trial_priceStart c_trial_priceStep c_trial_thrown_cells c_trial_thrown_filled c_trial_nets_cells c_trial_nets_filled c_flight_loads_cells c_flight_loads_filled c_flight_order c_flight_done c_flight_start c_flight_end c_changes_who c_changes_column c_changes_was c_changes_held c_kept_older_cells c_kept_older_filled c_kept_newer_cells c_kept_newer_filled c_kept_held c_turns_need) H locs → W p l e (RM 6 143) s m args below meth c H locs 0 0 QQ (F0 m 108 ls []) := fun b0 e ls H locs hl hG => by cases hr _ e; exact K0 ls H locs hl hG
      clear h0 hi hr K0 ih
      unfold DX8_stray_L50s at h
      refine lv_iload hx hb dX8_stray_50 (lv_at hl 5 rfl) ?_
      refine lv_aload_n hx hb dX8_stray_52 rfl (lv_at hl 0 rfl) ?_
      refine r_get X hG in_X8 rfl 2 (by decide) w_237 0 rfl rfl dX8_stray_53 ?_
      refine r_getN X hG in_X3 rfl 4 (by decide) w_136 5 rfl rfl dX8_stray_56 ?_
      obtain ⟨r_16, hz_17, h⟩ := bd1_some h
      refine aft_i (ws' := (W_X8 a0 a1 a2 a3 a4 a5 a6 a7 a8 a9 a10 a11 a12 a13 a14 a15 a16 a17 a18 a19 a20 a21 a22 a23 a24 a25 a26 a27 a28 a29 cI cJ c_text_bytes c_text_length c_reader_numbers c_reader_next c_laid_stand c_laid_home c_laid_priceStart c_laid_priceStep c_laid_thrown_cells c_laid_thrown_filled c_laid_nets_cells c_laid_nets_filled c_trial_stand c_trial_home c_trial_priceStart c_trial_priceStep c_trial_thrown_cells c_trial_thrown_filled c_trial_nets_cells c_trial_nets_filled c_flight_loads_cells c_flight_loads_filled c_flight_order c_flight_done c_flight_start c_flight_end c_changes_who c_changes_column c_changes_was c_changes_held c_kept_older_cells c_kept_older_filled c_kept_newer_cells c_kept_newer_filled c_kept_held c_turns_need)) (run_V (rest := [.int x5]) X hG hl.1 (mX5_rows l dC dI cI cJ a6 a7 (7 : Int32) (4 : Int32) 28 c_laid_thrown_cells c_laid_thrown_filled hz_17) gi_V_X8_90 hd_V_yX5_rows ⟨rfl, rfl⟩ rfl ⟨Nat.le_of_ble_eq_true rfl, Nat.le_of_ble_eq_true rfl⟩ [6, 7] (by decide) rfl 6 rfl rfl rfl rfl (Nat.le_of_ble_eq_true rfl) ⟨Nat.le_of_ble_eq_true rfl, Nat.le_of_ble_eq_true rfl⟩ dX8_stray_59) hG [6, 7] rfl rfl rfl (fun H locs hG => ?_)
      clear hz_17
      refine lv_icmp_ge (tgt := 108) hx hb dX8_stray_62 (by decide) (fun c_18 => ?_) (fun c_18 => ?_)
      · have h := ite_t h c_18
        exact KX _ (Option.some.inj h).symm _ _ _ (lv_sub hl [4] rfl) hG
      · have h := ite_f h c_18
        refine lv_aload_n hx hb dX8_stray_65 rfl (lv_at hl 0 rfl) ?_
        refine r_get X hG in_X8 rfl 4 (by decide) w_239 0 rfl rfl dX8_stray_66 ?_
        refine lv_iload hx hb dX8_stray_69 (lv_at hl 5 rfl) ?_
        refine lv_iload_n hx hb dX8_stray_71 rfl (lv_at hl 3 rfl) ?_
        obtain ⟨r_19, hz_20, h⟩ := bd1_some h
        refine aft_i (ws' := (W_X8 a0 a1 a2 a3 a4 a5 a6 a7 a8 a9 a10 a11 a12 a13 a14 a15 a16 a17 a18 a19 a20 a21 a22 a23 a24 a25 a26 a27 a28 a29 cI cJ c_text_bytes c_text_length c_reader_numbers c_reader_next c_laid_stand c_laid_home c_laid_priceStart c_laid_priceStep c_laid_thrown_cells c_laid_thrown_filled c_laid_nets_cells c_laid_nets_filled c_trial_stand c_trial_home c_trial_priceStart c_trial_priceStep c_trial_thrown_cells c_trial_thrown_filled c_trial_nets_cells c_trial_nets_filled c_flight_loads_cells c_flight_loads_filled c_flight_order c_flight_done c_flight_start c_flight_end c_changes_who c_changes_column c_changes_was c_changes_held c_kept_older_cells c_kept_older_filled c_kept_newer_cells c_kept_newer_filled c_kept_held c_turns_need)) (run_V (rest := []) X hG hl.1 (mX1_farOn l dC dI cI cJ a15 a16 a17 a18 c_flight_loads_cells c_flight_loads_filled c_flight_order c_flight_done c_flight_start c_flight_end x5 x3 hz_20) gi_V_X8_114 hd_V_yX1_farOn ⟨rfl, rfl⟩ rfl ⟨Nat.le_of_ble_eq_true rfl, Nat.le_of_ble_eq_true rfl⟩ [15, 16, 17, 18] (by decide) rfl 15 rfl rfl rfl rfl (Nat.le_of_ble_eq_true rfl) ⟨Nat.le_of_ble_eq_true rfl, Nat.le_of_ble_eq_true rfl⟩ dX8_stray_72) hG [15, 16, 17, 18] rfl rfl rfl (fun H locs hG => ?_)
        clear hz_20
        refine lv_iload_n hx hb dX8_stray_75 rfl (lv_at hl 1 rfl) ?_
        refine lv_icmp_ne (tgt := 102) hx hb dX8_stray_76 (by decide) (fun c_21 => ?_) (fun c_21 => ?_)
        · have h := ite_f h c_21
          refine lv_iinc (v := (x5 + (1 : Int32))) (lv' := [(5, .int (x5 + (1 : Int32))), (0, .ref a0), (1, .int x1), (2, .int x2), (3, .int x3), (4, .int x4)]) hx hb dX8_stray_102 hl (k := 5) rfl rfl (by decide) rfl (fun ls hl => ?_)
          refine lv_goto (tgt := 50) hx hb dX8_stray_105 (by decide) ?_
          exact KC _ _ (Option.some.inj h).symm _ _ _ (lv_sub hl [1, 2, 3, 4, 5, 0] rfl) hG
        · have h := ite_t h c_21
          refine lv_aload_n hx hb dX8_stray_79 rfl (lv_at hl 0 rfl) ?_
          refine r_get X hG in_X8 rfl 4 (by decide) w_239 0 rfl rfl dX8_stray_80 ?_
          refine lv_iload hx hb dX8_stray_83 (lv_at hl 5 rfl) ?_
          refine lv_iconst (v := (4 : Int32)) hx hb dX8_stray_85 (by decide) ?_
          obtain ⟨r_22, hz_23, h⟩ := bd1_some h
          refine aft_i (ws' := (W_X8 a0 a1 a2 a3 a4 a5 a6 a7 a8 a9 a10 a11 a12 a13 a14 a15 a16 a17 a18 a19 a20 a21 a22 a23 a24 a25 a26 a27 a28 a29 cI cJ c_text_bytes c_text_length c_reader_numbers c_reader_next c_laid_stand c_laid_home c_laid_priceStart c_laid_priceStep c_laid_thrown_cells c_laid_thrown_filled c_laid_nets_cells c_laid_nets_filled c_trial_stand c_trial_home c_trial_priceStart c_trial_priceStep c_trial_thrown_cells c_trial_thrown_filled c_trial_nets_cells c_trial_nets_filled c_flight_loads_cells c_flight_loads_filled c_flight_order c_flight_done c_flight_start c_flight_end c_changes_who c_changes_column c_changes_was c_changes_held c_kept_older_cells c_kept_older_filled c_kept_newer_cells c_kept_newer_filled c_kept_held c_turns_need)) (run_V (rest := []) X hG hl.1 (mX1_known l dC dI cI cJ a15 a16 a17 a18 c_flight_loads_cells c_flight_loads_filled c_flight_order c_flight_done c_flight_start c_flight_end x5 (4 : Int32) hz_23) gi_V_X8_110 hd_V_yX1_known ⟨rfl, rfl⟩ rfl ⟨Nat.le_of_ble_eq_true rfl, Nat.le_of_ble_eq_true rfl⟩ [15, 16, 17, 18] (by decide) rfl 15 rfl rfl rfl rfl (Nat.le_of_ble_eq_true rfl) ⟨Nat.le_of_ble_eq_true rfl, Nat.le_of_ble_eq_true rfl⟩ dX8_stray_86) hG [15, 16, 17, 18] rfl rfl rfl (fun H locs hG => ?_)
          clear hz_23
          refine lv_iload_n hx hb dX8_stray_89 rfl (lv_at hl 2 rfl) ?_
          refine lv_icmp_ne (tgt := 102) hx hb dX8_stray_90 (by decide) (fun c_24 => ?_) (fun c_24 => ?_)
          · have h := ite_f h c_24
            refine lv_iinc (v := (x5 + (1 : Int32))) (lv' := [(5, .int (x5 + (1 : Int32))), (0, .ref a0), (1, .int x1), (2, .int x2), (3, .int x3), (4, .int x4)]) hx hb dX8_stray_102 hl (k := 5) rfl rfl (by decide) rfl (fun ls hl => ?_)
            refine lv_goto (tgt := 50) hx hb dX8_stray_105 (by decide) ?_
            exact KC _ _ (Option.some.inj h).symm _ _ _ (lv_sub hl [1, 2, 3, 4, 5, 0] rfl) hG
          · have h := ite_t h c_24
            refine lv_iload hx hb dX8_stray_93 (lv_at hl 4 rfl) ?_
            refine lv_iconst (v := (1 : Int32)) hx hb dX8_stray_95 (by decide) ?_
            refine lv_iload hx hb dX8_stray_96 (lv_at hl 5 rfl) ?_
            refine lv_ishl hx hb dX8_stray_98 ?_
            refine lv_ior hx hb dX8_stray_99 ?_
            refine lv_istore (lv' := [(4, .int (x4 ||| ((1 : Int32) <<< (x5 &&& 31)))), (0, .ref a0), (1, .int x1), (2, .int x2), (3, .int x3), (5, .int x5)]) hx hb dX8_stray_100 hl (by decide) rfl (fun ls hl => ?_)
            refine lv_iinc (v := (x5 + (1 : Int32))) (lv' := [(5, .int (x5 + (1 : Int32))), (4, .int (x4 ||| ((1 : Int32) <<< (x5 &&& 31)))), (0, .ref a0), (1, .int x1), (2, .int x2), (3, .int x3)]) hx hb dX8_stray_102 hl (k := 5) rfl rfl (by decide) rfl (fun ls hl => ?_)
            refine lv_goto (tgt := 50) hx hb dX8_stray_105 (by decide) ?_
            exact KC _ _ (Option.some.inj h).symm _ _ _ (lv_sub hl [2, 3, 4, 5, 1, 0] rfl) hG
  have h := hD
  unfold DX8_stray at h
  clear hD
  refine lv_iload_n hx hb dX8_stray_0 rfl (lv_at hl 1 rfl) ?_
  refine lv_iconst (v := (0 : Int32)) hx hb dX8_stray_1 (by decide) ?_
  refine lv_bipush (v := (60 : Int32)) hx hb dX8_stray_2 (by decide) ?_
  obtain ⟨r_1, hz_2, h⟩ := bd1_some h
  refine aft_i (ws' := (W_X8 a0 a1 a2 a3 a4 a5 a6 a7 a8 a9 a10 a11 a12 a13 a14 a15 a16 a17 a18 a19 a20 a21 a22 a23 a24 a25 a26 a27 a28 a29 cI cJ c_text_bytes c_text_length c_reader_numbers c_reader_next c_laid_stand c_laid_home c_laid_priceStart c_laid_priceStep c_laid_thrown_cells c_laid_thrown_filled c_laid_nets_cells c_laid_nets_filled c_trial_stand c_trial_home c_trial_priceStart c_trial_priceStep c_trial_thrown_cells c_trial_thrown_filled c_trial_nets_cells c_trial_nets_filled c_flight_loads_cells c_flight_loads_filled c_flight_order c_flight_done c_flight_start c_flight_end c_changes_who c_changes_column c_changes_was c_changes_held c_kept_older_cells c_kept_older_filled c_kept_newer_cells c_kept_newer_filled c_kept_held c_turns_need)) (run_S (rest := []) X hG hl.1 (mX8_within l dC dI cI cJ x1 (0 : Int32) (60 : Int32) hz_2) gi_S_X8_74 hd_S_yX8_within ⟨rfl, rfl⟩ rfl ⟨Nat.le_of_ble_eq_true rfl, Nat.le_of_ble_eq_true rfl⟩ [] (by decide) rfl rfl (Nat.le_of_ble_eq_true rfl) ⟨Nat.le_of_ble_eq_true rfl, Nat.le_of_ble_eq_true rfl⟩ dX8_stray_4) hG [] rfl rfl rfl (fun H locs hG => ?_)
  clear hz_2
  refine lv_if_eq (tgt := 30) hx hb dX8_stray_7 (by decide) (fun c_3 => ?_) (fun c_3 => ?_)
  · have h := ite_t h c_3
    refine lv_iconst (v := (-1 : Int32)) hx hb dX8_stray_30 (by decide) ?_
    cases h
    exact ret _ _ _ _ dX8_stray_31 hG
  · have h := ite_f h c_3
    refine lv_iload_n hx hb dX8_stray_10 rfl (lv_at hl 2 rfl) ?_
    refine lv_iconst (v := (0 : Int32)) hx hb dX8_stray_11 (by decide) ?_
    refine lv_bipush (v := (23 : Int32)) hx hb dX8_stray_12 (by decide) ?_
    obtain ⟨r_4, hz_5, h⟩ := bd1_some h
    refine aft_i (ws' := (W_X8 a0 a1 a2 a3 a4 a5 a6 a7 a8 a9 a10 a11 a12 a13 a14 a15 a16 a17 a18 a19 a20 a21 a22 a23 a24 a25 a26 a27 a28 a29 cI cJ c_text_bytes c_text_length c_reader_numbers c_reader_next c_laid_stand c_laid_home c_laid_priceStart c_laid_priceStep c_laid_thrown_cells c_laid_thrown_filled c_laid_nets_cells c_laid_nets_filled c_trial_stand c_trial_home c_trial_priceStart c_trial_priceStep c_trial_thrown_cells c_trial_thrown_filled c_trial_nets_cells c_trial_nets_filled c_flight_loads_cells c_flight_loads_filled c_flight_order c_flight_done c_flight_start c_flight_end c_changes_who c_changes_column c_changes_was c_changes_held c_kept_older_cells c_kept_older_filled c_kept_newer_cells c_kept_newer_filled c_kept_held c_turns_need)) (run_S (rest := []) X hG hl.1 (mX8_within l dC dI cI cJ x2 (0 : Int32) (23 : Int32) hz_5) gi_S_X8_74 hd_S_yX8_within ⟨rfl, rfl⟩ rfl ⟨Nat.le_of_ble_eq_true rfl, Nat.le_of_ble_eq_true rfl⟩ [] (by decide) rfl rfl (Nat.le_of_ble_eq_true rfl) ⟨Nat.le_of_ble_eq_true rfl, Nat.le_of_ble_eq_true rfl⟩ dX8_stray_14) hG [] rfl rfl rfl (fun H locs hG => ?_)
    clear hz_5
    refine lv_if_eq (tgt := 30) hx hb dX8_stray_17 (by decide) (fun c_6 => ?_) (fun c_6 => ?_)
    · have h := ite_t h c_6
      refine lv_iconst (v := (-1 : Int32)) hx hb dX8_stray_30 (by decide) ?_
      cases h
      exact ret _ _ _ _ dX8_stray_31 hG
    · have h := ite_f h c_6
      refine lv_iload_n hx hb dX8_stray_20 rfl (lv_at hl 3 rfl) ?_
      refine lv_iconst (v := (0 : Int32)) hx hb dX8_stray_21 (by decide) ?_
      refine lv_bipush (v := (99 : Int32)) hx hb dX8_stray_22 (by decide) ?_
      obtain ⟨r_7, hz_8, h⟩ := bd1_some h
      refine aft_i (ws' := (W_X8 a0 a1 a2 a3 a4 a5 a6 a7 a8 a9 a10 a11 a12 a13 a14 a15 a16 a17 a18 a19 a20 a21 a22 a23 a24 a25 a26 a27 a28 a29 cI cJ c_text_bytes c_text_length c_reader_numbers c_reader_next c_laid_stand c_laid_home c_laid_priceStart c_laid_priceStep c_laid_thrown_cells c_laid_thrown_filled c_laid_nets_cells c_laid_nets_filled c_trial_stand c_trial_home c_trial_priceStart c_trial_priceStep c_trial_thrown_cells c_trial_thrown_filled c_trial_nets_cells c_trial_nets_filled c_flight_loads_cells c_flight_loads_filled c_flight_order c_flight_done c_flight_start c_flight_end c_changes_who c_changes_column c_changes_was c_changes_held c_kept_older_cells c_kept_older_filled c_kept_newer_cells c_kept_newer_filled c_kept_held c_turns_need)) (run_S (rest := []) X hG hl.1 (mX8_within l dC dI cI cJ x3 (0 : Int32) (99 : Int32) hz_8) gi_S_X8_74 hd_S_yX8_within ⟨rfl, rfl⟩ rfl ⟨Nat.le_of_ble_eq_true rfl, Nat.le_of_ble_eq_true rfl⟩ [] (by decide) rfl rfl (Nat.le_of_ble_eq_true rfl) ⟨Nat.le_of_ble_eq_true rfl, Nat.le_of_ble_eq_true rfl⟩ dX8_stray_24) hG [] rfl rfl rfl (fun H locs hG => ?_)
      clear hz_8
      refine lv_if_ne (tgt := 32) hx hb dX8_stray_27 (by decide) (fun c_9 => ?_) (fun c_9 => ?_)
      · have h := ite_f h c_9
        refine lv_iconst (v := (0 : Int32)) hx hb dX8_stray_32 (by decide) ?_
        refine lv_istore (lv' := [(4, .int (0 : Int32)), (0, .ref a0), (1, .int x1), (2, .int x2), (3, .int x3)]) hx hb dX8_stray_33 hl (by decide) rfl (fun ls hl => ?_)
        refine lv_aload_n hx hb dX8_stray_35 rfl (lv_at hl 1 rfl) ?_
        refine r_get X hG in_X8 rfl 4 (by decide) w_239 0 rfl rfl dX8_stray_36 ?_
        refine lv_aload_n hx hb dX8_stray_39 rfl (lv_at hl 1 rfl) ?_
        refine r_get X hG in_X8 rfl 2 (by decide) w_237 0 rfl rfl dX8_stray_40 ?_
        refine lv_iconst (v := (0 : Int32)) hx hb dX8_stray_43 (by decide) ?_
        obtain ⟨k_flight_loads_cells_10, k_flight_order_11, k_flight_done_12, k_flight_start_13, k_flight_end_14, hz_15, h⟩ := bd5_some h
        refine aft_v (ws' := (W_X8 a0 a1 a2 a3 a4 a5 a6 a7 a8 a9 a10 a11 a12 a13 a14 a15 a16 a17 a18 a19 a20 a21 a22 a23 a24 a25 a26 a27 a28 a29 cI cJ c_text_bytes c_text_length c_reader_numbers c_reader_next c_laid_stand c_laid_home c_laid_priceStart c_laid_priceStep c_laid_thrown_cells c_laid_thrown_filled c_laid_nets_cells c_laid_nets_filled c_trial_stand c_trial_home c_trial_priceStart c_trial_priceStep c_trial_thrown_cells c_trial_thrown_filled c_trial_nets_cells c_trial_nets_filled k_flight_loads_cells_10 c_flight_loads_filled k_flight_order_11 k_flight_done_12 k_flight_start_13 k_flight_end_14 c_changes_who c_changes_column c_changes_was c_changes_held c_kept_older_cells c_kept_older_filled c_kept_newer_cells c_kept_newer_filled c_kept_held c_turns_need)) (run_V (rest := []) X hG hl.1 (mX1_fly l dC dI cI cJ a15 a16 a17 a18 a5 a6 a7 a8 a9 c_flight_loads_cells c_flight_loads_filled c_flight_order c_flight_done c_flight_start c_flight_end c_laid_stand c_laid_home c_laid_priceStart c_laid_priceStep c_laid_thrown_cells c_laid_thrown_filled c_laid_nets_cells c_laid_nets_filled (0 : Int32) hz_15) gi_V_X8_106 hd_V_yX1_fly ⟨rfl, rfl⟩ rfl ⟨Nat.le_of_ble_eq_true rfl, Nat.le_of_ble_eq_true rfl⟩ [15, 16, 17, 18, 5, 6, 7, 8, 9] (by decide) rfl 15 rfl rfl rfl rfl (Nat.le_of_ble_eq_true rfl) ⟨Nat.le_of_ble_eq_true rfl, Nat.le_of_ble_eq_true rfl⟩ dX8_stray_44) hG [15, 16, 17, 18, 5, 6, 7, 8, 9] rfl rfl rfl (fun H locs hG => ?_)
        clear hz_15
        refine lv_iconst (v := (0 : Int32)) hx hb dX8_stray_47 (by decide) ?_
        refine lv_istore (lv' := [(5, .int (0 : Int32)), (4, .int (0 : Int32)), (0, .ref a0), (1, .int x1), (2, .int x2), (3, .int x3)]) hx hb dX8_stray_48 hl (by decide) rfl (fun ls hl => ?_)
        obtain ⟨z4_25, hz, h⟩ := bd1_some h
        refine L50 k_flight_loads_cells_10 k_flight_order_11 k_flight_done_12 k_flight_start_13 k_flight_end_14 FU (0 : Int32) (0 : Int32) _ hz (fun ls H locs hl hG => ?_) _ _ _ (lv_sub hl [2, 3, 4, 5, 1, 0] rfl) hG
        clear hz
        refine lv_iload hx hb dX8_stray_108 (lv_at hl 0 rfl) ?_
        cases h
        exact ret _ _ _ _ dX8_stray_110 hG
      · have h := ite_t h c_9
        refine lv_iconst (v := (-1 : Int32)) hx hb dX8_stray_30 (by decide) ?_
        cases h
        exact ret _ _ _ _ dX8_stray_31 hG
set_option maxRecDepth 100000 in
set_option maxHeartbeats 4000000 in
theorem mX8_meeters (l : Launch) (dC : Nat → ClassId) (dI : Nat → Nat → Nat) (cI cJ : ClassId) (a0 a1 a2 a3 a4 a5 a6 a7 a8 a9 a10 a11 a12 a13 a14 a15 a16 a17 a18 a19 a20 a21 a22 a23 a24 a25 a26 a27 a28 a29 : Nat) (c_text_bytes : Nat → Int32) (c_text_length : Int32) (c_reader_numbers : Nat → Int32) (c_reader_next : Int32) (c_laid_stand : Int32) (c_laid_home : Int32) (c_laid_priceStart : Int32) (c_laid_priceStep : Int32) (c_laid_thrown_cells : Nat → Int32) (c_laid_thrown_filled : Int32) (c_laid_nets_cells : Nat → Int32) (c_laid_nets_filled : Int32) (c_trial_stand : Int32) (c_trial_home : Int32) (c_trial_priceStart : Int32) (c_trial_priceStep : Int32) (c_trial_thrown_cells : Nat → Int32) (c_trial_thrown_filled : Int32) (c_trial_nets_cells : Nat → Int32) (c_trial_nets_filled : Int32) (c_flight_loads_cells : Nat → Int32) (c_flight_loads_filled : Int32) (c_flight_order : Nat → Int32) (c_flight_done : Int32) (c_flight_start : Int32) (c_flight_end : Int32) (c_changes_who : Nat → Int32) (c_changes_column : Nat → Int32) (c_changes_was : Nat → Int32) (c_changes_held : Int32) (c_kept_older_cells : Nat → Int32) (c_kept_older_filled : Int32) (c_kept_newer_cells : Nat → Int32) (c_kept_newer_filled : Int32) (c_kept_held : Int32) (c_turns_need : Nat → Int32) (x1 : Int32) (x2 : Int32) {res : Int32} (hD : DX8_meeters x1 x2 c_laid_home c_laid_thrown_cells c_laid_thrown_filled = some res) : Met l yX8_meeters (WZ yX8_meeters cX8_meeters 8 (some .int)) (RM 1 28) (PC dC dI cI cJ [.ref a0, .int x1, .int x2] (W_X8 a0 a1 a2 a3 a4 a5 a6 a7 a8 a9 a10 a11 a12 a13 a14 a15 a16 a17 a18 a19 a20 a21 a22 a23 a24 a25 a26 a27 a28 a29 cI cJ c_text_bytes c_text_length c_reader_numbers c_reader_next c_laid_stand c_laid_home c_laid_priceStart c_laid_priceStep c_laid_thrown_cells c_laid_thrown_filled c_laid_nets_cells c_laid_nets_filled c_trial_stand c_trial_home c_trial_priceStart c_trial_priceStep c_trial_thrown_cells c_trial_thrown_filled c_trial_nets_cells c_trial_nets_filled c_flight_loads_cells c_flight_loads_filled c_flight_order c_flight_done c_flight_start c_flight_end c_changes_who c_changes_column c_changes_was c_changes_held c_kept_older_cells c_kept_older_filled c_kept_newer_cells c_kept_newer_filled c_kept_held c_turns_need)) (QI dC dI (W_X8 a0 a1 a2 a3 a4 a5 a6 a7 a8 a9 a10 a11 a12 a13 a14 a15 a16 a17 a18 a19 a20 a21 a22 a23 a24 a25 a26 a27 a28 a29 cI cJ c_text_bytes c_text_length c_reader_numbers c_reader_next c_laid_stand c_laid_home c_laid_priceStart c_laid_priceStep c_laid_thrown_cells c_laid_thrown_filled c_laid_nets_cells c_laid_nets_filled c_trial_stand c_trial_home c_trial_priceStart c_trial_priceStep c_trial_thrown_cells c_trial_thrown_filled c_trial_nets_cells c_trial_nets_filled c_flight_loads_cells c_flight_loads_filled c_flight_order c_flight_done c_flight_start c_flight_end c_changes_who c_changes_column c_changes_was c_changes_held c_kept_older_cells c_kept_older_filled c_kept_newer_cells c_kept_newer_filled c_kept_held c_turns_need) (W_X8 a0 a1 a2 a3 a4 a5 a6 a7 a8 a9 a10 a11 a12 a13 a14 a15 a16 a17 a18 a19 a20 a21 a22 a23 a24 a25 a26 a27 a28 a29 cI cJ c_text_bytes c_text_length c_reader_numbers c_reader_next c_laid_stand c_laid_home c_laid_priceStart c_laid_priceStep c_laid_thrown_cells c_laid_thrown_filled c_laid_nets_cells c_laid_nets_filled c_trial_stand c_trial_home c_trial_priceStart c_trial_priceStep c_trial_thrown_cells c_trial_thrown_filled c_trial_nets_cells c_trial_nets_filled c_flight_loads_cells c_flight_loads_filled c_flight_order c_flight_done c_flight_start c_flight_end c_changes_who c_changes_column c_changes_was c_changes_held c_kept_older_cells c_kept_older_filled c_kept_newer_cells c_kept_newer_filled c_kept_held c_turns_need) res) 0 0 (FA (W_X8 a0 a1 a2 a3 a4 a5 a6 a7 a8 a9 a10 a11 a12 a13 a14 a15 a16 a17 a18 a19 a20 a21 a22 a23 a24 a25 a26 a27 a28 a29 cI cJ c_text_bytes c_text_length c_reader_numbers c_reader_next c_laid_stand c_laid_home c_laid_priceStart c_laid_priceStep c_laid_thrown_cells c_laid_thrown_filled c_laid_nets_cells c_laid_nets_filled c_trial_stand c_trial_home c_trial_priceStart c_trial_priceStep c_trial_thrown_cells c_trial_thrown_filled c_trial_nets_cells c_trial_nets_filled c_flight_loads_cells c_flight_loads_filled c_flight_order c_flight_done c_flight_start c_flight_end c_changes_who c_changes_column c_changes_was c_changes_held c_kept_older_cells c_kept_older_filled c_kept_newer_cells c_kept_newer_filled c_kept_held c_turns_need)) := by
  refine r_metI (by decide +kernel) (Nat.le_of_ble_eq_true rfl) ?_
  intro p e s m args below meth c A H0 QQ X ret ls hl hG
  have X : Cx p m c cX8_meeters 8 s args RX8 dC dI cI cJ meth (some .int) := X
  have hx := X.1.1
  have hb := X.1.2.1
  have hl : lv_has ls 8 [(0, .ref a0), (1, .int x1), (2, .int x2)] := hl
  have L44 : ∀ (x5 : Int32), ∀ (n : Nat) (x3 : Int32) (x4 : Int32) (x6 : Int32) (ex3 : Int32) (ex4 : Int32), DX8_meeters_L44 x1 c_laid_home c_laid_thrown_cells x5 n x3 x4 x6 = some (ex3, ex4) → (∀ (ls : Array Slot) (H : Heap) (locs : List Loc), lv_has ls 8 [(0, .ref a0), (1, .int x1), (2, .int x2), (3, .int ex3), (4, .int ex4), (5, .int x5)] → G dC dI A H0 (W_X8 a0 a1 a2 a3 a4 a5 a6 a7 a8 a9 a10 a11 a12 a13 a14 a15 a16 a17 a18 a19 a20 a21 a22 a23 a24 a25 a26 a27 a28 a29 cI cJ c_text_bytes c_text_length c_reader_numbers c_reader_next c_laid_stand c_laid_home c_laid_priceStart c_laid_priceStep c_laid_thrown_cells c_laid_thrown_filled c_laid_nets_cells c_laid_nets_filled c_trial_stand c_trial_home c_trial_priceStart c_trial_priceStep c_trial_thrown_cells c_trial_thrown_filled c_trial_nets_cells c_trial_nets_filled c_flight_loads_cells c_flight_loads_filled c_flight_order c_flight_done c_flight_start c_flight_end c_changes_who c_changes_column c_changes_was c_changes_held c_kept_older_cells c_kept_older_filled c_kept_newer_cells c_kept_newer_filled c_kept_held c_turns_need) H locs → W p l e (RM 1 28) s m args below meth c H locs 0 0 QQ (F0 m 130 ls [])) → ∀ (ls : Array Slot) (H : Heap) (locs : List Loc), lv_has ls 8 [(0, .ref a0), (1, .int x1), (2, .int x2), (3, .int x3), (4, .int x4), (5, .int x5), (6, .int x6)] → G dC dI A H0 (W_X8 a0 a1 a2 a3 a4 a5 a6 a7 a8 a9 a10 a11 a12 a13 a14 a15 a16 a17 a18 a19 a20 a21 a22 a23 a24 a25 a26 a27 a28 a29 cI cJ c_text_bytes c_text_length c_reader_numbers c_reader_next c_laid_stand c_laid_home c_laid_priceStart c_laid_priceStep c_laid_thrown_cells c_laid_thrown_filled c_laid_nets_cells c_laid_nets_filled c_trial_stand c_trial_home c_trial_priceStart c_trial_priceStep c_trial_thrown_cells c_trial_thrown_filled c_trial_nets_cells c_trial_nets_filled c_flight_loads_cells c_flight_loads_filled c_flight_order c_flight_done c_flight_start c_flight_end c_changes_who c_changes_column c_changes_was c_changes_held c_kept_older_cells c_kept_older_filled c_kept_newer_cells c_kept_newer_filled c_kept_held c_turns_need) H locs → W p l e (RM 1 28) s m args below meth c H locs 0 0 QQ (F0 m 44 ls []) := by
    intro x5 n
    induction n with
    | zero => intro x3 x4 x6 ex3 ex4 h; exact it_zero h
    | succ n ih =>
      intro x3 x4 x6 ex3 ex4 h0 K0 ls H locs hl hG
      obtain ⟨w, h, hi, hr⟩ := it_succ h0
      have h : DX8_meeters_L44s x1 c_laid_home c_laid_thrown_cells x5 x3 x4 x6 = some w := h
      have KC : ∀ (x3 : Int32) (x4 : Int32) (x6 : Int32), w = .inl (x3, x4, x6) → ∀ (ls : Array Slot) (H : Heap) (locs : List Loc), lv_has ls 8 [(0, .ref a0), (1, .int x1), (2, .int x2), (3, .int x3), (4, .int x4), (5, .int x5), (6, .int x6)] → G dC dI A H0 (W_X8 a0 a1 a2 a3 a4 a5 a6 a7 a8 a9 a10 a11 a12 a13 a14 a15 a16 a17 a18 a19 a20 a21 a22 a23 a24 a25 a26 a27 a28 a29 cI cJ c_text_bytes c_text_length c_reader_numbers c_reader_next c_laid_stand c_laid_home c_laid_priceStart c_laid_priceStep c_laid_thrown_cells c_laid_thrown_filled c_laid_nets_cells c_laid_nets_filled c_trial_stand c_trial_home c_trial_priceStart c_trial_priceStep c_trial_thrown_cells c_trial_thrown_filled c_trial_nets_cells c_trial_nets_filled c_flight_loads_cells c_flight_loads_filled c_flight_order c_flight_done c_flight_start c_flight_end c_changes_who c_changes_column c_changes_was c_changes_held c_kept_older_cells c_kept_older_filled c_kept_newer_cells c_kept_newer_filled c_kept_held c_turns_need) H locs → W p l e (RM 1 28) s m args below meth c H locs 0 0 QQ (F0 m 44 ls []) := fun b0 b1 b2 e ls H locs hl hG => ih b0 b1 b2 ex3 ex4 (hi _ e) K0 ls H locs hl hG
      have KX : ∀ (x3 : Int32) (x4 : Int32), w = .inr (x3, x4) → ∀ (ls : Array Slot) (H : Heap) (locs : List Loc), lv_has ls 8 [(0, .ref a0), (1, .int x1), (2, .int x2), (3, .int x3), (4, .int x4), (5, .int x5)] → G dC dI A H0 (W_X8 a0 a1 a2 a3 a4 a5 a6 a7 a8 a9 a10 a11 a12 a13 a14 a15 a16 a17 a18 a19 a20 a21 a22 a23 a24 a25 a26 a27 a28 a29 cI cJ c_text_bytes c_text_length c_reader_numbers c_reader_next c_laid_stand c_laid_home c_laid_priceStart c_laid_priceStep c_laid_thrown_cells c_laid_thrown_filled c_laid_nets_cells c_laid_nets_filled c_trial_stand c_trial_home c_trial_priceStart c_trial_priceStep c_trial_thrown_cells c_trial_thrown_filled c_trial_nets_cells c_trial_nets_filled c_flight_loads_cells c_flight_loads_filled c_flight_order c_flight_done c_flight_start c_flight_end c_changes_who c_changes_column c_changes_was c_changes_held c_kept_older_cells c_kept_older_filled c_kept_newer_cells c_kept_newer_filled c_kept_held c_turns_need) H locs → W p l e (RM 1 28) s m args below meth c H locs 0 0 QQ (F0 m 130 ls []) := fun b0 b1 e ls H locs hl hG => by cases hr _ e; exact K0 ls H locs hl hG
      clear h0 hi hr K0 ih
      unfold DX8_meeters_L44s at h
      refine lv_iload hx hb dX8_meeters_44 (lv_at hl 6 rfl) ?_
      refine lv_bipush (v := (6 : Int32)) hx hb dX8_meeters_46 (by decide) ?_
      refine lv_icmp_gt (tgt := 130) hx hb dX8_meeters_48 (by decide) (fun c_8 => ?_) (fun c_8 => ?_)
      · have h := ite_t h c_8
        exact KX _ _ (Option.some.inj h).symm _ _ _ (lv_sub hl [0, 1, 2, 3, 4, 5] rfl) hG
      · have h := ite_f h c_8
        refine lv_aload_n hx hb dX8_meeters_51 rfl (lv_at hl 0 rfl) ?_
        refine r_get X hG in_X8 rfl 2 (by decide) w_237 0 rfl rfl dX8_meeters_52 ?_
        refine r_getN X hG in_X3 rfl 4 (by decide) w_136 5 rfl rfl dX8_meeters_55 ?_
        refine lv_iload_n hx hb dX8_meeters_58 rfl (lv_at hl 1 rfl) ?_
        refine lv_iconst (v := (0 : Int32)) hx hb dX8_meeters_59 (by decide) ?_
        obtain ⟨r_9, hz_10, h⟩ := bd1_some h
        refine aft_i (ws' := (W_X8 a0 a1 a2 a3 a4 a5 a6 a7 a8 a9 a10 a11 a12 a13 a14 a15 a16 a17 a18 a19 a20 a21 a22 a23 a24 a25 a26 a27 a28 a29 cI cJ c_text_bytes c_text_length c_reader_numbers c_reader_next c_laid_stand c_laid_home c_laid_priceStart c_laid_priceStep c_laid_thrown_cells c_laid_thrown_filled c_laid_nets_cells c_laid_nets_filled c_trial_stand c_trial_home c_trial_priceStart c_trial_priceStep c_trial_thrown_cells c_trial_thrown_filled c_trial_nets_cells c_trial_nets_filled c_flight_loads_cells c_flight_loads_filled c_flight_order c_flight_done c_flight_start c_flight_end c_changes_who c_changes_column c_changes_was c_changes_held c_kept_older_cells c_kept_older_filled c_kept_newer_cells c_kept_newer_filled c_kept_held c_turns_need)) (run_V (rest := []) X hG hl.1 (mX5_get l dC dI cI cJ a6 a7 (7 : Int32) (4 : Int32) 28 c_laid_thrown_cells c_laid_thrown_filled x1 (0 : Int32) hz_10) gi_V_X8_141 hd_V_yX5_get ⟨rfl, rfl⟩ rfl ⟨Nat.le_of_ble_eq_true rfl, Nat.le_of_ble_eq_true rfl⟩ [6, 7] (by decide) rfl 6 rfl rfl rfl rfl (Nat.le_of_ble_eq_true rfl) ⟨Nat.le_of_ble_eq_true rfl, Nat.le_of_ble_eq_true rfl⟩ dX8_meeters_60) hG [6, 7] rfl rfl rfl (fun H locs hG => ?_)
        clear hz_10
        refine lv_aload_n hx hb dX8_meeters_63 rfl (lv_at hl 0 rfl) ?_
        refine r_get X hG in_X8 rfl 2 (by decide) w_237 0 rfl rfl dX8_meeters_64 ?_
        refine r_getN X hG in_X3 rfl 4 (by decide) w_136 5 rfl rfl dX8_meeters_67 ?_
        refine lv_iload_n hx hb dX8_meeters_70 rfl (lv_at hl 1 rfl) ?_
        refine lv_iconst (v := (2 : Int32)) hx hb dX8_meeters_71 (by decide) ?_
        obtain ⟨r_11, hz_12, h⟩ := bd1_some h
        refine aft_i (ws' := (W_X8 a0 a1 a2 a3 a4 a5 a6 a7 a8 a9 a10 a11 a12 a13 a14 a15 a16 a17 a18 a19 a20 a21 a22 a23 a24 a25 a26 a27 a28 a29 cI cJ c_text_bytes c_text_length c_reader_numbers c_reader_next c_laid_stand c_laid_home c_laid_priceStart c_laid_priceStep c_laid_thrown_cells c_laid_thrown_filled c_laid_nets_cells c_laid_nets_filled c_trial_stand c_trial_home c_trial_priceStart c_trial_priceStep c_trial_thrown_cells c_trial_thrown_filled c_trial_nets_cells c_trial_nets_filled c_flight_loads_cells c_flight_loads_filled c_flight_order c_flight_done c_flight_start c_flight_end c_changes_who c_changes_column c_changes_was c_changes_held c_kept_older_cells c_kept_older_filled c_kept_newer_cells c_kept_newer_filled c_kept_held c_turns_need)) (run_V (rest := [.int r_9]) X hG hl.1 (mX5_get l dC dI cI cJ a6 a7 (7 : Int32) (4 : Int32) 28 c_laid_thrown_cells c_laid_thrown_filled x1 (2 : Int32) hz_12) gi_V_X8_141 hd_V_yX5_get ⟨rfl, rfl⟩ rfl ⟨Nat.le_of_ble_eq_true rfl, Nat.le_of_ble_eq_true rfl⟩ [6, 7] (by decide) rfl 6 rfl rfl rfl rfl (Nat.le_of_ble_eq_true rfl) ⟨Nat.le_of_ble_eq_true rfl, Nat.le_of_ble_eq_true rfl⟩ dX8_meeters_72) hG [6, 7] rfl rfl rfl (fun H locs hG => ?_)
        clear hz_12
        refine lv_iload hx hb dX8_meeters_75 (lv_at hl 5 rfl) ?_
        refine lv_iload hx hb dX8_meeters_77 (lv_at hl 6 rfl) ?_
        refine lv_aload_n hx hb dX8_meeters_79 rfl (lv_at hl 0 rfl) ?_
        refine r_get X hG in_X8 rfl 2 (by decide) w_237 0 rfl rfl dX8_meeters_80 ?_
        refine r_getN X hG in_X3 rfl 1 (by decide) w_132 5 rfl rfl dX8_meeters_83 ?_
        obtain ⟨r_13, hz_14, h⟩ := bd1_some h
        refine aft_i (ws' := (W_X8 a0 a1 a2 a3 a4 a5 a6 a7 a8 a9 a10 a11 a12 a13 a14 a15 a16 a17 a18 a19 a20 a21 a22 a23 a24 a25 a26 a27 a28 a29 cI cJ c_text_bytes c_text_length c_reader_numbers c_reader_next c_laid_stand c_laid_home c_laid_priceStart c_laid_priceStep c_laid_thrown_cells c_laid_thrown_filled c_laid_nets_cells c_laid_nets_filled c_trial_stand c_trial_home c_trial_priceStart c_trial_priceStep c_trial_thrown_cells c_trial_thrown_filled c_trial_nets_cells c_trial_nets_filled c_flight_loads_cells c_flight_loads_filled c_flight_order c_flight_done c_flight_start c_flight_end c_changes_who c_changes_column c_changes_was c_changes_held c_kept_older_cells c_kept_older_filled c_kept_newer_cells c_kept_newer_filled c_kept_held c_turns_need)) (run_S (rest := []) X hG hl.1 (mX8_meetingDay l dC dI cI cJ r_9 r_11 x5 x6 c_laid_home hz_14) gi_S_X8_167 hd_S_yX8_meetingDay ⟨rfl, rfl⟩ rfl ⟨Nat.le_of_ble_eq_true rfl, Nat.le_of_ble_eq_true rfl⟩ [] (by decide) rfl rfl (Nat.le_of_ble_eq_true rfl) ⟨Nat.le_of_ble_eq_true rfl, Nat.le_of_ble_eq_true rfl⟩ dX8_meeters_86) hG [] rfl rfl rfl (fun H locs hG => ?_)
        clear hz_14
        refine lv_istore (lv' := [(7, .int r_13), (0, .ref a0), (1, .int x1), (2, .int x2), (3, .int x3), (4, .int x4), (5, .int x5), (6, .int x6)]) hx hb dX8_meeters_89 hl (by decide) rfl (fun ls hl => ?_)
        refine lv_iload hx hb dX8_meeters_91 (lv_at hl 0 rfl) ?_
        refine lv_sipush (v := (1000 : Int32)) hx hb dX8_meeters_93 (by decide) ?_
        refine lv_icmp_eq (tgt := 124) hx hb dX8_meeters_96 (by decide) (fun c_15 => ?_) (fun c_15 => ?_)
        · have h := ite_t h c_15
          refine lv_iinc (v := (x6 + (1 : Int32))) (lv' := [(6, .int (x6 + (1 : Int32))), (7, .int r_13), (0, .ref a0), (1, .int x1), (2, .int x2), (3, .int x3), (4, .int x4), (5, .int x5)]) hx hb dX8_meeters_124 hl (k := 7) rfl rfl (by decide) rfl (fun ls hl => ?_)
          refine lv_goto (tgt := 44) hx hb dX8_meeters_127 (by decide) ?_
          exact KC _ _ _ (Option.some.inj h).symm _ _ _ (lv_sub hl [2, 3, 4, 5, 6, 7, 0] rfl) hG
        · have h := ite_f h c_15
          refine lv_iinc (v := (x3 + (1 : Int32))) (lv' := [(3, .int (x3 + (1 : Int32))), (7, .int r_13), (0, .ref a0), (1, .int x1), (2, .int x2), (4, .int x4), (5, .int x5), (6, .int x6)]) hx hb dX8_meeters_99 hl (k := 4) rfl rfl (by decide) rfl (fun ls hl => ?_)
          refine lv_iload hx hb dX8_meeters_102 (lv_at hl 5 rfl) ?_
          refine lv_bipush (v := (-4 : Int32)) hx hb dX8_meeters_104 (by decide) ?_
          refine lv_icmp_ne (tgt := 120) hx hb dX8_meeters_106 (by decide) (fun c_16 => ?_) (fun c_16 => ?_)
          · have h := ite_f h c_16
            refine lv_iload hx hb dX8_meeters_120 (lv_at hl 5 rfl) ?_
            refine lv_istore (lv' := [(4, .int x4), (3, .int (x3 + (1 : Int32))), (7, .int r_13), (0, .ref a0), (1, .int x1), (2, .int x2), (5, .int x5), (6, .int x6)]) hx hb dX8_meeters_122 hl (by decide) rfl (fun ls hl => ?_)
            refine lv_iinc (v := (x6 + (1 : Int32))) (lv' := [(6, .int (x6 + (1 : Int32))), (4, .int x4), (3, .int (x3 + (1 : Int32))), (7, .int r_13), (0, .ref a0), (1, .int x1), (2, .int x2), (5, .int x5)]) hx hb dX8_meeters_124 hl (k := 7) rfl rfl (by decide) rfl (fun ls hl => ?_)
            refine lv_goto (tgt := 44) hx hb dX8_meeters_127 (by decide) ?_
            exact KC _ _ _ (Option.some.inj h).symm _ _ _ (lv_sub hl [4, 5, 6, 2, 1, 7, 0] rfl) hG
          · have h := ite_t h c_16
            refine lv_bipush (v := (10 : Int32)) hx hb dX8_meeters_109 (by decide) ?_
            refine lv_iload hx hb dX8_meeters_111 (lv_at hl 6 rfl) ?_
            refine lv_imul hx hb dX8_meeters_113 ?_
            refine lv_iload hx hb dX8_meeters_114 (lv_at hl 7 rfl) ?_
            refine lv_iadd hx hb dX8_meeters_116 ?_
            refine lv_goto (tgt := 122) hx hb dX8_meeters_117 (by decide) ?_
            refine lv_istore (lv' := [(4, .int (((10 : Int32) * x5) + x6)), (3, .int (x3 + (1 : Int32))), (7, .int r_13), (0, .ref a0), (1, .int x1), (2, .int x2), (5, .int x5), (6, .int x6)]) hx hb dX8_meeters_122 hl (by decide) rfl (fun ls hl => ?_)
            refine lv_iinc (v := (x6 + (1 : Int32))) (lv' := [(6, .int (x6 + (1 : Int32))), (4, .int (((10 : Int32) * x5) + x6)), (3, .int (x3 + (1 : Int32))), (7, .int r_13), (0, .ref a0), (1, .int x1), (2, .int x2), (5, .int x5)]) hx hb dX8_meeters_124 hl (k := 7) rfl rfl (by decide) rfl (fun ls hl => ?_)
            refine lv_goto (tgt := 44) hx hb dX8_meeters_127 (by decide) ?_
            exact KC _ _ _ (Option.some.inj h).symm _ _ _ (lv_sub hl [4, 5, 6, 2, 1, 7, 0] rfl) hG
  have L34 : ∀ (n : Nat) (x3 : Int32) (x4 : Int32) (x5 : Int32) (ex3 : Int32) (ex4 : Int32), DX8_meeters_L34 x1 c_laid_home c_laid_thrown_cells n x3 x4 x5 = some (ex3, ex4) → (∀ (ls : Array Slot) (H : Heap) (locs : List Loc), lv_has ls 8 [(2, .int x2), (3, .int ex3), (4, .int ex4)] → G dC dI A H0 (W_X8 a0 a1 a2 a3 a4 a5 a6 a7 a8 a9 a10 a11 a12 a13 a14 a15 a16 a17 a18 a19 a20 a21 a22 a23 a24 a25 a26 a27 a28 a29 cI cJ c_text_bytes c_text_length c_reader_numbers c_reader_next c_laid_stand c_laid_home c_laid_priceStart c_laid_priceStep c_laid_thrown_cells c_laid_thrown_filled c_laid_nets_cells c_laid_nets_filled c_trial_stand c_trial_home c_trial_priceStart c_trial_priceStep c_trial_thrown_cells c_trial_thrown_filled c_trial_nets_cells c_trial_nets_filled c_flight_loads_cells c_flight_loads_filled c_flight_order c_flight_done c_flight_start c_flight_end c_changes_who c_changes_column c_changes_was c_changes_held c_kept_older_cells c_kept_older_filled c_kept_newer_cells c_kept_newer_filled c_kept_held c_turns_need) H locs → W p l e (RM 1 28) s m args below meth c H locs 0 0 QQ (F0 m 136 ls [])) → ∀ (ls : Array Slot) (H : Heap) (locs : List Loc), lv_has ls 8 [(0, .ref a0), (1, .int x1), (2, .int x2), (3, .int x3), (4, .int x4), (5, .int x5)] → G dC dI A H0 (W_X8 a0 a1 a2 a3 a4 a5 a6 a7 a8 a9 a10 a11 a12 a13 a14 a15 a16 a17 a18 a19 a20 a21 a22 a23 a24 a25 a26 a27 a28 a29 cI cJ c_text_bytes c_text_length c_reader_numbers c_reader_next c_laid_stand c_laid_home c_laid_priceStart c_laid_priceStep c_laid_thrown_cells c_laid_thrown_filled c_laid_nets_cells c_laid_nets_filled c_trial_stand c_trial_home c_trial_priceStart c_trial_priceStep c_trial_thrown_cells c_trial_thrown_filled c_trial_nets_cells c_trial_nets_filled c_flight_loads_cells c_flight_loads_filled c_flight_order c_flight_done c_flight_start c_flight_end c_changes_who c_changes_column c_changes_was c_changes_held c_kept_older_cells c_kept_older_filled c_kept_newer_cells c_kept_newer_filled c_kept_held c_turns_need) H locs → W p l e (RM 1 28) s m args below meth c H locs 0 0 QQ (F0 m 34 ls []) := by
    intro  n
    induction n with
    | zero => intro x3 x4 x5 ex3 ex4 h; exact it_zero h
    | succ n ih =>
      intro x3 x4 x5 ex3 ex4 h0 K0 ls H locs hl hG
      obtain ⟨w, h, hi, hr⟩ := it_succ h0
      have h : DX8_meeters_L34s x1 c_laid_home c_laid_thrown_cells x3 x4 x5 = some w := h
      have KC : ∀ (x3 : Int32) (x4 : Int32) (x5 : Int32), w = .inl (x3, x4, x5) → ∀ (ls : Array Slot) (H : Heap) (locs : List Loc), lv_has ls 8 [(0, .ref a0), (1, .int x1), (2, .int x2), (3, .int x3), (4, .int x4), (5, .int x5)] → G dC dI A H0 (W_X8 a0 a1 a2 a3 a4 a5 a6 a7 a8 a9 a10 a11 a12 a13 a14 a15 a16 a17 a18 a19 a20 a21 a22 a23 a24 a25 a26 a27 a28 a29 cI cJ c_text_bytes c_text_length c_reader_numbers c_reader_next c_laid_stand c_laid_home c_laid_priceStart c_laid_priceStep c_laid_thrown_cells c_laid_thrown_filled c_laid_nets_cells c_laid_nets_filled c_trial_stand c_trial_home c_trial_priceStart c_trial_priceStep c_trial_thrown_cells c_trial_thrown_filled c_trial_nets_cells c_trial_nets_filled c_flight_loads_cells c_flight_loads_filled c_flight_order c_flight_done c_flight_start c_flight_end c_changes_who c_changes_column c_changes_was c_changes_held c_kept_older_cells c_kept_older_filled c_kept_newer_cells c_kept_newer_filled c_kept_held c_turns_need) H locs → W p l e (RM 1 28) s m args below meth c H locs 0 0 QQ (F0 m 34 ls []) := fun b0 b1 b2 e ls H locs hl hG => ih b0 b1 b2 ex3 ex4 (hi _ e) K0 ls H locs hl hG
      have KX : ∀ (x3 : Int32) (x4 : Int32), w = .inr (x3, x4) → ∀ (ls : Array Slot) (H : Heap) (locs : List Loc), lv_has ls 8 [(2, .int x2), (3, .int x3), (4, .int x4)] → G dC dI A H0 (W_X8 a0 a1 a2 a3 a4 a5 a6 a7 a8 a9 a10 a11 a12 a13 a14 a15 a16 a17 a18 a19 a20 a21 a22 a23 a24 a25 a26 a27 a28 a29 cI cJ c_text_bytes c_text_length c_reader_numbers c_reader_next c_laid_stand c_laid_home c_laid_priceStart c_laid_priceStep c_laid_thrown_cells c_laid_thrown_filled c_laid_nets_cells c_laid_nets_filled c_trial_stand c_trial_home c_trial_priceStart c_trial_priceStep c_trial_thrown_cells c_trial_thrown_filled c_trial_nets_cells c_trial_nets_filled c_flight_loads_cells c_flight_loads_filled c_flight_order c_flight_done c_flight_start c_flight_end c_changes_who c_changes_column c_changes_was c_changes_held c_kept_older_cells c_kept_older_filled c_kept_newer_cells c_kept_newer_filled c_kept_held c_turns_need) H locs → W p l e (RM 1 28) s m args below meth c H locs 0 0 QQ (F0 m 136 ls []) := fun b0 b1 e ls H locs hl hG => by cases hr _ e; exact K0 ls H locs hl hG
      clear h0 hi hr K0 ih
      unfold DX8_meeters_L34s at h
      refine lv_iload hx hb dX8_meeters_34 (lv_at hl 5 rfl) ?_
      refine lv_bipush (v := (40 : Int32)) hx hb dX8_meeters_36 (by decide) ?_
      refine lv_icmp_gt (tgt := 136) hx hb dX8_meeters_38 (by decide) (fun c_7 => ?_) (fun c_7 => ?_)
      · have h := ite_t h c_7
        exact KX _ _ (Option.some.inj h).symm _ _ _ (lv_sub hl [2, 3, 4] rfl) hG
      · have h := ite_f h c_7
        refine lv_iconst (v := (1 : Int32)) hx hb dX8_meeters_41 (by decide) ?_
        refine lv_istore (lv' := [(6, .int (1 : Int32)), (0, .ref a0), (1, .int x1), (2, .int x2), (3, .int x3), (4, .int x4), (5, .int x5)]) hx hb dX8_meeters_42 hl (by decide) rfl (fun ls hl => ?_)
        obtain ⟨z3_17, z4_18, hz, h⟩ := bd2_some h
        refine L44 x5 FU x3 x4 (1 : Int32) _ _ hz (fun ls H locs hl hG => ?_) _ _ _ (lv_sub hl [1, 2, 3, 4, 5, 6, 0] rfl) hG
        clear hz
        refine lv_iinc (v := (x5 + (1 : Int32))) (lv' := [(5, .int (x5 + (1 : Int32))), (0, .ref a0), (1, .int x1), (2, .int x2), (3, .int z3_17), (4, .int z4_18)]) hx hb dX8_meeters_130 hl (k := 5) rfl rfl (by decide) rfl (fun ls hl => ?_)
        refine lv_goto (tgt := 34) hx hb dX8_meeters_133 (by decide) ?_
        exact KC _ _ _ (Option.some.inj h).symm _ _ _ (lv_sub hl [1, 2, 3, 4, 5, 0] rfl) hG
  have h := hD
  unfold DX8_meeters at h
  clear hD
  refine lv_aload_n hx hb dX8_meeters_0 rfl (lv_at hl 0 rfl) ?_
  refine r_get X hG in_X8 rfl 2 (by decide) w_237 0 rfl rfl dX8_meeters_1 ?_
  refine r_getN X hG in_X3 rfl 4 (by decide) w_136 5 rfl rfl dX8_meeters_4 ?_
  refine lv_iload_n hx hb dX8_meeters_7 rfl (lv_at hl 1 rfl) ?_
  obtain ⟨r_1, hz_2, h⟩ := bd1_some h
  refine aft_i (ws' := (W_X8 a0 a1 a2 a3 a4 a5 a6 a7 a8 a9 a10 a11 a12 a13 a14 a15 a16 a17 a18 a19 a20 a21 a22 a23 a24 a25 a26 a27 a28 a29 cI cJ c_text_bytes c_text_length c_reader_numbers c_reader_next c_laid_stand c_laid_home c_laid_priceStart c_laid_priceStep c_laid_thrown_cells c_laid_thrown_filled c_laid_nets_cells c_laid_nets_filled c_trial_stand c_trial_home c_trial_priceStart c_trial_priceStep c_trial_thrown_cells c_trial_thrown_filled c_trial_nets_cells c_trial_nets_filled c_flight_loads_cells c_flight_loads_filled c_flight_order c_flight_done c_flight_start c_flight_end c_changes_who c_changes_column c_changes_was c_changes_held c_kept_older_cells c_kept_older_filled c_kept_newer_cells c_kept_newer_filled c_kept_held c_turns_need)) (run_V (rest := []) X hG hl.1 (mX5_has l dC dI cI cJ a6 a7 (7 : Int32) (4 : Int32) 28 c_laid_thrown_cells c_laid_thrown_filled x1 hz_2) gi_V_X8_102 hd_V_yX5_has ⟨rfl, rfl⟩ rfl ⟨Nat.le_of_ble_eq_true rfl, Nat.le_of_ble_eq_true rfl⟩ [6, 7] (by decide) rfl 6 rfl rfl rfl rfl (Nat.le_of_ble_eq_true rfl) ⟨Nat.le_of_ble_eq_true rfl, Nat.le_of_ble_eq_true rfl⟩ dX8_meeters_8) hG [6, 7] rfl rfl rfl (fun H locs hG => ?_)
  clear hz_2
  refine lv_if_eq (tgt := 23) hx hb dX8_meeters_11 (by decide) (fun c_3 => ?_) (fun c_3 => ?_)
  · have h := ite_t h c_3
    refine lv_iconst (v := (-1 : Int32)) hx hb dX8_meeters_23 (by decide) ?_
    cases h
    exact ret _ _ _ _ dX8_meeters_24 hG
  · have h := ite_f h c_3
    refine lv_iload_n hx hb dX8_meeters_14 rfl (lv_at hl 2 rfl) ?_
    refine lv_iconst (v := (0 : Int32)) hx hb dX8_meeters_15 (by decide) ?_
    refine lv_iconst (v := (1 : Int32)) hx hb dX8_meeters_16 (by decide) ?_
    obtain ⟨r_4, hz_5, h⟩ := bd1_some h
    refine aft_i (ws' := (W_X8 a0 a1 a2 a3 a4 a5 a6 a7 a8 a9 a10 a11 a12 a13 a14 a15 a16 a17 a18 a19 a20 a21 a22 a23 a24 a25 a26 a27 a28 a29 cI cJ c_text_bytes c_text_length c_reader_numbers c_reader_next c_laid_stand c_laid_home c_laid_priceStart c_laid_priceStep c_laid_thrown_cells c_laid_thrown_filled c_laid_nets_cells c_laid_nets_filled c_trial_stand c_trial_home c_trial_priceStart c_trial_priceStep c_trial_thrown_cells c_trial_thrown_filled c_trial_nets_cells c_trial_nets_filled c_flight_loads_cells c_flight_loads_filled c_flight_order c_flight_done c_flight_start c_flight_end c_changes_who c_changes_column c_changes_was c_changes_held c_kept_older_cells c_kept_older_filled c_kept_newer_cells c_kept_newer_filled c_kept_held c_turns_need)) (run_S (rest := []) X hG hl.1 (mX8_within l dC dI cI cJ x2 (0 : Int32) (1 : Int32) hz_5) gi_S_X8_74 hd_S_yX8_within ⟨rfl, rfl⟩ rfl ⟨Nat.le_of_ble_eq_true rfl, Nat.le_of_ble_eq_true rfl⟩ [] (by decide) rfl rfl (Nat.le_of_ble_eq_true rfl) ⟨Nat.le_of_ble_eq_true rfl, Nat.le_of_ble_eq_true rfl⟩ dX8_meeters_17) hG [] rfl rfl rfl (fun H locs hG => ?_)
    clear hz_5
    refine lv_if_ne (tgt := 25) hx hb dX8_meeters_20 (by decide) (fun c_6 => ?_) (fun c_6 => ?_)
    · have h := ite_f h c_6
      refine lv_iconst (v := (0 : Int32)) hx hb dX8_meeters_25 (by decide) ?_
      refine lv_istore_n (lv' := [(3, .int (0 : Int32)), (0, .ref a0), (1, .int x1), (2, .int x2)]) hx hb dX8_meeters_26 rfl hl (by decide) rfl (fun ls hl => ?_)
      refine lv_bipush (v := (-4 : Int32)) hx hb dX8_meeters_27 (by decide) ?_
      refine lv_istore (lv' := [(4, .int (-4 : Int32)), (3, .int (0 : Int32)), (0, .ref a0), (1, .int x1), (2, .int x2)]) hx hb dX8_meeters_29 hl (by decide) rfl (fun ls hl => ?_)
      refine lv_iconst (v := (0 : Int32)) hx hb dX8_meeters_31 (by decide) ?_
      refine lv_istore (lv' := [(5, .int (0 : Int32)), (4, .int (-4 : Int32)), (3, .int (0 : Int32)), (0, .ref a0), (1, .int x1), (2, .int x2)]) hx hb dX8_meeters_32 hl (by decide) rfl (fun ls hl => ?_)
      obtain ⟨z3_19, z4_20, hz, h⟩ := bd2_some h
      refine L34  FU (0 : Int32) (-4 : Int32) (0 : Int32) _ _ hz (fun ls H locs hl hG => ?_) _ _ _ (lv_sub hl [3, 4, 5, 2, 1, 0] rfl) hG
      clear hz
      refine lv_iload_n hx hb dX8_meeters_136 rfl (lv_at hl 0 rfl) ?_
      refine lv_if_ne (tgt := 144) hx hb dX8_meeters_137 (by decide) (fun c_21 => ?_) (fun c_21 => ?_)
      · have h := ite_f h c_21
        refine lv_iload hx hb dX8_meeters_144 (lv_at hl 2 rfl) ?_
        cases h
        exact ret _ _ _ _ dX8_meeters_146 hG
      · have h := ite_t h c_21
        refine lv_iload_n hx hb dX8_meeters_140 rfl (lv_at hl 1 rfl) ?_
        refine lv_goto (tgt := 146) hx hb dX8_meeters_141 (by decide) ?_
        cases h
        exact ret _ _ _ _ dX8_meeters_146 hG
    · have h := ite_t h c_6
      refine lv_iconst (v := (-1 : Int32)) hx hb dX8_meeters_23 (by decide) ?_
      cases h
      exact ret _ _ _ _ dX8_meeters_24 hG
set_option maxRecDepth 100000 in
set_option maxHeartbeats 4000000 in
theorem mX8_stand (l : Launch) (dC : Nat → ClassId) (dI : Nat → Nat → Nat) (cI cJ : ClassId) (a0 a1 a2 a3 a4 a5 a6 a7 a8 a9 a10 a11 a12 a13 a14 a15 a16 a17 a18 a19 a20 a21 a22 a23 a24 a25 a26 a27 a28 a29 : Nat) (c_text_bytes : Nat → Int32) (c_text_length : Int32) (c_reader_numbers : Nat → Int32) (c_reader_next : Int32) (c_laid_stand : Int32) (c_laid_home : Int32) (c_laid_priceStart : Int32) (c_laid_priceStep : Int32) (c_laid_thrown_cells : Nat → Int32) (c_laid_thrown_filled : Int32) (c_laid_nets_cells : Nat → Int32) (c_laid_nets_filled : Int32) (c_trial_stand : Int32) (c_trial_home : Int32) (c_trial_priceStart : Int32) (c_trial_priceStep : Int32) (c_trial_thrown_cells : Nat → Int32) (c_trial_thrown_filled : Int32) (c_trial_nets_cells : Nat → Int32) (c_trial_nets_filled : Int32) (c_flight_loads_cells : Nat → Int32) (c_flight_loads_filled : Int32) (c_flight_order : Nat → Int32) (c_flight_done : Int32) (c_flight_start : Int32) (c_flight_end : Int32) (c_changes_who : Nat → Int32) (c_changes_column : Nat → Int32) (c_changes_was : Nat → Int32) (c_changes_held : Int32) (c_kept_older_cells : Nat → Int32) (c_kept_older_filled : Int32) (c_kept_newer_cells : Nat → Int32) (c_kept_newer_filled : Int32) (c_kept_held : Int32) (c_turns_need : Nat → Int32) (x1 : Int32) (x2 : Int32) (x3 : Int32) {res : Int32} {n_flight_loads_cells : Nat → Int32} {n_flight_order : Nat → Int32} {n_flight_done : Int32} {n_flight_start : Int32} {n_flight_end : Int32} {n_turns_need : Nat → Int32} (hD : DX8_stand x1 x2 x3 c_laid_stand c_laid_home c_laid_priceStart c_laid_priceStep c_laid_thrown_cells c_laid_thrown_filled c_laid_nets_cells c_laid_nets_filled c_flight_loads_cells c_flight_order c_flight_done c_flight_start c_flight_end c_turns_need = some (res, n_flight_loads_cells, n_flight_order, n_flight_done, n_flight_start, n_flight_end, n_turns_need)) : Met l yX8_stand (WZ yX8_stand cX8_stand 5 (some .int)) (RM 6 143) (PC dC dI cI cJ [.ref a0, .int x1, .int x2, .int x3] (W_X8 a0 a1 a2 a3 a4 a5 a6 a7 a8 a9 a10 a11 a12 a13 a14 a15 a16 a17 a18 a19 a20 a21 a22 a23 a24 a25 a26 a27 a28 a29 cI cJ c_text_bytes c_text_length c_reader_numbers c_reader_next c_laid_stand c_laid_home c_laid_priceStart c_laid_priceStep c_laid_thrown_cells c_laid_thrown_filled c_laid_nets_cells c_laid_nets_filled c_trial_stand c_trial_home c_trial_priceStart c_trial_priceStep c_trial_thrown_cells c_trial_thrown_filled c_trial_nets_cells c_trial_nets_filled c_flight_loads_cells c_flight_loads_filled c_flight_order c_flight_done c_flight_start c_flight_end c_changes_who c_changes_column c_changes_was c_changes_held c_kept_older_cells c_kept_older_filled c_kept_newer_cells c_kept_newer_filled c_kept_held c_turns_need)) (QI dC dI (W_X8 a0 a1 a2 a3 a4 a5 a6 a7 a8 a9 a10 a11 a12 a13 a14 a15 a16 a17 a18 a19 a20 a21 a22 a23 a24 a25 a26 a27 a28 a29 cI cJ c_text_bytes c_text_length c_reader_numbers c_reader_next c_laid_stand c_laid_home c_laid_priceStart c_laid_priceStep c_laid_thrown_cells c_laid_thrown_filled c_laid_nets_cells c_laid_nets_filled c_trial_stand c_trial_home c_trial_priceStart c_trial_priceStep c_trial_thrown_cells c_trial_thrown_filled c_trial_nets_cells c_trial_nets_filled c_flight_loads_cells c_flight_loads_filled c_flight_order c_flight_done c_flight_start c_flight_end c_changes_who c_changes_column c_changes_was c_changes_held c_kept_older_cells c_kept_older_filled c_kept_newer_cells c_kept_newer_filled c_kept_held c_turns_need) (W_X8 a0 a1 a2 a3 a4 a5 a6 a7 a8 a9 a10 a11 a12 a13 a14 a15 a16 a17 a18 a19 a20 a21 a22 a23 a24 a25 a26 a27 a28 a29 cI cJ c_text_bytes c_text_length c_reader_numbers c_reader_next c_laid_stand c_laid_home c_laid_priceStart c_laid_priceStep c_laid_thrown_cells c_laid_thrown_filled c_laid_nets_cells c_laid_nets_filled c_trial_stand c_trial_home c_trial_priceStart c_trial_priceStep c_trial_thrown_cells c_trial_thrown_filled c_trial_nets_cells c_trial_nets_filled n_flight_loads_cells c_flight_loads_filled n_flight_order n_flight_done n_flight_start n_flight_end c_changes_who c_changes_column c_changes_was c_changes_held c_kept_older_cells c_kept_older_filled c_kept_newer_cells c_kept_newer_filled c_kept_held n_turns_need) res) 0 0 (FA (W_X8 a0 a1 a2 a3 a4 a5 a6 a7 a8 a9 a10 a11 a12 a13 a14 a15 a16 a17 a18 a19 a20 a21 a22 a23 a24 a25 a26 a27 a28 a29 cI cJ c_text_bytes c_text_length c_reader_numbers c_reader_next c_laid_stand c_laid_home c_laid_priceStart c_laid_priceStep c_laid_thrown_cells c_laid_thrown_filled c_laid_nets_cells c_laid_nets_filled c_trial_stand c_trial_home c_trial_priceStart c_trial_priceStep c_trial_thrown_cells c_trial_thrown_filled c_trial_nets_cells c_trial_nets_filled c_flight_loads_cells c_flight_loads_filled c_flight_order c_flight_done c_flight_start c_flight_end c_changes_who c_changes_column c_changes_was c_changes_held c_kept_older_cells c_kept_older_filled c_kept_newer_cells c_kept_newer_filled c_kept_held c_turns_need)) := by
  refine r_metI (by decide +kernel) (Nat.le_of_ble_eq_true rfl) ?_
  intro p e s m args below meth c A H0 QQ X ret ls hl hG
  have X : Cx p m c cX8_stand 5 s args RX8 dC dI cI cJ meth (some .int) := X
  have hx := X.1.1
  have hb := X.1.2.1
  have hl : lv_has ls 5 [(0, .ref a0), (1, .int x1), (2, .int x2), (3, .int x3)] := hl
  have h := hD
  unfold DX8_stand at h
  clear hD
  refine lv_iload_n hx hb dX8_stand_0 rfl (lv_at hl 1 rfl) ?_
  refine lv_iconst (v := (0 : Int32)) hx hb dX8_stand_1 (by decide) ?_
  refine lv_bipush (v := (23 : Int32)) hx hb dX8_stand_2 (by decide) ?_
  obtain ⟨r_1, hz_2, h⟩ := bd1_some h
  refine aft_i (ws' := (W_X8 a0 a1 a2 a3 a4 a5 a6 a7 a8 a9 a10 a11 a12 a13 a14 a15 a16 a17 a18 a19 a20 a21 a22 a23 a24 a25 a26 a27 a28 a29 cI cJ c_text_bytes c_text_length c_reader_numbers c_reader_next c_laid_stand c_laid_home c_laid_priceStart c_laid_priceStep c_laid_thrown_cells c_laid_thrown_filled c_laid_nets_cells c_laid_nets_filled c_trial_stand c_trial_home c_trial_priceStart c_trial_priceStep c_trial_thrown_cells c_trial_thrown_filled c_trial_nets_cells c_trial_nets_filled c_flight_loads_cells c_flight_loads_filled c_flight_order c_flight_done c_flight_start c_flight_end c_changes_who c_changes_column c_changes_was c_changes_held c_kept_older_cells c_kept_older_filled c_kept_newer_cells c_kept_newer_filled c_kept_held c_turns_need)) (run_S (rest := []) X hG hl.1 (mX8_within l dC dI cI cJ x1 (0 : Int32) (23 : Int32) hz_2) gi_S_X8_74 hd_S_yX8_within ⟨rfl, rfl⟩ rfl ⟨Nat.le_of_ble_eq_true rfl, Nat.le_of_ble_eq_true rfl⟩ [] (by decide) rfl rfl (Nat.le_of_ble_eq_true rfl) ⟨Nat.le_of_ble_eq_true rfl, Nat.le_of_ble_eq_true rfl⟩ dX8_stand_4) hG [] rfl rfl rfl (fun H locs hG => ?_)
  clear hz_2
  refine lv_if_eq (tgt := 29) hx hb dX8_stand_7 (by decide) (fun c_3 => ?_) (fun c_3 => ?_)
  · have h := ite_t h c_3
    refine lv_iconst (v := (-1 : Int32)) hx hb dX8_stand_29 (by decide) ?_
    cases h
    exact ret _ _ _ _ dX8_stand_30 hG
  · have h := ite_f h c_3
    refine lv_iload_n hx hb dX8_stand_10 rfl (lv_at hl 2 rfl) ?_
    refine lv_iconst (v := (1 : Int32)) hx hb dX8_stand_11 (by decide) ?_
    refine lv_bipush (v := (63 : Int32)) hx hb dX8_stand_12 (by decide) ?_
    obtain ⟨r_4, hz_5, h⟩ := bd1_some h
    refine aft_i (ws' := (W_X8 a0 a1 a2 a3 a4 a5 a6 a7 a8 a9 a10 a11 a12 a13 a14 a15 a16 a17 a18 a19 a20 a21 a22 a23 a24 a25 a26 a27 a28 a29 cI cJ c_text_bytes c_text_length c_reader_numbers c_reader_next c_laid_stand c_laid_home c_laid_priceStart c_laid_priceStep c_laid_thrown_cells c_laid_thrown_filled c_laid_nets_cells c_laid_nets_filled c_trial_stand c_trial_home c_trial_priceStart c_trial_priceStep c_trial_thrown_cells c_trial_thrown_filled c_trial_nets_cells c_trial_nets_filled c_flight_loads_cells c_flight_loads_filled c_flight_order c_flight_done c_flight_start c_flight_end c_changes_who c_changes_column c_changes_was c_changes_held c_kept_older_cells c_kept_older_filled c_kept_newer_cells c_kept_newer_filled c_kept_held c_turns_need)) (run_S (rest := []) X hG hl.1 (mX8_within l dC dI cI cJ x2 (1 : Int32) (63 : Int32) hz_5) gi_S_X8_74 hd_S_yX8_within ⟨rfl, rfl⟩ rfl ⟨Nat.le_of_ble_eq_true rfl, Nat.le_of_ble_eq_true rfl⟩ [] (by decide) rfl rfl (Nat.le_of_ble_eq_true rfl) ⟨Nat.le_of_ble_eq_true rfl, Nat.le_of_ble_eq_true rfl⟩ dX8_stand_14) hG [] rfl rfl rfl (fun H locs hG => ?_)
    clear hz_5
    refine lv_if_eq (tgt := 29) hx hb dX8_stand_17 (by decide) (fun c_6 => ?_) (fun c_6 => ?_)
    · have h := ite_t h c_6
      refine lv_iconst (v := (-1 : Int32)) hx hb dX8_stand_29 (by decide) ?_
      cases h
      exact ret _ _ _ _ dX8_stand_30 hG
    · have h := ite_f h c_6
      refine lv_iload_n hx hb dX8_stand_20 rfl (lv_at hl 3 rfl) ?_
      refine lv_iconst (v := (0 : Int32)) hx hb dX8_stand_21 (by decide) ?_
      refine lv_iconst (v := (1 : Int32)) hx hb dX8_stand_22 (by decide) ?_
      obtain ⟨r_7, hz_8, h⟩ := bd1_some h
      refine aft_i (ws' := (W_X8 a0 a1 a2 a3 a4 a5 a6 a7 a8 a9 a10 a11 a12 a13 a14 a15 a16 a17 a18 a19 a20 a21 a22 a23 a24 a25 a26 a27 a28 a29 cI cJ c_text_bytes c_text_length c_reader_numbers c_reader_next c_laid_stand c_laid_home c_laid_priceStart c_laid_priceStep c_laid_thrown_cells c_laid_thrown_filled c_laid_nets_cells c_laid_nets_filled c_trial_stand c_trial_home c_trial_priceStart c_trial_priceStep c_trial_thrown_cells c_trial_thrown_filled c_trial_nets_cells c_trial_nets_filled c_flight_loads_cells c_flight_loads_filled c_flight_order c_flight_done c_flight_start c_flight_end c_changes_who c_changes_column c_changes_was c_changes_held c_kept_older_cells c_kept_older_filled c_kept_newer_cells c_kept_newer_filled c_kept_held c_turns_need)) (run_S (rest := []) X hG hl.1 (mX8_within l dC dI cI cJ x3 (0 : Int32) (1 : Int32) hz_8) gi_S_X8_74 hd_S_yX8_within ⟨rfl, rfl⟩ rfl ⟨Nat.le_of_ble_eq_true rfl, Nat.le_of_ble_eq_true rfl⟩ [] (by decide) rfl rfl (Nat.le_of_ble_eq_true rfl) ⟨Nat.le_of_ble_eq_true rfl, Nat.le_of_ble_eq_true rfl⟩ dX8_stand_23) hG [] rfl rfl rfl (fun H locs hG => ?_)
      clear hz_8
      refine lv_if_ne (tgt := 31) hx hb dX8_stand_26 (by decide) (fun c_9 => ?_) (fun c_9 => ?_)
      · have h := ite_f h c_9
        refine lv_aload_n hx hb dX8_stand_31 rfl (lv_at hl 0 rfl) ?_
        refine r_get X hG in_X8 rfl 4 (by decide) w_239 0 rfl rfl dX8_stand_32 ?_
        refine lv_aload_n hx hb dX8_stand_35 rfl (lv_at hl 0 rfl) ?_
        refine r_get X hG in_X8 rfl 2 (by decide) w_237 0 rfl rfl dX8_stand_36 ?_
        refine lv_iconst (v := (0 : Int32)) hx hb dX8_stand_39 (by decide) ?_
        obtain ⟨k_flight_loads_cells_10, k_flight_order_11, k_flight_done_12, k_flight_start_13, k_flight_end_14, hz_15, h⟩ := bd5_some h
        refine aft_v (ws' := (W_X8 a0 a1 a2 a3 a4 a5 a6 a7 a8 a9 a10 a11 a12 a13 a14 a15 a16 a17 a18 a19 a20 a21 a22 a23 a24 a25 a26 a27 a28 a29 cI cJ c_text_bytes c_text_length c_reader_numbers c_reader_next c_laid_stand c_laid_home c_laid_priceStart c_laid_priceStep c_laid_thrown_cells c_laid_thrown_filled c_laid_nets_cells c_laid_nets_filled c_trial_stand c_trial_home c_trial_priceStart c_trial_priceStep c_trial_thrown_cells c_trial_thrown_filled c_trial_nets_cells c_trial_nets_filled k_flight_loads_cells_10 c_flight_loads_filled k_flight_order_11 k_flight_done_12 k_flight_start_13 k_flight_end_14 c_changes_who c_changes_column c_changes_was c_changes_held c_kept_older_cells c_kept_older_filled c_kept_newer_cells c_kept_newer_filled c_kept_held c_turns_need)) (run_V (rest := []) X hG hl.1 (mX1_fly l dC dI cI cJ a15 a16 a17 a18 a5 a6 a7 a8 a9 c_flight_loads_cells c_flight_loads_filled c_flight_order c_flight_done c_flight_start c_flight_end c_laid_stand c_laid_home c_laid_priceStart c_laid_priceStep c_laid_thrown_cells c_laid_thrown_filled c_laid_nets_cells c_laid_nets_filled (0 : Int32) hz_15) gi_V_X8_106 hd_V_yX1_fly ⟨rfl, rfl⟩ rfl ⟨Nat.le_of_ble_eq_true rfl, Nat.le_of_ble_eq_true rfl⟩ [15, 16, 17, 18, 5, 6, 7, 8, 9] (by decide) rfl 15 rfl rfl rfl rfl (Nat.le_of_ble_eq_true rfl) ⟨Nat.le_of_ble_eq_true rfl, Nat.le_of_ble_eq_true rfl⟩ dX8_stand_40) hG [15, 16, 17, 18, 5, 6, 7, 8, 9] rfl rfl rfl (fun H locs hG => ?_)
        clear hz_15
        refine lv_aload_n hx hb dX8_stand_43 rfl (lv_at hl 0 rfl) ?_
        refine r_get X hG in_X8 rfl 7 (by decide) w_242 0 rfl rfl dX8_stand_44 ?_
        refine lv_iload_n hx hb dX8_stand_47 rfl (lv_at hl 2 rfl) ?_
        obtain ⟨k_turns_need_16, hz_17, h⟩ := bd1_some h
        refine aft_v (ws' := (W_X8 a0 a1 a2 a3 a4 a5 a6 a7 a8 a9 a10 a11 a12 a13 a14 a15 a16 a17 a18 a19 a20 a21 a22 a23 a24 a25 a26 a27 a28 a29 cI cJ c_text_bytes c_text_length c_reader_numbers c_reader_next c_laid_stand c_laid_home c_laid_priceStart c_laid_priceStep c_laid_thrown_cells c_laid_thrown_filled c_laid_nets_cells c_laid_nets_filled c_trial_stand c_trial_home c_trial_priceStart c_trial_priceStep c_trial_thrown_cells c_trial_thrown_filled c_trial_nets_cells c_trial_nets_filled k_flight_loads_cells_10 c_flight_loads_filled k_flight_order_11 k_flight_done_12 k_flight_start_13 k_flight_end_14 c_changes_who c_changes_column c_changes_was c_changes_held c_kept_older_cells c_kept_older_filled c_kept_newer_cells c_kept_newer_filled c_kept_held k_turns_need_16)) (run_V (rest := []) X hG hl.1 (mX7_reach l dC dI cI cJ a28 a29 c_turns_need x2 hz_17) gi_V_X8_171 hd_V_yX7_reach ⟨rfl, rfl⟩ rfl ⟨Nat.le_of_ble_eq_true rfl, Nat.le_of_ble_eq_true rfl⟩ [28, 29] (by decide) rfl 28 rfl rfl rfl rfl (Nat.le_of_ble_eq_true rfl) ⟨Nat.le_of_ble_eq_true rfl, Nat.le_of_ble_eq_true rfl⟩ dX8_stand_48) hG [28, 29] rfl rfl rfl (fun H locs hG => ?_)
        clear hz_17
        refine lv_aload_n hx hb dX8_stand_51 rfl (lv_at hl 0 rfl) ?_
        refine r_get X hG in_X8 rfl 4 (by decide) w_239 0 rfl rfl dX8_stand_52 ?_
        refine r_getN X hG in_X1 rfl 4 (by decide) w_166 15 rfl rfl dX8_stand_55 ?_
        refine lv_iload_n hx hb dX8_stand_58 rfl (lv_at hl 1 rfl) ?_
        refine lv_isub hx hb dX8_stand_59 ?_
        refine lv_bipush (v := (24 : Int32)) hx hb dX8_stand_60 (by decide) ?_
        obtain ⟨r_18, hz_19, h⟩ := bd1_some h
        refine aft_i (ws' := (W_X8 a0 a1 a2 a3 a4 a5 a6 a7 a8 a9 a10 a11 a12 a13 a14 a15 a16 a17 a18 a19 a20 a21 a22 a23 a24 a25 a26 a27 a28 a29 cI cJ c_text_bytes c_text_length c_reader_numbers c_reader_next c_laid_stand c_laid_home c_laid_priceStart c_laid_priceStep c_laid_thrown_cells c_laid_thrown_filled c_laid_nets_cells c_laid_nets_filled c_trial_stand c_trial_home c_trial_priceStart c_trial_priceStep c_trial_thrown_cells c_trial_thrown_filled c_trial_nets_cells c_trial_nets_filled k_flight_loads_cells_10 c_flight_loads_filled k_flight_order_11 k_flight_done_12 k_flight_start_13 k_flight_end_14 c_changes_who c_changes_column c_changes_was c_changes_held c_kept_older_cells c_kept_older_filled c_kept_newer_cells c_kept_newer_filled c_kept_held k_turns_need_16)) (run_S (rest := []) X hG hl.1 (mJ9_floorMod_7cf53 l dC dI cI cJ (k_flight_end_14 - x1) (24 : Int32) hz_19) gi_S_X8_177 hd_S_yJ9_floorMod_7cf53 ⟨rfl, rfl⟩ rfl ⟨Nat.le_of_ble_eq_true rfl, Nat.le_of_ble_eq_true rfl⟩ [] (by decide) rfl rfl (Nat.le_of_ble_eq_true rfl) ⟨Nat.le_of_ble_eq_true rfl, Nat.le_of_ble_eq_true rfl⟩ dX8_stand_62) hG [] rfl rfl rfl (fun H locs hG => ?_)
        clear hz_19
        refine lv_istore (lv' := [(4, .int r_18), (0, .ref a0), (1, .int x1), (2, .int x2), (3, .int x3)]) hx hb dX8_stand_65 hl (by decide) rfl (fun ls hl => ?_)
        refine lv_iload_n hx hb dX8_stand_67 rfl (lv_at hl 4 rfl) ?_
        refine lv_if_ne (tgt := 83) hx hb dX8_stand_68 (by decide) (fun c_20 => ?_) (fun c_20 => ?_)
        · have h := ite_f h c_20
          refine lv_aload_n hx hb dX8_stand_83 rfl (lv_at hl 1 rfl) ?_
          refine r_get X hG in_X8 rfl 7 (by decide) w_242 0 rfl rfl dX8_stand_84 ?_
          refine lv_iload hx hb dX8_stand_87 (lv_at hl 0 rfl) ?_
          refine lv_iload_n hx hb dX8_stand_89 rfl (lv_at hl 3 rfl) ?_
          obtain ⟨r_21, hz_22, h⟩ := bd1_some h
          refine aft_i (ws' := (W_X8 a0 a1 a2 a3 a4 a5 a6 a7 a8 a9 a10 a11 a12 a13 a14 a15 a16 a17 a18 a19 a20 a21 a22 a23 a24 a25 a26 a27 a28 a29 cI cJ c_text_bytes c_text_length c_reader_numbers c_reader_next c_laid_stand c_laid_home c_laid_priceStart c_laid_priceStep c_laid_thrown_cells c_laid_thrown_filled c_laid_nets_cells c_laid_nets_filled c_trial_stand c_trial_home c_trial_priceStart c_trial_priceStep c_trial_thrown_cells c_trial_thrown_filled c_trial_nets_cells c_trial_nets_filled k_flight_loads_cells_10 c_flight_loads_filled k_flight_order_11 k_flight_done_12 k_flight_start_13 k_flight_end_14 c_changes_who c_changes_column c_changes_was c_changes_held c_kept_older_cells c_kept_older_filled c_kept_newer_cells c_kept_newer_filled c_kept_held k_turns_need_16)) (run_V (rest := []) X hG hl.1 (mX7_firstSpeed l dC dI cI cJ a28 a29 k_turns_need_16 r_18 x2 hz_22) gi_V_X8_183 hd_V_yX7_firstSpeed ⟨rfl, rfl⟩ rfl ⟨Nat.le_of_ble_eq_true rfl, Nat.le_of_ble_eq_true rfl⟩ [28, 29] (by decide) rfl 28 rfl rfl rfl rfl (Nat.le_of_ble_eq_true rfl) ⟨Nat.le_of_ble_eq_true rfl, Nat.le_of_ble_eq_true rfl⟩ dX8_stand_90) hG [28, 29] rfl rfl rfl (fun H locs hG => ?_)
          clear hz_22
          cases h
          exact ret _ _ _ _ dX8_stand_93 hG
        · have h := ite_t h c_20
          refine lv_aload_n hx hb dX8_stand_71 rfl (lv_at hl 1 rfl) ?_
          refine r_get X hG in_X8 rfl 7 (by decide) w_242 0 rfl rfl dX8_stand_72 ?_
          refine lv_iload hx hb dX8_stand_75 (lv_at hl 0 rfl) ?_
          obtain ⟨r_23, hz_24, h⟩ := bd1_some h
          refine aft_i (ws' := (W_X8 a0 a1 a2 a3 a4 a5 a6 a7 a8 a9 a10 a11 a12 a13 a14 a15 a16 a17 a18 a19 a20 a21 a22 a23 a24 a25 a26 a27 a28 a29 cI cJ c_text_bytes c_text_length c_reader_numbers c_reader_next c_laid_stand c_laid_home c_laid_priceStart c_laid_priceStep c_laid_thrown_cells c_laid_thrown_filled c_laid_nets_cells c_laid_nets_filled c_trial_stand c_trial_home c_trial_priceStart c_trial_priceStep c_trial_thrown_cells c_trial_thrown_filled c_trial_nets_cells c_trial_nets_filled k_flight_loads_cells_10 c_flight_loads_filled k_flight_order_11 k_flight_done_12 k_flight_start_13 k_flight_end_14 c_changes_who c_changes_column c_changes_was c_changes_held c_kept_older_cells c_kept_older_filled c_kept_newer_cells c_kept_newer_filled c_kept_held k_turns_need_16)) (run_V (rest := []) X hG hl.1 (mX7_fewest l dC dI cI cJ a28 a29 k_turns_need_16 r_18 hz_24) gi_V_X8_180 hd_V_yX7_fewest ⟨rfl, rfl⟩ rfl ⟨Nat.le_of_ble_eq_true rfl, Nat.le_of_ble_eq_true rfl⟩ [28, 29] (by decide) rfl 28 rfl rfl rfl rfl (Nat.le_of_ble_eq_true rfl) ⟨Nat.le_of_ble_eq_true rfl, Nat.le_of_ble_eq_true rfl⟩ dX8_stand_77) hG [28, 29] rfl rfl rfl (fun H locs hG => ?_)
          clear hz_24
          refine lv_goto (tgt := 93) hx hb dX8_stand_80 (by decide) ?_
          cases h
          exact ret _ _ _ _ dX8_stand_93 hG
      · have h := ite_t h c_9
        refine lv_iconst (v := (-1 : Int32)) hx hb dX8_stand_29 (by decide) ?_
        cases h
        exact ret _ _ _ _ dX8_stand_30 hG
set_option maxRecDepth 100000 in
set_option maxHeartbeats 4000000 in
theorem mX8_power (l : Launch) (dC : Nat → ClassId) (dI : Nat → Nat → Nat) (cI cJ : ClassId) (x0 : Int64) (x2 : Int32) {res : Int64} (hD : DX8_power x0 x2 = some res) : Met l yX8_power (WZ yX8_power cX8_power 6 (some .long)) (RM 0 0) (PC dC dI cI cJ [.long x0, .int x2] []) (QL dC dI [] [] res) 0 0 (FA []) := by
  refine r_metL (by decide +kernel) (Nat.le_of_ble_eq_true rfl) ?_
  intro p e s m args below meth c A H0 QQ X ret ls hl hG
  have X : Cx p m c cX8_power 6 s args RX8 dC dI cI cJ meth (some .long) := X
  have hx := X.1.1
  have hb := X.1.2.1
  have hl : lv_has ls 6 [(0, .long x0), (2, .int x2)] := hl
  have L5 : ∀ (n : Nat) (x3 : Int64) (x5 : Int32) (ex3 : Int64), DX8_power_L5 x0 x2 n x3 x5 = some ex3 → (∀ (ls : Array Slot) (H : Heap) (locs : List Loc), lv_has ls 6 [(3, .long ex3)] → G dC dI A H0 [] H locs → W p l e (RM 0 0) s m args below meth c H locs 0 0 QQ (F0 m 21 ls [])) → ∀ (ls : Array Slot) (H : Heap) (locs : List Loc), lv_has ls 6 [(0, .long x0), (2, .int x2), (3, .long x3), (5, .int x5)] → G dC dI A H0 [] H locs → W p l e (RM 0 0) s m args below meth c H locs 0 0 QQ (F0 m 5 ls []) := by
    intro  n
    induction n with
    | zero => intro x3 x5 ex3 h; exact it_zero h
    | succ n ih =>
      intro x3 x5 ex3 h0 K0 ls H locs hl hG
      obtain ⟨w, h, hi, hr⟩ := it_succ h0
      have h : DX8_power_L5s x0 x2 x3 x5 = some w := h
      have KC : ∀ (x3 : Int64) (x5 : Int32), w = .inl (x3, x5) → ∀ (ls : Array Slot) (H : Heap) (locs : List Loc), lv_has ls 6 [(0, .long x0), (2, .int x2), (3, .long x3), (5, .int x5)] → G dC dI A H0 [] H locs → W p l e (RM 0 0) s m args below meth c H locs 0 0 QQ (F0 m 5 ls []) := fun b0 b1 e ls H locs hl hG => ih b0 b1 ex3 (hi _ e) K0 ls H locs hl hG
      have KX : ∀ (x3 : Int64), w = .inr x3 → ∀ (ls : Array Slot) (H : Heap) (locs : List Loc), lv_has ls 6 [(3, .long x3)] → G dC dI A H0 [] H locs → W p l e (RM 0 0) s m args below meth c H locs 0 0 QQ (F0 m 21 ls []) := fun b0 e ls H locs hl hG => by cases hr _ e; exact K0 ls H locs hl hG
      clear h0 hi hr K0 ih
      unfold DX8_power_L5s at h
      refine lv_iload hx hb dX8_power_5 (lv_at hl 3 rfl) ?_
      refine lv_iload_n hx hb dX8_power_7 rfl (lv_at hl 1 rfl) ?_
      refine lv_icmp_ge (tgt := 21) hx hb dX8_power_8 (by decide) (fun c_1 => ?_) (fun c_1 => ?_)
      · have h := ite_t h c_1
        exact KX _ (Option.some.inj h).symm _ _ _ (lv_sub hl [2] rfl) hG
      · have h := ite_f h c_1
        refine lv_lload_n hx hb dX8_power_11 rfl (lv_at hl 2 rfl) ?_
        refine lv_lload_n hx hb dX8_power_12 rfl (lv_at hl 0 rfl) ?_
        refine lv_lmul hx hb dX8_power_13 ?_
        refine lv_lstore_n (lv' := [(3, .long (x3 * x0)), (0, .long x0), (2, .int x2), (5, .int x5)]) hx hb dX8_power_14 rfl hl (by decide) rfl (fun ls hl => ?_)
        refine lv_iinc (v := (x5 + (1 : Int32))) (lv' := [(5, .int (x5 + (1 : Int32))), (3, .long (x3 * x0)), (0, .long x0), (2, .int x2)]) hx hb dX8_power_15 hl (k := 3) rfl rfl (by decide) rfl (fun ls hl => ?_)
        refine lv_goto (tgt := 5) hx hb dX8_power_18 (by decide) ?_
        exact KC _ _ (Option.some.inj h).symm _ _ _ (lv_sub hl [2, 3, 1, 0] rfl) hG
  have h := hD
  unfold DX8_power at h
  clear hD
  refine lv_lconst (v := (1 : Int64)) hx hb dX8_power_0 (by decide) ?_
  refine lv_lstore_n (lv' := [(3, .long (1 : Int64)), (0, .long x0), (2, .int x2)]) hx hb dX8_power_1 rfl hl (by decide) rfl (fun ls hl => ?_)
  refine lv_iconst (v := (0 : Int32)) hx hb dX8_power_2 (by decide) ?_
  refine lv_istore (lv' := [(5, .int (0 : Int32)), (3, .long (1 : Int64)), (0, .long x0), (2, .int x2)]) hx hb dX8_power_3 hl (by decide) rfl (fun ls hl => ?_)
  obtain ⟨z3_2, hz, h⟩ := bd1_some h
  refine L5  FU (1 : Int64) (0 : Int32) _ hz (fun ls H locs hl hG => ?_) _ _ _ (lv_sub hl [2, 3, 1, 0] rfl) hG
  clear hz
  refine lv_lload_n hx hb dX8_power_21 rfl (lv_at hl 0 rfl) ?_
  cases h
  exact ret _ _ _ _ dX8_power_22 hG
set_option maxRecDepth 100000 in
set_option maxHeartbeats 4000000 in
theorem mX8_commonDivisor (l : Launch) (dC : Nat → ClassId) (dI : Nat → Nat → Nat) (cI cJ : ClassId) (x0 : Int64) (x2 : Int64) {res : Int64} (hD : DX8_commonDivisor x0 x2 = some res) : Met l yX8_commonDivisor (WZ yX8_commonDivisor cX8_commonDivisor 11 (some .long)) (RM 0 0) (PC dC dI cI cJ [.long x0, .long x2] []) (QL dC dI [] [] res) 0 0 (FA []) := by
  refine r_metL (by decide +kernel) (Nat.le_of_ble_eq_true rfl) ?_
  intro p e s m args below meth c A H0 QQ X ret ls hl hG
  have X : Cx p m c cX8_commonDivisor 11 s args RX8 dC dI cI cJ meth (some .long) := X
  have hx := X.1.1
  have hb := X.1.2.1
  have hl : lv_has ls 11 [(0, .long x0), (2, .long x2)] := hl
  have L9 : ∀ (n : Nat) (x4 : Int64) (x6 : Int64) (x8 : Int32) (ex4 : Int64), DX8_commonDivisor_L9 n x4 x6 x8 = some ex4 → (∀ (ls : Array Slot) (H : Heap) (locs : List Loc), lv_has ls 11 [(4, .long ex4)] → G dC dI A H0 [] H locs → W p l e (RM 0 0) s m args below meth c H locs 0 0 QQ (F0 m 44 ls [])) → ∀ (ls : Array Slot) (H : Heap) (locs : List Loc), lv_has ls 11 [(4, .long x4), (6, .long x6), (8, .int x8)] → G dC dI A H0 [] H locs → W p l e (RM 0 0) s m args below meth c H locs 0 0 QQ (F0 m 9 ls []) := by
    intro  n
    induction n with
    | zero => intro x4 x6 x8 ex4 h; exact it_zero h
    | succ n ih =>
      intro x4 x6 x8 ex4 h0 K0 ls H locs hl hG
      obtain ⟨w, h, hi, hr⟩ := it_succ h0
      have h : DX8_commonDivisor_L9s x4 x6 x8 = some w := h
      have KC : ∀ (x4 : Int64) (x6 : Int64) (x8 : Int32), w = .inl (x4, x6, x8) → ∀ (ls : Array Slot) (H : Heap) (locs : List Loc), lv_has ls 11 [(4, .long x4), (6, .long x6), (8, .int x8)] → G dC dI A H0 [] H locs → W p l e (RM 0 0) s m args below meth c H locs 0 0 QQ (F0 m 9 ls []) := fun b0 b1 b2 e ls H locs hl hG => ih b0 b1 b2 ex4 (hi _ e) K0 ls H locs hl hG
      have KX : ∀ (x4 : Int64), w = .inr x4 → ∀ (ls : Array Slot) (H : Heap) (locs : List Loc), lv_has ls 11 [(4, .long x4)] → G dC dI A H0 [] H locs → W p l e (RM 0 0) s m args below meth c H locs 0 0 QQ (F0 m 44 ls []) := fun b0 e ls H locs hl hG => by cases hr _ e; exact K0 ls H locs hl hG
      clear h0 hi hr K0 ih
      unfold DX8_commonDivisor_L9s at h
      refine lv_iload hx hb dX8_commonDivisor_9 (lv_at hl 2 rfl) ?_
      refine lv_bipush (v := (64 : Int32)) hx hb dX8_commonDivisor_11 (by decide) ?_
      refine lv_icmp_ge (tgt := 44) hx hb dX8_commonDivisor_13 (by decide) (fun c_1 => ?_) (fun c_1 => ?_)
      · have h := ite_t h c_1
        exact KX _ (Option.some.inj h).symm _ _ _ (lv_sub hl [0] rfl) hG
      · have h := ite_f h c_1
        refine lv_lload hx hb dX8_commonDivisor_16 (lv_at hl 1 rfl) ?_
        refine lv_lconst (v := (0 : Int64)) hx hb dX8_commonDivisor_18 (by decide) ?_
        refine W.lcmp hx hb dX8_commonDivisor_19 ?_
        refine lv_if_eq (tgt := 44) hx hb dX8_commonDivisor_20 (by decide) (fun c_2 => ?_) (fun c_2 => ?_)
        · have h := ite_t h c_2
          exact KX _ (Option.some.inj h).symm _ _ _ (lv_sub hl [0] rfl) hG
        · have h := ite_f h c_2
          refine lv_lload hx hb dX8_commonDivisor_23 (lv_at hl 0 rfl) ?_
          refine lv_lload hx hb dX8_commonDivisor_25 (lv_at hl 1 rfl) ?_
          obtain ⟨g_3, h⟩ := gd h
          refine lv_lrem hx hb dX8_commonDivisor_27 g_3 ?_
          refine lv_lstore (lv' := [(9, .long (x4 - x4 / x6 * x6)), (4, .long x4), (6, .long x6), (8, .int x8)]) hx hb dX8_commonDivisor_28 hl (by decide) rfl (fun ls hl => ?_)
          refine lv_lload hx hb dX8_commonDivisor_30 (lv_at hl 2 rfl) ?_
          refine lv_lstore (lv' := [(4, .long x6), (9, .long (x4 - x4 / x6 * x6)), (6, .long x6), (8, .int x8)]) hx hb dX8_commonDivisor_32 hl (by decide) rfl (fun ls hl => ?_)
          refine lv_lload hx hb dX8_commonDivisor_34 (lv_at hl 1 rfl) ?_
          refine lv_lstore (lv' := [(6, .long (x4 - x4 / x6 * x6)), (4, .long x6), (9, .long (x4 - x4 / x6 * x6)), (8, .int x8)]) hx hb dX8_commonDivisor_36 hl (by decide) rfl (fun ls hl => ?_)
          refine lv_iinc (v := (x8 + (1 : Int32))) (lv' := [(8, .int (x8 + (1 : Int32))), (6, .long (x4 - x4 / x6 * x6)), (4, .long x6), (9, .long (x4 - x4 / x6 * x6))]) hx hb dX8_commonDivisor_38 hl (k := 3) rfl rfl (by decide) rfl (fun ls hl => ?_)
          refine lv_goto (tgt := 9) hx hb dX8_commonDivisor_41 (by decide) ?_
          exact KC _ _ _ (Option.some.inj h).symm _ _ _ (lv_sub hl [2, 1, 0] rfl) hG
  have h := hD
  unfold DX8_commonDivisor at h
  clear hD
  refine lv_lload_n hx hb dX8_commonDivisor_0 rfl (lv_at hl 0 rfl) ?_
  refine lv_lstore (lv' := [(4, .long x0), (0, .long x0), (2, .long x2)]) hx hb dX8_commonDivisor_1 hl (by decide) rfl (fun ls hl => ?_)
  refine lv_lload_n hx hb dX8_commonDivisor_3 rfl (lv_at hl 2 rfl) ?_
  refine lv_lstore (lv' := [(6, .long x2), (4, .long x0), (0, .long x0), (2, .long x2)]) hx hb dX8_commonDivisor_4 hl (by decide) rfl (fun ls hl => ?_)
  refine lv_iconst (v := (0 : Int32)) hx hb dX8_commonDivisor_6 (by decide) ?_
  refine lv_istore (lv' := [(8, .int (0 : Int32)), (6, .long x2), (4, .long x0), (0, .long x0), (2, .long x2)]) hx hb dX8_commonDivisor_7 hl (by decide) rfl (fun ls hl => ?_)
  obtain ⟨z4_4, hz, h⟩ := bd1_some h
  refine L9  FU x0 x2 (0 : Int32) _ hz (fun ls H locs hl hG => ?_) _ _ _ (lv_sub hl [2, 1, 0] rfl) hG
  clear hz
  refine lv_lload hx hb dX8_commonDivisor_44 (lv_at hl 0 rfl) ?_
  cases h
  exact ret _ _ _ _ dX8_commonDivisor_46 hG
set_option maxRecDepth 100000 in
set_option maxHeartbeats 4000000 in
theorem mX8_ways (l : Launch) (dC : Nat → ClassId) (dI : Nat → Nat → Nat) (cI cJ : ClassId) (x0 : Int32) (x1 : Int32) {res : Int64} (hD : DX8_ways x0 x1 = some res) : Met l yX8_ways (WZ yX8_ways cX8_ways 5 (some .long)) (RM 0 0) (PC dC dI cI cJ [.int x0, .int x1] []) (QL dC dI [] [] res) 0 0 (FA []) := by
  refine r_metL (by decide +kernel) (Nat.le_of_ble_eq_true rfl) ?_
  intro p e s m args below meth c A H0 QQ X ret ls hl hG
  have X : Cx p m c cX8_ways 5 s args RX8 dC dI cI cJ meth (some .long) := X
  have hx := X.1.1
  have hb := X.1.2.1
  have hl : lv_has ls 5 [(0, .int x0), (1, .int x1)] := hl
  have L5 : ∀ (n : Nat) (x2 : Int64) (x4 : Int32) (ex2 : Int64), DX8_ways_L5 x0 x1 n x2 x4 = some ex2 → (∀ (ls : Array Slot) (H : Heap) (locs : List Loc), lv_has ls 5 [(2, .long ex2)] → G dC dI A H0 [] H locs → W p l e (RM 0 0) s m args below meth c H locs 0 0 QQ (F0 m 31 ls [])) → ∀ (ls : Array Slot) (H : Heap) (locs : List Loc), lv_has ls 5 [(0, .int x0), (1, .int x1), (2, .long x2), (4, .int x4)] → G dC dI A H0 [] H locs → W p l e (RM 0 0) s m args below meth c H locs 0 0 QQ (F0 m 5 ls []) := by
    intro  n
    induction n with
    | zero => intro x2 x4 ex2 h; exact it_zero h
    | succ n ih =>
      intro x2 x4 ex2 h0 K0 ls H locs hl hG
      obtain ⟨w, h, hi, hr⟩ := it_succ h0
      have h : DX8_ways_L5s x0 x1 x2 x4 = some w := h
      have KC : ∀ (x2 : Int64) (x4 : Int32), w = .inl (x2, x4) → ∀ (ls : Array Slot) (H : Heap) (locs : List Loc), lv_has ls 5 [(0, .int x0), (1, .int x1), (2, .long x2), (4, .int x4)] → G dC dI A H0 [] H locs → W p l e (RM 0 0) s m args below meth c H locs 0 0 QQ (F0 m 5 ls []) := fun b0 b1 e ls H locs hl hG => ih b0 b1 ex2 (hi _ e) K0 ls H locs hl hG
      have KX : ∀ (x2 : Int64), w = .inr x2 → ∀ (ls : Array Slot) (H : Heap) (locs : List Loc), lv_has ls 5 [(2, .long x2)] → G dC dI A H0 [] H locs → W p l e (RM 0 0) s m args below meth c H locs 0 0 QQ (F0 m 31 ls []) := fun b0 e ls H locs hl hG => by cases hr _ e; exact K0 ls H locs hl hG
      clear h0 hi hr K0 ih
      unfold DX8_ways_L5s at h
      refine lv_iload hx hb dX8_ways_5 (lv_at hl 3 rfl) ?_
      refine lv_iload_n hx hb dX8_ways_7 rfl (lv_at hl 1 rfl) ?_
      refine lv_icmp_gt (tgt := 31) hx hb dX8_ways_8 (by decide) (fun c_1 => ?_) (fun c_1 => ?_)
      · have h := ite_t h c_1
        exact KX _ (Option.some.inj h).symm _ _ _ (lv_sub hl [2] rfl) hG
      · have h := ite_f h c_1
        refine lv_lload_n hx hb dX8_ways_11 rfl (lv_at hl 2 rfl) ?_
        refine lv_iload_n hx hb dX8_ways_12 rfl (lv_at hl 0 rfl) ?_
        refine lv_iload hx hb dX8_ways_13 (lv_at hl 3 rfl) ?_
        refine lv_isub hx hb dX8_ways_15 ?_
        refine lv_iconst (v := (1 : Int32)) hx hb dX8_ways_16 (by decide) ?_
        refine lv_iadd hx hb dX8_ways_17 ?_
        refine lv_i2l (v := (((x0 - x4) + (1 : Int32)).toInt64)) hx hb dX8_ways_18 rfl ?_
        refine lv_lmul hx hb dX8_ways_19 ?_
        refine lv_iload hx hb dX8_ways_20 (lv_at hl 3 rfl) ?_
        refine lv_i2l (v := (x4.toInt64)) hx hb dX8_ways_22 rfl ?_
        obtain ⟨g_2, h⟩ := gd h
        refine lv_ldiv hx hb dX8_ways_23 g_2 ?_
        refine lv_lstore_n (lv' := [(2, .long ((x2 * (((x0 - x4) + (1 : Int32)).toInt64)) / (x4.toInt64))), (0, .int x0), (1, .int x1), (4, .int x4)]) hx hb dX8_ways_24 rfl hl (by decide) rfl (fun ls hl => ?_)
        refine lv_iinc (v := (x4 + (1 : Int32))) (lv' := [(4, .int (x4 + (1 : Int32))), (2, .long ((x2 * (((x0 - x4) + (1 : Int32)).toInt64)) / (x4.toInt64))), (0, .int x0), (1, .int x1)]) hx hb dX8_ways_25 hl (k := 3) rfl rfl (by decide) rfl (fun ls hl => ?_)
        refine lv_goto (tgt := 5) hx hb dX8_ways_28 (by decide) ?_
        exact KC _ _ (Option.some.inj h).symm _ _ _ (lv_sub hl [2, 3, 1, 0] rfl) hG
  have h := hD
  unfold DX8_ways at h
  clear hD
  refine lv_lconst (v := (1 : Int64)) hx hb dX8_ways_0 (by decide) ?_
  refine lv_lstore_n (lv' := [(2, .long (1 : Int64)), (0, .int x0), (1, .int x1)]) hx hb dX8_ways_1 rfl hl (by decide) rfl (fun ls hl => ?_)
  refine lv_iconst (v := (1 : Int32)) hx hb dX8_ways_2 (by decide) ?_
  refine lv_istore (lv' := [(4, .int (1 : Int32)), (2, .long (1 : Int64)), (0, .int x0), (1, .int x1)]) hx hb dX8_ways_3 hl (by decide) rfl (fun ls hl => ?_)
  obtain ⟨z2_3, hz, h⟩ := bd1_some h
  refine L5  FU (1 : Int64) (1 : Int32) _ hz (fun ls H locs hl hG => ?_) _ _ _ (lv_sub hl [2, 3, 1, 0] rfl) hG
  clear hz
  refine lv_lload_n hx hb dX8_ways_31 rfl (lv_at hl 0 rfl) ?_
  cases h
  exact ret _ _ _ _ dX8_ways_32 hG
set_option maxRecDepth 100000 in
set_option maxHeartbeats 4000000 in
theorem mX8_odds (l : Launch) (dC : Nat → ClassId) (dI : Nat → Nat → Nat) (cI cJ : ClassId) (a0 a1 a2 a3 a4 a5 a6 a7 a8 a9 a10 a11 a12 a13 a14 a15 a16 a17 a18 a19 a20 a21 a22 a23 a24 a25 a26 a27 a28 a29 : Nat) (c_text_bytes : Nat → Int32) (c_text_length : Int32) (c_reader_numbers : Nat → Int32) (c_reader_next : Int32) (c_laid_stand : Int32) (c_laid_home : Int32) (c_laid_priceStart : Int32) (c_laid_priceStep : Int32) (c_laid_thrown_cells : Nat → Int32) (c_laid_thrown_filled : Int32) (c_laid_nets_cells : Nat → Int32) (c_laid_nets_filled : Int32) (c_trial_stand : Int32) (c_trial_home : Int32) (c_trial_priceStart : Int32) (c_trial_priceStep : Int32) (c_trial_thrown_cells : Nat → Int32) (c_trial_thrown_filled : Int32) (c_trial_nets_cells : Nat → Int32) (c_trial_nets_filled : Int32) (c_flight_loads_cells : Nat → Int32) (c_flight_loads_filled : Int32) (c_flight_order : Nat → Int32) (c_flight_done : Int32) (c_flight_start : Int32) (c_flight_end : Int32) (c_changes_who : Nat → Int32) (c_changes_column : Nat → Int32) (c_changes_was : Nat → Int32) (c_changes_held : Int32) (c_kept_older_cells : Nat → Int32) (c_kept_older_filled : Int32) (c_kept_newer_cells : Nat → Int32) (c_kept_newer_filled : Int32) (c_kept_held : Int32) (c_turns_need : Nat → Int32) (x1 : Int32) (x2 : Int32) (x3 : Int32) {res : Int64} (hD : DX8_odds x1 x2 x3 = some res) : Met l yX8_odds (WZ yX8_odds cX8_odds 12 (some .long)) (RM 1 30) (PC dC dI cI cJ [.ref a0, .int x1, .int x2, .int x3] (W_X8 a0 a1 a2 a3 a4 a5 a6 a7 a8 a9 a10 a11 a12 a13 a14 a15 a16 a17 a18 a19 a20 a21 a22 a23 a24 a25 a26 a27 a28 a29 cI cJ c_text_bytes c_text_length c_reader_numbers c_reader_next c_laid_stand c_laid_home c_laid_priceStart c_laid_priceStep c_laid_thrown_cells c_laid_thrown_filled c_laid_nets_cells c_laid_nets_filled c_trial_stand c_trial_home c_trial_priceStart c_trial_priceStep c_trial_thrown_cells c_trial_thrown_filled c_trial_nets_cells c_trial_nets_filled c_flight_loads_cells c_flight_loads_filled c_flight_order c_flight_done c_flight_start c_flight_end c_changes_who c_changes_column c_changes_was c_changes_held c_kept_older_cells c_kept_older_filled c_kept_newer_cells c_kept_newer_filled c_kept_held c_turns_need)) (QL dC dI (W_X8 a0 a1 a2 a3 a4 a5 a6 a7 a8 a9 a10 a11 a12 a13 a14 a15 a16 a17 a18 a19 a20 a21 a22 a23 a24 a25 a26 a27 a28 a29 cI cJ c_text_bytes c_text_length c_reader_numbers c_reader_next c_laid_stand c_laid_home c_laid_priceStart c_laid_priceStep c_laid_thrown_cells c_laid_thrown_filled c_laid_nets_cells c_laid_nets_filled c_trial_stand c_trial_home c_trial_priceStart c_trial_priceStep c_trial_thrown_cells c_trial_thrown_filled c_trial_nets_cells c_trial_nets_filled c_flight_loads_cells c_flight_loads_filled c_flight_order c_flight_done c_flight_start c_flight_end c_changes_who c_changes_column c_changes_was c_changes_held c_kept_older_cells c_kept_older_filled c_kept_newer_cells c_kept_newer_filled c_kept_held c_turns_need) (W_X8 a0 a1 a2 a3 a4 a5 a6 a7 a8 a9 a10 a11 a12 a13 a14 a15 a16 a17 a18 a19 a20 a21 a22 a23 a24 a25 a26 a27 a28 a29 cI cJ c_text_bytes c_text_length c_reader_numbers c_reader_next c_laid_stand c_laid_home c_laid_priceStart c_laid_priceStep c_laid_thrown_cells c_laid_thrown_filled c_laid_nets_cells c_laid_nets_filled c_trial_stand c_trial_home c_trial_priceStart c_trial_priceStep c_trial_thrown_cells c_trial_thrown_filled c_trial_nets_cells c_trial_nets_filled c_flight_loads_cells c_flight_loads_filled c_flight_order c_flight_done c_flight_start c_flight_end c_changes_who c_changes_column c_changes_was c_changes_held c_kept_older_cells c_kept_older_filled c_kept_newer_cells c_kept_newer_filled c_kept_held c_turns_need) res) 0 0 (FA (W_X8 a0 a1 a2 a3 a4 a5 a6 a7 a8 a9 a10 a11 a12 a13 a14 a15 a16 a17 a18 a19 a20 a21 a22 a23 a24 a25 a26 a27 a28 a29 cI cJ c_text_bytes c_text_length c_reader_numbers c_reader_next c_laid_stand c_laid_home c_laid_priceStart c_laid_priceStep c_laid_thrown_cells c_laid_thrown_filled c_laid_nets_cells c_laid_nets_filled c_trial_stand c_trial_home c_trial_priceStart c_trial_priceStep c_trial_thrown_cells c_trial_thrown_filled c_trial_nets_cells c_trial_nets_filled c_flight_loads_cells c_flight_loads_filled c_flight_order c_flight_done c_flight_start c_flight_end c_changes_who c_changes_column c_changes_was c_changes_held c_kept_older_cells c_kept_older_filled c_kept_newer_cells c_kept_newer_filled c_kept_held c_turns_need)) := by
  refine r_metL (by decide +kernel) (Nat.le_of_ble_eq_true rfl) ?_
  intro p e s m args below meth c A H0 QQ X ret ls hl hG
  have X : Cx p m c cX8_odds 12 s args RX8 dC dI cI cJ meth (some .long) := X
  have hx := X.1.1
  have hb := X.1.2.1
  have hl : lv_has ls 12 [(0, .ref a0), (1, .int x1), (2, .int x2), (3, .int x3)] := hl
  have L48 : ∀ (x4 : Int64), ∀ (n : Nat) (x6 : Int64) (x8 : Int32) (ex6 : Int64), DX8_odds_L48 x1 x2 n x6 x8 = some ex6 → (∀ (ls : Array Slot) (H : Heap) (locs : List Loc), lv_has ls 12 [(3, .int x3), (4, .long x4), (6, .long ex6)] → G dC dI A H0 (W_X8 a0 a1 a2 a3 a4 a5 a6 a7 a8 a9 a10 a11 a12 a13 a14 a15 a16 a17 a18 a19 a20 a21 a22 a23 a24 a25 a26 a27 a28 a29 cI cJ c_text_bytes c_text_length c_reader_numbers c_reader_next c_laid_stand c_laid_home c_laid_priceStart c_laid_priceStep c_laid_thrown_cells c_laid_thrown_filled c_laid_nets_cells c_laid_nets_filled c_trial_stand c_trial_home c_trial_priceStart c_trial_priceStep c_trial_thrown_cells c_trial_thrown_filled c_trial_nets_cells c_trial_nets_filled c_flight_loads_cells c_flight_loads_filled c_flight_order c_flight_done c_flight_start c_flight_end c_changes_who c_changes_column c_changes_was c_changes_held c_kept_older_cells c_kept_older_filled c_kept_newer_cells c_kept_newer_filled c_kept_held c_turns_need) H locs → W p l e (RM 1 30) s m args below meth c H locs 0 0 QQ (F0 m 100 ls [])) → ∀ (ls : Array Slot) (H : Heap) (locs : List Loc), lv_has ls 12 [(1, .int x1), (2, .int x2), (3, .int x3), (4, .long x4), (6, .long x6), (8, .int x8)] → G dC dI A H0 (W_X8 a0 a1 a2 a3 a4 a5 a6 a7 a8 a9 a10 a11 a12 a13 a14 a15 a16 a17 a18 a19 a20 a21 a22 a23 a24 a25 a26 a27 a28 a29 cI cJ c_text_bytes c_text_length c_reader_numbers c_reader_next c_laid_stand c_laid_home c_laid_priceStart c_laid_priceStep c_laid_thrown_cells c_laid_thrown_filled c_laid_nets_cells c_laid_nets_filled c_trial_stand c_trial_home c_trial_priceStart c_trial_priceStep c_trial_thrown_cells c_trial_thrown_filled c_trial_nets_cells c_trial_nets_filled c_flight_loads_cells c_flight_loads_filled c_flight_order c_flight_done c_flight_start c_flight_end c_changes_who c_changes_column c_changes_was c_changes_held c_kept_older_cells c_kept_older_filled c_kept_newer_cells c_kept_newer_filled c_kept_held c_turns_need) H locs → W p l e (RM 1 30) s m args below meth c H locs 0 0 QQ (F0 m 48 ls []) := by
    intro x4 n
    induction n with
    | zero => intro x6 x8 ex6 h; exact it_zero h
    | succ n ih =>
      intro x6 x8 ex6 h0 K0 ls H locs hl hG
      obtain ⟨w, h, hi, hr⟩ := it_succ h0
      have h : DX8_odds_L48s x1 x2 x6 x8 = some w := h
      have KC : ∀ (x6 : Int64) (x8 : Int32), w = .inl (x6, x8) → ∀ (ls : Array Slot) (H : Heap) (locs : List Loc), lv_has ls 12 [(1, .int x1), (2, .int x2), (3, .int x3), (4, .long x4), (6, .long x6), (8, .int x8)] → G dC dI A H0 (W_X8 a0 a1 a2 a3 a4 a5 a6 a7 a8 a9 a10 a11 a12 a13 a14 a15 a16 a17 a18 a19 a20 a21 a22 a23 a24 a25 a26 a27 a28 a29 cI cJ c_text_bytes c_text_length c_reader_numbers c_reader_next c_laid_stand c_laid_home c_laid_priceStart c_laid_priceStep c_laid_thrown_cells c_laid_thrown_filled c_laid_nets_cells c_laid_nets_filled c_trial_stand c_trial_home c_trial_priceStart c_trial_priceStep c_trial_thrown_cells c_trial_thrown_filled c_trial_nets_cells c_trial_nets_filled c_flight_loads_cells c_flight_loads_filled c_flight_order c_flight_done c_flight_start c_flight_end c_changes_who c_changes_column c_changes_was c_changes_held c_kept_older_cells c_kept_older_filled c_kept_newer_cells c_kept_newer_filled c_kept_held c_turns_need) H locs → W p l e (RM 1 30) s m args below meth c H locs 0 0 QQ (F0 m 48 ls []) := fun b0 b1 e ls H locs hl hG => ih b0 b1 ex6 (hi _ e) K0 ls H locs hl hG
      have KX : ∀ (x6 : Int64), w = .inr x6 → ∀ (ls : Array Slot) (H : Heap) (locs : List Loc), lv_has ls 12 [(3, .int x3), (4, .long x4), (6, .long x6)] → G dC dI A H0 (W_X8 a0 a1 a2 a3 a4 a5 a6 a7 a8 a9 a10 a11 a12 a13 a14 a15 a16 a17 a18 a19 a20 a21 a22 a23 a24 a25 a26 a27 a28 a29 cI cJ c_text_bytes c_text_length c_reader_numbers c_reader_next c_laid_stand c_laid_home c_laid_priceStart c_laid_priceStep c_laid_thrown_cells c_laid_thrown_filled c_laid_nets_cells c_laid_nets_filled c_trial_stand c_trial_home c_trial_priceStart c_trial_priceStep c_trial_thrown_cells c_trial_thrown_filled c_trial_nets_cells c_trial_nets_filled c_flight_loads_cells c_flight_loads_filled c_flight_order c_flight_done c_flight_start c_flight_end c_changes_who c_changes_column c_changes_was c_changes_held c_kept_older_cells c_kept_older_filled c_kept_newer_cells c_kept_newer_filled c_kept_held c_turns_need) H locs → W p l e (RM 1 30) s m args below meth c H locs 0 0 QQ (F0 m 100 ls []) := fun b0 e ls H locs hl hG => by cases hr _ e; exact K0 ls H locs hl hG
      clear h0 hi hr K0 ih
      unfold DX8_odds_L48s at h
      refine lv_iload hx hb dX8_odds_48 (lv_at hl 5 rfl) ?_
      refine lv_iload_n hx hb dX8_odds_50 rfl (lv_at hl 0 rfl) ?_
      refine lv_icmp_gt (tgt := 100) hx hb dX8_odds_51 (by decide) (fun c_12 => ?_) (fun c_12 => ?_)
      · have h := ite_t h c_12
        exact KX _ (Option.some.inj h).symm _ _ _ (lv_sub hl [2, 3, 4] rfl) hG
      · have h := ite_f h c_12
        refine lv_iconst (v := (2 : Int32)) hx hb dX8_odds_54 (by decide) ?_
        refine lv_iload hx hb dX8_odds_55 (lv_at hl 5 rfl) ?_
        refine lv_imul hx hb dX8_odds_57 ?_
        refine lv_iload_n hx hb dX8_odds_58 rfl (lv_at hl 0 rfl) ?_
        refine lv_icmp_lt (tgt := 94) hx hb dX8_odds_59 (by decide) (fun c_13 => ?_) (fun c_13 => ?_)
        · have h := ite_t h c_13
          refine lv_iinc (v := (x8 + (1 : Int32))) (lv' := [(8, .int (x8 + (1 : Int32))), (1, .int x1), (2, .int x2), (3, .int x3), (4, .long x4), (6, .long x6)]) hx hb dX8_odds_94 hl (k := 5) rfl rfl (by decide) rfl (fun ls hl => ?_)
          refine lv_goto (tgt := 48) hx hb dX8_odds_97 (by decide) ?_
          exact KC _ _ (Option.some.inj h).symm _ _ _ (lv_sub hl [1, 2, 3, 4, 5, 0] rfl) hG
        · have h := ite_f h c_13
          refine lv_lload hx hb dX8_odds_62 (lv_at hl 4 rfl) ?_
          refine lv_iload_n hx hb dX8_odds_64 rfl (lv_at hl 0 rfl) ?_
          refine lv_iload hx hb dX8_odds_65 (lv_at hl 5 rfl) ?_
          obtain ⟨r_14, hz_15, h⟩ := bd1_some h
          refine aft_l (ws' := (W_X8 a0 a1 a2 a3 a4 a5 a6 a7 a8 a9 a10 a11 a12 a13 a14 a15 a16 a17 a18 a19 a20 a21 a22 a23 a24 a25 a26 a27 a28 a29 cI cJ c_text_bytes c_text_length c_reader_numbers c_reader_next c_laid_stand c_laid_home c_laid_priceStart c_laid_priceStep c_laid_thrown_cells c_laid_thrown_filled c_laid_nets_cells c_laid_nets_filled c_trial_stand c_trial_home c_trial_priceStart c_trial_priceStep c_trial_thrown_cells c_trial_thrown_filled c_trial_nets_cells c_trial_nets_filled c_flight_loads_cells c_flight_loads_filled c_flight_order c_flight_done c_flight_start c_flight_end c_changes_who c_changes_column c_changes_was c_changes_held c_kept_older_cells c_kept_older_filled c_kept_newer_cells c_kept_newer_filled c_kept_held c_turns_need)) (run_S (rest := [.long x6]) X hG hl.1 (mX8_ways l dC dI cI cJ x1 x8 hz_15) gi_S_X8_194 hd_S_yX8_ways ⟨rfl, rfl⟩ rfl ⟨Nat.le_of_ble_eq_true rfl, Nat.le_of_ble_eq_true rfl⟩ [] (by decide) rfl rfl (Nat.le_of_ble_eq_true rfl) ⟨Nat.le_of_ble_eq_true rfl, Nat.le_of_ble_eq_true rfl⟩ dX8_odds_67) hG [] rfl rfl rfl (fun H locs hG => ?_)
          clear hz_15
          refine lv_iload_n hx hb dX8_odds_70 rfl (lv_at hl 1 rfl) ?_
          refine lv_i2l (v := (x2.toInt64)) hx hb dX8_odds_71 rfl ?_
          refine lv_iload hx hb dX8_odds_72 (lv_at hl 5 rfl) ?_
          obtain ⟨r_16, hz_17, h⟩ := bd1_some h
          refine aft_l (ws' := (W_X8 a0 a1 a2 a3 a4 a5 a6 a7 a8 a9 a10 a11 a12 a13 a14 a15 a16 a17 a18 a19 a20 a21 a22 a23 a24 a25 a26 a27 a28 a29 cI cJ c_text_bytes c_text_length c_reader_numbers c_reader_next c_laid_stand c_laid_home c_laid_priceStart c_laid_priceStep c_laid_thrown_cells c_laid_thrown_filled c_laid_nets_cells c_laid_nets_filled c_trial_stand c_trial_home c_trial_priceStart c_trial_priceStep c_trial_thrown_cells c_trial_thrown_filled c_trial_nets_cells c_trial_nets_filled c_flight_loads_cells c_flight_loads_filled c_flight_order c_flight_done c_flight_start c_flight_end c_changes_who c_changes_column c_changes_was c_changes_held c_kept_older_cells c_kept_older_filled c_kept_newer_cells c_kept_newer_filled c_kept_held c_turns_need)) (run_S (rest := [.long r_14, .long x6]) X hG hl.1 (mX8_power l dC dI cI cJ (x2.toInt64) x8 hz_17) gi_S_X8_190 hd_S_yX8_power ⟨rfl, rfl⟩ rfl ⟨Nat.le_of_ble_eq_true rfl, Nat.le_of_ble_eq_true rfl⟩ [] (by decide) rfl rfl (Nat.le_of_ble_eq_true rfl) ⟨Nat.le_of_ble_eq_true rfl, Nat.le_of_ble_eq_true rfl⟩ dX8_odds_74) hG [] rfl rfl rfl (fun H locs hG => ?_)
          clear hz_17
          refine lv_lmul hx hb dX8_odds_77 ?_
          refine lv_bipush (v := (10 : Int32)) hx hb dX8_odds_78 (by decide) ?_
          refine lv_iload_n hx hb dX8_odds_80 rfl (lv_at hl 1 rfl) ?_
          refine lv_isub hx hb dX8_odds_81 ?_
          refine lv_i2l (v := (((10 : Int32) - x2).toInt64)) hx hb dX8_odds_82 rfl ?_
          refine lv_iload_n hx hb dX8_odds_83 rfl (lv_at hl 0 rfl) ?_
          refine lv_iload hx hb dX8_odds_84 (lv_at hl 5 rfl) ?_
          refine lv_isub hx hb dX8_odds_86 ?_
          obtain ⟨r_18, hz_19, h⟩ := bd1_some h
          refine aft_l (ws' := (W_X8 a0 a1 a2 a3 a4 a5 a6 a7 a8 a9 a10 a11 a12 a13 a14 a15 a16 a17 a18 a19 a20 a21 a22 a23 a24 a25 a26 a27 a28 a29 cI cJ c_text_bytes c_text_length c_reader_numbers c_reader_next c_laid_stand c_laid_home c_laid_priceStart c_laid_priceStep c_laid_thrown_cells c_laid_thrown_filled c_laid_nets_cells c_laid_nets_filled c_trial_stand c_trial_home c_trial_priceStart c_trial_priceStep c_trial_thrown_cells c_trial_thrown_filled c_trial_nets_cells c_trial_nets_filled c_flight_loads_cells c_flight_loads_filled c_flight_order c_flight_done c_flight_start c_flight_end c_changes_who c_changes_column c_changes_was c_changes_held c_kept_older_cells c_kept_older_filled c_kept_newer_cells c_kept_newer_filled c_kept_held c_turns_need)) (run_S (rest := [.long (r_14 * r_16), .long x6]) X hG hl.1 (mX8_power l dC dI cI cJ (((10 : Int32) - x2).toInt64) (x1 - x8) hz_19) gi_S_X8_190 hd_S_yX8_power ⟨rfl, rfl⟩ rfl ⟨Nat.le_of_ble_eq_true rfl, Nat.le_of_ble_eq_true rfl⟩ [] (by decide) rfl rfl (Nat.le_of_ble_eq_true rfl) ⟨Nat.le_of_ble_eq_true rfl, Nat.le_of_ble_eq_true rfl⟩ dX8_odds_87) hG [] rfl rfl rfl (fun H locs hG => ?_)
          clear hz_19
          refine lv_lmul hx hb dX8_odds_90 ?_
          refine lv_ladd hx hb dX8_odds_91 ?_
          refine lv_lstore (lv' := [(6, .long (x6 + ((r_14 * r_16) * r_18))), (1, .int x1), (2, .int x2), (3, .int x3), (4, .long x4), (8, .int x8)]) hx hb dX8_odds_92 hl (by decide) rfl (fun ls hl => ?_)
          refine lv_iinc (v := (x8 + (1 : Int32))) (lv' := [(8, .int (x8 + (1 : Int32))), (6, .long (x6 + ((r_14 * r_16) * r_18))), (1, .int x1), (2, .int x2), (3, .int x3), (4, .long x4)]) hx hb dX8_odds_94 hl (k := 5) rfl rfl (by decide) rfl (fun ls hl => ?_)
          refine lv_goto (tgt := 48) hx hb dX8_odds_97 (by decide) ?_
          exact KC _ _ (Option.some.inj h).symm _ _ _ (lv_sub hl [2, 3, 4, 5, 1, 0] rfl) hG
  have J120 : ∀ (y0 : Int64) (x8 : Int64), DX8_odds_J120 y0 x8 = some res → ∀ (ls : Array Slot) (H : Heap) (locs : List Loc), lv_has ls 12 [(8, .long x8)] → G dC dI A H0 (W_X8 a0 a1 a2 a3 a4 a5 a6 a7 a8 a9 a10 a11 a12 a13 a14 a15 a16 a17 a18 a19 a20 a21 a22 a23 a24 a25 a26 a27 a28 a29 cI cJ c_text_bytes c_text_length c_reader_numbers c_reader_next c_laid_stand c_laid_home c_laid_priceStart c_laid_priceStep c_laid_thrown_cells c_laid_thrown_filled c_laid_nets_cells c_laid_nets_filled c_trial_stand c_trial_home c_trial_priceStart c_trial_priceStep c_trial_thrown_cells c_trial_thrown_filled c_trial_nets_cells c_trial_nets_filled c_flight_loads_cells c_flight_loads_filled c_flight_order c_flight_done c_flight_start c_flight_end c_changes_who c_changes_column c_changes_was c_changes_held c_kept_older_cells c_kept_older_filled c_kept_newer_cells c_kept_newer_filled c_kept_held c_turns_need) H locs → W p l e (RM 1 30) s m args below meth c H locs 0 0 QQ (F0 m 120 ls [.long y0]) := by
    intro y0 x8 h  ls H locs hl hG
    unfold DX8_odds_J120 at h
    refine lv_lstore (lv' := [(10, .long y0), (8, .long x8)]) hx hb dX8_odds_120 hl (by decide) rfl (fun ls hl => ?_)
    refine lv_lload hx hb dX8_odds_122 (lv_at hl 1 rfl) ?_
    refine lv_lconst (v := (0 : Int64)) hx hb dX8_odds_124 (by decide) ?_
    refine W.lcmp hx hb dX8_odds_125 ?_
    refine lv_if_le (tgt := 137) hx hb dX8_odds_126 (by decide) (fun c_24 => ?_) (fun c_24 => ?_)
    · have h := ite_t h c_24
      refine lv_lload hx hb dX8_odds_137 (lv_at hl 0 rfl) ?_
      cases h
      exact ret _ _ _ _ dX8_odds_139 hG
    · have h := ite_f h c_24
      refine lv_lload hx hb dX8_odds_129 (lv_at hl 0 rfl) ?_
      refine lv_lload hx hb dX8_odds_131 (lv_at hl 1 rfl) ?_
      obtain ⟨g_25, h⟩ := gd h
      refine lv_ldiv hx hb dX8_odds_133 g_25 ?_
      refine lv_goto (tgt := 139) hx hb dX8_odds_134 (by decide) ?_
      cases h
      exact ret _ _ _ _ dX8_odds_139 hG
  have h := hD
  unfold DX8_odds at h
  clear hD
  refine lv_iload_n hx hb dX8_odds_0 rfl (lv_at hl 1 rfl) ?_
  refine lv_iconst (v := (0 : Int32)) hx hb dX8_odds_1 (by decide) ?_
  refine lv_bipush (v := (9 : Int32)) hx hb dX8_odds_2 (by decide) ?_
  obtain ⟨r_1, hz_2, h⟩ := bd1_some h
  refine aft_i (ws' := (W_X8 a0 a1 a2 a3 a4 a5 a6 a7 a8 a9 a10 a11 a12 a13 a14 a15 a16 a17 a18 a19 a20 a21 a22 a23 a24 a25 a26 a27 a28 a29 cI cJ c_text_bytes c_text_length c_reader_numbers c_reader_next c_laid_stand c_laid_home c_laid_priceStart c_laid_priceStep c_laid_thrown_cells c_laid_thrown_filled c_laid_nets_cells c_laid_nets_filled c_trial_stand c_trial_home c_trial_priceStart c_trial_priceStep c_trial_thrown_cells c_trial_thrown_filled c_trial_nets_cells c_trial_nets_filled c_flight_loads_cells c_flight_loads_filled c_flight_order c_flight_done c_flight_start c_flight_end c_changes_who c_changes_column c_changes_was c_changes_held c_kept_older_cells c_kept_older_filled c_kept_newer_cells c_kept_newer_filled c_kept_held c_turns_need)) (run_S (rest := []) X hG hl.1 (mX8_within l dC dI cI cJ x1 (0 : Int32) (9 : Int32) hz_2) gi_S_X8_74 hd_S_yX8_within ⟨rfl, rfl⟩ rfl ⟨Nat.le_of_ble_eq_true rfl, Nat.le_of_ble_eq_true rfl⟩ [] (by decide) rfl rfl (Nat.le_of_ble_eq_true rfl) ⟨Nat.le_of_ble_eq_true rfl, Nat.le_of_ble_eq_true rfl⟩ dX8_odds_4) hG [] rfl rfl rfl (fun H locs hG => ?_)
  clear hz_2
  refine lv_if_eq (tgt := 29) hx hb dX8_odds_7 (by decide) (fun c_3 => ?_) (fun c_3 => ?_)
  · have h := ite_t h c_3
    refine lv_ldc2 (v := (-1 : Int64)) hx hb X.1.2.2.2.1 (X.1.2.2.2.2 _ w_581) dX8_odds_29 ?_
    cases h
    exact ret _ _ _ _ dX8_odds_32 hG
  · have h := ite_f h c_3
    refine lv_iload_n hx hb dX8_odds_10 rfl (lv_at hl 2 rfl) ?_
    refine lv_iconst (v := (0 : Int32)) hx hb dX8_odds_11 (by decide) ?_
    refine lv_bipush (v := (10 : Int32)) hx hb dX8_odds_12 (by decide) ?_
    obtain ⟨r_4, hz_5, h⟩ := bd1_some h
    refine aft_i (ws' := (W_X8 a0 a1 a2 a3 a4 a5 a6 a7 a8 a9 a10 a11 a12 a13 a14 a15 a16 a17 a18 a19 a20 a21 a22 a23 a24 a25 a26 a27 a28 a29 cI cJ c_text_bytes c_text_length c_reader_numbers c_reader_next c_laid_stand c_laid_home c_laid_priceStart c_laid_priceStep c_laid_thrown_cells c_laid_thrown_filled c_laid_nets_cells c_laid_nets_filled c_trial_stand c_trial_home c_trial_priceStart c_trial_priceStep c_trial_thrown_cells c_trial_thrown_filled c_trial_nets_cells c_trial_nets_filled c_flight_loads_cells c_flight_loads_filled c_flight_order c_flight_done c_flight_start c_flight_end c_changes_who c_changes_column c_changes_was c_changes_held c_kept_older_cells c_kept_older_filled c_kept_newer_cells c_kept_newer_filled c_kept_held c_turns_need)) (run_S (rest := []) X hG hl.1 (mX8_within l dC dI cI cJ x2 (0 : Int32) (10 : Int32) hz_5) gi_S_X8_74 hd_S_yX8_within ⟨rfl, rfl⟩ rfl ⟨Nat.le_of_ble_eq_true rfl, Nat.le_of_ble_eq_true rfl⟩ [] (by decide) rfl rfl (Nat.le_of_ble_eq_true rfl) ⟨Nat.le_of_ble_eq_true rfl, Nat.le_of_ble_eq_true rfl⟩ dX8_odds_14) hG [] rfl rfl rfl (fun H locs hG => ?_)
    clear hz_5
    refine lv_if_eq (tgt := 29) hx hb dX8_odds_17 (by decide) (fun c_6 => ?_) (fun c_6 => ?_)
    · have h := ite_t h c_6
      refine lv_ldc2 (v := (-1 : Int64)) hx hb X.1.2.2.2.1 (X.1.2.2.2.2 _ w_581) dX8_odds_29 ?_
      cases h
      exact ret _ _ _ _ dX8_odds_32 hG
    · have h := ite_f h c_6
      refine lv_iload_n hx hb dX8_odds_20 rfl (lv_at hl 3 rfl) ?_
      refine lv_iconst (v := (0 : Int32)) hx hb dX8_odds_21 (by decide) ?_
      refine lv_iconst (v := (1 : Int32)) hx hb dX8_odds_22 (by decide) ?_
      obtain ⟨r_7, hz_8, h⟩ := bd1_some h
      refine aft_i (ws' := (W_X8 a0 a1 a2 a3 a4 a5 a6 a7 a8 a9 a10 a11 a12 a13 a14 a15 a16 a17 a18 a19 a20 a21 a22 a23 a24 a25 a26 a27 a28 a29 cI cJ c_text_bytes c_text_length c_reader_numbers c_reader_next c_laid_stand c_laid_home c_laid_priceStart c_laid_priceStep c_laid_thrown_cells c_laid_thrown_filled c_laid_nets_cells c_laid_nets_filled c_trial_stand c_trial_home c_trial_priceStart c_trial_priceStep c_trial_thrown_cells c_trial_thrown_filled c_trial_nets_cells c_trial_nets_filled c_flight_loads_cells c_flight_loads_filled c_flight_order c_flight_done c_flight_start c_flight_end c_changes_who c_changes_column c_changes_was c_changes_held c_kept_older_cells c_kept_older_filled c_kept_newer_cells c_kept_newer_filled c_kept_held c_turns_need)) (run_S (rest := []) X hG hl.1 (mX8_within l dC dI cI cJ x3 (0 : Int32) (1 : Int32) hz_8) gi_S_X8_74 hd_S_yX8_within ⟨rfl, rfl⟩ rfl ⟨Nat.le_of_ble_eq_true rfl, Nat.le_of_ble_eq_true rfl⟩ [] (by decide) rfl rfl (Nat.le_of_ble_eq_true rfl) ⟨Nat.le_of_ble_eq_true rfl, Nat.le_of_ble_eq_true rfl⟩ dX8_odds_23) hG [] rfl rfl rfl (fun H locs hG => ?_)
      clear hz_8
      refine lv_if_ne (tgt := 33) hx hb dX8_odds_26 (by decide) (fun c_9 => ?_) (fun c_9 => ?_)
      · have h := ite_f h c_9
        refine lv_ldc2 (v := (10 : Int64)) hx hb X.1.2.2.2.1 (X.1.2.2.2.2 _ w_582) dX8_odds_33 ?_
        refine lv_iload_n hx hb dX8_odds_36 rfl (lv_at hl 1 rfl) ?_
        obtain ⟨r_10, hz_11, h⟩ := bd1_some h
        refine aft_l (ws' := (W_X8 a0 a1 a2 a3 a4 a5 a6 a7 a8 a9 a10 a11 a12 a13 a14 a15 a16 a17 a18 a19 a20 a21 a22 a23 a24 a25 a26 a27 a28 a29 cI cJ c_text_bytes c_text_length c_reader_numbers c_reader_next c_laid_stand c_laid_home c_laid_priceStart c_laid_priceStep c_laid_thrown_cells c_laid_thrown_filled c_laid_nets_cells c_laid_nets_filled c_trial_stand c_trial_home c_trial_priceStart c_trial_priceStep c_trial_thrown_cells c_trial_thrown_filled c_trial_nets_cells c_trial_nets_filled c_flight_loads_cells c_flight_loads_filled c_flight_order c_flight_done c_flight_start c_flight_end c_changes_who c_changes_column c_changes_was c_changes_held c_kept_older_cells c_kept_older_filled c_kept_newer_cells c_kept_newer_filled c_kept_held c_turns_need)) (run_S (rest := []) X hG hl.1 (mX8_power l dC dI cI cJ (10 : Int64) x1 hz_11) gi_S_X8_190 hd_S_yX8_power ⟨rfl, rfl⟩ rfl ⟨Nat.le_of_ble_eq_true rfl, Nat.le_of_ble_eq_true rfl⟩ [] (by decide) rfl rfl (Nat.le_of_ble_eq_true rfl) ⟨Nat.le_of_ble_eq_true rfl, Nat.le_of_ble_eq_true rfl⟩ dX8_odds_37) hG [] rfl rfl rfl (fun H locs hG => ?_)
        clear hz_11
        refine lv_lstore (lv' := [(4, .long r_10), (0, .ref a0), (1, .int x1), (2, .int x2), (3, .int x3)]) hx hb dX8_odds_40 hl (by decide) rfl (fun ls hl => ?_)
        refine lv_lconst (v := (0 : Int64)) hx hb dX8_odds_42 (by decide) ?_
        refine lv_lstore (lv' := [(6, .long (0 : Int64)), (4, .long r_10), (0, .ref a0), (1, .int x1), (2, .int x2), (3, .int x3)]) hx hb dX8_odds_43 hl (by decide) rfl (fun ls hl => ?_)
        refine lv_iconst (v := (0 : Int32)) hx hb dX8_odds_45 (by decide) ?_
        refine lv_istore (lv' := [(8, .int (0 : Int32)), (6, .long (0 : Int64)), (4, .long r_10), (0, .ref a0), (1, .int x1), (2, .int x2), (3, .int x3)]) hx hb dX8_odds_46 hl (by decide) rfl (fun ls hl => ?_)
        obtain ⟨z6_20, hz, h⟩ := bd1_some h
        refine L48 r_10 FU (0 : Int64) (0 : Int32) _ hz (fun ls H locs hl hG => ?_) _ _ _ (lv_sub hl [4, 5, 6, 2, 1, 0] rfl) hG
        clear hz
        refine lv_lload hx hb dX8_odds_100 (lv_at hl 2 rfl) ?_
        refine lv_lload hx hb dX8_odds_102 (lv_at hl 1 rfl) ?_
        obtain ⟨r_21, hz_22, h⟩ := bd1_some h
        refine aft_l (ws' := (W_X8 a0 a1 a2 a3 a4 a5 a6 a7 a8 a9 a10 a11 a12 a13 a14 a15 a16 a17 a18 a19 a20 a21 a22 a23 a24 a25 a26 a27 a28 a29 cI cJ c_text_bytes c_text_length c_reader_numbers c_reader_next c_laid_stand c_laid_home c_laid_priceStart c_laid_priceStep c_laid_thrown_cells c_laid_thrown_filled c_laid_nets_cells c_laid_nets_filled c_trial_stand c_trial_home c_trial_priceStart c_trial_priceStep c_trial_thrown_cells c_trial_thrown_filled c_trial_nets_cells c_trial_nets_filled c_flight_loads_cells c_flight_loads_filled c_flight_order c_flight_done c_flight_start c_flight_end c_changes_who c_changes_column c_changes_was c_changes_held c_kept_older_cells c_kept_older_filled c_kept_newer_cells c_kept_newer_filled c_kept_held c_turns_need)) (run_S (rest := []) X hG hl.1 (mX8_commonDivisor l dC dI cI cJ z6_20 r_10 hz_22) gi_S_X8_198 hd_S_yX8_commonDivisor ⟨rfl, rfl⟩ rfl ⟨Nat.le_of_ble_eq_true rfl, Nat.le_of_ble_eq_true rfl⟩ [] (by decide) rfl rfl (Nat.le_of_ble_eq_true rfl) ⟨Nat.le_of_ble_eq_true rfl, Nat.le_of_ble_eq_true rfl⟩ dX8_odds_104) hG [] rfl rfl rfl (fun H locs hG => ?_)
        clear hz_22
        refine lv_lstore (lv' := [(8, .long r_21), (3, .int x3), (4, .long r_10), (6, .long z6_20)]) hx hb dX8_odds_107 hl (by decide) rfl (fun ls hl => ?_)
        refine lv_iload_n hx hb dX8_odds_109 rfl (lv_at hl 1 rfl) ?_
        refine lv_if_ne (tgt := 118) hx hb dX8_odds_110 (by decide) (fun c_23 => ?_) (fun c_23 => ?_)
        · have h := ite_f h c_23
          refine lv_lload hx hb dX8_odds_118 (lv_at hl 2 rfl) ?_
          exact J120 r_10 r_21  h  _ _ _ (lv_sub hl [0] rfl) hG
        · have h := ite_t h c_23
          refine lv_lload hx hb dX8_odds_113 (lv_at hl 3 rfl) ?_
          refine lv_goto (tgt := 120) hx hb dX8_odds_115 (by decide) ?_
          exact J120 z6_20 r_21  h  _ _ _ (lv_sub hl [0] rfl) hG
      · have h := ite_t h c_9
        refine lv_ldc2 (v := (-1 : Int64)) hx hb X.1.2.2.2.1 (X.1.2.2.2.2 _ w_581) dX8_odds_29 ?_
        cases h
        exact ret _ _ _ _ dX8_odds_32 hG
set_option maxRecDepth 100000 in
set_option maxHeartbeats 4000000 in
theorem mX8_year (l : Launch) (dC : Nat → ClassId) (dI : Nat → Nat → Nat) (cI cJ : ClassId) (a0 a1 a2 a3 a4 a5 a6 a7 a8 a9 a10 a11 a12 a13 a14 a15 a16 a17 a18 a19 a20 a21 a22 a23 a24 a25 a26 a27 a28 a29 : Nat) (c_text_bytes : Nat → Int32) (c_text_length : Int32) (c_reader_numbers : Nat → Int32) (c_reader_next : Int32) (c_laid_stand : Int32) (c_laid_home : Int32) (c_laid_priceStart : Int32) (c_laid_priceStep : Int32) (c_laid_thrown_cells : Nat → Int32) (c_laid_thrown_filled : Int32) (c_laid_nets_cells : Nat → Int32) (c_laid_nets_filled : Int32) (c_trial_stand : Int32) (c_trial_home : Int32) (c_trial_priceStart : Int32) (c_trial_priceStep : Int32) (c_trial_thrown_cells : Nat → Int32) (c_trial_thrown_filled : Int32) (c_trial_nets_cells : Nat → Int32) (c_trial_nets_filled : Int32) (c_flight_loads_cells : Nat → Int32) (c_flight_loads_filled : Int32) (c_flight_order : Nat → Int32) (c_flight_done : Int32) (c_flight_start : Int32) (c_flight_end : Int32) (c_changes_who : Nat → Int32) (c_changes_column : Nat → Int32) (c_changes_was : Nat → Int32) (c_changes_held : Int32) (c_kept_older_cells : Nat → Int32) (c_kept_older_filled : Int32) (c_kept_newer_cells : Nat → Int32) (c_kept_newer_filled : Int32) (c_kept_held : Int32) (c_turns_need : Nat → Int32) (x1 : Int32) (x2 : Int32) {res : Int32} {n_trial_stand : Int32} {n_trial_home : Int32} {n_trial_priceStart : Int32} {n_trial_priceStep : Int32} {n_trial_thrown_cells : Nat → Int32} {n_trial_thrown_filled : Int32} {n_trial_nets_cells : Nat → Int32} {n_trial_nets_filled : Int32} {n_flight_loads_cells : Nat → Int32} {n_flight_order : Nat → Int32} {n_flight_done : Int32} {n_flight_start : Int32} {n_flight_end : Int32} (hD : DX8_year x1 x2 c_laid_stand c_laid_home c_laid_priceStart c_laid_priceStep c_laid_thrown_cells c_laid_thrown_filled c_laid_nets_cells c_laid_nets_filled c_trial_stand c_trial_home c_trial_priceStart c_trial_priceStep c_trial_thrown_cells c_trial_thrown_filled c_trial_nets_cells c_trial_nets_filled c_flight_loads_cells c_flight_order c_flight_done c_flight_start c_flight_end = some (res, n_trial_stand, n_trial_home, n_trial_priceStart, n_trial_priceStep, n_trial_thrown_cells, n_trial_thrown_filled, n_trial_nets_cells, n_trial_nets_filled, n_flight_loads_cells, n_flight_order, n_flight_done, n_flight_start, n_flight_end)) : Met l yX8_year (WZ yX8_year cX8_year 6 (some .int)) (RM 6 143) (PC dC dI cI cJ [.ref a0, .int x1, .int x2] (W_X8 a0 a1 a2 a3 a4 a5 a6 a7 a8 a9 a10 a11 a12 a13 a14 a15 a16 a17 a18 a19 a20 a21 a22 a23 a24 a25 a26 a27 a28 a29 cI cJ c_text_bytes c_text_length c_reader_numbers c_reader_next c_laid_stand c_laid_home c_laid_priceStart c_laid_priceStep c_laid_thrown_cells c_laid_thrown_filled c_laid_nets_cells c_laid_nets_filled c_trial_stand c_trial_home c_trial_priceStart c_trial_priceStep c_trial_thrown_cells c_trial_thrown_filled c_trial_nets_cells c_trial_nets_filled c_flight_loads_cells c_flight_loads_filled c_flight_order c_flight_done c_flight_start c_flight_end c_changes_who c_changes_column c_changes_was c_changes_held c_kept_older_cells c_kept_older_filled c_kept_newer_cells c_kept_newer_filled c_kept_held c_turns_need)) (QI dC dI (W_X8 a0 a1 a2 a3 a4 a5 a6 a7 a8 a9 a10 a11 a12 a13 a14 a15 a16 a17 a18 a19 a20 a21 a22 a23 a24 a25 a26 a27 a28 a29 cI cJ c_text_bytes c_text_length c_reader_numbers c_reader_next c_laid_stand c_laid_home c_laid_priceStart c_laid_priceStep c_laid_thrown_cells c_laid_thrown_filled c_laid_nets_cells c_laid_nets_filled c_trial_stand c_trial_home c_trial_priceStart c_trial_priceStep c_trial_thrown_cells c_trial_thrown_filled c_trial_nets_cells c_trial_nets_filled c_flight_loads_cells c_flight_loads_filled c_flight_order c_flight_done c_flight_start c_flight_end c_changes_who c_changes_column c_changes_was c_changes_held c_kept_older_cells c_kept_older_filled c_kept_newer_cells c_kept_newer_filled c_kept_held c_turns_need) (W_X8 a0 a1 a2 a3 a4 a5 a6 a7 a8 a9 a10 a11 a12 a13 a14 a15 a16 a17 a18 a19 a20 a21 a22 a23 a24 a25 a26 a27 a28 a29 cI cJ c_text_bytes c_text_length c_reader_numbers c_reader_next c_laid_stand c_laid_home c_laid_priceStart c_laid_priceStep c_laid_thrown_cells c_laid_thrown_filled c_laid_nets_cells c_laid_nets_filled n_trial_stand n_trial_home n_trial_priceStart n_trial_priceStep n_trial_thrown_cells n_trial_thrown_filled n_trial_nets_cells n_trial_nets_filled n_flight_loads_cells c_flight_loads_filled n_flight_order n_flight_done n_flight_start n_flight_end c_changes_who c_changes_column c_changes_was c_changes_held c_kept_older_cells c_kept_older_filled c_kept_newer_cells c_kept_newer_filled c_kept_held c_turns_need) res) 0 0 (FA (W_X8 a0 a1 a2 a3 a4 a5 a6 a7 a8 a9 a10 a11 a12 a13 a14 a15 a16 a17 a18 a19 a20 a21 a22 a23 a24 a25 a26 a27 a28 a29 cI cJ c_text_bytes c_text_length c_reader_numbers c_reader_next c_laid_stand c_laid_home c_laid_priceStart c_laid_priceStep c_laid_thrown_cells c_laid_thrown_filled c_laid_nets_cells c_laid_nets_filled c_trial_stand c_trial_home c_trial_priceStart c_trial_priceStep c_trial_thrown_cells c_trial_thrown_filled c_trial_nets_cells c_trial_nets_filled c_flight_loads_cells c_flight_loads_filled c_flight_order c_flight_done c_flight_start c_flight_end c_changes_who c_changes_column c_changes_was c_changes_held c_kept_older_cells c_kept_older_filled c_kept_newer_cells c_kept_newer_filled c_kept_held c_turns_need)) := by
  refine r_metI (by decide +kernel) (Nat.le_of_ble_eq_true rfl) ?_
  intro p e s m args below meth c A H0 QQ X ret ls hl hG
  have X : Cx p m c cX8_year 6 s args RX8 dC dI cI cJ meth (some .int) := X
  have hx := X.1.1
  have hb := X.1.2.1
  have hl : lv_has ls 6 [(0, .ref a0), (1, .int x1), (2, .int x2)] := hl
  have L35 : ∀ (c_trial_stand : Int32) (c_trial_home : Int32) (c_trial_priceStart : Int32) (c_trial_priceStep : Int32) (c_trial_thrown_filled : Int32) (c_trial_nets_cells : Nat → Int32) (c_trial_nets_filled : Int32) (c_flight_loads_cells : Nat → Int32) (c_flight_order : Nat → Int32) (c_flight_done : Int32) (c_flight_start : Int32) (c_flight_end : Int32), ∀ (n : Nat) (x3 : Int32) (c_trial_thrown_cells : Nat → Int32) (ec_trial_thrown_cells : Nat → Int32), DX8_year_L35 x1 c_trial_thrown_filled n x3 c_trial_thrown_cells = some ec_trial_thrown_cells → (∀ (ls : Array Slot) (H : Heap) (locs : List Loc), lv_has ls 6 [(0, .ref a0), (2, .int x2)] → G dC dI A H0 (W_X8 a0 a1 a2 a3 a4 a5 a6 a7 a8 a9 a10 a11 a12 a13 a14 a15 a16 a17 a18 a19 a20 a21 a22 a23 a24 a25 a26 a27 a28 a29 cI cJ c_text_bytes c_text_length c_reader_numbers c_reader_next c_laid_stand c_laid_home c_laid_priceStart c_laid_priceStep c_laid_thrown_cells c_laid_thrown_filled c_laid_nets_cells c_laid_nets_filled c_trial_stand c_trial_home c_trial_priceStart c_trial_priceStep ec_trial_thrown_cells c_trial_thrown_filled c_trial_nets_cells c_trial_nets_filled c_flight_loads_cells c_flight_loads_filled c_flight_order c_flight_done c_flight_start c_flight_end c_changes_who c_changes_column c_changes_was c_changes_held c_kept_older_cells c_kept_older_filled c_kept_newer_cells c_kept_newer_filled c_kept_held c_turns_need) H locs → W p l e (RM 6 143) s m args below meth c H locs 0 0 QQ (F0 m 98 ls [])) → ∀ (ls : Array Slot) (H : Heap) (locs : List Loc), lv_has ls 6 [(0, .ref a0), (1, .int x1), (2, .int x2), (3, .int x3)] → G dC dI A H0 (W_X8 a0 a1 a2 a3 a4 a5 a6 a7 a8 a9 a10 a11 a12 a13 a14 a15 a16 a17 a18 a19 a20 a21 a22 a23 a24 a25 a26 a27 a28 a29 cI cJ c_text_bytes c_text_length c_reader_numbers c_reader_next c_laid_stand c_laid_home c_laid_priceStart c_laid_priceStep c_laid_thrown_cells c_laid_thrown_filled c_laid_nets_cells c_laid_nets_filled c_trial_stand c_trial_home c_trial_priceStart c_trial_priceStep c_trial_thrown_cells c_trial_thrown_filled c_trial_nets_cells c_trial_nets_filled c_flight_loads_cells c_flight_loads_filled c_flight_order c_flight_done c_flight_start c_flight_end c_changes_who c_changes_column c_changes_was c_changes_held c_kept_older_cells c_kept_older_filled c_kept_newer_cells c_kept_newer_filled c_kept_held c_turns_need) H locs → W p l e (RM 6 143) s m args below meth c H locs 0 0 QQ (F0 m 35 ls []) := by
    intro c_trial_stand c_trial_home c_trial_priceStart c_trial_priceStep c_trial_thrown_filled c_trial_nets_cells c_trial_nets_filled c_flight_loads_cells c_flight_order c_flight_done c_flight_start c_flight_end n
    induction n with
    | zero => intro x3 c_trial_thrown_cells ec_trial_thrown_cells h; exact it_zero h
    | succ n ih =>
      intro x3 c_trial_thrown_cells ec_trial_thrown_cells h0 K0 ls H locs hl hG
      obtain ⟨w, h, hi, hr⟩ := it_succ h0
      have h : DX8_year_L35s x1 c_trial_thrown_filled x3 c_trial_thrown_cells = some w := h
      have KC : ∀ (x3 : Int32) (c_trial_thrown_cells : Nat → Int32), w = .inl (x3, c_trial_thrown_cells) → ∀ (ls : Array Slot) (H : Heap) (locs : List Loc), lv_has ls 6 [(0, .ref a0), (1, .int x1), (2, .int x2), (3, .int x3)] → G dC dI A H0 (W_X8 a0 a1 a2 a3 a4 a5 a6 a7 a8 a9 a10 a11 a12 a13 a14 a15 a16 a17 a18 a19 a20 a21 a22 a23 a24 a25 a26 a27 a28 a29 cI cJ c_text_bytes c_text_length c_reader_numbers c_reader_next c_laid_stand c_laid_home c_laid_priceStart c_laid_priceStep c_laid_thrown_cells c_laid_thrown_filled c_laid_nets_cells c_laid_nets_filled c_trial_stand c_trial_home c_trial_priceStart c_trial_priceStep c_trial_thrown_cells c_trial_thrown_filled c_trial_nets_cells c_trial_nets_filled c_flight_loads_cells c_flight_loads_filled c_flight_order c_flight_done c_flight_start c_flight_end c_changes_who c_changes_column c_changes_was c_changes_held c_kept_older_cells c_kept_older_filled c_kept_newer_cells c_kept_newer_filled c_kept_held c_turns_need) H locs → W p l e (RM 6 143) s m args below meth c H locs 0 0 QQ (F0 m 35 ls []) := fun b0 b1 e ls H locs hl hG => ih b0 b1 ec_trial_thrown_cells (hi _ e) K0 ls H locs hl hG
      have KX : ∀ (c_trial_thrown_cells : Nat → Int32), w = .inr c_trial_thrown_cells → ∀ (ls : Array Slot) (H : Heap) (locs : List Loc), lv_has ls 6 [(0, .ref a0), (2, .int x2)] → G dC dI A H0 (W_X8 a0 a1 a2 a3 a4 a5 a6 a7 a8 a9 a10 a11 a12 a13 a14 a15 a16 a17 a18 a19 a20 a21 a22 a23 a24 a25 a26 a27 a28 a29 cI cJ c_text_bytes c_text_length c_reader_numbers c_reader_next c_laid_stand c_laid_home c_laid_priceStart c_laid_priceStep c_laid_thrown_cells c_laid_thrown_filled c_laid_nets_cells c_laid_nets_filled c_trial_stand c_trial_home c_trial_priceStart c_trial_priceStep c_trial_thrown_cells c_trial_thrown_filled c_trial_nets_cells c_trial_nets_filled c_flight_loads_cells c_flight_loads_filled c_flight_order c_flight_done c_flight_start c_flight_end c_changes_who c_changes_column c_changes_was c_changes_held c_kept_older_cells c_kept_older_filled c_kept_newer_cells c_kept_newer_filled c_kept_held c_turns_need) H locs → W p l e (RM 6 143) s m args below meth c H locs 0 0 QQ (F0 m 98 ls []) := fun b0 e ls H locs hl hG => by cases hr _ e; exact K0 ls H locs hl hG
      clear h0 hi hr K0 ih
      unfold DX8_year_L35s at h
      refine lv_iload_n hx hb dX8_year_35 rfl (lv_at hl 3 rfl) ?_
      refine lv_aload_n hx hb dX8_year_36 rfl (lv_at hl 0 rfl) ?_
      refine r_get X hG in_X8 rfl 3 (by decide) w_238 0 rfl rfl dX8_year_37 ?_
      refine r_getN X hG in_X3 rfl 4 (by decide) w_136 10 rfl rfl dX8_year_40 ?_
      obtain ⟨r_16, hz_17, h⟩ := bd1_some h
      refine aft_i (ws' := (W_X8 a0 a1 a2 a3 a4 a5 a6 a7 a8 a9 a10 a11 a12 a13 a14 a15 a16 a17 a18 a19 a20 a21 a22 a23 a24 a25 a26 a27 a28 a29 cI cJ c_text_bytes c_text_length c_reader_numbers c_reader_next c_laid_stand c_laid_home c_laid_priceStart c_laid_priceStep c_laid_thrown_cells c_laid_thrown_filled c_laid_nets_cells c_laid_nets_filled c_trial_stand c_trial_home c_trial_priceStart c_trial_priceStep c_trial_thrown_cells c_trial_thrown_filled c_trial_nets_cells c_trial_nets_filled c_flight_loads_cells c_flight_loads_filled c_flight_order c_flight_done c_flight_start c_flight_end c_changes_who c_changes_column c_changes_was c_changes_held c_kept_older_cells c_kept_older_filled c_kept_newer_cells c_kept_newer_filled c_kept_held c_turns_need)) (run_V (rest := [.int x3]) X hG hl.1 (mX5_rows l dC dI cI cJ a11 a12 (7 : Int32) (4 : Int32) 28 c_trial_thrown_cells c_trial_thrown_filled hz_17) gi_V_X8_90 hd_V_yX5_rows ⟨rfl, rfl⟩ rfl ⟨Nat.le_of_ble_eq_true rfl, Nat.le_of_ble_eq_true rfl⟩ [11, 12] (by decide) rfl 11 rfl rfl rfl rfl (Nat.le_of_ble_eq_true rfl) ⟨Nat.le_of_ble_eq_true rfl, Nat.le_of_ble_eq_true rfl⟩ dX8_year_43) hG [11, 12] rfl rfl rfl (fun H locs hG => ?_)
      clear hz_17
      refine lv_icmp_ge (tgt := 98) hx hb dX8_year_46 (by decide) (fun c_18 => ?_) (fun c_18 => ?_)
      · have h := ite_t h c_18
        exact KX _ (Option.some.inj h).symm _ _ _ (lv_sub hl [0, 2] rfl) hG
      · have h := ite_f h c_18
        refine lv_ldc2 (v := (7919 : Int64)) hx hb X.1.2.2.2.1 (X.1.2.2.2.2 _ w_596) dX8_year_49 ?_
        refine lv_iload_n hx hb dX8_year_52 rfl (lv_at hl 1 rfl) ?_
        refine lv_i2l (v := (x1.toInt64)) hx hb dX8_year_53 rfl ?_
        refine lv_lmul hx hb dX8_year_54 ?_
        refine lv_ldc2 (v := (6151 : Int64)) hx hb X.1.2.2.2.1 (X.1.2.2.2.2 _ w_597) dX8_year_55 ?_
        refine lv_iload_n hx hb dX8_year_58 rfl (lv_at hl 3 rfl) ?_
        refine lv_i2l (v := (x3.toInt64)) hx hb dX8_year_59 rfl ?_
        refine lv_lmul hx hb dX8_year_60 ?_
        refine lv_ladd hx hb dX8_year_61 ?_
        refine lv_lconst (v := (1 : Int64)) hx hb dX8_year_62 (by decide) ?_
        refine lv_ladd hx hb dX8_year_63 ?_
        refine lv_lstore (lv' := [(4, .long ((((7919 : Int64) * (x1.toInt64)) + ((6151 : Int64) * (x3.toInt64))) + (1 : Int64))), (0, .ref a0), (1, .int x1), (2, .int x2), (3, .int x3)]) hx hb dX8_year_64 hl (by decide) rfl (fun ls hl => ?_)
        refine lv_aload_n hx hb dX8_year_66 rfl (lv_at hl 1 rfl) ?_
        refine r_get X hG in_X8 rfl 3 (by decide) w_238 0 rfl rfl dX8_year_67 ?_
        refine r_getN X hG in_X3 rfl 4 (by decide) w_136 10 rfl rfl dX8_year_70 ?_
        refine lv_iload_n hx hb dX8_year_73 rfl (lv_at hl 4 rfl) ?_
        refine lv_iconst (v := (1 : Int32)) hx hb dX8_year_74 (by decide) ?_
        refine lv_lload hx hb dX8_year_75 (lv_at hl 0 rfl) ?_
        refine lv_lload hx hb dX8_year_77 (lv_at hl 0 rfl) ?_
        refine lv_lmul hx hb dX8_year_79 ?_
        refine lv_ldc2 (v := (65521 : Int64)) hx hb X.1.2.2.2.1 (X.1.2.2.2.2 _ w_598) dX8_year_80 ?_
        refine lv_lrem hx hb dX8_year_83 (by decide) ?_
        refine lv_ldc2 (v := (24 : Int64)) hx hb X.1.2.2.2.1 (X.1.2.2.2.2 _ w_599) dX8_year_84 ?_
        refine lv_lrem hx hb dX8_year_87 (by decide) ?_
        refine lv_l2i (v := ((((((((7919 : Int64) * (x1.toInt64)) + ((6151 : Int64) * (x3.toInt64))) + (1 : Int64)) * ((((7919 : Int64) * (x1.toInt64)) + ((6151 : Int64) * (x3.toInt64))) + (1 : Int64))) - (((((7919 : Int64) * (x1.toInt64)) + ((6151 : Int64) * (x3.toInt64))) + (1 : Int64)) * ((((7919 : Int64) * (x1.toInt64)) + ((6151 : Int64) * (x3.toInt64))) + (1 : Int64))) / (65521 : Int64) * (65521 : Int64)) - ((((((7919 : Int64) * (x1.toInt64)) + ((6151 : Int64) * (x3.toInt64))) + (1 : Int64)) * ((((7919 : Int64) * (x1.toInt64)) + ((6151 : Int64) * (x3.toInt64))) + (1 : Int64))) - (((((7919 : Int64) * (x1.toInt64)) + ((6151 : Int64) * (x3.toInt64))) + (1 : Int64)) * ((((7919 : Int64) * (x1.toInt64)) + ((6151 : Int64) * (x3.toInt64))) + (1 : Int64))) / (65521 : Int64) * (65521 : Int64)) / (24 : Int64) * (24 : Int64)).toInt32)) hx hb dX8_year_88 rfl ?_
        obtain ⟨k_trial_thrown_cells_19, hz_20, h⟩ := bd1_some h
        refine aft_v (ws' := (W_X8 a0 a1 a2 a3 a4 a5 a6 a7 a8 a9 a10 a11 a12 a13 a14 a15 a16 a17 a18 a19 a20 a21 a22 a23 a24 a25 a26 a27 a28 a29 cI cJ c_text_bytes c_text_length c_reader_numbers c_reader_next c_laid_stand c_laid_home c_laid_priceStart c_laid_priceStep c_laid_thrown_cells c_laid_thrown_filled c_laid_nets_cells c_laid_nets_filled c_trial_stand c_trial_home c_trial_priceStart c_trial_priceStep k_trial_thrown_cells_19 c_trial_thrown_filled c_trial_nets_cells c_trial_nets_filled c_flight_loads_cells c_flight_loads_filled c_flight_order c_flight_done c_flight_start c_flight_end c_changes_who c_changes_column c_changes_was c_changes_held c_kept_older_cells c_kept_older_filled c_kept_newer_cells c_kept_newer_filled c_kept_held c_turns_need)) (run_V (rest := []) X hG hl.1 (mX5_set l dC dI cI cJ a11 a12 (7 : Int32) (4 : Int32) 28 c_trial_thrown_cells c_trial_thrown_filled x3 (1 : Int32) ((((((((7919 : Int64) * (x1.toInt64)) + ((6151 : Int64) * (x3.toInt64))) + (1 : Int64)) * ((((7919 : Int64) * (x1.toInt64)) + ((6151 : Int64) * (x3.toInt64))) + (1 : Int64))) - (((((7919 : Int64) * (x1.toInt64)) + ((6151 : Int64) * (x3.toInt64))) + (1 : Int64)) * ((((7919 : Int64) * (x1.toInt64)) + ((6151 : Int64) * (x3.toInt64))) + (1 : Int64))) / (65521 : Int64) * (65521 : Int64)) - ((((((7919 : Int64) * (x1.toInt64)) + ((6151 : Int64) * (x3.toInt64))) + (1 : Int64)) * ((((7919 : Int64) * (x1.toInt64)) + ((6151 : Int64) * (x3.toInt64))) + (1 : Int64))) - (((((7919 : Int64) * (x1.toInt64)) + ((6151 : Int64) * (x3.toInt64))) + (1 : Int64)) * ((((7919 : Int64) * (x1.toInt64)) + ((6151 : Int64) * (x3.toInt64))) + (1 : Int64))) / (65521 : Int64) * (65521 : Int64)) / (24 : Int64) * (24 : Int64)).toInt32) hz_20) gi_V_X8_148 hd_V_yX5_set ⟨rfl, rfl⟩ rfl ⟨Nat.le_of_ble_eq_true rfl, Nat.le_of_ble_eq_true rfl⟩ [11, 12] (by decide) rfl 11 rfl rfl rfl rfl (Nat.le_of_ble_eq_true rfl) ⟨Nat.le_of_ble_eq_true rfl, Nat.le_of_ble_eq_true rfl⟩ dX8_year_89) hG [11, 12] rfl rfl rfl (fun H locs hG => ?_)
        clear hz_20
        refine lv_iinc (v := (x3 + (1 : Int32))) (lv' := [(3, .int (x3 + (1 : Int32))), (4, .long ((((7919 : Int64) * (x1.toInt64)) + ((6151 : Int64) * (x3.toInt64))) + (1 : Int64))), (0, .ref a0), (1, .int x1), (2, .int x2)]) hx hb dX8_year_92 hl (k := 4) rfl rfl (by decide) rfl (fun ls hl => ?_)
        refine lv_goto (tgt := 35) hx hb dX8_year_95 (by decide) ?_
        exact KC _ _ (Option.some.inj h).symm _ _ _ (lv_sub hl [2, 3, 4, 0] rfl) hG
  have h := hD
  unfold DX8_year at h
  clear hD
  refine lv_iload_n hx hb dX8_year_0 rfl (lv_at hl 1 rfl) ?_
  refine lv_iconst (v := (0 : Int32)) hx hb dX8_year_1 (by decide) ?_
  refine lv_sipush (v := (9999 : Int32)) hx hb dX8_year_2 (by decide) ?_
  obtain ⟨r_1, hz_2, h⟩ := bd1_some h
  refine aft_i (ws' := (W_X8 a0 a1 a2 a3 a4 a5 a6 a7 a8 a9 a10 a11 a12 a13 a14 a15 a16 a17 a18 a19 a20 a21 a22 a23 a24 a25 a26 a27 a28 a29 cI cJ c_text_bytes c_text_length c_reader_numbers c_reader_next c_laid_stand c_laid_home c_laid_priceStart c_laid_priceStep c_laid_thrown_cells c_laid_thrown_filled c_laid_nets_cells c_laid_nets_filled c_trial_stand c_trial_home c_trial_priceStart c_trial_priceStep c_trial_thrown_cells c_trial_thrown_filled c_trial_nets_cells c_trial_nets_filled c_flight_loads_cells c_flight_loads_filled c_flight_order c_flight_done c_flight_start c_flight_end c_changes_who c_changes_column c_changes_was c_changes_held c_kept_older_cells c_kept_older_filled c_kept_newer_cells c_kept_newer_filled c_kept_held c_turns_need)) (run_S (rest := []) X hG hl.1 (mX8_within l dC dI cI cJ x1 (0 : Int32) (9999 : Int32) hz_2) gi_S_X8_74 hd_S_yX8_within ⟨rfl, rfl⟩ rfl ⟨Nat.le_of_ble_eq_true rfl, Nat.le_of_ble_eq_true rfl⟩ [] (by decide) rfl rfl (Nat.le_of_ble_eq_true rfl) ⟨Nat.le_of_ble_eq_true rfl, Nat.le_of_ble_eq_true rfl⟩ dX8_year_5) hG [] rfl rfl rfl (fun H locs hG => ?_)
  clear hz_2
  refine lv_if_eq (tgt := 20) hx hb dX8_year_8 (by decide) (fun c_3 => ?_) (fun c_3 => ?_)
  · have h := ite_t h c_3
    refine lv_iconst (v := (-1 : Int32)) hx hb dX8_year_20 (by decide) ?_
    cases h
    exact ret _ _ _ _ dX8_year_21 hG
  · have h := ite_f h c_3
    refine lv_iload_n hx hb dX8_year_11 rfl (lv_at hl 2 rfl) ?_
    refine lv_iconst (v := (0 : Int32)) hx hb dX8_year_12 (by decide) ?_
    refine lv_iconst (v := (2 : Int32)) hx hb dX8_year_13 (by decide) ?_
    obtain ⟨r_4, hz_5, h⟩ := bd1_some h
    refine aft_i (ws' := (W_X8 a0 a1 a2 a3 a4 a5 a6 a7 a8 a9 a10 a11 a12 a13 a14 a15 a16 a17 a18 a19 a20 a21 a22 a23 a24 a25 a26 a27 a28 a29 cI cJ c_text_bytes c_text_length c_reader_numbers c_reader_next c_laid_stand c_laid_home c_laid_priceStart c_laid_priceStep c_laid_thrown_cells c_laid_thrown_filled c_laid_nets_cells c_laid_nets_filled c_trial_stand c_trial_home c_trial_priceStart c_trial_priceStep c_trial_thrown_cells c_trial_thrown_filled c_trial_nets_cells c_trial_nets_filled c_flight_loads_cells c_flight_loads_filled c_flight_order c_flight_done c_flight_start c_flight_end c_changes_who c_changes_column c_changes_was c_changes_held c_kept_older_cells c_kept_older_filled c_kept_newer_cells c_kept_newer_filled c_kept_held c_turns_need)) (run_S (rest := []) X hG hl.1 (mX8_within l dC dI cI cJ x2 (0 : Int32) (2 : Int32) hz_5) gi_S_X8_74 hd_S_yX8_within ⟨rfl, rfl⟩ rfl ⟨Nat.le_of_ble_eq_true rfl, Nat.le_of_ble_eq_true rfl⟩ [] (by decide) rfl rfl (Nat.le_of_ble_eq_true rfl) ⟨Nat.le_of_ble_eq_true rfl, Nat.le_of_ble_eq_true rfl⟩ dX8_year_14) hG [] rfl rfl rfl (fun H locs hG => ?_)
    clear hz_5
    refine lv_if_ne (tgt := 22) hx hb dX8_year_17 (by decide) (fun c_6 => ?_) (fun c_6 => ?_)
    · have h := ite_f h c_6
      refine lv_aload_n hx hb dX8_year_22 rfl (lv_at hl 0 rfl) ?_
      refine r_get X hG in_X8 rfl 3 (by decide) w_238 0 rfl rfl dX8_year_23 ?_
      refine lv_aload_n hx hb dX8_year_26 rfl (lv_at hl 0 rfl) ?_
      refine r_get X hG in_X8 rfl 2 (by decide) w_237 0 rfl rfl dX8_year_27 ?_
      obtain ⟨k_trial_stand_7, k_trial_home_8, k_trial_priceStart_9, k_trial_priceStep_10, k_trial_thrown_cells_11, k_trial_thrown_filled_12, k_trial_nets_cells_13, k_trial_nets_filled_14, hz_15, h⟩ := bd8_some h
      refine aft_v (ws' := (W_X8 a0 a1 a2 a3 a4 a5 a6 a7 a8 a9 a10 a11 a12 a13 a14 a15 a16 a17 a18 a19 a20 a21 a22 a23 a24 a25 a26 a27 a28 a29 cI cJ c_text_bytes c_text_length c_reader_numbers c_reader_next c_laid_stand c_laid_home c_laid_priceStart c_laid_priceStep c_laid_thrown_cells c_laid_thrown_filled c_laid_nets_cells c_laid_nets_filled k_trial_stand_7 k_trial_home_8 k_trial_priceStart_9 k_trial_priceStep_10 k_trial_thrown_cells_11 k_trial_thrown_filled_12 k_trial_nets_cells_13 k_trial_nets_filled_14 c_flight_loads_cells c_flight_loads_filled c_flight_order c_flight_done c_flight_start c_flight_end c_changes_who c_changes_column c_changes_was c_changes_held c_kept_older_cells c_kept_older_filled c_kept_newer_cells c_kept_newer_filled c_kept_held c_turns_need)) (run_V (rest := []) X hG hl.1 (mX3_takeOver l dC dI cI cJ a10 a11 a12 a13 a14 a5 a6 a7 a8 a9 c_trial_stand c_trial_home c_trial_priceStart c_trial_priceStep c_trial_thrown_cells c_trial_thrown_filled c_trial_nets_cells c_trial_nets_filled c_laid_stand c_laid_home c_laid_priceStart c_laid_priceStep c_laid_thrown_cells c_laid_thrown_filled c_laid_nets_cells c_laid_nets_filled hz_15) gi_V_X8_94 hd_V_yX3_takeOver ⟨rfl, rfl⟩ rfl ⟨Nat.le_of_ble_eq_true rfl, Nat.le_of_ble_eq_true rfl⟩ [10, 11, 12, 13, 14, 5, 6, 7, 8, 9] (by decide) rfl 10 rfl rfl rfl rfl (Nat.le_of_ble_eq_true rfl) ⟨Nat.le_of_ble_eq_true rfl, Nat.le_of_ble_eq_true rfl⟩ dX8_year_30) hG [10, 11, 12, 13, 14, 5, 6, 7, 8, 9] rfl rfl rfl (fun H locs hG => ?_)
      clear hz_15
      refine lv_iconst (v := (0 : Int32)) hx hb dX8_year_33 (by decide) ?_
      refine lv_istore_n (lv' := [(3, .int (0 : Int32)), (0, .ref a0), (1, .int x1), (2, .int x2)]) hx hb dX8_year_34 rfl hl (by decide) rfl (fun ls hl => ?_)
      obtain ⟨k_trial_thrown_cells_21, hz, h⟩ := bd1_some h
      refine L35 k_trial_stand_7 k_trial_home_8 k_trial_priceStart_9 k_trial_priceStep_10 k_trial_thrown_filled_12 k_trial_nets_cells_13 k_trial_nets_filled_14 c_flight_loads_cells c_flight_order c_flight_done c_flight_start c_flight_end FU (0 : Int32) k_trial_thrown_cells_11 _ hz (fun ls H locs hl hG => ?_) _ _ _ (lv_sub hl [1, 2, 3, 0] rfl) hG
      clear hz
      refine lv_aload_n hx hb dX8_year_98 rfl (lv_at hl 0 rfl) ?_
      refine r_get X hG in_X8 rfl 4 (by decide) w_239 0 rfl rfl dX8_year_99 ?_
      refine lv_aload_n hx hb dX8_year_102 rfl (lv_at hl 0 rfl) ?_
      refine r_get X hG in_X8 rfl 3 (by decide) w_238 0 rfl rfl dX8_year_103 ?_
      refine lv_iconst (v := (0 : Int32)) hx hb dX8_year_106 (by decide) ?_
      obtain ⟨k_flight_loads_cells_22, k_flight_order_23, k_flight_done_24, k_flight_start_25, k_flight_end_26, hz_27, h⟩ := bd5_some h
      refine aft_v (ws' := (W_X8 a0 a1 a2 a3 a4 a5 a6 a7 a8 a9 a10 a11 a12 a13 a14 a15 a16 a17 a18 a19 a20 a21 a22 a23 a24 a25 a26 a27 a28 a29 cI cJ c_text_bytes c_text_length c_reader_numbers c_reader_next c_laid_stand c_laid_home c_laid_priceStart c_laid_priceStep c_laid_thrown_cells c_laid_thrown_filled c_laid_nets_cells c_laid_nets_filled k_trial_stand_7 k_trial_home_8 k_trial_priceStart_9 k_trial_priceStep_10 k_trial_thrown_cells_21 k_trial_thrown_filled_12 k_trial_nets_cells_13 k_trial_nets_filled_14 k_flight_loads_cells_22 c_flight_loads_filled k_flight_order_23 k_flight_done_24 k_flight_start_25 k_flight_end_26 c_changes_who c_changes_column c_changes_was c_changes_held c_kept_older_cells c_kept_older_filled c_kept_newer_cells c_kept_newer_filled c_kept_held c_turns_need)) (run_V (rest := []) X hG hl.1 (mX1_fly l dC dI cI cJ a15 a16 a17 a18 a10 a11 a12 a13 a14 c_flight_loads_cells c_flight_loads_filled c_flight_order c_flight_done c_flight_start c_flight_end k_trial_stand_7 k_trial_home_8 k_trial_priceStart_9 k_trial_priceStep_10 k_trial_thrown_cells_21 k_trial_thrown_filled_12 k_trial_nets_cells_13 k_trial_nets_filled_14 (0 : Int32) hz_27) gi_V_X8_106 hd_V_yX1_fly ⟨rfl, rfl⟩ rfl ⟨Nat.le_of_ble_eq_true rfl, Nat.le_of_ble_eq_true rfl⟩ [15, 16, 17, 18, 10, 11, 12, 13, 14] (by decide) rfl 15 rfl rfl rfl rfl (Nat.le_of_ble_eq_true rfl) ⟨Nat.le_of_ble_eq_true rfl, Nat.le_of_ble_eq_true rfl⟩ dX8_year_107) hG [15, 16, 17, 18, 10, 11, 12, 13, 14] rfl rfl rfl (fun H locs hG => ?_)
      clear hz_27
      refine lv_iload_n hx hb dX8_year_110 rfl (lv_at hl 1 rfl) ?_
      rcases Decidable.em (x2 = (0 : Int32)) with c_28 | c_28
      · have h := ite_t h c_28
        refine lv_lookup (off := 25) (tgt := 136) hx hb dX8_year_111 (by decide) (by rw [c_28] <;> decide) (by decide) ?_
        refine lv_aload_n hx hb dX8_year_136 rfl (lv_at hl 0 rfl) ?_
        refine r_get X hG in_X8 rfl 4 (by decide) w_239 0 rfl rfl dX8_year_137 ?_
        refine lv_iconst (v := (0 : Int32)) hx hb dX8_year_140 (by decide) ?_
        obtain ⟨r_29, hz_30, h⟩ := bd1_some h
        refine aft_i (ws' := (W_X8 a0 a1 a2 a3 a4 a5 a6 a7 a8 a9 a10 a11 a12 a13 a14 a15 a16 a17 a18 a19 a20 a21 a22 a23 a24 a25 a26 a27 a28 a29 cI cJ c_text_bytes c_text_length c_reader_numbers c_reader_next c_laid_stand c_laid_home c_laid_priceStart c_laid_priceStep c_laid_thrown_cells c_laid_thrown_filled c_laid_nets_cells c_laid_nets_filled k_trial_stand_7 k_trial_home_8 k_trial_priceStart_9 k_trial_priceStep_10 k_trial_thrown_cells_21 k_trial_thrown_filled_12 k_trial_nets_cells_13 k_trial_nets_filled_14 k_flight_loads_cells_22 c_flight_loads_filled k_flight_order_23 k_flight_done_24 k_flight_start_25 k_flight_end_26 c_changes_who c_changes_column c_changes_was c_changes_held c_kept_older_cells c_kept_older_filled c_kept_newer_cells c_kept_newer_filled c_kept_held c_turns_need)) (run_V (rest := []) X hG hl.1 (mX1_howMany l dC dI cI cJ a15 a16 a17 a18 k_flight_loads_cells_22 c_flight_loads_filled k_flight_order_23 k_flight_done_24 k_flight_start_25 k_flight_end_26 (0 : Int32) hz_30) gi_V_X8_127 hd_V_yX1_howMany ⟨rfl, rfl⟩ rfl ⟨Nat.le_of_ble_eq_true rfl, Nat.le_of_ble_eq_true rfl⟩ [15, 16, 17, 18] (by decide) rfl 15 rfl rfl rfl rfl (Nat.le_of_ble_eq_true rfl) ⟨Nat.le_of_ble_eq_true rfl, Nat.le_of_ble_eq_true rfl⟩ dX8_year_141) hG [15, 16, 17, 18] rfl rfl rfl (fun H locs hG => ?_)
        clear hz_30
        cases h
        exact ret _ _ _ _ dX8_year_144 hG
      · have h := ite_f h c_28
        rcases Decidable.em (x2 = (1 : Int32)) with c_31 | c_31
        · have h := ite_t h c_31
          refine lv_lookup (off := 34) (tgt := 145) hx hb dX8_year_111 (by decide) (by rw [c_31] <;> decide) (by decide) ?_
          refine lv_aload_n hx hb dX8_year_145 rfl (lv_at hl 0 rfl) ?_
          refine r_get X hG in_X8 rfl 4 (by decide) w_239 0 rfl rfl dX8_year_146 ?_
          obtain ⟨r_32, hz_33, h⟩ := bd1_some h
          refine aft_i (ws' := (W_X8 a0 a1 a2 a3 a4 a5 a6 a7 a8 a9 a10 a11 a12 a13 a14 a15 a16 a17 a18 a19 a20 a21 a22 a23 a24 a25 a26 a27 a28 a29 cI cJ c_text_bytes c_text_length c_reader_numbers c_reader_next c_laid_stand c_laid_home c_laid_priceStart c_laid_priceStep c_laid_thrown_cells c_laid_thrown_filled c_laid_nets_cells c_laid_nets_filled k_trial_stand_7 k_trial_home_8 k_trial_priceStart_9 k_trial_priceStep_10 k_trial_thrown_cells_21 k_trial_thrown_filled_12 k_trial_nets_cells_13 k_trial_nets_filled_14 k_flight_loads_cells_22 c_flight_loads_filled k_flight_order_23 k_flight_done_24 k_flight_start_25 k_flight_end_26 c_changes_who c_changes_column c_changes_was c_changes_held c_kept_older_cells c_kept_older_filled c_kept_newer_cells c_kept_newer_filled c_kept_held c_turns_need)) (run_V (rest := []) X hG hl.1 (mX1_paidInAll l dC dI cI cJ a15 a16 a17 a18 k_flight_loads_cells_22 c_flight_loads_filled k_flight_order_23 k_flight_done_24 k_flight_start_25 k_flight_end_26 hz_33) gi_V_X8_124 hd_V_yX1_paidInAll ⟨rfl, rfl⟩ rfl ⟨Nat.le_of_ble_eq_true rfl, Nat.le_of_ble_eq_true rfl⟩ [15, 16, 17, 18] (by decide) rfl 15 rfl rfl rfl rfl (Nat.le_of_ble_eq_true rfl) ⟨Nat.le_of_ble_eq_true rfl, Nat.le_of_ble_eq_true rfl⟩ dX8_year_149) hG [15, 16, 17, 18] rfl rfl rfl (fun H locs hG => ?_)
          clear hz_33
          cases h
          exact ret _ _ _ _ dX8_year_152 hG
        · have h := ite_f h c_31
          refine lv_lookup (off := 42) (tgt := 153) hx hb dX8_year_111 (by decide) (by rw [lv_osw c_28 (a := 0) rfl, lv_osw c_31 (a := 1) rfl] <;> rfl) (by decide) ?_
          refine lv_aload_n hx hb dX8_year_153 rfl (lv_at hl 0 rfl) ?_
          refine r_get X hG in_X8 rfl 4 (by decide) w_239 0 rfl rfl dX8_year_154 ?_
          refine r_getN X hG in_X1 rfl 4 (by decide) w_166 15 rfl rfl dX8_year_157 ?_
          cases h
          exact ret _ _ _ _ dX8_year_160 hG
    · have h := ite_t h c_6
      refine lv_iconst (v := (-1 : Int32)) hx hb dX8_year_20 (by decide) ?_
      cases h
      exact ret _ _ _ _ dX8_year_21 hG
set_option maxRecDepth 100000 in
set_option maxHeartbeats 4000000 in
theorem mX8_keep (l : Launch) (dC : Nat → ClassId) (dI : Nat → Nat → Nat) (cI cJ : ClassId) (a0 a1 a2 a3 a4 a5 a6 a7 a8 a9 a10 a11 a12 a13 a14 a15 a16 a17 a18 a19 a20 a21 a22 a23 a24 a25 a26 a27 a28 a29 : Nat) (c_text_bytes : Nat → Int32) (c_text_length : Int32) (c_reader_numbers : Nat → Int32) (c_reader_next : Int32) (c_laid_stand : Int32) (c_laid_home : Int32) (c_laid_priceStart : Int32) (c_laid_priceStep : Int32) (c_laid_thrown_cells : Nat → Int32) (c_laid_thrown_filled : Int32) (c_laid_nets_cells : Nat → Int32) (c_laid_nets_filled : Int32) (c_trial_stand : Int32) (c_trial_home : Int32) (c_trial_priceStart : Int32) (c_trial_priceStep : Int32) (c_trial_thrown_cells : Nat → Int32) (c_trial_thrown_filled : Int32) (c_trial_nets_cells : Nat → Int32) (c_trial_nets_filled : Int32) (c_flight_loads_cells : Nat → Int32) (c_flight_loads_filled : Int32) (c_flight_order : Nat → Int32) (c_flight_done : Int32) (c_flight_start : Int32) (c_flight_end : Int32) (c_changes_who : Nat → Int32) (c_changes_column : Nat → Int32) (c_changes_was : Nat → Int32) (c_changes_held : Int32) (c_kept_older_cells : Nat → Int32) (c_kept_older_filled : Int32) (c_kept_newer_cells : Nat → Int32) (c_kept_newer_filled : Int32) (c_kept_held : Int32) (c_turns_need : Nat → Int32) {res : Int32} {n_kept_older_cells : Nat → Int32} {n_kept_older_filled : Int32} {n_kept_newer_cells : Nat → Int32} {n_kept_newer_filled : Int32} {n_kept_held : Int32} (hD : DX8_keep c_laid_thrown_cells c_laid_thrown_filled c_kept_older_cells c_kept_older_filled c_kept_newer_cells c_kept_newer_filled c_kept_held = some (res, n_kept_older_cells, n_kept_older_filled, n_kept_newer_cells, n_kept_newer_filled, n_kept_held)) : Met l yX8_keep (WZ yX8_keep cX8_keep 1 (some .int)) (RM 3 60) (PC dC dI cI cJ [.ref a0] (W_X8 a0 a1 a2 a3 a4 a5 a6 a7 a8 a9 a10 a11 a12 a13 a14 a15 a16 a17 a18 a19 a20 a21 a22 a23 a24 a25 a26 a27 a28 a29 cI cJ c_text_bytes c_text_length c_reader_numbers c_reader_next c_laid_stand c_laid_home c_laid_priceStart c_laid_priceStep c_laid_thrown_cells c_laid_thrown_filled c_laid_nets_cells c_laid_nets_filled c_trial_stand c_trial_home c_trial_priceStart c_trial_priceStep c_trial_thrown_cells c_trial_thrown_filled c_trial_nets_cells c_trial_nets_filled c_flight_loads_cells c_flight_loads_filled c_flight_order c_flight_done c_flight_start c_flight_end c_changes_who c_changes_column c_changes_was c_changes_held c_kept_older_cells c_kept_older_filled c_kept_newer_cells c_kept_newer_filled c_kept_held c_turns_need)) (QI dC dI (W_X8 a0 a1 a2 a3 a4 a5 a6 a7 a8 a9 a10 a11 a12 a13 a14 a15 a16 a17 a18 a19 a20 a21 a22 a23 a24 a25 a26 a27 a28 a29 cI cJ c_text_bytes c_text_length c_reader_numbers c_reader_next c_laid_stand c_laid_home c_laid_priceStart c_laid_priceStep c_laid_thrown_cells c_laid_thrown_filled c_laid_nets_cells c_laid_nets_filled c_trial_stand c_trial_home c_trial_priceStart c_trial_priceStep c_trial_thrown_cells c_trial_thrown_filled c_trial_nets_cells c_trial_nets_filled c_flight_loads_cells c_flight_loads_filled c_flight_order c_flight_done c_flight_start c_flight_end c_changes_who c_changes_column c_changes_was c_changes_held c_kept_older_cells c_kept_older_filled c_kept_newer_cells c_kept_newer_filled c_kept_held c_turns_need) (W_X8 a0 a1 a2 a3 a4 a5 a6 a7 a8 a9 a10 a11 a12 a13 a14 a15 a16 a17 a18 a19 a20 a21 a22 a23 a24 a25 a26 a27 a28 a29 cI cJ c_text_bytes c_text_length c_reader_numbers c_reader_next c_laid_stand c_laid_home c_laid_priceStart c_laid_priceStep c_laid_thrown_cells c_laid_thrown_filled c_laid_nets_cells c_laid_nets_filled c_trial_stand c_trial_home c_trial_priceStart c_trial_priceStep c_trial_thrown_cells c_trial_thrown_filled c_trial_nets_cells c_trial_nets_filled c_flight_loads_cells c_flight_loads_filled c_flight_order c_flight_done c_flight_start c_flight_end c_changes_who c_changes_column c_changes_was c_changes_held n_kept_older_cells n_kept_older_filled n_kept_newer_cells n_kept_newer_filled n_kept_held c_turns_need) res) 0 0 (FA (W_X8 a0 a1 a2 a3 a4 a5 a6 a7 a8 a9 a10 a11 a12 a13 a14 a15 a16 a17 a18 a19 a20 a21 a22 a23 a24 a25 a26 a27 a28 a29 cI cJ c_text_bytes c_text_length c_reader_numbers c_reader_next c_laid_stand c_laid_home c_laid_priceStart c_laid_priceStep c_laid_thrown_cells c_laid_thrown_filled c_laid_nets_cells c_laid_nets_filled c_trial_stand c_trial_home c_trial_priceStart c_trial_priceStep c_trial_thrown_cells c_trial_thrown_filled c_trial_nets_cells c_trial_nets_filled c_flight_loads_cells c_flight_loads_filled c_flight_order c_flight_done c_flight_start c_flight_end c_changes_who c_changes_column c_changes_was c_changes_held c_kept_older_cells c_kept_older_filled c_kept_newer_cells c_kept_newer_filled c_kept_held c_turns_need)) := by
  refine r_metI (by decide +kernel) (Nat.le_of_ble_eq_true rfl) ?_
  intro p e s m args below meth c A H0 QQ X ret ls hl hG
  have X : Cx p m c cX8_keep 1 s args RX8 dC dI cI cJ meth (some .int) := X
  have hx := X.1.1
  have hb := X.1.2.1
  have hl : lv_has ls 1 [(0, .ref a0)] := hl
  have h := hD
  unfold DX8_keep at h
  clear hD
  refine lv_aload_n hx hb dX8_keep_0 rfl (lv_at hl 0 rfl) ?_
  refine r_get X hG in_X8 rfl 6 (by decide) w_241 0 rfl rfl dX8_keep_1 ?_
  refine lv_aload_n hx hb dX8_keep_4 rfl (lv_at hl 0 rfl) ?_
  refine r_get X hG in_X8 rfl 2 (by decide) w_237 0 rfl rfl dX8_keep_5 ?_
  refine r_getN X hG in_X3 rfl 4 (by decide) w_136 5 rfl rfl dX8_keep_8 ?_
  obtain ⟨r_1, k_kept_older_cells_2, k_kept_older_filled_3, k_kept_newer_cells_4, k_kept_newer_filled_5, k_kept_held_6, hz_7, h⟩ := bd6_some h
  refine aft_i (ws' := (W_X8 a0 a1 a2 a3 a4 a5 a6 a7 a8 a9 a10 a11 a12 a13 a14 a15 a16 a17 a18 a19 a20 a21 a22 a23 a24 a25 a26 a27 a28 a29 cI cJ c_text_bytes c_text_length c_reader_numbers c_reader_next c_laid_stand c_laid_home c_laid_priceStart c_laid_priceStep c_laid_thrown_cells c_laid_thrown_filled c_laid_nets_cells c_laid_nets_filled c_trial_stand c_trial_home c_trial_priceStart c_trial_priceStep c_trial_thrown_cells c_trial_thrown_filled c_trial_nets_cells c_trial_nets_filled c_flight_loads_cells c_flight_loads_filled c_flight_order c_flight_done c_flight_start c_flight_end c_changes_who c_changes_column c_changes_was c_changes_held k_kept_older_cells_2 k_kept_older_filled_3 k_kept_newer_cells_4 k_kept_newer_filled_5 k_kept_held_6 c_turns_need)) (run_V (rest := []) X hG hl.1 (mX2_take l dC dI cI cJ a23 a24 a25 a26 a27 a6 a7 c_kept_older_cells c_kept_older_filled c_kept_newer_cells c_kept_newer_filled c_kept_held c_laid_thrown_cells c_laid_thrown_filled hz_7) gi_V_X8_210 hd_V_yX2_take ⟨rfl, rfl⟩ rfl ⟨Nat.le_of_ble_eq_true rfl, Nat.le_of_ble_eq_true rfl⟩ [23, 24, 25, 26, 27, 6, 7] (by decide) rfl 23 rfl rfl rfl rfl (Nat.le_of_ble_eq_true rfl) ⟨Nat.le_of_ble_eq_true rfl, Nat.le_of_ble_eq_true rfl⟩ dX8_keep_11) hG [23, 24, 25, 26, 27, 6, 7] rfl rfl rfl (fun H locs hG => ?_)
  clear hz_7
  refine lv_if_eq (tgt := 27) hx hb dX8_keep_14 (by decide) (fun c_8 => ?_) (fun c_8 => ?_)
  · have h := ite_t h c_8
    refine lv_bipush (v := (-3 : Int32)) hx hb dX8_keep_27 (by decide) ?_
    cases h
    exact ret _ _ _ _ dX8_keep_29 hG
  · have h := ite_f h c_8
    refine lv_aload_n hx hb dX8_keep_17 rfl (lv_at hl 0 rfl) ?_
    refine r_get X hG in_X8 rfl 6 (by decide) w_241 0 rfl rfl dX8_keep_18 ?_
    refine r_getN X hG in_X2 rfl 2 (by decide) w_209 23 rfl rfl dX8_keep_21 ?_
    refine lv_goto (tgt := 29) hx hb dX8_keep_24 (by decide) ?_
    cases h
    exact ret _ _ _ _ dX8_keep_29 hG
set_option maxRecDepth 100000 in
set_option maxHeartbeats 4000000 in
theorem mX8_back (l : Launch) (dC : Nat → ClassId) (dI : Nat → Nat → Nat) (cI cJ : ClassId) (a0 a1 a2 a3 a4 a5 a6 a7 a8 a9 a10 a11 a12 a13 a14 a15 a16 a17 a18 a19 a20 a21 a22 a23 a24 a25 a26 a27 a28 a29 : Nat) (c_text_bytes : Nat → Int32) (c_text_length : Int32) (c_reader_numbers : Nat → Int32) (c_reader_next : Int32) (c_laid_stand : Int32) (c_laid_home : Int32) (c_laid_priceStart : Int32) (c_laid_priceStep : Int32) (c_laid_thrown_cells : Nat → Int32) (c_laid_thrown_filled : Int32) (c_laid_nets_cells : Nat → Int32) (c_laid_nets_filled : Int32) (c_trial_stand : Int32) (c_trial_home : Int32) (c_trial_priceStart : Int32) (c_trial_priceStep : Int32) (c_trial_thrown_cells : Nat → Int32) (c_trial_thrown_filled : Int32) (c_trial_nets_cells : Nat → Int32) (c_trial_nets_filled : Int32) (c_flight_loads_cells : Nat → Int32) (c_flight_loads_filled : Int32) (c_flight_order : Nat → Int32) (c_flight_done : Int32) (c_flight_start : Int32) (c_flight_end : Int32) (c_changes_who : Nat → Int32) (c_changes_column : Nat → Int32) (c_changes_was : Nat → Int32) (c_changes_held : Int32) (c_kept_older_cells : Nat → Int32) (c_kept_older_filled : Int32) (c_kept_newer_cells : Nat → Int32) (c_kept_newer_filled : Int32) (c_kept_held : Int32) (c_turns_need : Nat → Int32) {res : Int32} {n_laid_thrown_cells : Nat → Int32} {n_laid_thrown_filled : Int32} {n_changes_held : Int32} {n_kept_held : Int32} (hD : DX8_back c_laid_thrown_cells c_laid_thrown_filled c_changes_held c_kept_older_cells c_kept_older_filled c_kept_newer_cells c_kept_newer_filled c_kept_held = some (res, n_laid_thrown_cells, n_laid_thrown_filled, n_changes_held, n_kept_held)) : Met l yX8_back (WZ yX8_back cX8_back 1 (some .int)) (RM 3 60) (PC dC dI cI cJ [.ref a0] (W_X8 a0 a1 a2 a3 a4 a5 a6 a7 a8 a9 a10 a11 a12 a13 a14 a15 a16 a17 a18 a19 a20 a21 a22 a23 a24 a25 a26 a27 a28 a29 cI cJ c_text_bytes c_text_length c_reader_numbers c_reader_next c_laid_stand c_laid_home c_laid_priceStart c_laid_priceStep c_laid_thrown_cells c_laid_thrown_filled c_laid_nets_cells c_laid_nets_filled c_trial_stand c_trial_home c_trial_priceStart c_trial_priceStep c_trial_thrown_cells c_trial_thrown_filled c_trial_nets_cells c_trial_nets_filled c_flight_loads_cells c_flight_loads_filled c_flight_order c_flight_done c_flight_start c_flight_end c_changes_who c_changes_column c_changes_was c_changes_held c_kept_older_cells c_kept_older_filled c_kept_newer_cells c_kept_newer_filled c_kept_held c_turns_need)) (QI dC dI (W_X8 a0 a1 a2 a3 a4 a5 a6 a7 a8 a9 a10 a11 a12 a13 a14 a15 a16 a17 a18 a19 a20 a21 a22 a23 a24 a25 a26 a27 a28 a29 cI cJ c_text_bytes c_text_length c_reader_numbers c_reader_next c_laid_stand c_laid_home c_laid_priceStart c_laid_priceStep c_laid_thrown_cells c_laid_thrown_filled c_laid_nets_cells c_laid_nets_filled c_trial_stand c_trial_home c_trial_priceStart c_trial_priceStep c_trial_thrown_cells c_trial_thrown_filled c_trial_nets_cells c_trial_nets_filled c_flight_loads_cells c_flight_loads_filled c_flight_order c_flight_done c_flight_start c_flight_end c_changes_who c_changes_column c_changes_was c_changes_held c_kept_older_cells c_kept_older_filled c_kept_newer_cells c_kept_newer_filled c_kept_held c_turns_need) (W_X8 a0 a1 a2 a3 a4 a5 a6 a7 a8 a9 a10 a11 a12 a13 a14 a15 a16 a17 a18 a19 a20 a21 a22 a23 a24 a25 a26 a27 a28 a29 cI cJ c_text_bytes c_text_length c_reader_numbers c_reader_next c_laid_stand c_laid_home c_laid_priceStart c_laid_priceStep n_laid_thrown_cells n_laid_thrown_filled c_laid_nets_cells c_laid_nets_filled c_trial_stand c_trial_home c_trial_priceStart c_trial_priceStep c_trial_thrown_cells c_trial_thrown_filled c_trial_nets_cells c_trial_nets_filled c_flight_loads_cells c_flight_loads_filled c_flight_order c_flight_done c_flight_start c_flight_end c_changes_who c_changes_column c_changes_was n_changes_held c_kept_older_cells c_kept_older_filled c_kept_newer_cells c_kept_newer_filled n_kept_held c_turns_need) res) 0 0 (FA (W_X8 a0 a1 a2 a3 a4 a5 a6 a7 a8 a9 a10 a11 a12 a13 a14 a15 a16 a17 a18 a19 a20 a21 a22 a23 a24 a25 a26 a27 a28 a29 cI cJ c_text_bytes c_text_length c_reader_numbers c_reader_next c_laid_stand c_laid_home c_laid_priceStart c_laid_priceStep c_laid_thrown_cells c_laid_thrown_filled c_laid_nets_cells c_laid_nets_filled c_trial_stand c_trial_home c_trial_priceStart c_trial_priceStep c_trial_thrown_cells c_trial_thrown_filled c_trial_nets_cells c_trial_nets_filled c_flight_loads_cells c_flight_loads_filled c_flight_order c_flight_done c_flight_start c_flight_end c_changes_who c_changes_column c_changes_was c_changes_held c_kept_older_cells c_kept_older_filled c_kept_newer_cells c_kept_newer_filled c_kept_held c_turns_need)) := by
  refine r_metI (by decide +kernel) (Nat.le_of_ble_eq_true rfl) ?_
  intro p e s m args below meth c A H0 QQ X ret ls hl hG
  have X : Cx p m c cX8_back 1 s args RX8 dC dI cI cJ meth (some .int) := X
  have hx := X.1.1
  have hb := X.1.2.1
  have hl : lv_has ls 1 [(0, .ref a0)] := hl
  have h := hD
  unfold DX8_back at h
  clear hD
  refine lv_aload_n hx hb dX8_back_0 rfl (lv_at hl 0 rfl) ?_
  refine r_get X hG in_X8 rfl 6 (by decide) w_241 0 rfl rfl dX8_back_1 ?_
  refine lv_aload_n hx hb dX8_back_4 rfl (lv_at hl 0 rfl) ?_
  refine r_get X hG in_X8 rfl 2 (by decide) w_237 0 rfl rfl dX8_back_5 ?_
  refine r_getN X hG in_X3 rfl 4 (by decide) w_136 5 rfl rfl dX8_back_8 ?_
  obtain ⟨r_1, k_kept_held_2, k_laid_thrown_cells_3, k_laid_thrown_filled_4, hz_5, h⟩ := bd4_some h
  refine aft_i (ws' := (W_X8 a0 a1 a2 a3 a4 a5 a6 a7 a8 a9 a10 a11 a12 a13 a14 a15 a16 a17 a18 a19 a20 a21 a22 a23 a24 a25 a26 a27 a28 a29 cI cJ c_text_bytes c_text_length c_reader_numbers c_reader_next c_laid_stand c_laid_home c_laid_priceStart c_laid_priceStep k_laid_thrown_cells_3 k_laid_thrown_filled_4 c_laid_nets_cells c_laid_nets_filled c_trial_stand c_trial_home c_trial_priceStart c_trial_priceStep c_trial_thrown_cells c_trial_thrown_filled c_trial_nets_cells c_trial_nets_filled c_flight_loads_cells c_flight_loads_filled c_flight_order c_flight_done c_flight_start c_flight_end c_changes_who c_changes_column c_changes_was c_changes_held c_kept_older_cells c_kept_older_filled c_kept_newer_cells c_kept_newer_filled k_kept_held_2 c_turns_need)) (run_V (rest := []) X hG hl.1 (mX2_giveBack l dC dI cI cJ a23 a24 a25 a26 a27 a6 a7 c_kept_older_cells c_kept_older_filled c_kept_newer_cells c_kept_newer_filled c_kept_held c_laid_thrown_cells c_laid_thrown_filled hz_5) gi_V_X8_214 hd_V_yX2_giveBack ⟨rfl, rfl⟩ rfl ⟨Nat.le_of_ble_eq_true rfl, Nat.le_of_ble_eq_true rfl⟩ [23, 24, 25, 26, 27, 6, 7] (by decide) rfl 23 rfl rfl rfl rfl (Nat.le_of_ble_eq_true rfl) ⟨Nat.le_of_ble_eq_true rfl, Nat.le_of_ble_eq_true rfl⟩ dX8_back_11) hG [23, 24, 25, 26, 27, 6, 7] rfl rfl rfl (fun H locs hG => ?_)
  clear hz_5
  refine lv_if_ne (tgt := 20) hx hb dX8_back_14 (by decide) (fun c_6 => ?_) (fun c_6 => ?_)
  · have h := ite_f h c_6
    refine lv_aload_n hx hb dX8_back_20 rfl (lv_at hl 0 rfl) ?_
    refine r_get X hG in_X8 rfl 5 (by decide) w_240 0 rfl rfl dX8_back_21 ?_
    obtain ⟨k_changes_held_7, hz_8, h⟩ := bd1_some h
    refine aft_v (ws' := (W_X8 a0 a1 a2 a3 a4 a5 a6 a7 a8 a9 a10 a11 a12 a13 a14 a15 a16 a17 a18 a19 a20 a21 a22 a23 a24 a25 a26 a27 a28 a29 cI cJ c_text_bytes c_text_length c_reader_numbers c_reader_next c_laid_stand c_laid_home c_laid_priceStart c_laid_priceStep k_laid_thrown_cells_3 k_laid_thrown_filled_4 c_laid_nets_cells c_laid_nets_filled c_trial_stand c_trial_home c_trial_priceStart c_trial_priceStep c_trial_thrown_cells c_trial_thrown_filled c_trial_nets_cells c_trial_nets_filled c_flight_loads_cells c_flight_loads_filled c_flight_order c_flight_done c_flight_start c_flight_end c_changes_who c_changes_column c_changes_was k_changes_held_7 c_kept_older_cells c_kept_older_filled c_kept_newer_cells c_kept_newer_filled k_kept_held_2 c_turns_need)) (run_V (rest := []) X hG hl.1 (mX0_forget l dC dI cI cJ a19 a20 a21 a22 c_changes_who c_changes_column c_changes_was c_changes_held hz_8) gi_V_X8_98 hd_V_yX0_forget ⟨rfl, rfl⟩ rfl ⟨Nat.le_of_ble_eq_true rfl, Nat.le_of_ble_eq_true rfl⟩ [19, 20, 21, 22] (by decide) rfl 19 rfl rfl rfl rfl (Nat.le_of_ble_eq_true rfl) ⟨Nat.le_of_ble_eq_true rfl, Nat.le_of_ble_eq_true rfl⟩ dX8_back_24) hG [19, 20, 21, 22] rfl rfl rfl (fun H locs hG => ?_)
    clear hz_8
    refine lv_aload_n hx hb dX8_back_27 rfl (lv_at hl 0 rfl) ?_
    refine r_get X hG in_X8 rfl 6 (by decide) w_241 0 rfl rfl dX8_back_28 ?_
    refine r_getN X hG in_X2 rfl 2 (by decide) w_209 23 rfl rfl dX8_back_31 ?_
    cases h
    exact ret _ _ _ _ dX8_back_34 hG
  · have h := ite_t h c_6
    refine lv_bipush (v := (-2 : Int32)) hx hb dX8_back_17 (by decide) ?_
    cases h
    exact ret _ _ _ _ dX8_back_19 hG
set_option maxRecDepth 100000 in
set_option maxHeartbeats 4000000 in
theorem mX8_count (l : Launch) (dC : Nat → ClassId) (dI : Nat → Nat → Nat) (cI cJ : ClassId) (a0 a1 a2 a3 a4 a5 a6 a7 a8 a9 a10 a11 a12 a13 a14 a15 a16 a17 a18 a19 a20 a21 a22 a23 a24 a25 a26 a27 a28 a29 : Nat) (c_text_bytes : Nat → Int32) (c_text_length : Int32) (c_reader_numbers : Nat → Int32) (c_reader_next : Int32) (c_laid_stand : Int32) (c_laid_home : Int32) (c_laid_priceStart : Int32) (c_laid_priceStep : Int32) (c_laid_thrown_cells : Nat → Int32) (c_laid_thrown_filled : Int32) (c_laid_nets_cells : Nat → Int32) (c_laid_nets_filled : Int32) (c_trial_stand : Int32) (c_trial_home : Int32) (c_trial_priceStart : Int32) (c_trial_priceStep : Int32) (c_trial_thrown_cells : Nat → Int32) (c_trial_thrown_filled : Int32) (c_trial_nets_cells : Nat → Int32) (c_trial_nets_filled : Int32) (c_flight_loads_cells : Nat → Int32) (c_flight_loads_filled : Int32) (c_flight_order : Nat → Int32) (c_flight_done : Int32) (c_flight_start : Int32) (c_flight_end : Int32) (c_changes_who : Nat → Int32) (c_changes_column : Nat → Int32) (c_changes_was : Nat → Int32) (c_changes_held : Int32) (c_kept_older_cells : Nat → Int32) (c_kept_older_filled : Int32) (c_kept_newer_cells : Nat → Int32) (c_kept_newer_filled : Int32) (c_kept_held : Int32) (c_turns_need : Nat → Int32) (x1 : Int32) {res : Int32} (hD : DX8_count x1 c_text_length c_laid_stand c_laid_home c_laid_thrown_filled c_laid_nets_filled c_changes_held c_kept_held = some res) : Met l yX8_count (WZ yX8_count cX8_count 2 (some .int)) (RM 1 20) (PC dC dI cI cJ [.ref a0, .int x1] (W_X8 a0 a1 a2 a3 a4 a5 a6 a7 a8 a9 a10 a11 a12 a13 a14 a15 a16 a17 a18 a19 a20 a21 a22 a23 a24 a25 a26 a27 a28 a29 cI cJ c_text_bytes c_text_length c_reader_numbers c_reader_next c_laid_stand c_laid_home c_laid_priceStart c_laid_priceStep c_laid_thrown_cells c_laid_thrown_filled c_laid_nets_cells c_laid_nets_filled c_trial_stand c_trial_home c_trial_priceStart c_trial_priceStep c_trial_thrown_cells c_trial_thrown_filled c_trial_nets_cells c_trial_nets_filled c_flight_loads_cells c_flight_loads_filled c_flight_order c_flight_done c_flight_start c_flight_end c_changes_who c_changes_column c_changes_was c_changes_held c_kept_older_cells c_kept_older_filled c_kept_newer_cells c_kept_newer_filled c_kept_held c_turns_need)) (QI dC dI (W_X8 a0 a1 a2 a3 a4 a5 a6 a7 a8 a9 a10 a11 a12 a13 a14 a15 a16 a17 a18 a19 a20 a21 a22 a23 a24 a25 a26 a27 a28 a29 cI cJ c_text_bytes c_text_length c_reader_numbers c_reader_next c_laid_stand c_laid_home c_laid_priceStart c_laid_priceStep c_laid_thrown_cells c_laid_thrown_filled c_laid_nets_cells c_laid_nets_filled c_trial_stand c_trial_home c_trial_priceStart c_trial_priceStep c_trial_thrown_cells c_trial_thrown_filled c_trial_nets_cells c_trial_nets_filled c_flight_loads_cells c_flight_loads_filled c_flight_order c_flight_done c_flight_start c_flight_end c_changes_who c_changes_column c_changes_was c_changes_held c_kept_older_cells c_kept_older_filled c_kept_newer_cells c_kept_newer_filled c_kept_held c_turns_need) (W_X8 a0 a1 a2 a3 a4 a5 a6 a7 a8 a9 a10 a11 a12 a13 a14 a15 a16 a17 a18 a19 a20 a21 a22 a23 a24 a25 a26 a27 a28 a29 cI cJ c_text_bytes c_text_length c_reader_numbers c_reader_next c_laid_stand c_laid_home c_laid_priceStart c_laid_priceStep c_laid_thrown_cells c_laid_thrown_filled c_laid_nets_cells c_laid_nets_filled c_trial_stand c_trial_home c_trial_priceStart c_trial_priceStep c_trial_thrown_cells c_trial_thrown_filled c_trial_nets_cells c_trial_nets_filled c_flight_loads_cells c_flight_loads_filled c_flight_order c_flight_done c_flight_start c_flight_end c_changes_who c_changes_column c_changes_was c_changes_held c_kept_older_cells c_kept_older_filled c_kept_newer_cells c_kept_newer_filled c_kept_held c_turns_need) res) 0 0 (FA (W_X8 a0 a1 a2 a3 a4 a5 a6 a7 a8 a9 a10 a11 a12 a13 a14 a15 a16 a17 a18 a19 a20 a21 a22 a23 a24 a25 a26 a27 a28 a29 cI cJ c_text_bytes c_text_length c_reader_numbers c_reader_next c_laid_stand c_laid_home c_laid_priceStart c_laid_priceStep c_laid_thrown_cells c_laid_thrown_filled c_laid_nets_cells c_laid_nets_filled c_trial_stand c_trial_home c_trial_priceStart c_trial_priceStep c_trial_thrown_cells c_trial_thrown_filled c_trial_nets_cells c_trial_nets_filled c_flight_loads_cells c_flight_loads_filled c_flight_order c_flight_done c_flight_start c_flight_end c_changes_who c_changes_column c_changes_was c_changes_held c_kept_older_cells c_kept_older_filled c_kept_newer_cells c_kept_newer_filled c_kept_held c_turns_need)) := by
  refine r_metI (by decide +kernel) (Nat.le_of_ble_eq_true rfl) ?_
  intro p e s m args below meth c A H0 QQ X ret ls hl hG
  have X : Cx p m c cX8_count 2 s args RX8 dC dI cI cJ meth (some .int) := X
  have hx := X.1.1
  have hb := X.1.2.1
  have hl : lv_has ls 2 [(0, .ref a0), (1, .int x1)] := hl
  have h := hD
  unfold DX8_count at h
  clear hD
  refine lv_iload_n hx hb dX8_count_0 rfl (lv_at hl 1 rfl) ?_
  rcases Decidable.em (x1 = (0 : Int32)) with c_1 | c_1
  · have h := ite_t h c_1
    refine lv_tableIn (off := 43) (tgt := 44) hx hb dX8_count_1 (by rw [c_1] <;> decide) (by rw [c_1] <;> decide) (by rw [c_1] <;> rfl) (by decide) ?_
    refine lv_aload_n hx hb dX8_count_44 rfl (lv_at hl 0 rfl) ?_
    refine r_get X hG in_X8 rfl 2 (by decide) w_237 0 rfl rfl dX8_count_45 ?_
    refine r_getN X hG in_X3 rfl 4 (by decide) w_136 5 rfl rfl dX8_count_48 ?_
    obtain ⟨r_2, hz_3, h⟩ := bd1_some h
    refine aft_i (ws' := (W_X8 a0 a1 a2 a3 a4 a5 a6 a7 a8 a9 a10 a11 a12 a13 a14 a15 a16 a17 a18 a19 a20 a21 a22 a23 a24 a25 a26 a27 a28 a29 cI cJ c_text_bytes c_text_length c_reader_numbers c_reader_next c_laid_stand c_laid_home c_laid_priceStart c_laid_priceStep c_laid_thrown_cells c_laid_thrown_filled c_laid_nets_cells c_laid_nets_filled c_trial_stand c_trial_home c_trial_priceStart c_trial_priceStep c_trial_thrown_cells c_trial_thrown_filled c_trial_nets_cells c_trial_nets_filled c_flight_loads_cells c_flight_loads_filled c_flight_order c_flight_done c_flight_start c_flight_end c_changes_who c_changes_column c_changes_was c_changes_held c_kept_older_cells c_kept_older_filled c_kept_newer_cells c_kept_newer_filled c_kept_held c_turns_need)) (run_V (rest := []) X hG hl.1 (mX5_rows l dC dI cI cJ a6 a7 (7 : Int32) (4 : Int32) 28 c_laid_thrown_cells c_laid_thrown_filled hz_3) gi_V_X8_90 hd_V_yX5_rows ⟨rfl, rfl⟩ rfl ⟨Nat.le_of_ble_eq_true rfl, Nat.le_of_ble_eq_true rfl⟩ [6, 7] (by decide) rfl 6 rfl rfl rfl rfl (Nat.le_of_ble_eq_true rfl) ⟨Nat.le_of_ble_eq_true rfl, Nat.le_of_ble_eq_true rfl⟩ dX8_count_51) hG [6, 7] rfl rfl rfl (fun H locs hG => ?_)
    clear hz_3
    cases h
    exact ret _ _ _ _ dX8_count_54 hG
  · have h := ite_f h c_1
    rcases Decidable.em (x1 = (1 : Int32)) with c_4 | c_4
    · have h := ite_t h c_4
      refine lv_tableIn (off := 54) (tgt := 55) hx hb dX8_count_1 (by rw [c_4] <;> decide) (by rw [c_4] <;> decide) (by rw [c_4] <;> rfl) (by decide) ?_
      refine lv_aload_n hx hb dX8_count_55 rfl (lv_at hl 0 rfl) ?_
      refine r_get X hG in_X8 rfl 2 (by decide) w_237 0 rfl rfl dX8_count_56 ?_
      refine r_getN X hG in_X3 rfl 5 (by decide) w_139 5 rfl rfl dX8_count_59 ?_
      obtain ⟨r_5, hz_6, h⟩ := bd1_some h
      refine aft_i (ws' := (W_X8 a0 a1 a2 a3 a4 a5 a6 a7 a8 a9 a10 a11 a12 a13 a14 a15 a16 a17 a18 a19 a20 a21 a22 a23 a24 a25 a26 a27 a28 a29 cI cJ c_text_bytes c_text_length c_reader_numbers c_reader_next c_laid_stand c_laid_home c_laid_priceStart c_laid_priceStep c_laid_thrown_cells c_laid_thrown_filled c_laid_nets_cells c_laid_nets_filled c_trial_stand c_trial_home c_trial_priceStart c_trial_priceStep c_trial_thrown_cells c_trial_thrown_filled c_trial_nets_cells c_trial_nets_filled c_flight_loads_cells c_flight_loads_filled c_flight_order c_flight_done c_flight_start c_flight_end c_changes_who c_changes_column c_changes_was c_changes_held c_kept_older_cells c_kept_older_filled c_kept_newer_cells c_kept_newer_filled c_kept_held c_turns_need)) (run_V (rest := []) X hG hl.1 (mX5_rows l dC dI cI cJ a8 a9 (5 : Int32) (4 : Int32) 20 c_laid_nets_cells c_laid_nets_filled hz_6) gi_V_X8_90 hd_V_yX5_rows ⟨rfl, rfl⟩ rfl ⟨Nat.le_of_ble_eq_true rfl, Nat.le_of_ble_eq_true rfl⟩ [8, 9] (by decide) rfl 8 rfl rfl rfl rfl (Nat.le_of_ble_eq_true rfl) ⟨Nat.le_of_ble_eq_true rfl, Nat.le_of_ble_eq_true rfl⟩ dX8_count_62) hG [8, 9] rfl rfl rfl (fun H locs hG => ?_)
      clear hz_6
      cases h
      exact ret _ _ _ _ dX8_count_65 hG
    · have h := ite_f h c_4
      rcases Decidable.em (x1 = (2 : Int32)) with c_7 | c_7
      · have h := ite_t h c_7
        refine lv_tableIn (off := 65) (tgt := 66) hx hb dX8_count_1 (by rw [c_7] <;> decide) (by rw [c_7] <;> decide) (by rw [c_7] <;> rfl) (by decide) ?_
        refine lv_aload_n hx hb dX8_count_66 rfl (lv_at hl 0 rfl) ?_
        refine r_get X hG in_X8 rfl 2 (by decide) w_237 0 rfl rfl dX8_count_67 ?_
        refine r_getN X hG in_X3 rfl 0 (by decide) w_129 5 rfl rfl dX8_count_70 ?_
        cases h
        exact ret _ _ _ _ dX8_count_73 hG
      · have h := ite_f h c_7
        rcases Decidable.em (x1 = (3 : Int32)) with c_8 | c_8
        · have h := ite_t h c_8
          refine lv_tableIn (off := 73) (tgt := 74) hx hb dX8_count_1 (by rw [c_8] <;> decide) (by rw [c_8] <;> decide) (by rw [c_8] <;> rfl) (by decide) ?_
          refine lv_aload_n hx hb dX8_count_74 rfl (lv_at hl 0 rfl) ?_
          refine r_get X hG in_X8 rfl 2 (by decide) w_237 0 rfl rfl dX8_count_75 ?_
          refine r_getN X hG in_X3 rfl 1 (by decide) w_132 5 rfl rfl dX8_count_78 ?_
          cases h
          exact ret _ _ _ _ dX8_count_81 hG
        · have h := ite_f h c_8
          rcases Decidable.em (x1 = (4 : Int32)) with c_9 | c_9
          · have h := ite_t h c_9
            refine lv_tableIn (off := 81) (tgt := 82) hx hb dX8_count_1 (by rw [c_9] <;> decide) (by rw [c_9] <;> decide) (by rw [c_9] <;> rfl) (by decide) ?_
            refine lv_aload_n hx hb dX8_count_82 rfl (lv_at hl 0 rfl) ?_
            refine r_get X hG in_X8 rfl 5 (by decide) w_240 0 rfl rfl dX8_count_83 ?_
            refine r_getN X hG in_X0 rfl 3 (by decide) w_188 19 rfl rfl dX8_count_86 ?_
            cases h
            exact ret _ _ _ _ dX8_count_89 hG
          · have h := ite_f h c_9
            rcases Decidable.em (x1 = (5 : Int32)) with c_10 | c_10
            · have h := ite_t h c_10
              refine lv_tableIn (off := 89) (tgt := 90) hx hb dX8_count_1 (by rw [c_10] <;> decide) (by rw [c_10] <;> decide) (by rw [c_10] <;> rfl) (by decide) ?_
              refine lv_aload_n hx hb dX8_count_90 rfl (lv_at hl 0 rfl) ?_
              refine r_get X hG in_X8 rfl 6 (by decide) w_241 0 rfl rfl dX8_count_91 ?_
              refine r_getN X hG in_X2 rfl 2 (by decide) w_209 23 rfl rfl dX8_count_94 ?_
              cases h
              exact ret _ _ _ _ dX8_count_97 hG
            · have h := ite_f h c_10
              rcases Decidable.em (x1 = (6 : Int32)) with c_11 | c_11
              · have h := ite_t h c_11
                refine lv_tableIn (off := 97) (tgt := 98) hx hb dX8_count_1 (by rw [c_11] <;> decide) (by rw [c_11] <;> decide) (by rw [c_11] <;> rfl) (by decide) ?_
                refine lv_aload_n hx hb dX8_count_98 rfl (lv_at hl 0 rfl) ?_
                refine r_get X hG in_X8 rfl 0 (by decide) w_235 0 rfl rfl dX8_count_99 ?_
                refine r_getN X hG in_X6 rfl 1 (by decide) w_70 1 rfl rfl dX8_count_102 ?_
                cases h
                exact ret _ _ _ _ dX8_count_105 hG
              · have h := ite_f h c_11
                refine lv_tableOut (tgt := 106) hx hb dX8_count_1 (by have := lv_neT c_1 (a := 0) rfl; have := lv_neT c_4 (a := 1) rfl; have := lv_neT c_7 (a := 2) rfl; have := lv_neT c_8 (a := 3) rfl; have := lv_neT c_9 (a := 4) rfl; have := lv_neT c_10 (a := 5) rfl; have := lv_neT c_11 (a := 6) rfl; omega) (by decide) ?_
                refine lv_iconst (v := (-1 : Int32)) hx hb dX8_count_106 (by decide) ?_
                cases h
                exact ret _ _ _ _ dX8_count_107 hG
set_option maxRecDepth 100000 in
set_option maxHeartbeats 4000000 in
theorem mX9_in (l : Launch) (dC : Nat → ClassId) (dI : Nat → Nat → Nat) (cI cJ : ClassId) (x0 : Int64) (x2 : Int64) (x4 : Int64) {res : Int32} (hD : DX9_in x0 x2 x4 = some res) : Met l yX9_in (WZ yX9_in cX9_in 6 (some .boolean)) (RM 0 0) (PC dC dI cI cJ [.long x0, .long x2, .long x4] []) (QI dC dI [] [] res) 0 0 (FA []) := by
  refine r_metZ (by decide +kernel) (Nat.le_of_ble_eq_true rfl) ?_
  intro p e s m args below meth c A H0 QQ X ret ls hl hG
  have X : Cx p m c cX9_in 6 s args RX9 dC dI cI cJ meth (some .boolean) := X
  have hx := X.1.1
  have hb := X.1.2.1
  have hl : lv_has ls 6 [(0, .long x0), (2, .long x2), (4, .long x4)] := hl
  have h := hD
  unfold DX9_in at h
  clear hD
  refine lv_lload_n hx hb dX9_in_0 rfl (lv_at hl 0 rfl) ?_
  refine lv_lload_n hx hb dX9_in_1 rfl (lv_at hl 1 rfl) ?_
  refine W.lcmp hx hb dX9_in_2 ?_
  refine lv_if_lt (tgt := 17) hx hb dX9_in_3 (by decide) (fun c_1 => ?_) (fun c_1 => ?_)
  · have h := ite_t h c_1
    refine lv_iconst (v := (0 : Int32)) hx hb dX9_in_17 (by decide) ?_
    cases h
    exact ret _ _ _ _ dX9_in_18 (by decide) hG
  · have h := ite_f h c_1
    refine lv_lload_n hx hb dX9_in_6 rfl (lv_at hl 0 rfl) ?_
    refine lv_lload hx hb dX9_in_7 (lv_at hl 2 rfl) ?_
    refine W.lcmp hx hb dX9_in_9 ?_
    refine lv_if_gt (tgt := 17) hx hb dX9_in_10 (by decide) (fun c_2 => ?_) (fun c_2 => ?_)
    · have h := ite_t h c_2
      refine lv_iconst (v := (0 : Int32)) hx hb dX9_in_17 (by decide) ?_
      cases h
      exact ret _ _ _ _ dX9_in_18 (by decide) hG
    · have h := ite_f h c_2
      refine lv_iconst (v := (1 : Int32)) hx hb dX9_in_13 (by decide) ?_
      refine lv_goto (tgt := 18) hx hb dX9_in_14 (by decide) ?_
      cases h
      exact ret _ _ _ _ dX9_in_18 (by decide) hG
set_option maxRecDepth 100000 in
set_option maxHeartbeats 4000000 in
theorem mX9_has (l : Launch) (dC : Nat → ClassId) (dI : Nat → Nat → Nat) (cI cJ : ClassId) (x0 : Int32) (x1 : Int32) {res : Int32} (hD : DX9_has x0 x1 = some res) : Met l yX9_has (WZ yX9_has cX9_has 2 (some .boolean)) (RM 0 0) (PC dC dI cI cJ [.int x0, .int x1] []) (QI dC dI [] [] res) 0 0 (FA []) := by
  refine r_metZ (by decide +kernel) (Nat.le_of_ble_eq_true rfl) ?_
  intro p e s m args below meth c A H0 QQ X ret ls hl hG
  have X : Cx p m c cX9_has 2 s args RX9 dC dI cI cJ meth (some .boolean) := X
  have hx := X.1.1
  have hb := X.1.2.1
  have hl : lv_has ls 2 [(0, .int x0), (1, .int x1)] := hl
  have h := hD
  unfold DX9_has at h
  clear hD
  refine lv_iload_n hx hb dX9_has_0 rfl (lv_at hl 0 rfl) ?_
  refine lv_iload_n hx hb dX9_has_1 rfl (lv_at hl 1 rfl) ?_
  refine lv_ishr hx hb dX9_has_2 ?_
  refine lv_iconst (v := (1 : Int32)) hx hb dX9_has_3 (by decide) ?_
  refine lv_iand hx hb dX9_has_4 ?_
  refine lv_iconst (v := (1 : Int32)) hx hb dX9_has_5 (by decide) ?_
  refine lv_icmp_ne (tgt := 13) hx hb dX9_has_6 (by decide) (fun c_1 => ?_) (fun c_1 => ?_)
  · have h := ite_f h c_1
    refine lv_iconst (v := (0 : Int32)) hx hb dX9_has_13 (by decide) ?_
    cases h
    exact ret _ _ _ _ dX9_has_14 (by decide) hG
  · have h := ite_t h c_1
    refine lv_iconst (v := (1 : Int32)) hx hb dX9_has_9 (by decide) ?_
    refine lv_goto (tgt := 14) hx hb dX9_has_10 (by decide) ?_
    cases h
    exact ret _ _ _ _ dX9_has_14 (by decide) hG
set_option maxRecDepth 100000 in
set_option maxHeartbeats 4000000 in
theorem mX9_noRock (l : Launch) (dC : Nat → ClassId) (dI : Nat → Nat → Nat) (cI cJ : ClassId) (a : Nat → Nat) (c_length : Int32) (c_text : Nat → Int32) (c_stands : Nat → Int32) (c_homeFar : Nat → Int32) (c_nets : Nat → Int32) (c_netAt : Nat → Int32) (c_netWide : Nat → Int32) (c_netFrom : Nat → Int32) (c_netTo : Nat → Int32) (c_priceX : Nat → Int32) (c_priceY : Nat → Int32) (c_many : Nat → Int32) (c_days : Nat → Int32) (c_aims : Nat → Int32) (c_speeds : Nat → Int32) (c_kinds : Nat → Int32) (c_keptMany : Int32) (c_undoMany : Int32) (c_undos : Nat → Int32) (c_spot : Int32) (c_told : Nat → Int32) (c_to : Nat → Int32) (c_stood : Nat → Int32) (c_home : Nat → Int32) (c_lost : Nat → Int32) (c_out : Int32) (c_fewest : Nat → Int32) (c_ways : Nat → Int64) (c_next : Nat → Int64) (c_held : Nat → Int32) (x1 : Int32) {n_stands : Nat → Int32} {n_homeFar : Nat → Int32} {n_nets : Nat → Int32} {n_priceX : Nat → Int32} {n_priceY : Nat → Int32} {n_many : Nat → Int32} (hD : DX9_noRock x1 c_stands c_homeFar c_nets c_priceX c_priceY c_many = some (n_stands, n_homeFar, n_nets, n_priceX, n_priceY, n_many)) : Met l yX9_noRock (WZ yX9_noRock cX9_noRock 2 none) (RM 0 0) (PC dC dI cI cJ [.ref (a 0), .int x1] (W_X9 a cI cJ c_length c_text c_stands c_homeFar c_nets c_netAt c_netWide c_netFrom c_netTo c_priceX c_priceY c_many c_days c_aims c_speeds c_kinds c_keptMany c_undoMany c_undos c_spot c_told c_to c_stood c_home c_lost c_out c_fewest c_ways c_next c_held)) (QV dC dI (W_X9 a cI cJ c_length c_text c_stands c_homeFar c_nets c_netAt c_netWide c_netFrom c_netTo c_priceX c_priceY c_many c_days c_aims c_speeds c_kinds c_keptMany c_undoMany c_undos c_spot c_told c_to c_stood c_home c_lost c_out c_fewest c_ways c_next c_held) (W_X9 a cI cJ c_length c_text n_stands n_homeFar n_nets c_netAt c_netWide c_netFrom c_netTo n_priceX n_priceY n_many c_days c_aims c_speeds c_kinds c_keptMany c_undoMany c_undos c_spot c_told c_to c_stood c_home c_lost c_out c_fewest c_ways c_next c_held)) 0 0 (FA (W_X9 a cI cJ c_length c_text c_stands c_homeFar c_nets c_netAt c_netWide c_netFrom c_netTo c_priceX c_priceY c_many c_days c_aims c_speeds c_kinds c_keptMany c_undoMany c_undos c_spot c_told c_to c_stood c_home c_lost c_out c_fewest c_ways c_next c_held)) := by
  refine r_metV (by decide +kernel) (Nat.le_of_ble_eq_true rfl) ?_
  intro p e s m args below meth c A H0 QQ X ret ls hl hG
  have X : Cx p m c cX9_noRock 2 s args RX9 dC dI cI cJ meth none := X
  have hx := X.1.1
  have hb := X.1.2.1
  have hl : lv_has ls 2 [(0, .ref (a 0)), (1, .int x1)] := hl
  have h := hD
  unfold DX9_noRock at h
  clear hD
  refine lv_aload_n hx hb dX9_noRock_0 rfl (lv_at hl 0 rfl) ?_
  refine r_get X hG in_X9 rfl 2 (by decide) w_633 0 rfl rfl dX9_noRock_1 ?_
  refine lv_iload_n hx hb dX9_noRock_4 rfl (lv_at hl 1 rfl) ?_
  refine lv_iconst (v := (0 : Int32)) hx hb dX9_noRock_5 (by decide) ?_
  obtain ⟨g_1, h⟩ := gd h
  refine r_iast X hG 2 (ws' := (W_X9 a cI cJ c_length c_text (upd c_stands x1.toNatClampNeg (0 : Int32)) c_homeFar c_nets c_netAt c_netWide c_netFrom c_netTo c_priceX c_priceY c_many c_days c_aims c_speeds c_kinds c_keptMany c_undoMany c_undos c_spot c_told c_to c_stood c_home c_lost c_out c_fewest c_ways c_next c_held)) rfl g_1 rfl dX9_noRock_6 (fun H locs hG => ?_)
  refine lv_aload_n hx hb dX9_noRock_7 rfl (lv_at hl 0 rfl) ?_
  refine r_get X hG in_X9 rfl 3 (by decide) w_634 0 rfl rfl dX9_noRock_8 ?_
  refine lv_iload_n hx hb dX9_noRock_11 rfl (lv_at hl 1 rfl) ?_
  refine lv_bipush (v := (12 : Int32)) hx hb dX9_noRock_12 (by decide) ?_
  obtain ⟨g_2, h⟩ := gd h
  refine r_iast X hG 3 (ws' := (W_X9 a cI cJ c_length c_text (upd c_stands x1.toNatClampNeg (0 : Int32)) (upd c_homeFar x1.toNatClampNeg (12 : Int32)) c_nets c_netAt c_netWide c_netFrom c_netTo c_priceX c_priceY c_many c_days c_aims c_speeds c_kinds c_keptMany c_undoMany c_undos c_spot c_told c_to c_stood c_home c_lost c_out c_fewest c_ways c_next c_held)) rfl g_2 rfl dX9_noRock_14 (fun H locs hG => ?_)
  refine lv_aload_n hx hb dX9_noRock_15 rfl (lv_at hl 0 rfl) ?_
  refine r_get X hG in_X9 rfl 4 (by decide) w_635 0 rfl rfl dX9_noRock_16 ?_
  refine lv_iload_n hx hb dX9_noRock_19 rfl (lv_at hl 1 rfl) ?_
  refine lv_iconst (v := (0 : Int32)) hx hb dX9_noRock_20 (by decide) ?_
  obtain ⟨g_3, h⟩ := gd h
  refine r_iast X hG 4 (ws' := (W_X9 a cI cJ c_length c_text (upd c_stands x1.toNatClampNeg (0 : Int32)) (upd c_homeFar x1.toNatClampNeg (12 : Int32)) (upd c_nets x1.toNatClampNeg (0 : Int32)) c_netAt c_netWide c_netFrom c_netTo c_priceX c_priceY c_many c_days c_aims c_speeds c_kinds c_keptMany c_undoMany c_undos c_spot c_told c_to c_stood c_home c_lost c_out c_fewest c_ways c_next c_held)) rfl g_3 rfl dX9_noRock_21 (fun H locs hG => ?_)
  refine lv_aload_n hx hb dX9_noRock_22 rfl (lv_at hl 0 rfl) ?_
  refine r_get X hG in_X9 rfl 9 (by decide) w_640 0 rfl rfl dX9_noRock_23 ?_
  refine lv_iload_n hx hb dX9_noRock_26 rfl (lv_at hl 1 rfl) ?_
  refine lv_iconst (v := (0 : Int32)) hx hb dX9_noRock_27 (by decide) ?_
  obtain ⟨g_4, h⟩ := gd h
  refine r_iast X hG 9 (ws' := (W_X9 a cI cJ c_length c_text (upd c_stands x1.toNatClampNeg (0 : Int32)) (upd c_homeFar x1.toNatClampNeg (12 : Int32)) (upd c_nets x1.toNatClampNeg (0 : Int32)) c_netAt c_netWide c_netFrom c_netTo (upd c_priceX x1.toNatClampNeg (0 : Int32)) c_priceY c_many c_days c_aims c_speeds c_kinds c_keptMany c_undoMany c_undos c_spot c_told c_to c_stood c_home c_lost c_out c_fewest c_ways c_next c_held)) rfl g_4 rfl dX9_noRock_28 (fun H locs hG => ?_)
  refine lv_aload_n hx hb dX9_noRock_29 rfl (lv_at hl 0 rfl) ?_
  refine r_get X hG in_X9 rfl 10 (by decide) w_641 0 rfl rfl dX9_noRock_30 ?_
  refine lv_iload_n hx hb dX9_noRock_33 rfl (lv_at hl 1 rfl) ?_
  refine lv_bipush (v := (7 : Int32)) hx hb dX9_noRock_34 (by decide) ?_
  obtain ⟨g_5, h⟩ := gd h
  refine r_iast X hG 10 (ws' := (W_X9 a cI cJ c_length c_text (upd c_stands x1.toNatClampNeg (0 : Int32)) (upd c_homeFar x1.toNatClampNeg (12 : Int32)) (upd c_nets x1.toNatClampNeg (0 : Int32)) c_netAt c_netWide c_netFrom c_netTo (upd c_priceX x1.toNatClampNeg (0 : Int32)) (upd c_priceY x1.toNatClampNeg (7 : Int32)) c_many c_days c_aims c_speeds c_kinds c_keptMany c_undoMany c_undos c_spot c_told c_to c_stood c_home c_lost c_out c_fewest c_ways c_next c_held)) rfl g_5 rfl dX9_noRock_36 (fun H locs hG => ?_)
  refine lv_aload_n hx hb dX9_noRock_37 rfl (lv_at hl 0 rfl) ?_
  refine r_get X hG in_X9 rfl 11 (by decide) w_642 0 rfl rfl dX9_noRock_38 ?_
  refine lv_iload_n hx hb dX9_noRock_41 rfl (lv_at hl 1 rfl) ?_
  refine lv_iconst (v := (0 : Int32)) hx hb dX9_noRock_42 (by decide) ?_
  obtain ⟨g_6, h⟩ := gd h
  refine r_iast X hG 11 (ws' := (W_X9 a cI cJ c_length c_text (upd c_stands x1.toNatClampNeg (0 : Int32)) (upd c_homeFar x1.toNatClampNeg (12 : Int32)) (upd c_nets x1.toNatClampNeg (0 : Int32)) c_netAt c_netWide c_netFrom c_netTo (upd c_priceX x1.toNatClampNeg (0 : Int32)) (upd c_priceY x1.toNatClampNeg (7 : Int32)) (upd c_many x1.toNatClampNeg (0 : Int32)) c_days c_aims c_speeds c_kinds c_keptMany c_undoMany c_undos c_spot c_told c_to c_stood c_home c_lost c_out c_fewest c_ways c_next c_held)) rfl g_6 rfl dX9_noRock_43 (fun H locs hG => ?_)
  cases h
  exact ret _ _ _ _ dX9_noRock_44 hG
set_option maxRecDepth 100000 in
set_option maxHeartbeats 4000000 in
theorem mX9_write (l : Launch) (dC : Nat → ClassId) (dI : Nat → Nat → Nat) (cI cJ : ClassId) (a : Nat → Nat) (c_length : Int32) (c_text : Nat → Int32) (c_stands : Nat → Int32) (c_homeFar : Nat → Int32) (c_nets : Nat → Int32) (c_netAt : Nat → Int32) (c_netWide : Nat → Int32) (c_netFrom : Nat → Int32) (c_netTo : Nat → Int32) (c_priceX : Nat → Int32) (c_priceY : Nat → Int32) (c_many : Nat → Int32) (c_days : Nat → Int32) (c_aims : Nat → Int32) (c_speeds : Nat → Int32) (c_kinds : Nat → Int32) (c_keptMany : Int32) (c_undoMany : Int32) (c_undos : Nat → Int32) (c_spot : Int32) (c_told : Nat → Int32) (c_to : Nat → Int32) (c_stood : Nat → Int32) (c_home : Nat → Int32) (c_lost : Nat → Int32) (c_out : Int32) (c_fewest : Nat → Int32) (c_ways : Nat → Int64) (c_next : Nat → Int64) (c_held : Nat → Int32) (x1 : Int32) (x2 : Int64) {res : Int32} {n_length : Int32} {n_text : Nat → Int32} (hD : DX9_write x1 x2 c_length c_text = some (res, n_length, n_text)) : Met l yX9_write (WZ yX9_write cX9_write 5 (some .int)) (RM 1 25) (PC dC dI cI cJ [.ref (a 0), .int x1, .long x2] (W_X9 a cI cJ c_length c_text c_stands c_homeFar c_nets c_netAt c_netWide c_netFrom c_netTo c_priceX c_priceY c_many c_days c_aims c_speeds c_kinds c_keptMany c_undoMany c_undos c_spot c_told c_to c_stood c_home c_lost c_out c_fewest c_ways c_next c_held)) (QI dC dI (W_X9 a cI cJ c_length c_text c_stands c_homeFar c_nets c_netAt c_netWide c_netFrom c_netTo c_priceX c_priceY c_many c_days c_aims c_speeds c_kinds c_keptMany c_undoMany c_undos c_spot c_told c_to c_stood c_home c_lost c_out c_fewest c_ways c_next c_held) (W_X9 a cI cJ n_length n_text c_stands c_homeFar c_nets c_netAt c_netWide c_netFrom c_netTo c_priceX c_priceY c_many c_days c_aims c_speeds c_kinds c_keptMany c_undoMany c_undos c_spot c_told c_to c_stood c_home c_lost c_out c_fewest c_ways c_next c_held) res) 0 0 (FA (W_X9 a cI cJ c_length c_text c_stands c_homeFar c_nets c_netAt c_netWide c_netFrom c_netTo c_priceX c_priceY c_many c_days c_aims c_speeds c_kinds c_keptMany c_undoMany c_undos c_spot c_told c_to c_stood c_home c_lost c_out c_fewest c_ways c_next c_held)) := by
  refine r_metI (by decide +kernel) (Nat.le_of_ble_eq_true rfl) ?_
  intro p e s m args below meth c A H0 QQ X ret ls hl hG
  have X : Cx p m c cX9_write 5 s args RX9 dC dI cI cJ meth (some .int) := X
  have hx := X.1.1
  have hb := X.1.2.1
  have hl : lv_has ls 5 [(0, .ref (a 0)), (1, .int x1), (2, .long x2)] := hl
  have L34 : ∀ (n : Nat) (x4 : Int32) (c_length : Int32) (c_text : Nat → Int32) (ec_length : Int32) (ec_text : Nat → Int32), DX9_write_L34 x2 n x4 c_length c_text = some (ec_length, ec_text) → (∀ (ls : Array Slot) (H : Heap) (locs : List Loc), lv_has ls 5 [(0, .ref (a 0))] → G dC dI A H0 (W_X9 a cI cJ ec_length ec_text c_stands c_homeFar c_nets c_netAt c_netWide c_netFrom c_netTo c_priceX c_priceY c_many c_days c_aims c_speeds c_kinds c_keptMany c_undoMany c_undos c_spot c_told c_to c_stood c_home c_lost c_out c_fewest c_ways c_next c_held) H locs → W p l e (RM 1 25) s m args below meth c H locs 0 0 QQ (F0 m 76 ls [])) → ∀ (ls : Array Slot) (H : Heap) (locs : List Loc), lv_has ls 5 [(0, .ref (a 0)), (2, .long x2), (4, .int x4)] → G dC dI A H0 (W_X9 a cI cJ c_length c_text c_stands c_homeFar c_nets c_netAt c_netWide c_netFrom c_netTo c_priceX c_priceY c_many c_days c_aims c_speeds c_kinds c_keptMany c_undoMany c_undos c_spot c_told c_to c_stood c_home c_lost c_out c_fewest c_ways c_next c_held) H locs → W p l e (RM 1 25) s m args below meth c H locs 0 0 QQ (F0 m 34 ls []) := by
    intro  n
    induction n with
    | zero => intro x4 c_length c_text ec_length ec_text h; exact it_zero h
    | succ n ih =>
      intro x4 c_length c_text ec_length ec_text h0 K0 ls H locs hl hG
      obtain ⟨w, h, hi, hr⟩ := it_succ h0
      have h : DX9_write_L34s x2 x4 c_length c_text = some w := h
      have KC : ∀ (x4 : Int32) (c_length : Int32) (c_text : Nat → Int32), w = .inl (x4, c_length, c_text) → ∀ (ls : Array Slot) (H : Heap) (locs : List Loc), lv_has ls 5 [(0, .ref (a 0)), (2, .long x2), (4, .int x4)] → G dC dI A H0 (W_X9 a cI cJ c_length c_text c_stands c_homeFar c_nets c_netAt c_netWide c_netFrom c_netTo c_priceX c_priceY c_many c_days c_aims c_speeds c_kinds c_keptMany c_undoMany c_undos c_spot c_told c_to c_stood c_home c_lost c_out c_fewest c_ways c_next c_held) H locs → W p l e (RM 1 25) s m args below meth c H locs 0 0 QQ (F0 m 34 ls []) := fun b0 b1 b2 e ls H locs hl hG => ih b0 b1 b2 ec_length ec_text (hi _ e) K0 ls H locs hl hG
      have KX : ∀ (c_length : Int32) (c_text : Nat → Int32), w = .inr (c_length, c_text) → ∀ (ls : Array Slot) (H : Heap) (locs : List Loc), lv_has ls 5 [(0, .ref (a 0))] → G dC dI A H0 (W_X9 a cI cJ c_length c_text c_stands c_homeFar c_nets c_netAt c_netWide c_netFrom c_netTo c_priceX c_priceY c_many c_days c_aims c_speeds c_kinds c_keptMany c_undoMany c_undos c_spot c_told c_to c_stood c_home c_lost c_out c_fewest c_ways c_next c_held) H locs → W p l e (RM 1 25) s m args below meth c H locs 0 0 QQ (F0 m 76 ls []) := fun b0 b1 e ls H locs hl hG => by cases hr _ e; exact K0 ls H locs hl hG
      clear h0 hi hr K0 ih
      unfold DX9_write_L34s at h
      refine lv_iload hx hb dX9_write_34 (lv_at hl 2 rfl) ?_
      refine lv_if_lt (tgt := 76) hx hb dX9_write_36 (by decide) (fun c_5 => ?_) (fun c_5 => ?_)
      · have h := ite_t h c_5
        exact KX _ _ (Option.some.inj h).symm _ _ _ (lv_sub hl [0] rfl) hG
      · have h := ite_f h c_5
        refine lv_aload_n hx hb dX9_write_39 rfl (lv_at hl 0 rfl) ?_
        refine r_get X hG in_X9 rfl 1 (by decide) w_632 0 rfl rfl dX9_write_40 ?_
        refine lv_aload_n hx hb dX9_write_43 rfl (lv_at hl 0 rfl) ?_
        refine r_get X hG in_X9 rfl 0 (by decide) w_631 0 rfl rfl dX9_write_44 ?_
        refine lv_lload_n hx hb dX9_write_47 rfl (lv_at hl 1 rfl) ?_
        refine lv_bipush (v := (8 : Int32)) hx hb dX9_write_48 (by decide) ?_
        refine lv_iload hx hb dX9_write_50 (lv_at hl 2 rfl) ?_
        refine lv_imul hx hb dX9_write_52 ?_
        refine lv_lshr (v := ((x2 >>> (((8 : Int32) * x4).toInt64 &&& 63)))) hx hb dX9_write_53 rfl ?_
        refine lv_ldc2 (v := (255 : Int64)) hx hb X.1.2.2.2.1 (X.1.2.2.2.2 _ w_731) dX9_write_54 ?_
        refine lv_land hx hb dX9_write_57 ?_
        refine lv_l2i (v := ((((x2 >>> (((8 : Int32) * x4).toInt64 &&& 63))) &&& (255 : Int64)).toInt32)) hx hb dX9_write_58 rfl ?_
        obtain ⟨g_6, h⟩ := gd h
        refine r_iast X hG 1 (ws' := (W_X9 a cI cJ c_length (upd c_text c_length.toNatClampNeg ((((x2 >>> (((8 : Int32) * x4).toInt64 &&& 63))) &&& (255 : Int64)).toInt32)) c_stands c_homeFar c_nets c_netAt c_netWide c_netFrom c_netTo c_priceX c_priceY c_many c_days c_aims c_speeds c_kinds c_keptMany c_undoMany c_undos c_spot c_told c_to c_stood c_home c_lost c_out c_fewest c_ways c_next c_held)) rfl g_6 rfl dX9_write_59 (fun H locs hG => ?_)
        refine lv_aload_n hx hb dX9_write_60 rfl (lv_at hl 0 rfl) ?_
        refine lv_dup hx hb dX9_write_61 rfl ?_
        refine r_get X hG in_X9 rfl 0 (by decide) w_631 0 rfl rfl dX9_write_62 ?_
        refine lv_iconst (v := (1 : Int32)) hx hb dX9_write_65 (by decide) ?_
        refine lv_iadd hx hb dX9_write_66 ?_
        refine r_put X hG in_X9 rfl tyX9 tyX9_ok nmX9 0 (by decide) rfl (by decide +kernel) w_631 0 (ws' := (W_X9 a cI cJ (c_length + (1 : Int32)) (upd c_text c_length.toNatClampNeg ((((x2 >>> (((8 : Int32) * x4).toInt64 &&& 63))) &&& (255 : Int64)).toInt32)) c_stands c_homeFar c_nets c_netAt c_netWide c_netFrom c_netTo c_priceX c_priceY c_many c_days c_aims c_speeds c_kinds c_keptMany c_undoMany c_undos c_spot c_told c_to c_stood c_home c_lost c_out c_fewest c_ways c_next c_held)) rfl (Nat.le_of_ble_eq_true rfl) rfl dX9_write_67 (fun H locs hG => ?_)
        refine lv_iinc (v := (x4 + (-1 : Int32))) (lv' := [(4, .int (x4 + (-1 : Int32))), (0, .ref (a 0)), (2, .long x2)]) hx hb dX9_write_70 hl (k := 2) rfl rfl (by decide) rfl (fun ls hl => ?_)
        refine lv_goto (tgt := 34) hx hb dX9_write_73 (by decide) ?_
        exact KC _ _ _ (Option.some.inj h).symm _ _ _ (lv_sub hl [1, 2, 0] rfl) hG
  have h := hD
  unfold DX9_write at h
  clear hD
  refine lv_iload_n hx hb dX9_write_0 rfl (lv_at hl 1 rfl) ?_
  refine lv_i2l (v := (x1.toInt64)) hx hb dX9_write_1 rfl ?_
  refine lv_lconst (v := (1 : Int64)) hx hb dX9_write_2 (by decide) ?_
  refine lv_ldc2 (v := (8 : Int64)) hx hb X.1.2.2.2.1 (X.1.2.2.2.2 _ w_727) dX9_write_3 ?_
  obtain ⟨r_1, hz_2, h⟩ := bd1_some h
  refine aft_i (ws' := (W_X9 a cI cJ c_length c_text c_stands c_homeFar c_nets c_netAt c_netWide c_netFrom c_netTo c_priceX c_priceY c_many c_days c_aims c_speeds c_kinds c_keptMany c_undoMany c_undos c_spot c_told c_to c_stood c_home c_lost c_out c_fewest c_ways c_next c_held)) (run_S (rest := []) X hG hl.1 (mX9_in l dC dI cI cJ (x1.toInt64) (1 : Int64) (8 : Int64) hz_2) gi_S_X9_92 hd_S_yX9_in ⟨rfl, rfl⟩ rfl ⟨Nat.le_of_ble_eq_true rfl, Nat.le_of_ble_eq_true rfl⟩ [] (by decide) rfl rfl (Nat.le_of_ble_eq_true rfl) ⟨Nat.le_of_ble_eq_true rfl, Nat.le_of_ble_eq_true rfl⟩ dX9_write_6) hG [] rfl rfl rfl (fun H locs hG => ?_)
  clear hz_2
  refine lv_if_ne (tgt := 14) hx hb dX9_write_9 (by decide) (fun c_3 => ?_) (fun c_3 => ?_)
  · have h := ite_f h c_3
    refine lv_aload_n hx hb dX9_write_14 rfl (lv_at hl 0 rfl) ?_
    refine r_get X hG in_X9 rfl 0 (by decide) w_631 0 rfl rfl dX9_write_15 ?_
    refine lv_iload_n hx hb dX9_write_18 rfl (lv_at hl 1 rfl) ?_
    refine lv_iadd hx hb dX9_write_19 ?_
    refine lv_sipush (v := (300 : Int32)) hx hb dX9_write_20 (by decide) ?_
    refine lv_icmp_le (tgt := 29) hx hb dX9_write_23 (by decide) (fun c_4 => ?_) (fun c_4 => ?_)
    · have h := ite_t h c_4
      refine lv_iload_n hx hb dX9_write_29 rfl (lv_at hl 1 rfl) ?_
      refine lv_iconst (v := (1 : Int32)) hx hb dX9_write_30 (by decide) ?_
      refine lv_isub hx hb dX9_write_31 ?_
      refine lv_istore (lv' := [(4, .int (x1 - (1 : Int32))), (0, .ref (a 0)), (1, .int x1), (2, .long x2)]) hx hb dX9_write_32 hl (by decide) rfl (fun ls hl => ?_)
      obtain ⟨k_length_7, k_text_8, hz, h⟩ := bd2_some h
      refine L34  FU (x1 - (1 : Int32)) c_length c_text _ _ hz (fun ls H locs hl hG => ?_) _ _ _ (lv_sub hl [1, 3, 0] rfl) hG
      clear hz
      refine lv_aload_n hx hb dX9_write_76 rfl (lv_at hl 0 rfl) ?_
      refine r_get X hG in_X9 rfl 0 (by decide) w_631 0 rfl rfl dX9_write_77 ?_
      cases h
      exact ret _ _ _ _ dX9_write_80 hG
    · have h := ite_f h c_4
      refine lv_bipush (v := (-3 : Int32)) hx hb dX9_write_26 (by decide) ?_
      cases h
      exact ret _ _ _ _ dX9_write_28 hG
  · have h := ite_t h c_3
    refine lv_iconst (v := (-1 : Int32)) hx hb dX9_write_12 (by decide) ?_
    cases h
    exact ret _ _ _ _ dX9_write_13 hG
set_option maxRecDepth 100000 in
set_option maxHeartbeats 4000000 in
theorem mX9_wipe (l : Launch) (dC : Nat → ClassId) (dI : Nat → Nat → Nat) (cI cJ : ClassId) (a : Nat → Nat) (c_length : Int32) (c_text : Nat → Int32) (c_stands : Nat → Int32) (c_homeFar : Nat → Int32) (c_nets : Nat → Int32) (c_netAt : Nat → Int32) (c_netWide : Nat → Int32) (c_netFrom : Nat → Int32) (c_netTo : Nat → Int32) (c_priceX : Nat → Int32) (c_priceY : Nat → Int32) (c_many : Nat → Int32) (c_days : Nat → Int32) (c_aims : Nat → Int32) (c_speeds : Nat → Int32) (c_kinds : Nat → Int32) (c_keptMany : Int32) (c_undoMany : Int32) (c_undos : Nat → Int32) (c_spot : Int32) (c_told : Nat → Int32) (c_to : Nat → Int32) (c_stood : Nat → Int32) (c_home : Nat → Int32) (c_lost : Nat → Int32) (c_out : Int32) (c_fewest : Nat → Int32) (c_ways : Nat → Int64) (c_next : Nat → Int64) (c_held : Nat → Int32) {res : Int32} {n_length : Int32} (hD : DX9_wipe c_length = some (res, n_length)) : Met l yX9_wipe (WZ yX9_wipe cX9_wipe 2 (some .int)) (RM 0 0) (PC dC dI cI cJ [.ref (a 0)] (W_X9 a cI cJ c_length c_text c_stands c_homeFar c_nets c_netAt c_netWide c_netFrom c_netTo c_priceX c_priceY c_many c_days c_aims c_speeds c_kinds c_keptMany c_undoMany c_undos c_spot c_told c_to c_stood c_home c_lost c_out c_fewest c_ways c_next c_held)) (QI dC dI (W_X9 a cI cJ c_length c_text c_stands c_homeFar c_nets c_netAt c_netWide c_netFrom c_netTo c_priceX c_priceY c_many c_days c_aims c_speeds c_kinds c_keptMany c_undoMany c_undos c_spot c_told c_to c_stood c_home c_lost c_out c_fewest c_ways c_next c_held) (W_X9 a cI cJ n_length c_text c_stands c_homeFar c_nets c_netAt c_netWide c_netFrom c_netTo c_priceX c_priceY c_many c_days c_aims c_speeds c_kinds c_keptMany c_undoMany c_undos c_spot c_told c_to c_stood c_home c_lost c_out c_fewest c_ways c_next c_held) res) 0 0 (FA (W_X9 a cI cJ c_length c_text c_stands c_homeFar c_nets c_netAt c_netWide c_netFrom c_netTo c_priceX c_priceY c_many c_days c_aims c_speeds c_kinds c_keptMany c_undoMany c_undos c_spot c_told c_to c_stood c_home c_lost c_out c_fewest c_ways c_next c_held)) := by
  refine r_metI (by decide +kernel) (Nat.le_of_ble_eq_true rfl) ?_
  intro p e s m args below meth c A H0 QQ X ret ls hl hG
  have X : Cx p m c cX9_wipe 2 s args RX9 dC dI cI cJ meth (some .int) := X
  have hx := X.1.1
  have hb := X.1.2.1
  have hl : lv_has ls 2 [(0, .ref (a 0))] := hl
  have h := hD
  unfold DX9_wipe at h
  clear hD
  refine lv_aload_n hx hb dX9_wipe_0 rfl (lv_at hl 0 rfl) ?_
  refine r_get X hG in_X9 rfl 0 (by decide) w_631 0 rfl rfl dX9_wipe_1 ?_
  refine lv_istore_n (lv' := [(1, .int c_length), (0, .ref (a 0))]) hx hb dX9_wipe_4 rfl hl (by decide) rfl (fun ls hl => ?_)
  refine lv_aload_n hx hb dX9_wipe_5 rfl (lv_at hl 1 rfl) ?_
  refine lv_iconst (v := (0 : Int32)) hx hb dX9_wipe_6 (by decide) ?_
  refine r_put X hG in_X9 rfl tyX9 tyX9_ok nmX9 0 (by decide) rfl (by decide +kernel) w_631 0 (ws' := (W_X9 a cI cJ (0 : Int32) c_text c_stands c_homeFar c_nets c_netAt c_netWide c_netFrom c_netTo c_priceX c_priceY c_many c_days c_aims c_speeds c_kinds c_keptMany c_undoMany c_undos c_spot c_told c_to c_stood c_home c_lost c_out c_fewest c_ways c_next c_held)) rfl (Nat.le_of_ble_eq_true rfl) rfl dX9_wipe_7 (fun H locs hG => ?_)
  refine lv_iload_n hx hb dX9_wipe_10 rfl (lv_at hl 0 rfl) ?_
  cases h
  exact ret _ _ _ _ dX9_wipe_11 hG
set_option maxRecDepth 100000 in
set_option maxHeartbeats 4000000 in
theorem mX9_byteAt (l : Launch) (dC : Nat → ClassId) (dI : Nat → Nat → Nat) (cI cJ : ClassId) (a : Nat → Nat) (c_length : Int32) (c_text : Nat → Int32) (c_stands : Nat → Int32) (c_homeFar : Nat → Int32) (c_nets : Nat → Int32) (c_netAt : Nat → Int32) (c_netWide : Nat → Int32) (c_netFrom : Nat → Int32) (c_netTo : Nat → Int32) (c_priceX : Nat → Int32) (c_priceY : Nat → Int32) (c_many : Nat → Int32) (c_days : Nat → Int32) (c_aims : Nat → Int32) (c_speeds : Nat → Int32) (c_kinds : Nat → Int32) (c_keptMany : Int32) (c_undoMany : Int32) (c_undos : Nat → Int32) (c_spot : Int32) (c_told : Nat → Int32) (c_to : Nat → Int32) (c_stood : Nat → Int32) (c_home : Nat → Int32) (c_lost : Nat → Int32) (c_out : Int32) (c_fewest : Nat → Int32) (c_ways : Nat → Int64) (c_next : Nat → Int64) (c_held : Nat → Int32) (x1 : Int32) {res : Int32} (hD : DX9_byteAt x1 c_length c_text = some res) : Met l yX9_byteAt (WZ yX9_byteAt cX9_byteAt 2 (some .int)) (RM 0 0) (PC dC dI cI cJ [.ref (a 0), .int x1] (W_X9 a cI cJ c_length c_text c_stands c_homeFar c_nets c_netAt c_netWide c_netFrom c_netTo c_priceX c_priceY c_many c_days c_aims c_speeds c_kinds c_keptMany c_undoMany c_undos c_spot c_told c_to c_stood c_home c_lost c_out c_fewest c_ways c_next c_held)) (QI dC dI (W_X9 a cI cJ c_length c_text c_stands c_homeFar c_nets c_netAt c_netWide c_netFrom c_netTo c_priceX c_priceY c_many c_days c_aims c_speeds c_kinds c_keptMany c_undoMany c_undos c_spot c_told c_to c_stood c_home c_lost c_out c_fewest c_ways c_next c_held) (W_X9 a cI cJ c_length c_text c_stands c_homeFar c_nets c_netAt c_netWide c_netFrom c_netTo c_priceX c_priceY c_many c_days c_aims c_speeds c_kinds c_keptMany c_undoMany c_undos c_spot c_told c_to c_stood c_home c_lost c_out c_fewest c_ways c_next c_held) res) 0 0 (FA (W_X9 a cI cJ c_length c_text c_stands c_homeFar c_nets c_netAt c_netWide c_netFrom c_netTo c_priceX c_priceY c_many c_days c_aims c_speeds c_kinds c_keptMany c_undoMany c_undos c_spot c_told c_to c_stood c_home c_lost c_out c_fewest c_ways c_next c_held)) := by
  refine r_metI (by decide +kernel) (Nat.le_of_ble_eq_true rfl) ?_
  intro p e s m args below meth c A H0 QQ X ret ls hl hG
  have X : Cx p m c cX9_byteAt 2 s args RX9 dC dI cI cJ meth (some .int) := X
  have hx := X.1.1
  have hb := X.1.2.1
  have hl : lv_has ls 2 [(0, .ref (a 0)), (1, .int x1)] := hl
  have h := hD
  unfold DX9_byteAt at h
  clear hD
  refine lv_iload_n hx hb dX9_byteAt_0 rfl (lv_at hl 1 rfl) ?_
  refine lv_aload_n hx hb dX9_byteAt_1 rfl (lv_at hl 0 rfl) ?_
  refine r_get X hG in_X9 rfl 0 (by decide) w_631 0 rfl rfl dX9_byteAt_2 ?_
  refine lv_icmp_ge (tgt := 17) hx hb dX9_byteAt_5 (by decide) (fun c_1 => ?_) (fun c_1 => ?_)
  · have h := ite_t h c_1
    refine lv_iconst (v := (0 : Int32)) hx hb dX9_byteAt_17 (by decide) ?_
    cases h
    exact ret _ _ _ _ dX9_byteAt_18 hG
  · have h := ite_f h c_1
    refine lv_aload_n hx hb dX9_byteAt_8 rfl (lv_at hl 0 rfl) ?_
    refine r_get X hG in_X9 rfl 1 (by decide) w_632 0 rfl rfl dX9_byteAt_9 ?_
    refine lv_iload_n hx hb dX9_byteAt_12 rfl (lv_at hl 1 rfl) ?_
    obtain ⟨g_2, h⟩ := gd h
    refine r_iald X hG 1 rfl g_2 dX9_byteAt_13 ?_
    refine lv_goto (tgt := 18) hx hb dX9_byteAt_14 (by decide) ?_
    cases h
    exact ret _ _ _ _ dX9_byteAt_18 hG
set_option maxRecDepth 100000 in
set_option maxHeartbeats 4000000 in
theorem mX9_figures (l : Launch) (dC : Nat → ClassId) (dI : Nat → Nat → Nat) (cI cJ : ClassId) (a : Nat → Nat) (c_length : Int32) (c_text : Nat → Int32) (c_stands : Nat → Int32) (c_homeFar : Nat → Int32) (c_nets : Nat → Int32) (c_netAt : Nat → Int32) (c_netWide : Nat → Int32) (c_netFrom : Nat → Int32) (c_netTo : Nat → Int32) (c_priceX : Nat → Int32) (c_priceY : Nat → Int32) (c_many : Nat → Int32) (c_days : Nat → Int32) (c_aims : Nat → Int32) (c_speeds : Nat → Int32) (c_kinds : Nat → Int32) (c_keptMany : Int32) (c_undoMany : Int32) (c_undos : Nat → Int32) (c_spot : Int32) (c_told : Nat → Int32) (c_to : Nat → Int32) (c_stood : Nat → Int32) (c_home : Nat → Int32) (c_lost : Nat → Int32) (c_out : Int32) (c_fewest : Nat → Int32) (c_ways : Nat → Int64) (c_next : Nat → Int64) (c_held : Nat → Int32) (x1 : Int32) {res : Int32} {n_spot : Int32} {n_told : Nat → Int32} (hD : DX9_figures x1 c_length c_text c_spot c_told = some (res, n_spot, n_told)) : Met l yX9_figures (WZ yX9_figures cX9_figures 5 (some .boolean)) (RM 1 25) (PC dC dI cI cJ [.ref (a 0), .int x1] (W_X9 a cI cJ c_length c_text c_stands c_homeFar c_nets c_netAt c_netWide c_netFrom c_netTo c_priceX c_priceY c_many c_days c_aims c_speeds c_kinds c_keptMany c_undoMany c_undos c_spot c_told c_to c_stood c_home c_lost c_out c_fewest c_ways c_next c_held)) (QI dC dI (W_X9 a cI cJ c_length c_text c_stands c_homeFar c_nets c_netAt c_netWide c_netFrom c_netTo c_priceX c_priceY c_many c_days c_aims c_speeds c_kinds c_keptMany c_undoMany c_undos c_spot c_told c_to c_stood c_home c_lost c_out c_fewest c_ways c_next c_held) (W_X9 a cI cJ c_length c_text c_stands c_homeFar c_nets c_netAt c_netWide c_netFrom c_netTo c_priceX c_priceY c_many c_days c_aims c_speeds c_kinds c_keptMany c_undoMany c_undos n_spot n_told c_to c_stood c_home c_lost c_out c_fewest c_ways c_next c_held) res) 0 0 (FA (W_X9 a cI cJ c_length c_text c_stands c_homeFar c_nets c_netAt c_netWide c_netFrom c_netTo c_priceX c_priceY c_many c_days c_aims c_speeds c_kinds c_keptMany c_undoMany c_undos c_spot c_told c_to c_stood c_home c_lost c_out c_fewest c_ways c_next c_held)) := by
  refine r_metZ (by decide +kernel) (Nat.le_of_ble_eq_true rfl) ?_
  intro p e s m args below meth c A H0 QQ X ret ls hl hG
  have X : Cx p m c cX9_figures 5 s args RX9 dC dI cI cJ meth (some .boolean) := X
  have hx := X.1.1
  have hb := X.1.2.1
  have hl : lv_has ls 5 [(0, .ref (a 0)), (1, .int x1)] := hl
  have L12 : ∀ (x2 : Int32) (c_told : Nat → Int32), ∀ (n : Nat) (x3 : Int32) (x4 : Int32) (c_spot : Int32) (ex3 : Int32) (ex4 : Int32) (ec_spot : Int32), DX9_figures_L12 c_length c_text n x3 x4 c_spot = some (ex3, ex4, ec_spot) → (∀ (ls : Array Slot) (H : Heap) (locs : List Loc), lv_has ls 5 [(0, .ref (a 0)), (1, .int x1), (2, .int x2), (3, .int ex3), (4, .int ex4)] → G dC dI A H0 (W_X9 a cI cJ c_length c_text c_stands c_homeFar c_nets c_netAt c_netWide c_netFrom c_netTo c_priceX c_priceY c_many c_days c_aims c_speeds c_kinds c_keptMany c_undoMany c_undos ec_spot c_told c_to c_stood c_home c_lost c_out c_fewest c_ways c_next c_held) H locs → W p l e (RM 1 25) s m args below meth c H locs 0 0 QQ (F0 m 73 ls [])) → ∀ (ls : Array Slot) (H : Heap) (locs : List Loc), lv_has ls 5 [(0, .ref (a 0)), (1, .int x1), (2, .int x2), (3, .int x3), (4, .int x4)] → G dC dI A H0 (W_X9 a cI cJ c_length c_text c_stands c_homeFar c_nets c_netAt c_netWide c_netFrom c_netTo c_priceX c_priceY c_many c_days c_aims c_speeds c_kinds c_keptMany c_undoMany c_undos c_spot c_told c_to c_stood c_home c_lost c_out c_fewest c_ways c_next c_held) H locs → W p l e (RM 1 25) s m args below meth c H locs 0 0 QQ (F0 m 12 ls []) := by
    intro x2 c_told n
    induction n with
    | zero => intro x3 x4 c_spot ex3 ex4 ec_spot h; exact it_zero h
    | succ n ih =>
      intro x3 x4 c_spot ex3 ex4 ec_spot h0 K0 ls H locs hl hG
      obtain ⟨w, h, hi, hr⟩ := it_succ h0
      have h : DX9_figures_L12s c_length c_text x3 x4 c_spot = some w := h
      have KC : ∀ (x3 : Int32) (x4 : Int32) (c_spot : Int32), w = .inl (x3, x4, c_spot) → ∀ (ls : Array Slot) (H : Heap) (locs : List Loc), lv_has ls 5 [(0, .ref (a 0)), (1, .int x1), (2, .int x2), (3, .int x3), (4, .int x4)] → G dC dI A H0 (W_X9 a cI cJ c_length c_text c_stands c_homeFar c_nets c_netAt c_netWide c_netFrom c_netTo c_priceX c_priceY c_many c_days c_aims c_speeds c_kinds c_keptMany c_undoMany c_undos c_spot c_told c_to c_stood c_home c_lost c_out c_fewest c_ways c_next c_held) H locs → W p l e (RM 1 25) s m args below meth c H locs 0 0 QQ (F0 m 12 ls []) := fun b0 b1 b2 e ls H locs hl hG => ih b0 b1 b2 ex3 ex4 ec_spot (hi _ e) K0 ls H locs hl hG
      have KX : ∀ (x3 : Int32) (x4 : Int32) (c_spot : Int32), w = .inr (x3, x4, c_spot) → ∀ (ls : Array Slot) (H : Heap) (locs : List Loc), lv_has ls 5 [(0, .ref (a 0)), (1, .int x1), (2, .int x2), (3, .int x3), (4, .int x4)] → G dC dI A H0 (W_X9 a cI cJ c_length c_text c_stands c_homeFar c_nets c_netAt c_netWide c_netFrom c_netTo c_priceX c_priceY c_many c_days c_aims c_speeds c_kinds c_keptMany c_undoMany c_undos c_spot c_told c_to c_stood c_home c_lost c_out c_fewest c_ways c_next c_held) H locs → W p l e (RM 1 25) s m args below meth c H locs 0 0 QQ (F0 m 73 ls []) := fun b0 b1 b2 e ls H locs hl hG => by cases hr _ e; exact K0 ls H locs hl hG
      clear h0 hi hr K0 ih
      unfold DX9_figures_L12s at h
      refine lv_aload_n hx hb dX9_figures_12 rfl (lv_at hl 0 rfl) ?_
      refine lv_aload_n hx hb dX9_figures_13 rfl (lv_at hl 0 rfl) ?_
      refine r_get X hG in_X9 rfl 19 (by decide) w_650 0 rfl rfl dX9_figures_14 ?_
      obtain ⟨r_2, hz_3, h⟩ := bd1_some h
      refine aft_i1 (run_V1 (rest := []) X hG hl.1 (mX9_byteAt l dC dI cI cJ a c_length c_text c_stands c_homeFar c_nets c_netAt c_netWide c_netFrom c_netTo c_priceX c_priceY c_many c_days c_aims c_speeds c_kinds c_keptMany c_undoMany c_undos c_spot c_told c_to c_stood c_home c_lost c_out c_fewest c_ways c_next c_held c_spot hz_3) gi_V_X9_105 hd_V_yX9_byteAt ⟨rfl, rfl⟩ rfl ⟨Nat.le_of_ble_eq_true rfl, Nat.le_of_ble_eq_true rfl⟩ 0 rfl rfl rfl rfl (Nat.le_of_ble_eq_true rfl) ⟨Nat.le_of_ble_eq_true rfl, Nat.le_of_ble_eq_true rfl⟩ dX9_figures_17) hG rfl (fun H locs hG => ?_)
      clear hz_3
      refine lv_i2l (v := (r_2.toInt64)) hx hb dX9_figures_20 rfl ?_
      refine lv_ldc2 (v := (48 : Int64)) hx hb X.1.2.2.2.1 (X.1.2.2.2.2 _ w_756) dX9_figures_21 ?_
      refine lv_ldc2 (v := (57 : Int64)) hx hb X.1.2.2.2.1 (X.1.2.2.2.2 _ w_757) dX9_figures_24 ?_
      obtain ⟨r_4, hz_5, h⟩ := bd1_some h
      refine aft_i (ws' := (W_X9 a cI cJ c_length c_text c_stands c_homeFar c_nets c_netAt c_netWide c_netFrom c_netTo c_priceX c_priceY c_many c_days c_aims c_speeds c_kinds c_keptMany c_undoMany c_undos c_spot c_told c_to c_stood c_home c_lost c_out c_fewest c_ways c_next c_held)) (run_S (rest := []) X hG hl.1 (mX9_in l dC dI cI cJ (r_2.toInt64) (48 : Int64) (57 : Int64) hz_5) gi_S_X9_92 hd_S_yX9_in ⟨rfl, rfl⟩ rfl ⟨Nat.le_of_ble_eq_true rfl, Nat.le_of_ble_eq_true rfl⟩ [] (by decide) rfl rfl (Nat.le_of_ble_eq_true rfl) ⟨Nat.le_of_ble_eq_true rfl, Nat.le_of_ble_eq_true rfl⟩ dX9_figures_27) hG [] rfl rfl rfl (fun H locs hG => ?_)
      clear hz_5
      refine lv_if_eq (tgt := 73) hx hb dX9_figures_30 (by decide) (fun c_6 => ?_) (fun c_6 => ?_)
      · have h := ite_t h c_6
        exact KX _ _ _ (Option.some.inj h).symm _ _ _ (lv_sub hl [0, 1, 2, 3, 4] rfl) hG
      · have h := ite_f h c_6
        refine lv_iload_n hx hb dX9_figures_33 rfl (lv_at hl 3 rfl) ?_
        refine lv_iconst (v := (3 : Int32)) hx hb dX9_figures_34 (by decide) ?_
        refine lv_icmp_ge (tgt := 73) hx hb dX9_figures_35 (by decide) (fun c_7 => ?_) (fun c_7 => ?_)
        · have h := ite_t h c_7
          exact KX _ _ _ (Option.some.inj h).symm _ _ _ (lv_sub hl [0, 1, 2, 3, 4] rfl) hG
        · have h := ite_f h c_7
          refine lv_bipush (v := (10 : Int32)) hx hb dX9_figures_38 (by decide) ?_
          refine lv_iload hx hb dX9_figures_40 (lv_at hl 4 rfl) ?_
          refine lv_imul hx hb dX9_figures_42 ?_
          refine lv_aload_n hx hb dX9_figures_43 rfl (lv_at hl 0 rfl) ?_
          refine lv_aload_n hx hb dX9_figures_44 rfl (lv_at hl 0 rfl) ?_
          refine r_get X hG in_X9 rfl 19 (by decide) w_650 0 rfl rfl dX9_figures_45 ?_
          obtain ⟨r_8, hz_9, h⟩ := bd1_some h
          refine aft_i1 (run_V1 (rest := [.int ((10 : Int32) * x4)]) X hG hl.1 (mX9_byteAt l dC dI cI cJ a c_length c_text c_stands c_homeFar c_nets c_netAt c_netWide c_netFrom c_netTo c_priceX c_priceY c_many c_days c_aims c_speeds c_kinds c_keptMany c_undoMany c_undos c_spot c_told c_to c_stood c_home c_lost c_out c_fewest c_ways c_next c_held c_spot hz_9) gi_V_X9_105 hd_V_yX9_byteAt ⟨rfl, rfl⟩ rfl ⟨Nat.le_of_ble_eq_true rfl, Nat.le_of_ble_eq_true rfl⟩ 0 rfl rfl rfl rfl (Nat.le_of_ble_eq_true rfl) ⟨Nat.le_of_ble_eq_true rfl, Nat.le_of_ble_eq_true rfl⟩ dX9_figures_48) hG rfl (fun H locs hG => ?_)
          clear hz_9
          refine lv_iadd hx hb dX9_figures_51 ?_
          refine lv_bipush (v := (48 : Int32)) hx hb dX9_figures_52 (by decide) ?_
          refine lv_isub hx hb dX9_figures_54 ?_
          refine lv_istore (lv' := [(4, .int ((((10 : Int32) * x4) + r_8) - (48 : Int32))), (0, .ref (a 0)), (1, .int x1), (2, .int x2), (3, .int x3)]) hx hb dX9_figures_55 hl (by decide) rfl (fun ls hl => ?_)
          refine lv_iinc (v := (x3 + (1 : Int32))) (lv' := [(3, .int (x3 + (1 : Int32))), (4, .int ((((10 : Int32) * x4) + r_8) - (48 : Int32))), (0, .ref (a 0)), (1, .int x1), (2, .int x2)]) hx hb dX9_figures_57 hl (k := 4) rfl rfl (by decide) rfl (fun ls hl => ?_)
          refine lv_aload_n hx hb dX9_figures_60 rfl (lv_at hl 2 rfl) ?_
          refine lv_dup hx hb dX9_figures_61 rfl ?_
          refine r_get X hG in_X9 rfl 19 (by decide) w_650 0 rfl rfl dX9_figures_62 ?_
          refine lv_iconst (v := (1 : Int32)) hx hb dX9_figures_65 (by decide) ?_
          refine lv_iadd hx hb dX9_figures_66 ?_
          refine r_put X hG in_X9 rfl tyX9 tyX9_ok nmX9 19 (by decide) rfl (by decide +kernel) w_650 0 (ws' := (W_X9 a cI cJ c_length c_text c_stands c_homeFar c_nets c_netAt c_netWide c_netFrom c_netTo c_priceX c_priceY c_many c_days c_aims c_speeds c_kinds c_keptMany c_undoMany c_undos (c_spot + (1 : Int32)) c_told c_to c_stood c_home c_lost c_out c_fewest c_ways c_next c_held)) rfl (Nat.le_of_ble_eq_true rfl) rfl dX9_figures_67 (fun H locs hG => ?_)
          refine lv_goto (tgt := 12) hx hb dX9_figures_70 (by decide) ?_
          exact KC _ _ _ (Option.some.inj h).symm _ _ _ (lv_sub hl [2, 3, 4, 0, 1] rfl) hG
  have J107 : ∀ (y0 : Int32) (y1 : Int32) (x2 : Int32) (x4 : Int32) (c_spot : Int32) (c_told : Nat → Int32), ∀ (w : (Int32 × Int32 × (Nat → Int32)) ⊕ ((Int32 × (Nat → Int32)) ⊕ (Int32 × Int32 × (Nat → Int32)))), DX9_figures_J107 c_spot c_told y0 y1 x2 x4 = some w → (∀ (x2 : Int32) (c_spot : Int32) (c_told : Nat → Int32), w = .inl (x2, c_spot, c_told) → ∀ (ls : Array Slot) (H : Heap) (locs : List Loc), lv_has ls 5 [(0, .ref (a 0)), (1, .int x1), (2, .int x2)] → G dC dI A H0 (W_X9 a cI cJ c_length c_text c_stands c_homeFar c_nets c_netAt c_netWide c_netFrom c_netTo c_priceX c_priceY c_many c_days c_aims c_speeds c_kinds c_keptMany c_undoMany c_undos c_spot c_told c_to c_stood c_home c_lost c_out c_fewest c_ways c_next c_held) H locs → W p l e (RM 1 25) s m args below meth c H locs 0 0 QQ (F0 m 2 ls [])) → (∀ (c_spot : Int32) (c_told : Nat → Int32), w = .inr (.inl (c_spot, c_told)) → ∀ (ls : Array Slot) (H : Heap) (locs : List Loc), lv_has ls 5 [] → G dC dI A H0 (W_X9 a cI cJ c_length c_text c_stands c_homeFar c_nets c_netAt c_netWide c_netFrom c_netTo c_priceX c_priceY c_many c_days c_aims c_speeds c_kinds c_keptMany c_undoMany c_undos c_spot c_told c_to c_stood c_home c_lost c_out c_fewest c_ways c_next c_held) H locs → W p l e (RM 1 25) s m args below meth c H locs 0 0 QQ (F0 m 136 ls [])) → (∀ (r : Int32 × Int32 × (Nat → Int32)), w = .inr (.inr r) → r = (res, n_spot, n_told)) → ∀ (ls : Array Slot) (H : Heap) (locs : List Loc), lv_has ls 5 [(0, .ref (a 0)), (1, .int x1), (2, .int x2), (4, .int x4)] → G dC dI A H0 (W_X9 a cI cJ c_length c_text c_stands c_homeFar c_nets c_netAt c_netWide c_netFrom c_netTo c_priceX c_priceY c_many c_days c_aims c_speeds c_kinds c_keptMany c_undoMany c_undos c_spot c_told c_to c_stood c_home c_lost c_out c_fewest c_ways c_next c_held) H locs → W p l e (RM 1 25) s m args below meth c H locs 0 0 QQ (F0 m 107 ls [.int y0, .int y1]) := by
    intro y0 y1 x2 x4 c_spot c_told w h KC KX KR ls H locs hl hG
    unfold DX9_figures_J107 at h
    refine lv_icmp_eq (tgt := 112) hx hb dX9_figures_107 (by decide) (fun c_19 => ?_) (fun c_19 => ?_)
    · have h := ite_t h c_19
      refine lv_aload_n hx hb dX9_figures_112 rfl (lv_at hl 0 rfl) ?_
      refine r_get X hG in_X9 rfl 20 (by decide) w_651 0 rfl rfl dX9_figures_113 ?_
      refine lv_iload_n hx hb dX9_figures_116 rfl (lv_at hl 2 rfl) ?_
      refine lv_iload hx hb dX9_figures_117 (lv_at hl 3 rfl) ?_
      obtain ⟨g_20, h⟩ := gd h
      refine r_iast X hG 17 (ws' := (W_X9 a cI cJ c_length c_text c_stands c_homeFar c_nets c_netAt c_netWide c_netFrom c_netTo c_priceX c_priceY c_many c_days c_aims c_speeds c_kinds c_keptMany c_undoMany c_undos c_spot (upd c_told x2.toNatClampNeg x4) c_to c_stood c_home c_lost c_out c_fewest c_ways c_next c_held)) rfl g_20 rfl dX9_figures_119 (fun H locs hG => ?_)
      refine lv_aload_n hx hb dX9_figures_120 rfl (lv_at hl 0 rfl) ?_
      refine lv_dup hx hb dX9_figures_121 rfl ?_
      refine r_get X hG in_X9 rfl 19 (by decide) w_650 0 rfl rfl dX9_figures_122 ?_
      refine lv_iconst (v := (1 : Int32)) hx hb dX9_figures_125 (by decide) ?_
      refine lv_iadd hx hb dX9_figures_126 ?_
      refine r_put X hG in_X9 rfl tyX9 tyX9_ok nmX9 19 (by decide) rfl (by decide +kernel) w_650 0 (ws' := (W_X9 a cI cJ c_length c_text c_stands c_homeFar c_nets c_netAt c_netWide c_netFrom c_netTo c_priceX c_priceY c_many c_days c_aims c_speeds c_kinds c_keptMany c_undoMany c_undos (c_spot + (1 : Int32)) (upd c_told x2.toNatClampNeg x4) c_to c_stood c_home c_lost c_out c_fewest c_ways c_next c_held)) rfl (Nat.le_of_ble_eq_true rfl) rfl dX9_figures_127 (fun H locs hG => ?_)
      refine lv_iinc (v := (x2 + (1 : Int32))) (lv' := [(2, .int (x2 + (1 : Int32))), (0, .ref (a 0)), (1, .int x1), (4, .int x4)]) hx hb dX9_figures_130 hl (k := 2) rfl rfl (by decide) rfl (fun ls hl => ?_)
      refine lv_goto (tgt := 2) hx hb dX9_figures_133 (by decide) ?_
      exact KC _ _ _ (Option.some.inj h).symm _ _ _ (lv_sub hl [1, 2, 0] rfl) hG
    · have h := ite_f h c_19
      refine lv_iconst (v := (0 : Int32)) hx hb dX9_figures_110 (by decide) ?_
      cases KR _ (Option.some.inj h).symm
      exact ret _ _ _ _ dX9_figures_111 (by decide) hG
  have J73 : ∀ (x2 : Int32) (x3 : Int32) (x4 : Int32) (c_spot : Int32) (c_told : Nat → Int32), ∀ (w : (Int32 × Int32 × (Nat → Int32)) ⊕ ((Int32 × (Nat → Int32)) ⊕ (Int32 × Int32 × (Nat → Int32)))), DX9_figures_J73 x1 c_length c_text c_spot c_told x2 x3 x4 = some w → (∀ (x2 : Int32) (c_spot : Int32) (c_told : Nat → Int32), w = .inl (x2, c_spot, c_told) → ∀ (ls : Array Slot) (H : Heap) (locs : List Loc), lv_has ls 5 [(0, .ref (a 0)), (1, .int x1), (2, .int x2)] → G dC dI A H0 (W_X9 a cI cJ c_length c_text c_stands c_homeFar c_nets c_netAt c_netWide c_netFrom c_netTo c_priceX c_priceY c_many c_days c_aims c_speeds c_kinds c_keptMany c_undoMany c_undos c_spot c_told c_to c_stood c_home c_lost c_out c_fewest c_ways c_next c_held) H locs → W p l e (RM 1 25) s m args below meth c H locs 0 0 QQ (F0 m 2 ls [])) → (∀ (c_spot : Int32) (c_told : Nat → Int32), w = .inr (.inl (c_spot, c_told)) → ∀ (ls : Array Slot) (H : Heap) (locs : List Loc), lv_has ls 5 [] → G dC dI A H0 (W_X9 a cI cJ c_length c_text c_stands c_homeFar c_nets c_netAt c_netWide c_netFrom c_netTo c_priceX c_priceY c_many c_days c_aims c_speeds c_kinds c_keptMany c_undoMany c_undos c_spot c_told c_to c_stood c_home c_lost c_out c_fewest c_ways c_next c_held) H locs → W p l e (RM 1 25) s m args below meth c H locs 0 0 QQ (F0 m 136 ls [])) → (∀ (r : Int32 × Int32 × (Nat → Int32)), w = .inr (.inr r) → r = (res, n_spot, n_told)) → ∀ (ls : Array Slot) (H : Heap) (locs : List Loc), lv_has ls 5 [(0, .ref (a 0)), (1, .int x1), (2, .int x2), (3, .int x3), (4, .int x4)] → G dC dI A H0 (W_X9 a cI cJ c_length c_text c_stands c_homeFar c_nets c_netAt c_netWide c_netFrom c_netTo c_priceX c_priceY c_many c_days c_aims c_speeds c_kinds c_keptMany c_undoMany c_undos c_spot c_told c_to c_stood c_home c_lost c_out c_fewest c_ways c_next c_held) H locs → W p l e (RM 1 25) s m args below meth c H locs 0 0 QQ (F0 m 73 ls []) := by
    intro x2 x3 x4 c_spot c_told w h KC KX KR ls H locs hl hG
    unfold DX9_figures_J73 at h
    refine lv_iload_n hx hb dX9_figures_73 rfl (lv_at hl 3 rfl) ?_
    refine lv_i2l (v := (x3.toInt64)) hx hb dX9_figures_74 rfl ?_
    refine lv_lconst (v := (1 : Int64)) hx hb dX9_figures_75 (by decide) ?_
    refine lv_ldc2 (v := (2 : Int64)) hx hb X.1.2.2.2.1 (X.1.2.2.2.2 _ w_758) dX9_figures_76 ?_
    obtain ⟨r_13, hz_14, h⟩ := bd1_some h
    refine aft_i (ws' := (W_X9 a cI cJ c_length c_text c_stands c_homeFar c_nets c_netAt c_netWide c_netFrom c_netTo c_priceX c_priceY c_many c_days c_aims c_speeds c_kinds c_keptMany c_undoMany c_undos c_spot c_told c_to c_stood c_home c_lost c_out c_fewest c_ways c_next c_held)) (run_S (rest := []) X hG hl.1 (mX9_in l dC dI cI cJ (x3.toInt64) (1 : Int64) (2 : Int64) hz_14) gi_S_X9_92 hd_S_yX9_in ⟨rfl, rfl⟩ rfl ⟨Nat.le_of_ble_eq_true rfl, Nat.le_of_ble_eq_true rfl⟩ [] (by decide) rfl rfl (Nat.le_of_ble_eq_true rfl) ⟨Nat.le_of_ble_eq_true rfl, Nat.le_of_ble_eq_true rfl⟩ dX9_figures_79) hG [] rfl rfl rfl (fun H locs hG => ?_)
    clear hz_14
    refine lv_if_eq (tgt := 110) hx hb dX9_figures_82 (by decide) (fun c_15 => ?_) (fun c_15 => ?_)
    · have h := ite_t h c_15
      refine lv_iconst (v := (0 : Int32)) hx hb dX9_figures_110 (by decide) ?_
      cases KR _ (Option.some.inj h).symm
      exact ret _ _ _ _ dX9_figures_111 (by decide) hG
    · have h := ite_f h c_15
      refine lv_aload_n hx hb dX9_figures_85 rfl (lv_at hl 0 rfl) ?_
      refine lv_aload_n hx hb dX9_figures_86 rfl (lv_at hl 0 rfl) ?_
      refine r_get X hG in_X9 rfl 19 (by decide) w_650 0 rfl rfl dX9_figures_87 ?_
      obtain ⟨r_16, hz_17, h⟩ := bd1_some h
      refine aft_i1 (run_V1 (rest := []) X hG hl.1 (mX9_byteAt l dC dI cI cJ a c_length c_text c_stands c_homeFar c_nets c_netAt c_netWide c_netFrom c_netTo c_priceX c_priceY c_many c_days c_aims c_speeds c_kinds c_keptMany c_undoMany c_undos c_spot c_told c_to c_stood c_home c_lost c_out c_fewest c_ways c_next c_held c_spot hz_17) gi_V_X9_105 hd_V_yX9_byteAt ⟨rfl, rfl⟩ rfl ⟨Nat.le_of_ble_eq_true rfl, Nat.le_of_ble_eq_true rfl⟩ 0 rfl rfl rfl rfl (Nat.le_of_ble_eq_true rfl) ⟨Nat.le_of_ble_eq_true rfl, Nat.le_of_ble_eq_true rfl⟩ dX9_figures_90) hG rfl (fun H locs hG => ?_)
      clear hz_17
      refine lv_iload_n hx hb dX9_figures_93 rfl (lv_at hl 2 rfl) ?_
      refine lv_iload_n hx hb dX9_figures_94 rfl (lv_at hl 1 rfl) ?_
      refine lv_iconst (v := (1 : Int32)) hx hb dX9_figures_95 (by decide) ?_
      refine lv_isub hx hb dX9_figures_96 ?_
      refine lv_icmp_ge (tgt := 105) hx hb dX9_figures_97 (by decide) (fun c_18 => ?_) (fun c_18 => ?_)
      · have h := ite_t h c_18
        refine lv_bipush (v := (59 : Int32)) hx hb dX9_figures_105 (by decide) ?_
        exact J107 (59 : Int32) r_16 x2 x4 c_spot c_told _ h KC KX KR _ _ _ (lv_sub hl [0, 1, 2, 4] rfl) hG
      · have h := ite_f h c_18
        refine lv_bipush (v := (44 : Int32)) hx hb dX9_figures_100 (by decide) ?_
        refine lv_goto (tgt := 107) hx hb dX9_figures_102 (by decide) ?_
        exact J107 (44 : Int32) r_16 x2 x4 c_spot c_told _ h KC KX KR _ _ _ (lv_sub hl [0, 1, 2, 4] rfl) hG
  have L2 : ∀ (n : Nat) (x2 : Int32) (c_spot : Int32) (c_told : Nat → Int32) (v : (Int32 × (Nat → Int32)) ⊕ (Int32 × Int32 × (Nat → Int32))), DX9_figures_L2 x1 c_length c_text n x2 c_spot c_told = some v → (∀ (ec_spot : Int32) (ec_told : Nat → Int32), v = .inl (ec_spot, ec_told) → ∀ (ls : Array Slot) (H : Heap) (locs : List Loc), lv_has ls 5 [] → G dC dI A H0 (W_X9 a cI cJ c_length c_text c_stands c_homeFar c_nets c_netAt c_netWide c_netFrom c_netTo c_priceX c_priceY c_many c_days c_aims c_speeds c_kinds c_keptMany c_undoMany c_undos ec_spot ec_told c_to c_stood c_home c_lost c_out c_fewest c_ways c_next c_held) H locs → W p l e (RM 1 25) s m args below meth c H locs 0 0 QQ (F0 m 136 ls [])) → (∀ (r : Int32 × Int32 × (Nat → Int32)), v = .inr r → r = (res, n_spot, n_told)) → ∀ (ls : Array Slot) (H : Heap) (locs : List Loc), lv_has ls 5 [(0, .ref (a 0)), (1, .int x1), (2, .int x2)] → G dC dI A H0 (W_X9 a cI cJ c_length c_text c_stands c_homeFar c_nets c_netAt c_netWide c_netFrom c_netTo c_priceX c_priceY c_many c_days c_aims c_speeds c_kinds c_keptMany c_undoMany c_undos c_spot c_told c_to c_stood c_home c_lost c_out c_fewest c_ways c_next c_held) H locs → W p l e (RM 1 25) s m args below meth c H locs 0 0 QQ (F0 m 2 ls []) := by
    intro  n
    induction n with
    | zero => intro x2 c_spot c_told v h; exact it_zero h
    | succ n ih =>
      intro x2 c_spot c_told v h0 K0 KR0 ls H locs hl hG
      obtain ⟨w, h, hi, hr⟩ := it_succ h0
      have h : DX9_figures_L2s x1 c_length c_text x2 c_spot c_told = some w := h
      have KC : ∀ (x2 : Int32) (c_spot : Int32) (c_told : Nat → Int32), w = .inl (x2, c_spot, c_told) → ∀ (ls : Array Slot) (H : Heap) (locs : List Loc), lv_has ls 5 [(0, .ref (a 0)), (1, .int x1), (2, .int x2)] → G dC dI A H0 (W_X9 a cI cJ c_length c_text c_stands c_homeFar c_nets c_netAt c_netWide c_netFrom c_netTo c_priceX c_priceY c_many c_days c_aims c_speeds c_kinds c_keptMany c_undoMany c_undos c_spot c_told c_to c_stood c_home c_lost c_out c_fewest c_ways c_next c_held) H locs → W p l e (RM 1 25) s m args below meth c H locs 0 0 QQ (F0 m 2 ls []) := fun b0 b1 b2 e ls H locs hl hG => ih b0 b1 b2 v (hi _ e) K0 KR0 ls H locs hl hG
      have KX : ∀ (c_spot : Int32) (c_told : Nat → Int32), w = .inr (.inl (c_spot, c_told)) → ∀ (ls : Array Slot) (H : Heap) (locs : List Loc), lv_has ls 5 [] → G dC dI A H0 (W_X9 a cI cJ c_length c_text c_stands c_homeFar c_nets c_netAt c_netWide c_netFrom c_netTo c_priceX c_priceY c_many c_days c_aims c_speeds c_kinds c_keptMany c_undoMany c_undos c_spot c_told c_to c_stood c_home c_lost c_out c_fewest c_ways c_next c_held) H locs → W p l e (RM 1 25) s m args below meth c H locs 0 0 QQ (F0 m 136 ls []) := fun b0 b1 e ls H locs hl hG => K0 b0 b1 (hr _ e) ls H locs hl hG
      have KR : ∀ (r : Int32 × Int32 × (Nat → Int32)), w = .inr (.inr r) → r = (res, n_spot, n_told) := fun r e => KR0 r (hr _ e)
      clear h0 hi hr K0 ih KR0
      unfold DX9_figures_L2s at h
      refine lv_iload_n hx hb dX9_figures_2 rfl (lv_at hl 2 rfl) ?_
      refine lv_iload_n hx hb dX9_figures_3 rfl (lv_at hl 1 rfl) ?_
      refine lv_icmp_ge (tgt := 136) hx hb dX9_figures_4 (by decide) (fun c_1 => ?_) (fun c_1 => ?_)
      · have h := ite_t h c_1
        exact KX _ _ (Option.some.inj h).symm _ _ _ (lv_sub hl [] rfl) hG
      · have h := ite_f h c_1
        refine lv_iconst (v := (0 : Int32)) hx hb dX9_figures_7 (by decide) ?_
        refine lv_istore_n (lv' := [(3, .int (0 : Int32)), (0, .ref (a 0)), (1, .int x1), (2, .int x2)]) hx hb dX9_figures_8 rfl hl (by decide) rfl (fun ls hl => ?_)
        refine lv_iconst (v := (0 : Int32)) hx hb dX9_figures_9 (by decide) ?_
        refine lv_istore (lv' := [(4, .int (0 : Int32)), (3, .int (0 : Int32)), (0, .ref (a 0)), (1, .int x1), (2, .int x2)]) hx hb dX9_figures_10 hl (by decide) rfl (fun ls hl => ?_)
        obtain ⟨z3_10, z4_11, k_spot_12, hz, h⟩ := bd3_some h
        refine L12 x2 c_told FU (0 : Int32) (0 : Int32) c_spot _ _ _ hz (fun ls H locs hl hG => ?_) _ _ _ (lv_sub hl [2, 3, 4, 1, 0] rfl) hG
        clear hz
        exact J73 x2 z3_10 z4_11 k_spot_12 c_told _ h KC KX KR _ _ _ (lv_sub hl [0, 1, 2, 3, 4] rfl) hG
  have h := hD
  unfold DX9_figures at h
  clear hD
  refine lv_iconst (v := (0 : Int32)) hx hb dX9_figures_0 (by decide) ?_
  refine lv_istore_n (lv' := [(2, .int (0 : Int32)), (0, .ref (a 0)), (1, .int x1)]) hx hb dX9_figures_1 rfl hl (by decide) rfl (fun ls hl => ?_)
  rcases el2_some h with ⟨k_spot_21, k_told_22, hz, h⟩ | ⟨r, hz, h⟩
  · refine L2  FU (0 : Int32) c_spot c_told _ hz ?_ (fun r e => by cases e) _ _ _ (lv_sub hl [1, 2, 0] rfl) hG
    rintro _ _ ⟨⟩ ls H locs hl hG
    clear hz
    refine lv_iconst (v := (1 : Int32)) hx hb dX9_figures_136 (by decide) ?_
    cases h
    exact ret _ _ _ _ dX9_figures_137 (by decide) hG
  · refine L2  FU (0 : Int32) c_spot c_told _ hz (fun _ _ e => by cases e) (fun r2 e => ?_) _ _ _ (lv_sub hl [1, 2, 0] rfl) hG
    cases e; cases h; rfl
set_option maxRecDepth 100000 in
set_option maxHeartbeats 4000000 in
theorem mX9_item (l : Launch) (dC : Nat → ClassId) (dI : Nat → Nat → Nat) (cI cJ : ClassId) (a : Nat → Nat) (c_length : Int32) (c_text : Nat → Int32) (c_stands : Nat → Int32) (c_homeFar : Nat → Int32) (c_nets : Nat → Int32) (c_netAt : Nat → Int32) (c_netWide : Nat → Int32) (c_netFrom : Nat → Int32) (c_netTo : Nat → Int32) (c_priceX : Nat → Int32) (c_priceY : Nat → Int32) (c_many : Nat → Int32) (c_days : Nat → Int32) (c_aims : Nat → Int32) (c_speeds : Nat → Int32) (c_kinds : Nat → Int32) (c_keptMany : Int32) (c_undoMany : Int32) (c_undos : Nat → Int32) (c_spot : Int32) (c_told : Nat → Int32) (c_to : Nat → Int32) (c_stood : Nat → Int32) (c_home : Nat → Int32) (c_lost : Nat → Int32) (c_out : Int32) (c_fewest : Nat → Int32) (c_ways : Nat → Int64) (c_next : Nat → Int64) (c_held : Nat → Int32) {res : Int32} {n_stands : Nat → Int32} {n_homeFar : Nat → Int32} {n_nets : Nat → Int32} {n_netAt : Nat → Int32} {n_netWide : Nat → Int32} {n_netFrom : Nat → Int32} {n_netTo : Nat → Int32} {n_priceX : Nat → Int32} {n_priceY : Nat → Int32} {n_many : Nat → Int32} {n_days : Nat → Int32} {n_aims : Nat → Int32} {n_speeds : Nat → Int32} {n_kinds : Nat → Int32} {n_spot : Int32} {n_told : Nat → Int32} (hD : DX9_item c_length c_text c_stands c_homeFar c_nets c_netAt c_netWide c_netFrom c_netTo c_priceX c_priceY c_many c_days c_aims c_speeds c_kinds c_spot c_told = some (res, n_stands, n_homeFar, n_nets, n_netAt, n_netWide, n_netFrom, n_netTo, n_priceX, n_priceY, n_many, n_days, n_aims, n_speeds, n_kinds, n_spot, n_told)) : Met l yX9_item (WZ yX9_item cX9_item 2 (some .boolean)) (RM 2 49) (PC dC dI cI cJ [.ref (a 0)] (W_X9 a cI cJ c_length c_text c_stands c_homeFar c_nets c_netAt c_netWide c_netFrom c_netTo c_priceX c_priceY c_many c_days c_aims c_speeds c_kinds c_keptMany c_undoMany c_undos c_spot c_told c_to c_stood c_home c_lost c_out c_fewest c_ways c_next c_held)) (QI dC dI (W_X9 a cI cJ c_length c_text c_stands c_homeFar c_nets c_netAt c_netWide c_netFrom c_netTo c_priceX c_priceY c_many c_days c_aims c_speeds c_kinds c_keptMany c_undoMany c_undos c_spot c_told c_to c_stood c_home c_lost c_out c_fewest c_ways c_next c_held) (W_X9 a cI cJ c_length c_text n_stands n_homeFar n_nets n_netAt n_netWide n_netFrom n_netTo n_priceX n_priceY n_many n_days n_aims n_speeds n_kinds c_keptMany c_undoMany c_undos n_spot n_told c_to c_stood c_home c_lost c_out c_fewest c_ways c_next c_held) res) 0 0 (FA (W_X9 a cI cJ c_length c_text c_stands c_homeFar c_nets c_netAt c_netWide c_netFrom c_netTo c_priceX c_priceY c_many c_days c_aims c_speeds c_kinds c_keptMany c_undoMany c_undos c_spot c_told c_to c_stood c_home c_lost c_out c_fewest c_ways c_next c_held)) := by
  refine r_metZ (by decide +kernel) (Nat.le_of_ble_eq_true rfl) ?_
  intro p e s m args below meth c A H0 QQ X ret ls hl hG
  have X : Cx p m c cX9_item 2 s args RX9 dC dI cI cJ meth (some .boolean) := X
  have hx := X.1.1
  have hb := X.1.2.1
  have hl : lv_has ls 2 [(0, .ref (a 0))] := hl
  have h := hD
  unfold DX9_item at h
  clear hD
  refine lv_aload_n hx hb dX9_item_0 rfl (lv_at hl 0 rfl) ?_
  refine lv_aload_n hx hb dX9_item_1 rfl (lv_at hl 0 rfl) ?_
  refine r_get X hG in_X9 rfl 19 (by decide) w_650 0 rfl rfl dX9_item_2 ?_
  obtain ⟨r_1, hz_2, h⟩ := bd1_some h
  refine aft_i1 (run_V1 (rest := []) X hG hl.1 (mX9_byteAt l dC dI cI cJ a c_length c_text c_stands c_homeFar c_nets c_netAt c_netWide c_netFrom c_netTo c_priceX c_priceY c_many c_days c_aims c_speeds c_kinds c_keptMany c_undoMany c_undos c_spot c_told c_to c_stood c_home c_lost c_out c_fewest c_ways c_next c_held c_spot hz_2) gi_V_X9_105 hd_V_yX9_byteAt ⟨rfl, rfl⟩ rfl ⟨Nat.le_of_ble_eq_true rfl, Nat.le_of_ble_eq_true rfl⟩ 0 rfl rfl rfl rfl (Nat.le_of_ble_eq_true rfl) ⟨Nat.le_of_ble_eq_true rfl, Nat.le_of_ble_eq_true rfl⟩ dX9_item_5) hG rfl (fun H locs hG => ?_)
  clear hz_2
  refine lv_istore_n (lv' := [(1, .int r_1), (0, .ref (a 0))]) hx hb dX9_item_8 rfl hl (by decide) rfl (fun ls hl => ?_)
  refine lv_aload_n hx hb dX9_item_9 rfl (lv_at hl 1 rfl) ?_
  refine lv_dup hx hb dX9_item_10 rfl ?_
  refine r_get X hG in_X9 rfl 19 (by decide) w_650 0 rfl rfl dX9_item_11 ?_
  refine lv_iconst (v := (1 : Int32)) hx hb dX9_item_14 (by decide) ?_
  refine lv_iadd hx hb dX9_item_15 ?_
  refine r_put X hG in_X9 rfl tyX9 tyX9_ok nmX9 19 (by decide) rfl (by decide +kernel) w_650 0 (ws' := (W_X9 a cI cJ c_length c_text c_stands c_homeFar c_nets c_netAt c_netWide c_netFrom c_netTo c_priceX c_priceY c_many c_days c_aims c_speeds c_kinds c_keptMany c_undoMany c_undos (c_spot + (1 : Int32)) c_told c_to c_stood c_home c_lost c_out c_fewest c_ways c_next c_held)) rfl (Nat.le_of_ble_eq_true rfl) rfl dX9_item_16 (fun H locs hG => ?_)
  refine lv_iload_n hx hb dX9_item_19 rfl (lv_at hl 0 rfl) ?_
  rcases Decidable.em (r_1 = (110 : Int32)) with c_3 | c_3
  · have h := ite_t h c_3
    refine lv_tableIn (off := 270) (tgt := 290) hx hb dX9_item_20 (by rw [c_3] <;> decide) (by rw [c_3] <;> decide) (by rw [c_3] <;> rfl) (by decide) ?_
    refine lv_aload_n hx hb dX9_item_290 rfl (lv_at hl 1 rfl) ?_
    refine lv_iconst (v := (4 : Int32)) hx hb dX9_item_291 (by decide) ?_
    obtain ⟨r_4, k_spot_5, k_told_6, hz_7, h⟩ := bd3_some h
    refine aft_i1 (run_V1 (rest := []) X hG hl.1 (mX9_figures l dC dI cI cJ a c_length c_text c_stands c_homeFar c_nets c_netAt c_netWide c_netFrom c_netTo c_priceX c_priceY c_many c_days c_aims c_speeds c_kinds c_keptMany c_undoMany c_undos (c_spot + (1 : Int32)) c_told c_to c_stood c_home c_lost c_out c_fewest c_ways c_next c_held (4 : Int32) hz_7) gi_V_X9_115 hd_V_yX9_figures ⟨rfl, rfl⟩ rfl ⟨Nat.le_of_ble_eq_true rfl, Nat.le_of_ble_eq_true rfl⟩ 0 rfl rfl rfl rfl (Nat.le_of_ble_eq_true rfl) ⟨Nat.le_of_ble_eq_true rfl, Nat.le_of_ble_eq_true rfl⟩ dX9_item_292) hG rfl (fun H locs hG => ?_)
    clear hz_7
    refine lv_if_eq (tgt := 329) hx hb dX9_item_295 (by decide) (fun c_8 => ?_) (fun c_8 => ?_)
    · have h := ite_t h c_8
      refine lv_iconst (v := (0 : Int32)) hx hb dX9_item_329 (by decide) ?_
      cases h
      exact ret _ _ _ _ dX9_item_330 (by decide) hG
    · have h := ite_f h c_8
      refine lv_aload_n hx hb dX9_item_298 rfl (lv_at hl 1 rfl) ?_
      refine r_get X hG in_X9 rfl 4 (by decide) w_635 0 rfl rfl dX9_item_299 ?_
      refine lv_iconst (v := (1 : Int32)) hx hb dX9_item_302 (by decide) ?_
      refine r_iald X hG 4 rfl (vpd (by decide)) dX9_item_303 ?_
      refine lv_iconst (v := (5 : Int32)) hx hb dX9_item_304 (by decide) ?_
      refine lv_icmp_eq (tgt := 329) hx hb dX9_item_305 (by decide) (fun c_9 => ?_) (fun c_9 => ?_)
      · have h := ite_t h c_9
        refine lv_iconst (v := (0 : Int32)) hx hb dX9_item_329 (by decide) ?_
        cases h
        exact ret _ _ _ _ dX9_item_330 (by decide) hG
      · have h := ite_f h c_9
        refine lv_aload_n hx hb dX9_item_308 rfl (lv_at hl 1 rfl) ?_
        refine r_get X hG in_X9 rfl 20 (by decide) w_651 0 rfl rfl dX9_item_309 ?_
        refine lv_iconst (v := (0 : Int32)) hx hb dX9_item_312 (by decide) ?_
        refine r_iald X hG 17 rfl (vpd (by decide)) dX9_item_313 ?_
        refine lv_bipush (v := (23 : Int32)) hx hb dX9_item_314 (by decide) ?_
        refine lv_icmp_gt (tgt := 329) hx hb dX9_item_316 (by decide) (fun c_10 => ?_) (fun c_10 => ?_)
        · have h := ite_t h c_10
          refine lv_iconst (v := (0 : Int32)) hx hb dX9_item_329 (by decide) ?_
          cases h
          exact ret _ _ _ _ dX9_item_330 (by decide) hG
        · have h := ite_f h c_10
          refine lv_aload_n hx hb dX9_item_319 rfl (lv_at hl 1 rfl) ?_
          refine r_get X hG in_X9 rfl 20 (by decide) w_651 0 rfl rfl dX9_item_320 ?_
          refine lv_iconst (v := (1 : Int32)) hx hb dX9_item_323 (by decide) ?_
          refine r_iald X hG 17 rfl (vpd (by decide)) dX9_item_324 ?_
          refine lv_iconst (v := (3 : Int32)) hx hb dX9_item_325 (by decide) ?_
          refine lv_icmp_le (tgt := 331) hx hb dX9_item_326 (by decide) (fun c_11 => ?_) (fun c_11 => ?_)
          · have h := ite_t h c_11
            refine lv_aload_n hx hb dX9_item_331 rfl (lv_at hl 1 rfl) ?_
            refine r_get X hG in_X9 rfl 5 (by decide) w_636 0 rfl rfl dX9_item_332 ?_
            refine lv_bipush (v := (6 : Int32)) hx hb dX9_item_335 (by decide) ?_
            refine lv_aload_n hx hb dX9_item_337 rfl (lv_at hl 1 rfl) ?_
            refine r_get X hG in_X9 rfl 4 (by decide) w_635 0 rfl rfl dX9_item_338 ?_
            refine lv_iconst (v := (1 : Int32)) hx hb dX9_item_341 (by decide) ?_
            refine r_iald X hG 4 rfl (vpd (by decide)) dX9_item_342 ?_
            refine lv_iadd hx hb dX9_item_343 ?_
            refine lv_aload_n hx hb dX9_item_344 rfl (lv_at hl 1 rfl) ?_
            refine r_get X hG in_X9 rfl 20 (by decide) w_651 0 rfl rfl dX9_item_345 ?_
            refine lv_iconst (v := (0 : Int32)) hx hb dX9_item_348 (by decide) ?_
            refine r_iald X hG 17 rfl (vpd (by decide)) dX9_item_349 ?_
            obtain ⟨g_12, h⟩ := gd h
            refine r_iast X hG 5 (ws' := (W_X9 a cI cJ c_length c_text c_stands c_homeFar c_nets (upd c_netAt ((6 : Int32) + (c_nets (1 : Int32).toNatClampNeg)).toNatClampNeg (k_told_6 (0 : Int32).toNatClampNeg)) c_netWide c_netFrom c_netTo c_priceX c_priceY c_many c_days c_aims c_speeds c_kinds c_keptMany c_undoMany c_undos k_spot_5 k_told_6 c_to c_stood c_home c_lost c_out c_fewest c_ways c_next c_held)) rfl g_12 rfl dX9_item_350 (fun H locs hG => ?_)
            refine lv_aload_n hx hb dX9_item_351 rfl (lv_at hl 1 rfl) ?_
            refine r_get X hG in_X9 rfl 6 (by decide) w_637 0 rfl rfl dX9_item_352 ?_
            refine lv_bipush (v := (6 : Int32)) hx hb dX9_item_355 (by decide) ?_
            refine lv_aload_n hx hb dX9_item_357 rfl (lv_at hl 1 rfl) ?_
            refine r_get X hG in_X9 rfl 4 (by decide) w_635 0 rfl rfl dX9_item_358 ?_
            refine lv_iconst (v := (1 : Int32)) hx hb dX9_item_361 (by decide) ?_
            refine r_iald X hG 4 rfl (vpd (by decide)) dX9_item_362 ?_
            refine lv_iadd hx hb dX9_item_363 ?_
            refine lv_aload_n hx hb dX9_item_364 rfl (lv_at hl 1 rfl) ?_
            refine r_get X hG in_X9 rfl 20 (by decide) w_651 0 rfl rfl dX9_item_365 ?_
            refine lv_iconst (v := (1 : Int32)) hx hb dX9_item_368 (by decide) ?_
            refine r_iald X hG 17 rfl (vpd (by decide)) dX9_item_369 ?_
            obtain ⟨g_13, h⟩ := gd h
            refine r_iast X hG 6 (ws' := (W_X9 a cI cJ c_length c_text c_stands c_homeFar c_nets (upd c_netAt ((6 : Int32) + (c_nets (1 : Int32).toNatClampNeg)).toNatClampNeg (k_told_6 (0 : Int32).toNatClampNeg)) (upd c_netWide ((6 : Int32) + (c_nets (1 : Int32).toNatClampNeg)).toNatClampNeg (k_told_6 (1 : Int32).toNatClampNeg)) c_netFrom c_netTo c_priceX c_priceY c_many c_days c_aims c_speeds c_kinds c_keptMany c_undoMany c_undos k_spot_5 k_told_6 c_to c_stood c_home c_lost c_out c_fewest c_ways c_next c_held)) rfl g_13 rfl dX9_item_370 (fun H locs hG => ?_)
            refine lv_aload_n hx hb dX9_item_371 rfl (lv_at hl 1 rfl) ?_
            refine r_get X hG in_X9 rfl 7 (by decide) w_638 0 rfl rfl dX9_item_372 ?_
            refine lv_bipush (v := (6 : Int32)) hx hb dX9_item_375 (by decide) ?_
            refine lv_aload_n hx hb dX9_item_377 rfl (lv_at hl 1 rfl) ?_
            refine r_get X hG in_X9 rfl 4 (by decide) w_635 0 rfl rfl dX9_item_378 ?_
            refine lv_iconst (v := (1 : Int32)) hx hb dX9_item_381 (by decide) ?_
            refine r_iald X hG 4 rfl (vpd (by decide)) dX9_item_382 ?_
            refine lv_iadd hx hb dX9_item_383 ?_
            refine lv_aload_n hx hb dX9_item_384 rfl (lv_at hl 1 rfl) ?_
            refine r_get X hG in_X9 rfl 20 (by decide) w_651 0 rfl rfl dX9_item_385 ?_
            refine lv_iconst (v := (2 : Int32)) hx hb dX9_item_388 (by decide) ?_
            refine r_iald X hG 17 rfl (vpd (by decide)) dX9_item_389 ?_
            obtain ⟨g_14, h⟩ := gd h
            refine r_iast X hG 7 (ws' := (W_X9 a cI cJ c_length c_text c_stands c_homeFar c_nets (upd c_netAt ((6 : Int32) + (c_nets (1 : Int32).toNatClampNeg)).toNatClampNeg (k_told_6 (0 : Int32).toNatClampNeg)) (upd c_netWide ((6 : Int32) + (c_nets (1 : Int32).toNatClampNeg)).toNatClampNeg (k_told_6 (1 : Int32).toNatClampNeg)) (upd c_netFrom ((6 : Int32) + (c_nets (1 : Int32).toNatClampNeg)).toNatClampNeg (k_told_6 (2 : Int32).toNatClampNeg)) c_netTo c_priceX c_priceY c_many c_days c_aims c_speeds c_kinds c_keptMany c_undoMany c_undos k_spot_5 k_told_6 c_to c_stood c_home c_lost c_out c_fewest c_ways c_next c_held)) rfl g_14 rfl dX9_item_390 (fun H locs hG => ?_)
            refine lv_aload_n hx hb dX9_item_391 rfl (lv_at hl 1 rfl) ?_
            refine r_get X hG in_X9 rfl 8 (by decide) w_639 0 rfl rfl dX9_item_392 ?_
            refine lv_bipush (v := (6 : Int32)) hx hb dX9_item_395 (by decide) ?_
            refine lv_aload_n hx hb dX9_item_397 rfl (lv_at hl 1 rfl) ?_
            refine r_get X hG in_X9 rfl 4 (by decide) w_635 0 rfl rfl dX9_item_398 ?_
            refine lv_iconst (v := (1 : Int32)) hx hb dX9_item_401 (by decide) ?_
            refine r_iald X hG 4 rfl (vpd (by decide)) dX9_item_402 ?_
            refine lv_iadd hx hb dX9_item_403 ?_
            refine lv_aload_n hx hb dX9_item_404 rfl (lv_at hl 1 rfl) ?_
            refine r_get X hG in_X9 rfl 20 (by decide) w_651 0 rfl rfl dX9_item_405 ?_
            refine lv_iconst (v := (3 : Int32)) hx hb dX9_item_408 (by decide) ?_
            refine r_iald X hG 17 rfl (vpd (by decide)) dX9_item_409 ?_
            obtain ⟨g_15, h⟩ := gd h
            refine r_iast X hG 8 (ws' := (W_X9 a cI cJ c_length c_text c_stands c_homeFar c_nets (upd c_netAt ((6 : Int32) + (c_nets (1 : Int32).toNatClampNeg)).toNatClampNeg (k_told_6 (0 : Int32).toNatClampNeg)) (upd c_netWide ((6 : Int32) + (c_nets (1 : Int32).toNatClampNeg)).toNatClampNeg (k_told_6 (1 : Int32).toNatClampNeg)) (upd c_netFrom ((6 : Int32) + (c_nets (1 : Int32).toNatClampNeg)).toNatClampNeg (k_told_6 (2 : Int32).toNatClampNeg)) (upd c_netTo ((6 : Int32) + (c_nets (1 : Int32).toNatClampNeg)).toNatClampNeg (k_told_6 (3 : Int32).toNatClampNeg)) c_priceX c_priceY c_many c_days c_aims c_speeds c_kinds c_keptMany c_undoMany c_undos k_spot_5 k_told_6 c_to c_stood c_home c_lost c_out c_fewest c_ways c_next c_held)) rfl g_15 rfl dX9_item_410 (fun H locs hG => ?_)
            refine lv_aload_n hx hb dX9_item_411 rfl (lv_at hl 1 rfl) ?_
            refine r_get X hG in_X9 rfl 4 (by decide) w_635 0 rfl rfl dX9_item_412 ?_
            refine lv_iconst (v := (1 : Int32)) hx hb dX9_item_415 (by decide) ?_
            refine lv_dup2_11 hx hb dX9_item_416 rfl rfl ?_
            refine r_iald X hG 4 rfl (vpd (by decide)) dX9_item_417 ?_
            refine lv_iconst (v := (1 : Int32)) hx hb dX9_item_418 (by decide) ?_
            refine lv_iadd hx hb dX9_item_419 ?_
            refine r_iast X hG 4 (ws' := (W_X9 a cI cJ c_length c_text c_stands c_homeFar (upd c_nets (1 : Int32).toNatClampNeg ((c_nets (1 : Int32).toNatClampNeg) + (1 : Int32))) (upd c_netAt ((6 : Int32) + (c_nets (1 : Int32).toNatClampNeg)).toNatClampNeg (k_told_6 (0 : Int32).toNatClampNeg)) (upd c_netWide ((6 : Int32) + (c_nets (1 : Int32).toNatClampNeg)).toNatClampNeg (k_told_6 (1 : Int32).toNatClampNeg)) (upd c_netFrom ((6 : Int32) + (c_nets (1 : Int32).toNatClampNeg)).toNatClampNeg (k_told_6 (2 : Int32).toNatClampNeg)) (upd c_netTo ((6 : Int32) + (c_nets (1 : Int32).toNatClampNeg)).toNatClampNeg (k_told_6 (3 : Int32).toNatClampNeg)) c_priceX c_priceY c_many c_days c_aims c_speeds c_kinds c_keptMany c_undoMany c_undos k_spot_5 k_told_6 c_to c_stood c_home c_lost c_out c_fewest c_ways c_next c_held)) rfl (vpd (by decide)) rfl dX9_item_420 (fun H locs hG => ?_)
            refine lv_iconst (v := (1 : Int32)) hx hb dX9_item_421 (by decide) ?_
            cases h
            exact ret _ _ _ _ dX9_item_422 (by decide) hG
          · have h := ite_f h c_11
            refine lv_iconst (v := (0 : Int32)) hx hb dX9_item_329 (by decide) ?_
            cases h
            exact ret _ _ _ _ dX9_item_330 (by decide) hG
  · have h := ite_f h c_3
    rcases Decidable.em (r_1 = (111 : Int32)) with c_16 | c_16
    · have h := ite_t h c_16
      refine lv_tableIn (off := 461) (tgt := 481) hx hb dX9_item_20 (by rw [c_16] <;> decide) (by rw [c_16] <;> decide) (by rw [c_16] <;> rfl) (by decide) ?_
      refine lv_iconst (v := (0 : Int32)) hx hb dX9_item_481 (by decide) ?_
      cases h
      exact ret _ _ _ _ dX9_item_482 (by decide) hG
    · have h := ite_f h c_16
      rcases Decidable.em (r_1 = (112 : Int32)) with c_17 | c_17
      · have h := ite_t h c_17
        refine lv_tableIn (off := 403) (tgt := 423) hx hb dX9_item_20 (by rw [c_17] <;> decide) (by rw [c_17] <;> decide) (by rw [c_17] <;> rfl) (by decide) ?_
        refine lv_aload_n hx hb dX9_item_423 rfl (lv_at hl 1 rfl) ?_
        refine lv_iconst (v := (2 : Int32)) hx hb dX9_item_424 (by decide) ?_
        obtain ⟨r_18, k_spot_19, k_told_20, hz_21, h⟩ := bd3_some h
        refine aft_i1 (run_V1 (rest := []) X hG hl.1 (mX9_figures l dC dI cI cJ a c_length c_text c_stands c_homeFar c_nets c_netAt c_netWide c_netFrom c_netTo c_priceX c_priceY c_many c_days c_aims c_speeds c_kinds c_keptMany c_undoMany c_undos (c_spot + (1 : Int32)) c_told c_to c_stood c_home c_lost c_out c_fewest c_ways c_next c_held (2 : Int32) hz_21) gi_V_X9_115 hd_V_yX9_figures ⟨rfl, rfl⟩ rfl ⟨Nat.le_of_ble_eq_true rfl, Nat.le_of_ble_eq_true rfl⟩ 0 rfl rfl rfl rfl (Nat.le_of_ble_eq_true rfl) ⟨Nat.le_of_ble_eq_true rfl, Nat.le_of_ble_eq_true rfl⟩ dX9_item_425) hG rfl (fun H locs hG => ?_)
        clear hz_21
        refine lv_if_eq (tgt := 453) hx hb dX9_item_428 (by decide) (fun c_22 => ?_) (fun c_22 => ?_)
        · have h := ite_t h c_22
          refine lv_iconst (v := (0 : Int32)) hx hb dX9_item_453 (by decide) ?_
          cases h
          exact ret _ _ _ _ dX9_item_454 (by decide) hG
        · have h := ite_f h c_22
          refine lv_aload_n hx hb dX9_item_431 rfl (lv_at hl 1 rfl) ?_
          refine r_get X hG in_X9 rfl 20 (by decide) w_651 0 rfl rfl dX9_item_432 ?_
          refine lv_iconst (v := (0 : Int32)) hx hb dX9_item_435 (by decide) ?_
          refine r_iald X hG 17 rfl (vpd (by decide)) dX9_item_436 ?_
          refine lv_bipush (v := (49 : Int32)) hx hb dX9_item_437 (by decide) ?_
          refine lv_icmp_gt (tgt := 453) hx hb dX9_item_439 (by decide) (fun c_23 => ?_) (fun c_23 => ?_)
          · have h := ite_t h c_23
            refine lv_iconst (v := (0 : Int32)) hx hb dX9_item_453 (by decide) ?_
            cases h
            exact ret _ _ _ _ dX9_item_454 (by decide) hG
          · have h := ite_f h c_23
            refine lv_aload_n hx hb dX9_item_442 rfl (lv_at hl 1 rfl) ?_
            refine r_get X hG in_X9 rfl 20 (by decide) w_651 0 rfl rfl dX9_item_443 ?_
            refine lv_iconst (v := (1 : Int32)) hx hb dX9_item_446 (by decide) ?_
            refine r_iald X hG 17 rfl (vpd (by decide)) dX9_item_447 ?_
            refine lv_bipush (v := (49 : Int32)) hx hb dX9_item_448 (by decide) ?_
            refine lv_icmp_le (tgt := 455) hx hb dX9_item_450 (by decide) (fun c_24 => ?_) (fun c_24 => ?_)
            · have h := ite_t h c_24
              refine lv_aload_n hx hb dX9_item_455 rfl (lv_at hl 1 rfl) ?_
              refine r_get X hG in_X9 rfl 9 (by decide) w_640 0 rfl rfl dX9_item_456 ?_
              refine lv_iconst (v := (1 : Int32)) hx hb dX9_item_459 (by decide) ?_
              refine lv_aload_n hx hb dX9_item_460 rfl (lv_at hl 1 rfl) ?_
              refine r_get X hG in_X9 rfl 20 (by decide) w_651 0 rfl rfl dX9_item_461 ?_
              refine lv_iconst (v := (0 : Int32)) hx hb dX9_item_464 (by decide) ?_
              refine r_iald X hG 17 rfl (vpd (by decide)) dX9_item_465 ?_
              refine r_iast X hG 9 (ws' := (W_X9 a cI cJ c_length c_text c_stands c_homeFar c_nets c_netAt c_netWide c_netFrom c_netTo (upd c_priceX (1 : Int32).toNatClampNeg (k_told_20 (0 : Int32).toNatClampNeg)) c_priceY c_many c_days c_aims c_speeds c_kinds c_keptMany c_undoMany c_undos k_spot_19 k_told_20 c_to c_stood c_home c_lost c_out c_fewest c_ways c_next c_held)) rfl (vpd (by decide)) rfl dX9_item_466 (fun H locs hG => ?_)
              refine lv_aload_n hx hb dX9_item_467 rfl (lv_at hl 1 rfl) ?_
              refine r_get X hG in_X9 rfl 10 (by decide) w_641 0 rfl rfl dX9_item_468 ?_
              refine lv_iconst (v := (1 : Int32)) hx hb dX9_item_471 (by decide) ?_
              refine lv_aload_n hx hb dX9_item_472 rfl (lv_at hl 1 rfl) ?_
              refine r_get X hG in_X9 rfl 20 (by decide) w_651 0 rfl rfl dX9_item_473 ?_
              refine lv_iconst (v := (1 : Int32)) hx hb dX9_item_476 (by decide) ?_
              refine r_iald X hG 17 rfl (vpd (by decide)) dX9_item_477 ?_
              refine r_iast X hG 10 (ws' := (W_X9 a cI cJ c_length c_text c_stands c_homeFar c_nets c_netAt c_netWide c_netFrom c_netTo (upd c_priceX (1 : Int32).toNatClampNeg (k_told_20 (0 : Int32).toNatClampNeg)) (upd c_priceY (1 : Int32).toNatClampNeg (k_told_20 (1 : Int32).toNatClampNeg)) c_many c_days c_aims c_speeds c_kinds c_keptMany c_undoMany c_undos k_spot_19 k_told_20 c_to c_stood c_home c_lost c_out c_fewest c_ways c_next c_held)) rfl (vpd (by decide)) rfl dX9_item_478 (fun H locs hG => ?_)
              refine lv_iconst (v := (1 : Int32)) hx hb dX9_item_479 (by decide) ?_
              cases h
              exact ret _ _ _ _ dX9_item_480 (by decide) hG
            · have h := ite_f h c_24
              refine lv_iconst (v := (0 : Int32)) hx hb dX9_item_453 (by decide) ?_
              cases h
              exact ret _ _ _ _ dX9_item_454 (by decide) hG
      · have h := ite_f h c_17
        rcases Decidable.em (r_1 = (113 : Int32)) with c_25 | c_25
        · have h := ite_t h c_25
          refine lv_tableIn (off := 461) (tgt := 481) hx hb dX9_item_20 (by rw [c_25] <;> decide) (by rw [c_25] <;> decide) (by rw [c_25] <;> rfl) (by decide) ?_
          refine lv_iconst (v := (0 : Int32)) hx hb dX9_item_481 (by decide) ?_
          cases h
          exact ret _ _ _ _ dX9_item_482 (by decide) hG
        · have h := ite_f h c_25
          rcases Decidable.em (r_1 = (114 : Int32)) with c_26 | c_26
          · have h := ite_t h c_26
            refine lv_tableIn (off := 44) (tgt := 64) hx hb dX9_item_20 (by rw [c_26] <;> decide) (by rw [c_26] <;> decide) (by rw [c_26] <;> rfl) (by decide) ?_
            refine lv_aload_n hx hb dX9_item_64 rfl (lv_at hl 1 rfl) ?_
            refine lv_iconst (v := (2 : Int32)) hx hb dX9_item_65 (by decide) ?_
            obtain ⟨r_27, k_spot_28, k_told_29, hz_30, h⟩ := bd3_some h
            refine aft_i1 (run_V1 (rest := []) X hG hl.1 (mX9_figures l dC dI cI cJ a c_length c_text c_stands c_homeFar c_nets c_netAt c_netWide c_netFrom c_netTo c_priceX c_priceY c_many c_days c_aims c_speeds c_kinds c_keptMany c_undoMany c_undos (c_spot + (1 : Int32)) c_told c_to c_stood c_home c_lost c_out c_fewest c_ways c_next c_held (2 : Int32) hz_30) gi_V_X9_115 hd_V_yX9_figures ⟨rfl, rfl⟩ rfl ⟨Nat.le_of_ble_eq_true rfl, Nat.le_of_ble_eq_true rfl⟩ 0 rfl rfl rfl rfl (Nat.le_of_ble_eq_true rfl) ⟨Nat.le_of_ble_eq_true rfl, Nat.le_of_ble_eq_true rfl⟩ dX9_item_66) hG rfl (fun H locs hG => ?_)
            clear hz_30
            refine lv_if_eq (tgt := 100) hx hb dX9_item_69 (by decide) (fun c_31 => ?_) (fun c_31 => ?_)
            · have h := ite_t h c_31
              refine lv_iconst (v := (0 : Int32)) hx hb dX9_item_100 (by decide) ?_
              cases h
              exact ret _ _ _ _ dX9_item_101 (by decide) hG
            · have h := ite_f h c_31
              refine lv_aload_n hx hb dX9_item_72 rfl (lv_at hl 1 rfl) ?_
              refine r_get X hG in_X9 rfl 20 (by decide) w_651 0 rfl rfl dX9_item_73 ?_
              refine lv_iconst (v := (0 : Int32)) hx hb dX9_item_76 (by decide) ?_
              refine r_iald X hG 17 rfl (vpd (by decide)) dX9_item_77 ?_
              refine lv_bipush (v := (23 : Int32)) hx hb dX9_item_78 (by decide) ?_
              refine lv_icmp_gt (tgt := 100) hx hb dX9_item_80 (by decide) (fun c_32 => ?_) (fun c_32 => ?_)
              · have h := ite_t h c_32
                refine lv_iconst (v := (0 : Int32)) hx hb dX9_item_100 (by decide) ?_
                cases h
                exact ret _ _ _ _ dX9_item_101 (by decide) hG
              · have h := ite_f h c_32
                refine lv_aload_n hx hb dX9_item_83 rfl (lv_at hl 1 rfl) ?_
                refine r_get X hG in_X9 rfl 20 (by decide) w_651 0 rfl rfl dX9_item_84 ?_
                refine lv_iconst (v := (1 : Int32)) hx hb dX9_item_87 (by decide) ?_
                refine r_iald X hG 17 rfl (vpd (by decide)) dX9_item_88 ?_
                refine lv_i2l (v := ((k_told_29 (1 : Int32).toNatClampNeg).toInt64)) hx hb dX9_item_89 rfl ?_
                refine lv_lconst (v := (1 : Int64)) hx hb dX9_item_90 (by decide) ?_
                refine lv_ldc2 (v := (60 : Int64)) hx hb X.1.2.2.2.1 (X.1.2.2.2.2 _ w_759) dX9_item_91 ?_
                obtain ⟨r_33, hz_34, h⟩ := bd1_some h
                refine aft_i (ws' := (W_X9 a cI cJ c_length c_text c_stands c_homeFar c_nets c_netAt c_netWide c_netFrom c_netTo c_priceX c_priceY c_many c_days c_aims c_speeds c_kinds c_keptMany c_undoMany c_undos k_spot_28 k_told_29 c_to c_stood c_home c_lost c_out c_fewest c_ways c_next c_held)) (run_S (rest := []) X hG hl.1 (mX9_in l dC dI cI cJ ((k_told_29 (1 : Int32).toNatClampNeg).toInt64) (1 : Int64) (60 : Int64) hz_34) gi_S_X9_92 hd_S_yX9_in ⟨rfl, rfl⟩ rfl ⟨Nat.le_of_ble_eq_true rfl, Nat.le_of_ble_eq_true rfl⟩ [] (by decide) rfl rfl (Nat.le_of_ble_eq_true rfl) ⟨Nat.le_of_ble_eq_true rfl, Nat.le_of_ble_eq_true rfl⟩ dX9_item_94) hG [] rfl rfl rfl (fun H locs hG => ?_)
                clear hz_34
                refine lv_if_ne (tgt := 102) hx hb dX9_item_97 (by decide) (fun c_35 => ?_) (fun c_35 => ?_)
                · have h := ite_f h c_35
                  refine lv_aload_n hx hb dX9_item_102 rfl (lv_at hl 1 rfl) ?_
                  refine r_get X hG in_X9 rfl 2 (by decide) w_633 0 rfl rfl dX9_item_103 ?_
                  refine lv_iconst (v := (1 : Int32)) hx hb dX9_item_106 (by decide) ?_
                  refine lv_aload_n hx hb dX9_item_107 rfl (lv_at hl 1 rfl) ?_
                  refine r_get X hG in_X9 rfl 20 (by decide) w_651 0 rfl rfl dX9_item_108 ?_
                  refine lv_iconst (v := (0 : Int32)) hx hb dX9_item_111 (by decide) ?_
                  refine r_iald X hG 17 rfl (vpd (by decide)) dX9_item_112 ?_
                  refine r_iast X hG 2 (ws' := (W_X9 a cI cJ c_length c_text (upd c_stands (1 : Int32).toNatClampNeg (k_told_29 (0 : Int32).toNatClampNeg)) c_homeFar c_nets c_netAt c_netWide c_netFrom c_netTo c_priceX c_priceY c_many c_days c_aims c_speeds c_kinds c_keptMany c_undoMany c_undos k_spot_28 k_told_29 c_to c_stood c_home c_lost c_out c_fewest c_ways c_next c_held)) rfl (vpd (by decide)) rfl dX9_item_113 (fun H locs hG => ?_)
                  refine lv_aload_n hx hb dX9_item_114 rfl (lv_at hl 1 rfl) ?_
                  refine r_get X hG in_X9 rfl 3 (by decide) w_634 0 rfl rfl dX9_item_115 ?_
                  refine lv_iconst (v := (1 : Int32)) hx hb dX9_item_118 (by decide) ?_
                  refine lv_aload_n hx hb dX9_item_119 rfl (lv_at hl 1 rfl) ?_
                  refine r_get X hG in_X9 rfl 20 (by decide) w_651 0 rfl rfl dX9_item_120 ?_
                  refine lv_iconst (v := (1 : Int32)) hx hb dX9_item_123 (by decide) ?_
                  refine r_iald X hG 17 rfl (vpd (by decide)) dX9_item_124 ?_
                  refine r_iast X hG 3 (ws' := (W_X9 a cI cJ c_length c_text (upd c_stands (1 : Int32).toNatClampNeg (k_told_29 (0 : Int32).toNatClampNeg)) (upd c_homeFar (1 : Int32).toNatClampNeg (k_told_29 (1 : Int32).toNatClampNeg)) c_nets c_netAt c_netWide c_netFrom c_netTo c_priceX c_priceY c_many c_days c_aims c_speeds c_kinds c_keptMany c_undoMany c_undos k_spot_28 k_told_29 c_to c_stood c_home c_lost c_out c_fewest c_ways c_next c_held)) rfl (vpd (by decide)) rfl dX9_item_125 (fun H locs hG => ?_)
                  refine lv_iconst (v := (1 : Int32)) hx hb dX9_item_126 (by decide) ?_
                  cases h
                  exact ret _ _ _ _ dX9_item_127 (by decide) hG
                · have h := ite_t h c_35
                  refine lv_iconst (v := (0 : Int32)) hx hb dX9_item_100 (by decide) ?_
                  cases h
                  exact ret _ _ _ _ dX9_item_101 (by decide) hG
          · have h := ite_f h c_26
            rcases Decidable.em (r_1 = (115 : Int32)) with c_36 | c_36
            · have h := ite_t h c_36
              refine lv_tableIn (off := 461) (tgt := 481) hx hb dX9_item_20 (by rw [c_36] <;> decide) (by rw [c_36] <;> decide) (by rw [c_36] <;> rfl) (by decide) ?_
              refine lv_iconst (v := (0 : Int32)) hx hb dX9_item_481 (by decide) ?_
              cases h
              exact ret _ _ _ _ dX9_item_482 (by decide) hG
            · have h := ite_f h c_36
              rcases Decidable.em (r_1 = (116 : Int32)) with c_37 | c_37
              · have h := ite_t h c_37
                refine lv_tableIn (off := 108) (tgt := 128) hx hb dX9_item_20 (by rw [c_37] <;> decide) (by rw [c_37] <;> decide) (by rw [c_37] <;> rfl) (by decide) ?_
                refine lv_aload_n hx hb dX9_item_128 rfl (lv_at hl 1 rfl) ?_
                refine lv_iconst (v := (4 : Int32)) hx hb dX9_item_129 (by decide) ?_
                obtain ⟨r_38, k_spot_39, k_told_40, hz_41, h⟩ := bd3_some h
                refine aft_i1 (run_V1 (rest := []) X hG hl.1 (mX9_figures l dC dI cI cJ a c_length c_text c_stands c_homeFar c_nets c_netAt c_netWide c_netFrom c_netTo c_priceX c_priceY c_many c_days c_aims c_speeds c_kinds c_keptMany c_undoMany c_undos (c_spot + (1 : Int32)) c_told c_to c_stood c_home c_lost c_out c_fewest c_ways c_next c_held (4 : Int32) hz_41) gi_V_X9_115 hd_V_yX9_figures ⟨rfl, rfl⟩ rfl ⟨Nat.le_of_ble_eq_true rfl, Nat.le_of_ble_eq_true rfl⟩ 0 rfl rfl rfl rfl (Nat.le_of_ble_eq_true rfl) ⟨Nat.le_of_ble_eq_true rfl, Nat.le_of_ble_eq_true rfl⟩ dX9_item_130) hG rfl (fun H locs hG => ?_)
                clear hz_41
                refine lv_if_eq (tgt := 196) hx hb dX9_item_133 (by decide) (fun c_42 => ?_) (fun c_42 => ?_)
                · have h := ite_t h c_42
                  refine lv_iconst (v := (0 : Int32)) hx hb dX9_item_196 (by decide) ?_
                  cases h
                  exact ret _ _ _ _ dX9_item_197 (by decide) hG
                · have h := ite_f h c_42
                  refine lv_aload_n hx hb dX9_item_136 rfl (lv_at hl 1 rfl) ?_
                  refine r_get X hG in_X9 rfl 11 (by decide) w_642 0 rfl rfl dX9_item_137 ?_
                  refine lv_iconst (v := (1 : Int32)) hx hb dX9_item_140 (by decide) ?_
                  refine r_iald X hG 11 rfl (vpd (by decide)) dX9_item_141 ?_
                  refine lv_bipush (v := (7 : Int32)) hx hb dX9_item_142 (by decide) ?_
                  refine lv_icmp_eq (tgt := 196) hx hb dX9_item_144 (by decide) (fun c_43 => ?_) (fun c_43 => ?_)
                  · have h := ite_t h c_43
                    refine lv_iconst (v := (0 : Int32)) hx hb dX9_item_196 (by decide) ?_
                    cases h
                    exact ret _ _ _ _ dX9_item_197 (by decide) hG
                  · have h := ite_f h c_43
                    refine lv_aload_n hx hb dX9_item_147 rfl (lv_at hl 1 rfl) ?_
                    refine r_get X hG in_X9 rfl 20 (by decide) w_651 0 rfl rfl dX9_item_148 ?_
                    refine lv_iconst (v := (0 : Int32)) hx hb dX9_item_151 (by decide) ?_
                    refine r_iald X hG 17 rfl (vpd (by decide)) dX9_item_152 ?_
                    refine lv_bipush (v := (40 : Int32)) hx hb dX9_item_153 (by decide) ?_
                    refine lv_icmp_gt (tgt := 196) hx hb dX9_item_155 (by decide) (fun c_44 => ?_) (fun c_44 => ?_)
                    · have h := ite_t h c_44
                      refine lv_iconst (v := (0 : Int32)) hx hb dX9_item_196 (by decide) ?_
                      cases h
                      exact ret _ _ _ _ dX9_item_197 (by decide) hG
                    · have h := ite_f h c_44
                      refine lv_aload_n hx hb dX9_item_158 rfl (lv_at hl 1 rfl) ?_
                      refine r_get X hG in_X9 rfl 20 (by decide) w_651 0 rfl rfl dX9_item_159 ?_
                      refine lv_iconst (v := (1 : Int32)) hx hb dX9_item_162 (by decide) ?_
                      refine r_iald X hG 17 rfl (vpd (by decide)) dX9_item_163 ?_
                      refine lv_bipush (v := (23 : Int32)) hx hb dX9_item_164 (by decide) ?_
                      refine lv_icmp_gt (tgt := 196) hx hb dX9_item_166 (by decide) (fun c_45 => ?_) (fun c_45 => ?_)
                      · have h := ite_t h c_45
                        refine lv_iconst (v := (0 : Int32)) hx hb dX9_item_196 (by decide) ?_
                        cases h
                        exact ret _ _ _ _ dX9_item_197 (by decide) hG
                      · have h := ite_f h c_45
                        refine lv_aload_n hx hb dX9_item_169 rfl (lv_at hl 1 rfl) ?_
                        refine r_get X hG in_X9 rfl 20 (by decide) w_651 0 rfl rfl dX9_item_170 ?_
                        refine lv_iconst (v := (2 : Int32)) hx hb dX9_item_173 (by decide) ?_
                        refine r_iald X hG 17 rfl (vpd (by decide)) dX9_item_174 ?_
                        refine lv_i2l (v := ((k_told_40 (2 : Int32).toNatClampNeg).toInt64)) hx hb dX9_item_175 rfl ?_
                        refine lv_lconst (v := (1 : Int64)) hx hb dX9_item_176 (by decide) ?_
                        refine lv_ldc2 (v := (6 : Int64)) hx hb X.1.2.2.2.1 (X.1.2.2.2.2 _ w_760) dX9_item_177 ?_
                        obtain ⟨r_46, hz_47, h⟩ := bd1_some h
                        refine aft_i (ws' := (W_X9 a cI cJ c_length c_text c_stands c_homeFar c_nets c_netAt c_netWide c_netFrom c_netTo c_priceX c_priceY c_many c_days c_aims c_speeds c_kinds c_keptMany c_undoMany c_undos k_spot_39 k_told_40 c_to c_stood c_home c_lost c_out c_fewest c_ways c_next c_held)) (run_S (rest := []) X hG hl.1 (mX9_in l dC dI cI cJ ((k_told_40 (2 : Int32).toNatClampNeg).toInt64) (1 : Int64) (6 : Int64) hz_47) gi_S_X9_92 hd_S_yX9_in ⟨rfl, rfl⟩ rfl ⟨Nat.le_of_ble_eq_true rfl, Nat.le_of_ble_eq_true rfl⟩ [] (by decide) rfl rfl (Nat.le_of_ble_eq_true rfl) ⟨Nat.le_of_ble_eq_true rfl, Nat.le_of_ble_eq_true rfl⟩ dX9_item_180) hG [] rfl rfl rfl (fun H locs hG => ?_)
                        clear hz_47
                        refine lv_if_eq (tgt := 196) hx hb dX9_item_183 (by decide) (fun c_48 => ?_) (fun c_48 => ?_)
                        · have h := ite_t h c_48
                          refine lv_iconst (v := (0 : Int32)) hx hb dX9_item_196 (by decide) ?_
                          cases h
                          exact ret _ _ _ _ dX9_item_197 (by decide) hG
                        · have h := ite_f h c_48
                          refine lv_aload_n hx hb dX9_item_186 rfl (lv_at hl 1 rfl) ?_
                          refine r_get X hG in_X9 rfl 20 (by decide) w_651 0 rfl rfl dX9_item_187 ?_
                          refine lv_iconst (v := (3 : Int32)) hx hb dX9_item_190 (by decide) ?_
                          refine r_iald X hG 17 rfl (vpd (by decide)) dX9_item_191 ?_
                          refine lv_iconst (v := (3 : Int32)) hx hb dX9_item_192 (by decide) ?_
                          refine lv_icmp_le (tgt := 198) hx hb dX9_item_193 (by decide) (fun c_49 => ?_) (fun c_49 => ?_)
                          · have h := ite_t h c_49
                            refine lv_aload_n hx hb dX9_item_198 rfl (lv_at hl 1 rfl) ?_
                            refine r_get X hG in_X9 rfl 12 (by decide) w_643 0 rfl rfl dX9_item_199 ?_
                            refine lv_bipush (v := (7 : Int32)) hx hb dX9_item_202 (by decide) ?_
                            refine lv_aload_n hx hb dX9_item_204 rfl (lv_at hl 1 rfl) ?_
                            refine r_get X hG in_X9 rfl 11 (by decide) w_642 0 rfl rfl dX9_item_205 ?_
                            refine lv_iconst (v := (1 : Int32)) hx hb dX9_item_208 (by decide) ?_
                            refine r_iald X hG 11 rfl (vpd (by decide)) dX9_item_209 ?_
                            refine lv_iadd hx hb dX9_item_210 ?_
                            refine lv_aload_n hx hb dX9_item_211 rfl (lv_at hl 1 rfl) ?_
                            refine r_get X hG in_X9 rfl 20 (by decide) w_651 0 rfl rfl dX9_item_212 ?_
                            refine lv_iconst (v := (0 : Int32)) hx hb dX9_item_215 (by decide) ?_
                            refine r_iald X hG 17 rfl (vpd (by decide)) dX9_item_216 ?_
                            obtain ⟨g_50, h⟩ := gd h
                            refine r_iast X hG 12 (ws' := (W_X9 a cI cJ c_length c_text c_stands c_homeFar c_nets c_netAt c_netWide c_netFrom c_netTo c_priceX c_priceY c_many (upd c_days ((7 : Int32) + (c_many (1 : Int32).toNatClampNeg)).toNatClampNeg (k_told_40 (0 : Int32).toNatClampNeg)) c_aims c_speeds c_kinds c_keptMany c_undoMany c_undos k_spot_39 k_told_40 c_to c_stood c_home c_lost c_out c_fewest c_ways c_next c_held)) rfl g_50 rfl dX9_item_217 (fun H locs hG => ?_)
                            refine lv_aload_n hx hb dX9_item_218 rfl (lv_at hl 1 rfl) ?_
                            refine r_get X hG in_X9 rfl 13 (by decide) w_644 0 rfl rfl dX9_item_219 ?_
                            refine lv_bipush (v := (7 : Int32)) hx hb dX9_item_222 (by decide) ?_
                            refine lv_aload_n hx hb dX9_item_224 rfl (lv_at hl 1 rfl) ?_
                            refine r_get X hG in_X9 rfl 11 (by decide) w_642 0 rfl rfl dX9_item_225 ?_
                            refine lv_iconst (v := (1 : Int32)) hx hb dX9_item_228 (by decide) ?_
                            refine r_iald X hG 11 rfl (vpd (by decide)) dX9_item_229 ?_
                            refine lv_iadd hx hb dX9_item_230 ?_
                            refine lv_aload_n hx hb dX9_item_231 rfl (lv_at hl 1 rfl) ?_
                            refine r_get X hG in_X9 rfl 20 (by decide) w_651 0 rfl rfl dX9_item_232 ?_
                            refine lv_iconst (v := (1 : Int32)) hx hb dX9_item_235 (by decide) ?_
                            refine r_iald X hG 17 rfl (vpd (by decide)) dX9_item_236 ?_
                            obtain ⟨g_51, h⟩ := gd h
                            refine r_iast X hG 13 (ws' := (W_X9 a cI cJ c_length c_text c_stands c_homeFar c_nets c_netAt c_netWide c_netFrom c_netTo c_priceX c_priceY c_many (upd c_days ((7 : Int32) + (c_many (1 : Int32).toNatClampNeg)).toNatClampNeg (k_told_40 (0 : Int32).toNatClampNeg)) (upd c_aims ((7 : Int32) + (c_many (1 : Int32).toNatClampNeg)).toNatClampNeg (k_told_40 (1 : Int32).toNatClampNeg)) c_speeds c_kinds c_keptMany c_undoMany c_undos k_spot_39 k_told_40 c_to c_stood c_home c_lost c_out c_fewest c_ways c_next c_held)) rfl g_51 rfl dX9_item_237 (fun H locs hG => ?_)
                            refine lv_aload_n hx hb dX9_item_238 rfl (lv_at hl 1 rfl) ?_
                            refine r_get X hG in_X9 rfl 14 (by decide) w_645 0 rfl rfl dX9_item_239 ?_
                            refine lv_bipush (v := (7 : Int32)) hx hb dX9_item_242 (by decide) ?_
                            refine lv_aload_n hx hb dX9_item_244 rfl (lv_at hl 1 rfl) ?_
                            refine r_get X hG in_X9 rfl 11 (by decide) w_642 0 rfl rfl dX9_item_245 ?_
                            refine lv_iconst (v := (1 : Int32)) hx hb dX9_item_248 (by decide) ?_
                            refine r_iald X hG 11 rfl (vpd (by decide)) dX9_item_249 ?_
                            refine lv_iadd hx hb dX9_item_250 ?_
                            refine lv_aload_n hx hb dX9_item_251 rfl (lv_at hl 1 rfl) ?_
                            refine r_get X hG in_X9 rfl 20 (by decide) w_651 0 rfl rfl dX9_item_252 ?_
                            refine lv_iconst (v := (2 : Int32)) hx hb dX9_item_255 (by decide) ?_
                            refine r_iald X hG 17 rfl (vpd (by decide)) dX9_item_256 ?_
                            obtain ⟨g_52, h⟩ := gd h
                            refine r_iast X hG 14 (ws' := (W_X9 a cI cJ c_length c_text c_stands c_homeFar c_nets c_netAt c_netWide c_netFrom c_netTo c_priceX c_priceY c_many (upd c_days ((7 : Int32) + (c_many (1 : Int32).toNatClampNeg)).toNatClampNeg (k_told_40 (0 : Int32).toNatClampNeg)) (upd c_aims ((7 : Int32) + (c_many (1 : Int32).toNatClampNeg)).toNatClampNeg (k_told_40 (1 : Int32).toNatClampNeg)) (upd c_speeds ((7 : Int32) + (c_many (1 : Int32).toNatClampNeg)).toNatClampNeg (k_told_40 (2 : Int32).toNatClampNeg)) c_kinds c_keptMany c_undoMany c_undos k_spot_39 k_told_40 c_to c_stood c_home c_lost c_out c_fewest c_ways c_next c_held)) rfl g_52 rfl dX9_item_257 (fun H locs hG => ?_)
                            refine lv_aload_n hx hb dX9_item_258 rfl (lv_at hl 1 rfl) ?_
                            refine r_get X hG in_X9 rfl 15 (by decide) w_646 0 rfl rfl dX9_item_259 ?_
                            refine lv_bipush (v := (7 : Int32)) hx hb dX9_item_262 (by decide) ?_
                            refine lv_aload_n hx hb dX9_item_264 rfl (lv_at hl 1 rfl) ?_
                            refine r_get X hG in_X9 rfl 11 (by decide) w_642 0 rfl rfl dX9_item_265 ?_
                            refine lv_iconst (v := (1 : Int32)) hx hb dX9_item_268 (by decide) ?_
                            refine r_iald X hG 11 rfl (vpd (by decide)) dX9_item_269 ?_
                            refine lv_iadd hx hb dX9_item_270 ?_
                            refine lv_aload_n hx hb dX9_item_271 rfl (lv_at hl 1 rfl) ?_
                            refine r_get X hG in_X9 rfl 20 (by decide) w_651 0 rfl rfl dX9_item_272 ?_
                            refine lv_iconst (v := (3 : Int32)) hx hb dX9_item_275 (by decide) ?_
                            refine r_iald X hG 17 rfl (vpd (by decide)) dX9_item_276 ?_
                            obtain ⟨g_53, h⟩ := gd h
                            refine r_iast X hG 15 (ws' := (W_X9 a cI cJ c_length c_text c_stands c_homeFar c_nets c_netAt c_netWide c_netFrom c_netTo c_priceX c_priceY c_many (upd c_days ((7 : Int32) + (c_many (1 : Int32).toNatClampNeg)).toNatClampNeg (k_told_40 (0 : Int32).toNatClampNeg)) (upd c_aims ((7 : Int32) + (c_many (1 : Int32).toNatClampNeg)).toNatClampNeg (k_told_40 (1 : Int32).toNatClampNeg)) (upd c_speeds ((7 : Int32) + (c_many (1 : Int32).toNatClampNeg)).toNatClampNeg (k_told_40 (2 : Int32).toNatClampNeg)) (upd c_kinds ((7 : Int32) + (c_many (1 : Int32).toNatClampNeg)).toNatClampNeg (k_told_40 (3 : Int32).toNatClampNeg)) c_keptMany c_undoMany c_undos k_spot_39 k_told_40 c_to c_stood c_home c_lost c_out c_fewest c_ways c_next c_held)) rfl g_53 rfl dX9_item_277 (fun H locs hG => ?_)
                            refine lv_aload_n hx hb dX9_item_278 rfl (lv_at hl 1 rfl) ?_
                            refine r_get X hG in_X9 rfl 11 (by decide) w_642 0 rfl rfl dX9_item_279 ?_
                            refine lv_iconst (v := (1 : Int32)) hx hb dX9_item_282 (by decide) ?_
                            refine lv_dup2_11 hx hb dX9_item_283 rfl rfl ?_
                            refine r_iald X hG 11 rfl (vpd (by decide)) dX9_item_284 ?_
                            refine lv_iconst (v := (1 : Int32)) hx hb dX9_item_285 (by decide) ?_
                            refine lv_iadd hx hb dX9_item_286 ?_
                            refine r_iast X hG 11 (ws' := (W_X9 a cI cJ c_length c_text c_stands c_homeFar c_nets c_netAt c_netWide c_netFrom c_netTo c_priceX c_priceY (upd c_many (1 : Int32).toNatClampNeg ((c_many (1 : Int32).toNatClampNeg) + (1 : Int32))) (upd c_days ((7 : Int32) + (c_many (1 : Int32).toNatClampNeg)).toNatClampNeg (k_told_40 (0 : Int32).toNatClampNeg)) (upd c_aims ((7 : Int32) + (c_many (1 : Int32).toNatClampNeg)).toNatClampNeg (k_told_40 (1 : Int32).toNatClampNeg)) (upd c_speeds ((7 : Int32) + (c_many (1 : Int32).toNatClampNeg)).toNatClampNeg (k_told_40 (2 : Int32).toNatClampNeg)) (upd c_kinds ((7 : Int32) + (c_many (1 : Int32).toNatClampNeg)).toNatClampNeg (k_told_40 (3 : Int32).toNatClampNeg)) c_keptMany c_undoMany c_undos k_spot_39 k_told_40 c_to c_stood c_home c_lost c_out c_fewest c_ways c_next c_held)) rfl (vpd (by decide)) rfl dX9_item_287 (fun H locs hG => ?_)
                            refine lv_iconst (v := (1 : Int32)) hx hb dX9_item_288 (by decide) ?_
                            cases h
                            exact ret _ _ _ _ dX9_item_289 (by decide) hG
                          · have h := ite_f h c_49
                            refine lv_iconst (v := (0 : Int32)) hx hb dX9_item_196 (by decide) ?_
                            cases h
                            exact ret _ _ _ _ dX9_item_197 (by decide) hG
              · have h := ite_f h c_37
                refine lv_tableOut (tgt := 481) hx hb dX9_item_20 (by have := lv_neT c_3 (a := 110) rfl; have := lv_neT c_16 (a := 111) rfl; have := lv_neT c_17 (a := 112) rfl; have := lv_neT c_25 (a := 113) rfl; have := lv_neT c_26 (a := 114) rfl; have := lv_neT c_36 (a := 115) rfl; have := lv_neT c_37 (a := 116) rfl; omega) (by decide) ?_
                refine lv_iconst (v := (0 : Int32)) hx hb dX9_item_481 (by decide) ?_
                cases h
                exact ret _ _ _ _ dX9_item_482 (by decide) hG
set_option maxRecDepth 100000 in
set_option maxHeartbeats 4000000 in
theorem mX9_readAll (l : Launch) (dC : Nat → ClassId) (dI : Nat → Nat → Nat) (cI cJ : ClassId) (a : Nat → Nat) (c_length : Int32) (c_text : Nat → Int32) (c_stands : Nat → Int32) (c_homeFar : Nat → Int32) (c_nets : Nat → Int32) (c_netAt : Nat → Int32) (c_netWide : Nat → Int32) (c_netFrom : Nat → Int32) (c_netTo : Nat → Int32) (c_priceX : Nat → Int32) (c_priceY : Nat → Int32) (c_many : Nat → Int32) (c_days : Nat → Int32) (c_aims : Nat → Int32) (c_speeds : Nat → Int32) (c_kinds : Nat → Int32) (c_keptMany : Int32) (c_undoMany : Int32) (c_undos : Nat → Int32) (c_spot : Int32) (c_told : Nat → Int32) (c_to : Nat → Int32) (c_stood : Nat → Int32) (c_home : Nat → Int32) (c_lost : Nat → Int32) (c_out : Int32) (c_fewest : Nat → Int32) (c_ways : Nat → Int64) (c_next : Nat → Int64) (c_held : Nat → Int32) {res : Int32} {n_stands : Nat → Int32} {n_homeFar : Nat → Int32} {n_nets : Nat → Int32} {n_netAt : Nat → Int32} {n_netWide : Nat → Int32} {n_netFrom : Nat → Int32} {n_netTo : Nat → Int32} {n_priceX : Nat → Int32} {n_priceY : Nat → Int32} {n_many : Nat → Int32} {n_days : Nat → Int32} {n_aims : Nat → Int32} {n_speeds : Nat → Int32} {n_kinds : Nat → Int32} {n_spot : Int32} {n_told : Nat → Int32} (hD : DX9_readAll c_length c_text c_stands c_homeFar c_nets c_netAt c_netWide c_netFrom c_netTo c_priceX c_priceY c_many c_days c_aims c_speeds c_kinds c_told = some (res, n_stands, n_homeFar, n_nets, n_netAt, n_netWide, n_netFrom, n_netTo, n_priceX, n_priceY, n_many, n_days, n_aims, n_speeds, n_kinds, n_spot, n_told)) : Met l yX9_readAll (WZ yX9_readAll cX9_readAll 2 (some .int)) (RM 3 70) (PC dC dI cI cJ [.ref (a 0)] (W_X9 a cI cJ c_length c_text c_stands c_homeFar c_nets c_netAt c_netWide c_netFrom c_netTo c_priceX c_priceY c_many c_days c_aims c_speeds c_kinds c_keptMany c_undoMany c_undos c_spot c_told c_to c_stood c_home c_lost c_out c_fewest c_ways c_next c_held)) (QI dC dI (W_X9 a cI cJ c_length c_text c_stands c_homeFar c_nets c_netAt c_netWide c_netFrom c_netTo c_priceX c_priceY c_many c_days c_aims c_speeds c_kinds c_keptMany c_undoMany c_undos c_spot c_told c_to c_stood c_home c_lost c_out c_fewest c_ways c_next c_held) (W_X9 a cI cJ c_length c_text n_stands n_homeFar n_nets n_netAt n_netWide n_netFrom n_netTo n_priceX n_priceY n_many n_days n_aims n_speeds n_kinds c_keptMany c_undoMany c_undos n_spot n_told c_to c_stood c_home c_lost c_out c_fewest c_ways c_next c_held) res) 0 0 (FA (W_X9 a cI cJ c_length c_text c_stands c_homeFar c_nets c_netAt c_netWide c_netFrom c_netTo c_priceX c_priceY c_many c_days c_aims c_speeds c_kinds c_keptMany c_undoMany c_undos c_spot c_told c_to c_stood c_home c_lost c_out c_fewest c_ways c_next c_held)) := by
  refine r_metI (by decide +kernel) (Nat.le_of_ble_eq_true rfl) ?_
  intro p e s m args below meth c A H0 QQ X ret ls hl hG
  have X : Cx p m c cX9_readAll 2 s args RX9 dC dI cI cJ meth (some .int) := X
  have hx := X.1.1
  have hb := X.1.2.1
  have hl : lv_has ls 2 [(0, .ref (a 0))] := hl
  have L10 : ∀ (n : Nat) (c_stands : Nat → Int32) (c_homeFar : Nat → Int32) (c_nets : Nat → Int32) (c_netAt : Nat → Int32) (c_netWide : Nat → Int32) (c_netFrom : Nat → Int32) (c_netTo : Nat → Int32) (c_priceX : Nat → Int32) (c_priceY : Nat → Int32) (c_many : Nat → Int32) (c_days : Nat → Int32) (c_aims : Nat → Int32) (c_speeds : Nat → Int32) (c_kinds : Nat → Int32) (c_spot : Int32) (c_told : Nat → Int32) (v : ((Nat → Int32) × (Nat → Int32) × (Nat → Int32) × (Nat → Int32) × (Nat → Int32) × (Nat → Int32) × (Nat → Int32) × (Nat → Int32) × (Nat → Int32) × (Nat → Int32) × (Nat → Int32) × (Nat → Int32) × (Nat → Int32) × (Nat → Int32) × Int32 × (Nat → Int32)) ⊕ (Int32 × (Nat → Int32) × (Nat → Int32) × (Nat → Int32) × (Nat → Int32) × (Nat → Int32) × (Nat → Int32) × (Nat → Int32) × (Nat → Int32) × (Nat → Int32) × (Nat → Int32) × (Nat → Int32) × (Nat → Int32) × (Nat → Int32) × (Nat → Int32) × Int32 × (Nat → Int32))), DX9_readAll_L10 c_length c_text n c_stands c_homeFar c_nets c_netAt c_netWide c_netFrom c_netTo c_priceX c_priceY c_many c_days c_aims c_speeds c_kinds c_spot c_told = some v → (∀ (ec_stands : Nat → Int32) (ec_homeFar : Nat → Int32) (ec_nets : Nat → Int32) (ec_netAt : Nat → Int32) (ec_netWide : Nat → Int32) (ec_netFrom : Nat → Int32) (ec_netTo : Nat → Int32) (ec_priceX : Nat → Int32) (ec_priceY : Nat → Int32) (ec_many : Nat → Int32) (ec_days : Nat → Int32) (ec_aims : Nat → Int32) (ec_speeds : Nat → Int32) (ec_kinds : Nat → Int32) (ec_spot : Int32) (ec_told : Nat → Int32), v = .inl (ec_stands, ec_homeFar, ec_nets, ec_netAt, ec_netWide, ec_netFrom, ec_netTo, ec_priceX, ec_priceY, ec_many, ec_days, ec_aims, ec_speeds, ec_kinds, ec_spot, ec_told) → ∀ (ls : Array Slot) (H : Heap) (locs : List Loc), lv_has ls 2 [] → G dC dI A H0 (W_X9 a cI cJ c_length c_text ec_stands ec_homeFar ec_nets ec_netAt ec_netWide ec_netFrom ec_netTo ec_priceX ec_priceY ec_many ec_days ec_aims ec_speeds ec_kinds c_keptMany c_undoMany c_undos ec_spot ec_told c_to c_stood c_home c_lost c_out c_fewest c_ways c_next c_held) H locs → W p l e (RM 3 70) s m args below meth c H locs 0 0 QQ (F0 m 38 ls [])) → (∀ (r : Int32 × (Nat → Int32) × (Nat → Int32) × (Nat → Int32) × (Nat → Int32) × (Nat → Int32) × (Nat → Int32) × (Nat → Int32) × (Nat → Int32) × (Nat → Int32) × (Nat → Int32) × (Nat → Int32) × (Nat → Int32) × (Nat → Int32) × (Nat → Int32) × Int32 × (Nat → Int32)), v = .inr r → r = (res, n_stands, n_homeFar, n_nets, n_netAt, n_netWide, n_netFrom, n_netTo, n_priceX, n_priceY, n_many, n_days, n_aims, n_speeds, n_kinds, n_spot, n_told)) → ∀ (ls : Array Slot) (H : Heap) (locs : List Loc), lv_has ls 2 [(0, .ref (a 0))] → G dC dI A H0 (W_X9 a cI cJ c_length c_text c_stands c_homeFar c_nets c_netAt c_netWide c_netFrom c_netTo c_priceX c_priceY c_many c_days c_aims c_speeds c_kinds c_keptMany c_undoMany c_undos c_spot c_told c_to c_stood c_home c_lost c_out c_fewest c_ways c_next c_held) H locs → W p l e (RM 3 70) s m args below meth c H locs 0 0 QQ (F0 m 10 ls []) := by
    intro  n
    induction n with
    | zero => intro c_stands c_homeFar c_nets c_netAt c_netWide c_netFrom c_netTo c_priceX c_priceY c_many c_days c_aims c_speeds c_kinds c_spot c_told v h; exact it_zero h
    | succ n ih =>
      intro c_stands c_homeFar c_nets c_netAt c_netWide c_netFrom c_netTo c_priceX c_priceY c_many c_days c_aims c_speeds c_kinds c_spot c_told v h0 K0 KR0 ls H locs hl hG
      obtain ⟨w, h, hi, hr⟩ := it_succ h0
      have h : DX9_readAll_L10s c_length c_text c_stands c_homeFar c_nets c_netAt c_netWide c_netFrom c_netTo c_priceX c_priceY c_many c_days c_aims c_speeds c_kinds c_spot c_told = some w := h
      have KC : ∀ (c_stands : Nat → Int32) (c_homeFar : Nat → Int32) (c_nets : Nat → Int32) (c_netAt : Nat → Int32) (c_netWide : Nat → Int32) (c_netFrom : Nat → Int32) (c_netTo : Nat → Int32) (c_priceX : Nat → Int32) (c_priceY : Nat → Int32) (c_many : Nat → Int32) (c_days : Nat → Int32) (c_aims : Nat → Int32) (c_speeds : Nat → Int32) (c_kinds : Nat → Int32) (c_spot : Int32) (c_told : Nat → Int32), w = .inl (c_stands, c_homeFar, c_nets, c_netAt, c_netWide, c_netFrom, c_netTo, c_priceX, c_priceY, c_many, c_days, c_aims, c_speeds, c_kinds, c_spot, c_told) → ∀ (ls : Array Slot) (H : Heap) (locs : List Loc), lv_has ls 2 [(0, .ref (a 0))] → G dC dI A H0 (W_X9 a cI cJ c_length c_text c_stands c_homeFar c_nets c_netAt c_netWide c_netFrom c_netTo c_priceX c_priceY c_many c_days c_aims c_speeds c_kinds c_keptMany c_undoMany c_undos c_spot c_told c_to c_stood c_home c_lost c_out c_fewest c_ways c_next c_held) H locs → W p l e (RM 3 70) s m args below meth c H locs 0 0 QQ (F0 m 10 ls []) := fun b0 b1 b2 b3 b4 b5 b6 b7 b8 b9 b10 b11 b12 b13 b14 b15 e ls H locs hl hG => ih b0 b1 b2 b3 b4 b5 b6 b7 b8 b9 b10 b11 b12 b13 b14 b15 v (hi _ e) K0 KR0 ls H locs hl hG
      have KX : ∀ (c_stands : Nat → Int32) (c_homeFar : Nat → Int32) (c_nets : Nat → Int32) (c_netAt : Nat → Int32) (c_netWide : Nat → Int32) (c_netFrom : Nat → Int32) (c_netTo : Nat → Int32) (c_priceX : Nat → Int32) (c_priceY : Nat → Int32) (c_many : Nat → Int32) (c_days : Nat → Int32) (c_aims : Nat → Int32) (c_speeds : Nat → Int32) (c_kinds : Nat → Int32) (c_spot : Int32) (c_told : Nat → Int32), w = .inr (.inl (c_stands, c_homeFar, c_nets, c_netAt, c_netWide, c_netFrom, c_netTo, c_priceX, c_priceY, c_many, c_days, c_aims, c_speeds, c_kinds, c_spot, c_told)) → ∀ (ls : Array Slot) (H : Heap) (locs : List Loc), lv_has ls 2 [] → G dC dI A H0 (W_X9 a cI cJ c_length c_text c_stands c_homeFar c_nets c_netAt c_netWide c_netFrom c_netTo c_priceX c_priceY c_many c_days c_aims c_speeds c_kinds c_keptMany c_undoMany c_undos c_spot c_told c_to c_stood c_home c_lost c_out c_fewest c_ways c_next c_held) H locs → W p l e (RM 3 70) s m args below meth c H locs 0 0 QQ (F0 m 38 ls []) := fun b0 b1 b2 b3 b4 b5 b6 b7 b8 b9 b10 b11 b12 b13 b14 b15 e ls H locs hl hG => K0 b0 b1 b2 b3 b4 b5 b6 b7 b8 b9 b10 b11 b12 b13 b14 b15 (hr _ e) ls H locs hl hG
      have KR : ∀ (r : Int32 × (Nat → Int32) × (Nat → Int32) × (Nat → Int32) × (Nat → Int32) × (Nat → Int32) × (Nat → Int32) × (Nat → Int32) × (Nat → Int32) × (Nat → Int32) × (Nat → Int32) × (Nat → Int32) × (Nat → Int32) × (Nat → Int32) × (Nat → Int32) × Int32 × (Nat → Int32)), w = .inr (.inr r) → r = (res, n_stands, n_homeFar, n_nets, n_netAt, n_netWide, n_netFrom, n_netTo, n_priceX, n_priceY, n_many, n_days, n_aims, n_speeds, n_kinds, n_spot, n_told) := fun r e => KR0 r (hr _ e)
      clear h0 hi hr K0 ih KR0
      unfold DX9_readAll_L10s at h
      refine lv_aload_n hx hb dX9_readAll_10 rfl (lv_at hl 0 rfl) ?_
      refine r_get X hG in_X9 rfl 19 (by decide) w_650 0 rfl rfl dX9_readAll_11 ?_
      refine lv_aload_n hx hb dX9_readAll_14 rfl (lv_at hl 0 rfl) ?_
      refine r_get X hG in_X9 rfl 0 (by decide) w_631 0 rfl rfl dX9_readAll_15 ?_
      refine lv_icmp_ge (tgt := 38) hx hb dX9_readAll_18 (by decide) (fun c_8 => ?_) (fun c_8 => ?_)
      · have h := ite_t h c_8
        exact KX _ _ _ _ _ _ _ _ _ _ _ _ _ _ _ _ (Option.some.inj h).symm _ _ _ (lv_sub hl [] rfl) hG
      · have h := ite_f h c_8
        refine lv_aload_n hx hb dX9_readAll_21 rfl (lv_at hl 0 rfl) ?_
        refine r_get X hG in_X9 rfl 19 (by decide) w_650 0 rfl rfl dX9_readAll_22 ?_
        refine lv_istore_n (lv' := [(1, .int c_spot), (0, .ref (a 0))]) hx hb dX9_readAll_25 rfl hl (by decide) rfl (fun ls hl => ?_)
        refine lv_aload_n hx hb dX9_readAll_26 rfl (lv_at hl 1 rfl) ?_
        obtain ⟨r_9, k_stands_10, k_homeFar_11, k_nets_12, k_netAt_13, k_netWide_14, k_netFrom_15, k_netTo_16, k_priceX_17, k_priceY_18, k_many_19, k_days_20, k_aims_21, k_speeds_22, k_kinds_23, k_spot_24, k_told_25, hz_26, h⟩ := bd17_some h
        refine aft_i1 (run_V1 (rest := []) X hG hl.1 (mX9_item l dC dI cI cJ a c_length c_text c_stands c_homeFar c_nets c_netAt c_netWide c_netFrom c_netTo c_priceX c_priceY c_many c_days c_aims c_speeds c_kinds c_keptMany c_undoMany c_undos c_spot c_told c_to c_stood c_home c_lost c_out c_fewest c_ways c_next c_held hz_26) gi_V_X9_123 hd_V_yX9_item ⟨rfl, rfl⟩ rfl ⟨Nat.le_of_ble_eq_true rfl, Nat.le_of_ble_eq_true rfl⟩ 0 rfl rfl rfl rfl (Nat.le_of_ble_eq_true rfl) ⟨Nat.le_of_ble_eq_true rfl, Nat.le_of_ble_eq_true rfl⟩ dX9_readAll_27) hG rfl (fun H locs hG => ?_)
        clear hz_26
        refine lv_if_ne (tgt := 35) hx hb dX9_readAll_30 (by decide) (fun c_27 => ?_) (fun c_27 => ?_)
        · have h := ite_f h c_27
          refine lv_goto (tgt := 10) hx hb dX9_readAll_35 (by decide) ?_
          exact KC _ _ _ _ _ _ _ _ _ _ _ _ _ _ _ _ (Option.some.inj h).symm _ _ _ (lv_sub hl [1] rfl) hG
        · have h := ite_t h c_27
          refine lv_iload_n hx hb dX9_readAll_33 rfl (lv_at hl 0 rfl) ?_
          cases KR _ (Option.some.inj h).symm
          exact ret _ _ _ _ dX9_readAll_34 hG
  have h := hD
  unfold DX9_readAll at h
  clear hD
  refine lv_aload_n hx hb dX9_readAll_0 rfl (lv_at hl 0 rfl) ?_
  refine lv_iconst (v := (1 : Int32)) hx hb dX9_readAll_1 (by decide) ?_
  obtain ⟨k_stands_1, k_homeFar_2, k_nets_3, k_priceX_4, k_priceY_5, k_many_6, hz_7, h⟩ := bd6_some h
  refine aft_v1 (run_V1 (rest := []) X hG hl.1 (mX9_noRock l dC dI cI cJ a c_length c_text c_stands c_homeFar c_nets c_netAt c_netWide c_netFrom c_netTo c_priceX c_priceY c_many c_days c_aims c_speeds c_kinds c_keptMany c_undoMany c_undos c_spot c_told c_to c_stood c_home c_lost c_out c_fewest c_ways c_next c_held (1 : Int32) hz_7) gi_V_X9_86 hd_V_yX9_noRock ⟨rfl, rfl⟩ rfl ⟨Nat.le_of_ble_eq_true rfl, Nat.le_of_ble_eq_true rfl⟩ 0 rfl rfl rfl rfl (Nat.le_of_ble_eq_true rfl) ⟨Nat.le_of_ble_eq_true rfl, Nat.le_of_ble_eq_true rfl⟩ dX9_readAll_2) hG rfl (fun H locs hG => ?_)
  clear hz_7
  refine lv_aload_n hx hb dX9_readAll_5 rfl (lv_at hl 0 rfl) ?_
  refine lv_iconst (v := (0 : Int32)) hx hb dX9_readAll_6 (by decide) ?_
  refine r_put X hG in_X9 rfl tyX9 tyX9_ok nmX9 19 (by decide) rfl (by decide +kernel) w_650 0 (ws' := (W_X9 a cI cJ c_length c_text k_stands_1 k_homeFar_2 k_nets_3 c_netAt c_netWide c_netFrom c_netTo k_priceX_4 k_priceY_5 k_many_6 c_days c_aims c_speeds c_kinds c_keptMany c_undoMany c_undos (0 : Int32) c_told c_to c_stood c_home c_lost c_out c_fewest c_ways c_next c_held)) rfl (Nat.le_of_ble_eq_true rfl) rfl dX9_readAll_7 (fun H locs hG => ?_)
  rcases el16_some h with ⟨k_stands_28, k_homeFar_29, k_nets_30, k_netAt_31, k_netWide_32, k_netFrom_33, k_netTo_34, k_priceX_35, k_priceY_36, k_many_37, k_days_38, k_aims_39, k_speeds_40, k_kinds_41, k_spot_42, k_told_43, hz, h⟩ | ⟨r, hz, h⟩
  · refine L10  FU k_stands_1 k_homeFar_2 k_nets_3 c_netAt c_netWide c_netFrom c_netTo k_priceX_4 k_priceY_5 k_many_6 c_days c_aims c_speeds c_kinds (0 : Int32) c_told _ hz ?_ (fun r e => by cases e) _ _ _ (lv_sub hl [0] rfl) hG
    rintro _ _ _ _ _ _ _ _ _ _ _ _ _ _ _ _ ⟨⟩ ls H locs hl hG
    clear hz
    refine lv_bipush (v := (-4 : Int32)) hx hb dX9_readAll_38 (by decide) ?_
    cases h
    exact ret _ _ _ _ dX9_readAll_40 hG
  · refine L10  FU k_stands_1 k_homeFar_2 k_nets_3 c_netAt c_netWide c_netFrom c_netTo k_priceX_4 k_priceY_5 k_many_6 c_days c_aims c_speeds c_kinds (0 : Int32) c_told _ hz (fun _ _ _ _ _ _ _ _ _ _ _ _ _ _ _ _ e => by cases e) (fun r2 e => ?_) _ _ _ (lv_sub hl [0] rfl) hG
    cases e; cases h; rfl
set_option maxRecDepth 100000 in
set_option maxHeartbeats 4000000 in
theorem mX9_fault (l : Launch) (dC : Nat → ClassId) (dI : Nat → Nat → Nat) (cI cJ : ClassId) (a : Nat → Nat) (c_length : Int32) (c_text : Nat → Int32) (c_stands : Nat → Int32) (c_homeFar : Nat → Int32) (c_nets : Nat → Int32) (c_netAt : Nat → Int32) (c_netWide : Nat → Int32) (c_netFrom : Nat → Int32) (c_netTo : Nat → Int32) (c_priceX : Nat → Int32) (c_priceY : Nat → Int32) (c_many : Nat → Int32) (c_days : Nat → Int32) (c_aims : Nat → Int32) (c_speeds : Nat → Int32) (c_kinds : Nat → Int32) (c_keptMany : Int32) (c_undoMany : Int32) (c_undos : Nat → Int32) (c_spot : Int32) (c_told : Nat → Int32) (c_to : Nat → Int32) (c_stood : Nat → Int32) (c_home : Nat → Int32) (c_lost : Nat → Int32) (c_out : Int32) (c_fewest : Nat → Int32) (c_ways : Nat → Int64) (c_next : Nat → Int64) (c_held : Nat → Int32) {res : Int32} {n_stands : Nat → Int32} {n_homeFar : Nat → Int32} {n_nets : Nat → Int32} {n_netAt : Nat → Int32} {n_netWide : Nat → Int32} {n_netFrom : Nat → Int32} {n_netTo : Nat → Int32} {n_priceX : Nat → Int32} {n_priceY : Nat → Int32} {n_many : Nat → Int32} {n_days : Nat → Int32} {n_aims : Nat → Int32} {n_speeds : Nat → Int32} {n_kinds : Nat → Int32} {n_spot : Int32} {n_told : Nat → Int32} (hD : DX9_fault c_length c_text c_stands c_homeFar c_nets c_netAt c_netWide c_netFrom c_netTo c_priceX c_priceY c_many c_days c_aims c_speeds c_kinds c_told = some (res, n_stands, n_homeFar, n_nets, n_netAt, n_netWide, n_netFrom, n_netTo, n_priceX, n_priceY, n_many, n_days, n_aims, n_speeds, n_kinds, n_spot, n_told)) : Met l yX9_fault (WZ yX9_fault cX9_fault 1 (some .int)) (RM 4 91) (PC dC dI cI cJ [.ref (a 0)] (W_X9 a cI cJ c_length c_text c_stands c_homeFar c_nets c_netAt c_netWide c_netFrom c_netTo c_priceX c_priceY c_many c_days c_aims c_speeds c_kinds c_keptMany c_undoMany c_undos c_spot c_told c_to c_stood c_home c_lost c_out c_fewest c_ways c_next c_held)) (QI dC dI (W_X9 a cI cJ c_length c_text c_stands c_homeFar c_nets c_netAt c_netWide c_netFrom c_netTo c_priceX c_priceY c_many c_days c_aims c_speeds c_kinds c_keptMany c_undoMany c_undos c_spot c_told c_to c_stood c_home c_lost c_out c_fewest c_ways c_next c_held) (W_X9 a cI cJ c_length c_text n_stands n_homeFar n_nets n_netAt n_netWide n_netFrom n_netTo n_priceX n_priceY n_many n_days n_aims n_speeds n_kinds c_keptMany c_undoMany c_undos n_spot n_told c_to c_stood c_home c_lost c_out c_fewest c_ways c_next c_held) res) 0 0 (FA (W_X9 a cI cJ c_length c_text c_stands c_homeFar c_nets c_netAt c_netWide c_netFrom c_netTo c_priceX c_priceY c_many c_days c_aims c_speeds c_kinds c_keptMany c_undoMany c_undos c_spot c_told c_to c_stood c_home c_lost c_out c_fewest c_ways c_next c_held)) := by
  refine r_metI (by decide +kernel) (Nat.le_of_ble_eq_true rfl) ?_
  intro p e s m args below meth c A H0 QQ X ret ls hl hG
  have X : Cx p m c cX9_fault 1 s args RX9 dC dI cI cJ meth (some .int) := X
  have hx := X.1.1
  have hb := X.1.2.1
  have hl : lv_has ls 1 [(0, .ref (a 0))] := hl
  have h := hD
  unfold DX9_fault at h
  clear hD
  refine lv_aload_n hx hb dX9_fault_0 rfl (lv_at hl 0 rfl) ?_
  obtain ⟨r_1, k_stands_2, k_homeFar_3, k_nets_4, k_netAt_5, k_netWide_6, k_netFrom_7, k_netTo_8, k_priceX_9, k_priceY_10, k_many_11, k_days_12, k_aims_13, k_speeds_14, k_kinds_15, k_spot_16, k_told_17, hz_18, h⟩ := bd17_some h
  refine aft_i1 (run_V1 (rest := []) X hG hl.1 (mX9_readAll l dC dI cI cJ a c_length c_text c_stands c_homeFar c_nets c_netAt c_netWide c_netFrom c_netTo c_priceX c_priceY c_many c_days c_aims c_speeds c_kinds c_keptMany c_undoMany c_undos c_spot c_told c_to c_stood c_home c_lost c_out c_fewest c_ways c_next c_held hz_18) gi_V_X9_127 hd_V_yX9_readAll ⟨rfl, rfl⟩ rfl ⟨Nat.le_of_ble_eq_true rfl, Nat.le_of_ble_eq_true rfl⟩ 0 rfl rfl rfl rfl (Nat.le_of_ble_eq_true rfl) ⟨Nat.le_of_ble_eq_true rfl, Nat.le_of_ble_eq_true rfl⟩ dX9_fault_1) hG rfl (fun H locs hG => ?_)
  clear hz_18
  cases h
  exact ret _ _ _ _ dX9_fault_4 hG
set_option maxRecDepth 100000 in
set_option maxHeartbeats 4000000 in
theorem mX9_copy (l : Launch) (dC : Nat → ClassId) (dI : Nat → Nat → Nat) (cI cJ : ClassId) (a : Nat → Nat) (c_length : Int32) (c_text : Nat → Int32) (c_stands : Nat → Int32) (c_homeFar : Nat → Int32) (c_nets : Nat → Int32) (c_netAt : Nat → Int32) (c_netWide : Nat → Int32) (c_netFrom : Nat → Int32) (c_netTo : Nat → Int32) (c_priceX : Nat → Int32) (c_priceY : Nat → Int32) (c_many : Nat → Int32) (c_days : Nat → Int32) (c_aims : Nat → Int32) (c_speeds : Nat → Int32) (c_kinds : Nat → Int32) (c_keptMany : Int32) (c_undoMany : Int32) (c_undos : Nat → Int32) (c_spot : Int32) (c_told : Nat → Int32) (c_to : Nat → Int32) (c_stood : Nat → Int32) (c_home : Nat → Int32) (c_lost : Nat → Int32) (c_out : Int32) (c_fewest : Nat → Int32) (c_ways : Nat → Int64) (c_next : Nat → Int64) (c_held : Nat → Int32) (x1 : Int32) (x2 : Int32) {n_many : Nat → Int32} {n_days : Nat → Int32} {n_aims : Nat → Int32} {n_speeds : Nat → Int32} {n_kinds : Nat → Int32} (hD : DX9_copy x1 x2 c_many c_days c_aims c_speeds c_kinds = some (n_many, n_days, n_aims, n_speeds, n_kinds)) : Met l yX9_copy (WZ yX9_copy cX9_copy 4 none) (RM 0 0) (PC dC dI cI cJ [.ref (a 0), .int x1, .int x2] (W_X9 a cI cJ c_length c_text c_stands c_homeFar c_nets c_netAt c_netWide c_netFrom c_netTo c_priceX c_priceY c_many c_days c_aims c_speeds c_kinds c_keptMany c_undoMany c_undos c_spot c_told c_to c_stood c_home c_lost c_out c_fewest c_ways c_next c_held)) (QV dC dI (W_X9 a cI cJ c_length c_text c_stands c_homeFar c_nets c_netAt c_netWide c_netFrom c_netTo c_priceX c_priceY c_many c_days c_aims c_speeds c_kinds c_keptMany c_undoMany c_undos c_spot c_told c_to c_stood c_home c_lost c_out c_fewest c_ways c_next c_held) (W_X9 a cI cJ c_length c_text c_stands c_homeFar c_nets c_netAt c_netWide c_netFrom c_netTo c_priceX c_priceY n_many n_days n_aims n_speeds n_kinds c_keptMany c_undoMany c_undos c_spot c_told c_to c_stood c_home c_lost c_out c_fewest c_ways c_next c_held)) 0 0 (FA (W_X9 a cI cJ c_length c_text c_stands c_homeFar c_nets c_netAt c_netWide c_netFrom c_netTo c_priceX c_priceY c_many c_days c_aims c_speeds c_kinds c_keptMany c_undoMany c_undos c_spot c_told c_to c_stood c_home c_lost c_out c_fewest c_ways c_next c_held)) := by
  refine r_metV (by decide +kernel) (Nat.le_of_ble_eq_true rfl) ?_
  intro p e s m args below meth c A H0 QQ X ret ls hl hG
  have X : Cx p m c cX9_copy 4 s args RX9 dC dI cI cJ meth none := X
  have hx := X.1.1
  have hb := X.1.2.1
  have hl : lv_has ls 4 [(0, .ref (a 0)), (1, .int x1), (2, .int x2)] := hl
  have L14 : ∀ (c_many : Nat → Int32), ∀ (n : Nat) (x3 : Int32) (c_days : Nat → Int32) (c_aims : Nat → Int32) (c_speeds : Nat → Int32) (c_kinds : Nat → Int32) (ec_days : Nat → Int32) (ec_aims : Nat → Int32) (ec_speeds : Nat → Int32) (ec_kinds : Nat → Int32), DX9_copy_L14 x1 x2 n x3 c_days c_aims c_speeds c_kinds = some (ec_days, ec_aims, ec_speeds, ec_kinds) → (∀ (ls : Array Slot) (H : Heap) (locs : List Loc), lv_has ls 4 [] → G dC dI A H0 (W_X9 a cI cJ c_length c_text c_stands c_homeFar c_nets c_netAt c_netWide c_netFrom c_netTo c_priceX c_priceY c_many ec_days ec_aims ec_speeds ec_kinds c_keptMany c_undoMany c_undos c_spot c_told c_to c_stood c_home c_lost c_out c_fewest c_ways c_next c_held) H locs → W p l e (RM 0 0) s m args below meth c H locs 0 0 QQ (F0 m 114 ls [])) → ∀ (ls : Array Slot) (H : Heap) (locs : List Loc), lv_has ls 4 [(0, .ref (a 0)), (1, .int x1), (2, .int x2), (3, .int x3)] → G dC dI A H0 (W_X9 a cI cJ c_length c_text c_stands c_homeFar c_nets c_netAt c_netWide c_netFrom c_netTo c_priceX c_priceY c_many c_days c_aims c_speeds c_kinds c_keptMany c_undoMany c_undos c_spot c_told c_to c_stood c_home c_lost c_out c_fewest c_ways c_next c_held) H locs → W p l e (RM 0 0) s m args below meth c H locs 0 0 QQ (F0 m 14 ls []) := by
    intro c_many n
    induction n with
    | zero => intro x3 c_days c_aims c_speeds c_kinds ec_days ec_aims ec_speeds ec_kinds h; exact it_zero h
    | succ n ih =>
      intro x3 c_days c_aims c_speeds c_kinds ec_days ec_aims ec_speeds ec_kinds h0 K0 ls H locs hl hG
      obtain ⟨w, h, hi, hr⟩ := it_succ h0
      have h : DX9_copy_L14s x1 x2 x3 c_days c_aims c_speeds c_kinds = some w := h
      have KC : ∀ (x3 : Int32) (c_days : Nat → Int32) (c_aims : Nat → Int32) (c_speeds : Nat → Int32) (c_kinds : Nat → Int32), w = .inl (x3, c_days, c_aims, c_speeds, c_kinds) → ∀ (ls : Array Slot) (H : Heap) (locs : List Loc), lv_has ls 4 [(0, .ref (a 0)), (1, .int x1), (2, .int x2), (3, .int x3)] → G dC dI A H0 (W_X9 a cI cJ c_length c_text c_stands c_homeFar c_nets c_netAt c_netWide c_netFrom c_netTo c_priceX c_priceY c_many c_days c_aims c_speeds c_kinds c_keptMany c_undoMany c_undos c_spot c_told c_to c_stood c_home c_lost c_out c_fewest c_ways c_next c_held) H locs → W p l e (RM 0 0) s m args below meth c H locs 0 0 QQ (F0 m 14 ls []) := fun b0 b1 b2 b3 b4 e ls H locs hl hG => ih b0 b1 b2 b3 b4 ec_days ec_aims ec_speeds ec_kinds (hi _ e) K0 ls H locs hl hG
      have KX : ∀ (c_days : Nat → Int32) (c_aims : Nat → Int32) (c_speeds : Nat → Int32) (c_kinds : Nat → Int32), w = .inr (c_days, c_aims, c_speeds, c_kinds) → ∀ (ls : Array Slot) (H : Heap) (locs : List Loc), lv_has ls 4 [] → G dC dI A H0 (W_X9 a cI cJ c_length c_text c_stands c_homeFar c_nets c_netAt c_netWide c_netFrom c_netTo c_priceX c_priceY c_many c_days c_aims c_speeds c_kinds c_keptMany c_undoMany c_undos c_spot c_told c_to c_stood c_home c_lost c_out c_fewest c_ways c_next c_held) H locs → W p l e (RM 0 0) s m args below meth c H locs 0 0 QQ (F0 m 114 ls []) := fun b0 b1 b2 b3 e ls H locs hl hG => by cases hr _ e; exact K0 ls H locs hl hG
      clear h0 hi hr K0 ih
      unfold DX9_copy_L14s at h
      refine lv_iload_n hx hb dX9_copy_14 rfl (lv_at hl 3 rfl) ?_
      refine lv_bipush (v := (7 : Int32)) hx hb dX9_copy_15 (by decide) ?_
      refine lv_icmp_ge (tgt := 114) hx hb dX9_copy_17 (by decide) (fun c_3 => ?_) (fun c_3 => ?_)
      · have h := ite_t h c_3
        exact KX _ _ _ _ (Option.some.inj h).symm _ _ _ (lv_sub hl [] rfl) hG
      · have h := ite_f h c_3
        refine lv_aload_n hx hb dX9_copy_20 rfl (lv_at hl 0 rfl) ?_
        refine r_get X hG in_X9 rfl 12 (by decide) w_643 0 rfl rfl dX9_copy_21 ?_
        refine lv_bipush (v := (7 : Int32)) hx hb dX9_copy_24 (by decide) ?_
        refine lv_iload_n hx hb dX9_copy_26 rfl (lv_at hl 2 rfl) ?_
        refine lv_imul hx hb dX9_copy_27 ?_
        refine lv_iload_n hx hb dX9_copy_28 rfl (lv_at hl 3 rfl) ?_
        refine lv_iadd hx hb dX9_copy_29 ?_
        refine lv_aload_n hx hb dX9_copy_30 rfl (lv_at hl 0 rfl) ?_
        refine r_get X hG in_X9 rfl 12 (by decide) w_643 0 rfl rfl dX9_copy_31 ?_
        refine lv_bipush (v := (7 : Int32)) hx hb dX9_copy_34 (by decide) ?_
        refine lv_iload_n hx hb dX9_copy_36 rfl (lv_at hl 1 rfl) ?_
        refine lv_imul hx hb dX9_copy_37 ?_
        refine lv_iload_n hx hb dX9_copy_38 rfl (lv_at hl 3 rfl) ?_
        refine lv_iadd hx hb dX9_copy_39 ?_
        obtain ⟨g_4, h⟩ := gd h
        refine r_iald X hG 12 rfl g_4 dX9_copy_40 ?_
        obtain ⟨g_5, h⟩ := gd h
        refine r_iast X hG 12 (ws' := (W_X9 a cI cJ c_length c_text c_stands c_homeFar c_nets c_netAt c_netWide c_netFrom c_netTo c_priceX c_priceY c_many (upd c_days (((7 : Int32) * x2) + x3).toNatClampNeg (c_days (((7 : Int32) * x1) + x3).toNatClampNeg)) c_aims c_speeds c_kinds c_keptMany c_undoMany c_undos c_spot c_told c_to c_stood c_home c_lost c_out c_fewest c_ways c_next c_held)) rfl g_5 rfl dX9_copy_41 (fun H locs hG => ?_)
        refine lv_aload_n hx hb dX9_copy_42 rfl (lv_at hl 0 rfl) ?_
        refine r_get X hG in_X9 rfl 13 (by decide) w_644 0 rfl rfl dX9_copy_43 ?_
        refine lv_bipush (v := (7 : Int32)) hx hb dX9_copy_46 (by decide) ?_
        refine lv_iload_n hx hb dX9_copy_48 rfl (lv_at hl 2 rfl) ?_
        refine lv_imul hx hb dX9_copy_49 ?_
        refine lv_iload_n hx hb dX9_copy_50 rfl (lv_at hl 3 rfl) ?_
        refine lv_iadd hx hb dX9_copy_51 ?_
        refine lv_aload_n hx hb dX9_copy_52 rfl (lv_at hl 0 rfl) ?_
        refine r_get X hG in_X9 rfl 13 (by decide) w_644 0 rfl rfl dX9_copy_53 ?_
        refine lv_bipush (v := (7 : Int32)) hx hb dX9_copy_56 (by decide) ?_
        refine lv_iload_n hx hb dX9_copy_58 rfl (lv_at hl 1 rfl) ?_
        refine lv_imul hx hb dX9_copy_59 ?_
        refine lv_iload_n hx hb dX9_copy_60 rfl (lv_at hl 3 rfl) ?_
        refine lv_iadd hx hb dX9_copy_61 ?_
        obtain ⟨g_6, h⟩ := gd h
        refine r_iald X hG 13 rfl g_6 dX9_copy_62 ?_
        obtain ⟨g_7, h⟩ := gd h
        refine r_iast X hG 13 (ws' := (W_X9 a cI cJ c_length c_text c_stands c_homeFar c_nets c_netAt c_netWide c_netFrom c_netTo c_priceX c_priceY c_many (upd c_days (((7 : Int32) * x2) + x3).toNatClampNeg (c_days (((7 : Int32) * x1) + x3).toNatClampNeg)) (upd c_aims (((7 : Int32) * x2) + x3).toNatClampNeg (c_aims (((7 : Int32) * x1) + x3).toNatClampNeg)) c_speeds c_kinds c_keptMany c_undoMany c_undos c_spot c_told c_to c_stood c_home c_lost c_out c_fewest c_ways c_next c_held)) rfl g_7 rfl dX9_copy_63 (fun H locs hG => ?_)
        refine lv_aload_n hx hb dX9_copy_64 rfl (lv_at hl 0 rfl) ?_
        refine r_get X hG in_X9 rfl 14 (by decide) w_645 0 rfl rfl dX9_copy_65 ?_
        refine lv_bipush (v := (7 : Int32)) hx hb dX9_copy_68 (by decide) ?_
        refine lv_iload_n hx hb dX9_copy_70 rfl (lv_at hl 2 rfl) ?_
        refine lv_imul hx hb dX9_copy_71 ?_
        refine lv_iload_n hx hb dX9_copy_72 rfl (lv_at hl 3 rfl) ?_
        refine lv_iadd hx hb dX9_copy_73 ?_
        refine lv_aload_n hx hb dX9_copy_74 rfl (lv_at hl 0 rfl) ?_
        refine r_get X hG in_X9 rfl 14 (by decide) w_645 0 rfl rfl dX9_copy_75 ?_
        refine lv_bipush (v := (7 : Int32)) hx hb dX9_copy_78 (by decide) ?_
        refine lv_iload_n hx hb dX9_copy_80 rfl (lv_at hl 1 rfl) ?_
        refine lv_imul hx hb dX9_copy_81 ?_
        refine lv_iload_n hx hb dX9_copy_82 rfl (lv_at hl 3 rfl) ?_
        refine lv_iadd hx hb dX9_copy_83 ?_
        obtain ⟨g_8, h⟩ := gd h
        refine r_iald X hG 14 rfl g_8 dX9_copy_84 ?_
        obtain ⟨g_9, h⟩ := gd h
        refine r_iast X hG 14 (ws' := (W_X9 a cI cJ c_length c_text c_stands c_homeFar c_nets c_netAt c_netWide c_netFrom c_netTo c_priceX c_priceY c_many (upd c_days (((7 : Int32) * x2) + x3).toNatClampNeg (c_days (((7 : Int32) * x1) + x3).toNatClampNeg)) (upd c_aims (((7 : Int32) * x2) + x3).toNatClampNeg (c_aims (((7 : Int32) * x1) + x3).toNatClampNeg)) (upd c_speeds (((7 : Int32) * x2) + x3).toNatClampNeg (c_speeds (((7 : Int32) * x1) + x3).toNatClampNeg)) c_kinds c_keptMany c_undoMany c_undos c_spot c_told c_to c_stood c_home c_lost c_out c_fewest c_ways c_next c_held)) rfl g_9 rfl dX9_copy_85 (fun H locs hG => ?_)
        refine lv_aload_n hx hb dX9_copy_86 rfl (lv_at hl 0 rfl) ?_
        refine r_get X hG in_X9 rfl 15 (by decide) w_646 0 rfl rfl dX9_copy_87 ?_
        refine lv_bipush (v := (7 : Int32)) hx hb dX9_copy_90 (by decide) ?_
        refine lv_iload_n hx hb dX9_copy_92 rfl (lv_at hl 2 rfl) ?_
        refine lv_imul hx hb dX9_copy_93 ?_
        refine lv_iload_n hx hb dX9_copy_94 rfl (lv_at hl 3 rfl) ?_
        refine lv_iadd hx hb dX9_copy_95 ?_
        refine lv_aload_n hx hb dX9_copy_96 rfl (lv_at hl 0 rfl) ?_
        refine r_get X hG in_X9 rfl 15 (by decide) w_646 0 rfl rfl dX9_copy_97 ?_
        refine lv_bipush (v := (7 : Int32)) hx hb dX9_copy_100 (by decide) ?_
        refine lv_iload_n hx hb dX9_copy_102 rfl (lv_at hl 1 rfl) ?_
        refine lv_imul hx hb dX9_copy_103 ?_
        refine lv_iload_n hx hb dX9_copy_104 rfl (lv_at hl 3 rfl) ?_
        refine lv_iadd hx hb dX9_copy_105 ?_
        obtain ⟨g_10, h⟩ := gd h
        refine r_iald X hG 15 rfl g_10 dX9_copy_106 ?_
        obtain ⟨g_11, h⟩ := gd h
        refine r_iast X hG 15 (ws' := (W_X9 a cI cJ c_length c_text c_stands c_homeFar c_nets c_netAt c_netWide c_netFrom c_netTo c_priceX c_priceY c_many (upd c_days (((7 : Int32) * x2) + x3).toNatClampNeg (c_days (((7 : Int32) * x1) + x3).toNatClampNeg)) (upd c_aims (((7 : Int32) * x2) + x3).toNatClampNeg (c_aims (((7 : Int32) * x1) + x3).toNatClampNeg)) (upd c_speeds (((7 : Int32) * x2) + x3).toNatClampNeg (c_speeds (((7 : Int32) * x1) + x3).toNatClampNeg)) (upd c_kinds (((7 : Int32) * x2) + x3).toNatClampNeg (c_kinds (((7 : Int32) * x1) + x3).toNatClampNeg)) c_keptMany c_undoMany c_undos c_spot c_told c_to c_stood c_home c_lost c_out c_fewest c_ways c_next c_held)) rfl g_11 rfl dX9_copy_107 (fun H locs hG => ?_)
        refine lv_iinc (v := (x3 + (1 : Int32))) (lv' := [(3, .int (x3 + (1 : Int32))), (0, .ref (a 0)), (1, .int x1), (2, .int x2)]) hx hb dX9_copy_108 hl (k := 3) rfl rfl (by decide) rfl (fun ls hl => ?_)
        refine lv_goto (tgt := 14) hx hb dX9_copy_111 (by decide) ?_
        exact KC _ _ _ _ _ (Option.some.inj h).symm _ _ _ (lv_sub hl [1, 2, 3, 0] rfl) hG
  have h := hD
  unfold DX9_copy at h
  clear hD
  refine lv_aload_n hx hb dX9_copy_0 rfl (lv_at hl 0 rfl) ?_
  refine r_get X hG in_X9 rfl 11 (by decide) w_642 0 rfl rfl dX9_copy_1 ?_
  refine lv_iload_n hx hb dX9_copy_4 rfl (lv_at hl 2 rfl) ?_
  refine lv_aload_n hx hb dX9_copy_5 rfl (lv_at hl 0 rfl) ?_
  refine r_get X hG in_X9 rfl 11 (by decide) w_642 0 rfl rfl dX9_copy_6 ?_
  refine lv_iload_n hx hb dX9_copy_9 rfl (lv_at hl 1 rfl) ?_
  obtain ⟨g_1, h⟩ := gd h
  refine r_iald X hG 11 rfl g_1 dX9_copy_10 ?_
  obtain ⟨g_2, h⟩ := gd h
  refine r_iast X hG 11 (ws' := (W_X9 a cI cJ c_length c_text c_stands c_homeFar c_nets c_netAt c_netWide c_netFrom c_netTo c_priceX c_priceY (upd c_many x2.toNatClampNeg (c_many x1.toNatClampNeg)) c_days c_aims c_speeds c_kinds c_keptMany c_undoMany c_undos c_spot c_told c_to c_stood c_home c_lost c_out c_fewest c_ways c_next c_held)) rfl g_2 rfl dX9_copy_11 (fun H locs hG => ?_)
  refine lv_iconst (v := (0 : Int32)) hx hb dX9_copy_12 (by decide) ?_
  refine lv_istore_n (lv' := [(3, .int (0 : Int32)), (0, .ref (a 0)), (1, .int x1), (2, .int x2)]) hx hb dX9_copy_13 rfl hl (by decide) rfl (fun ls hl => ?_)
  obtain ⟨k_days_12, k_aims_13, k_speeds_14, k_kinds_15, hz, h⟩ := bd4_some h
  refine L14 (upd c_many x2.toNatClampNeg (c_many x1.toNatClampNeg)) FU (0 : Int32) c_days c_aims c_speeds c_kinds _ _ _ _ hz (fun ls H locs hl hG => ?_) _ _ _ (lv_sub hl [1, 2, 3, 0] rfl) hG
  clear hz
  cases h
  exact ret _ _ _ _ dX9_copy_114 hG
set_option maxRecDepth 100000 in
set_option maxHeartbeats 4000000 in
theorem mX9_lay (l : Launch) (dC : Nat → ClassId) (dI : Nat → Nat → Nat) (cI cJ : ClassId) (a : Nat → Nat) (c_length : Int32) (c_text : Nat → Int32) (c_stands : Nat → Int32) (c_homeFar : Nat → Int32) (c_nets : Nat → Int32) (c_netAt : Nat → Int32) (c_netWide : Nat → Int32) (c_netFrom : Nat → Int32) (c_netTo : Nat → Int32) (c_priceX : Nat → Int32) (c_priceY : Nat → Int32) (c_many : Nat → Int32) (c_days : Nat → Int32) (c_aims : Nat → Int32) (c_speeds : Nat → Int32) (c_kinds : Nat → Int32) (c_keptMany : Int32) (c_undoMany : Int32) (c_undos : Nat → Int32) (c_spot : Int32) (c_told : Nat → Int32) (c_to : Nat → Int32) (c_stood : Nat → Int32) (c_home : Nat → Int32) (c_lost : Nat → Int32) (c_out : Int32) (c_fewest : Nat → Int32) (c_ways : Nat → Int64) (c_next : Nat → Int64) (c_held : Nat → Int32) {res : Int32} {n_stands : Nat → Int32} {n_homeFar : Nat → Int32} {n_nets : Nat → Int32} {n_netAt : Nat → Int32} {n_netWide : Nat → Int32} {n_netFrom : Nat → Int32} {n_netTo : Nat → Int32} {n_priceX : Nat → Int32} {n_priceY : Nat → Int32} {n_many : Nat → Int32} {n_days : Nat → Int32} {n_aims : Nat → Int32} {n_speeds : Nat → Int32} {n_kinds : Nat → Int32} {n_keptMany : Int32} {n_undoMany : Int32} {n_spot : Int32} {n_told : Nat → Int32} (hD : DX9_lay c_length c_text c_stands c_homeFar c_nets c_netAt c_netWide c_netFrom c_netTo c_priceX c_priceY c_many c_days c_aims c_speeds c_kinds c_keptMany c_undoMany c_told = some (res, n_stands, n_homeFar, n_nets, n_netAt, n_netWide, n_netFrom, n_netTo, n_priceX, n_priceY, n_many, n_days, n_aims, n_speeds, n_kinds, n_keptMany, n_undoMany, n_spot, n_told)) : Met l yX9_lay (WZ yX9_lay cX9_lay 2 (some .int)) (RM 4 91) (PC dC dI cI cJ [.ref (a 0)] (W_X9 a cI cJ c_length c_text c_stands c_homeFar c_nets c_netAt c_netWide c_netFrom c_netTo c_priceX c_priceY c_many c_days c_aims c_speeds c_kinds c_keptMany c_undoMany c_undos c_spot c_told c_to c_stood c_home c_lost c_out c_fewest c_ways c_next c_held)) (QI dC dI (W_X9 a cI cJ c_length c_text c_stands c_homeFar c_nets c_netAt c_netWide c_netFrom c_netTo c_priceX c_priceY c_many c_days c_aims c_speeds c_kinds c_keptMany c_undoMany c_undos c_spot c_told c_to c_stood c_home c_lost c_out c_fewest c_ways c_next c_held) (W_X9 a cI cJ c_length c_text n_stands n_homeFar n_nets n_netAt n_netWide n_netFrom n_netTo n_priceX n_priceY n_many n_days n_aims n_speeds n_kinds n_keptMany n_undoMany c_undos n_spot n_told c_to c_stood c_home c_lost c_out c_fewest c_ways c_next c_held) res) 0 0 (FA (W_X9 a cI cJ c_length c_text c_stands c_homeFar c_nets c_netAt c_netWide c_netFrom c_netTo c_priceX c_priceY c_many c_days c_aims c_speeds c_kinds c_keptMany c_undoMany c_undos c_spot c_told c_to c_stood c_home c_lost c_out c_fewest c_ways c_next c_held)) := by
  refine r_metI (by decide +kernel) (Nat.le_of_ble_eq_true rfl) ?_
  intro p e s m args below meth c A H0 QQ X ret ls hl hG
  have X : Cx p m c cX9_lay 2 s args RX9 dC dI cI cJ meth (some .int) := X
  have hx := X.1.1
  have hb := X.1.2.1
  have hl : lv_has ls 2 [(0, .ref (a 0))] := hl
  have L83 : ∀ (c_stands : Nat → Int32) (c_homeFar : Nat → Int32) (c_nets : Nat → Int32) (c_priceX : Nat → Int32) (c_priceY : Nat → Int32) (c_many : Nat → Int32) (c_days : Nat → Int32) (c_aims : Nat → Int32) (c_speeds : Nat → Int32) (c_kinds : Nat → Int32) (c_keptMany : Int32) (c_undoMany : Int32) (c_spot : Int32) (c_told : Nat → Int32), ∀ (n : Nat) (x1 : Int32) (c_netAt : Nat → Int32) (c_netWide : Nat → Int32) (c_netFrom : Nat → Int32) (c_netTo : Nat → Int32) (ec_netAt : Nat → Int32) (ec_netWide : Nat → Int32) (ec_netFrom : Nat → Int32) (ec_netTo : Nat → Int32), DX9_lay_L83 n x1 c_netAt c_netWide c_netFrom c_netTo = some (ec_netAt, ec_netWide, ec_netFrom, ec_netTo) → (∀ (ls : Array Slot) (H : Heap) (locs : List Loc), lv_has ls 2 [(0, .ref (a 0))] → G dC dI A H0 (W_X9 a cI cJ c_length c_text c_stands c_homeFar c_nets ec_netAt ec_netWide ec_netFrom ec_netTo c_priceX c_priceY c_many c_days c_aims c_speeds c_kinds c_keptMany c_undoMany c_undos c_spot c_told c_to c_stood c_home c_lost c_out c_fewest c_ways c_next c_held) H locs → W p l e (RM 4 91) s m args below meth c H locs 0 0 QQ (F0 m 154 ls [])) → ∀ (ls : Array Slot) (H : Heap) (locs : List Loc), lv_has ls 2 [(0, .ref (a 0)), (1, .int x1)] → G dC dI A H0 (W_X9 a cI cJ c_length c_text c_stands c_homeFar c_nets c_netAt c_netWide c_netFrom c_netTo c_priceX c_priceY c_many c_days c_aims c_speeds c_kinds c_keptMany c_undoMany c_undos c_spot c_told c_to c_stood c_home c_lost c_out c_fewest c_ways c_next c_held) H locs → W p l e (RM 4 91) s m args below meth c H locs 0 0 QQ (F0 m 83 ls []) := by
    intro c_stands c_homeFar c_nets c_priceX c_priceY c_many c_days c_aims c_speeds c_kinds c_keptMany c_undoMany c_spot c_told n
    induction n with
    | zero => intro x1 c_netAt c_netWide c_netFrom c_netTo ec_netAt ec_netWide ec_netFrom ec_netTo h; exact it_zero h
    | succ n ih =>
      intro x1 c_netAt c_netWide c_netFrom c_netTo ec_netAt ec_netWide ec_netFrom ec_netTo h0 K0 ls H locs hl hG
      obtain ⟨w, h, hi, hr⟩ := it_succ h0
      have h : DX9_lay_L83s x1 c_netAt c_netWide c_netFrom c_netTo = some w := h
      have KC : ∀ (x1 : Int32) (c_netAt : Nat → Int32) (c_netWide : Nat → Int32) (c_netFrom : Nat → Int32) (c_netTo : Nat → Int32), w = .inl (x1, c_netAt, c_netWide, c_netFrom, c_netTo) → ∀ (ls : Array Slot) (H : Heap) (locs : List Loc), lv_has ls 2 [(0, .ref (a 0)), (1, .int x1)] → G dC dI A H0 (W_X9 a cI cJ c_length c_text c_stands c_homeFar c_nets c_netAt c_netWide c_netFrom c_netTo c_priceX c_priceY c_many c_days c_aims c_speeds c_kinds c_keptMany c_undoMany c_undos c_spot c_told c_to c_stood c_home c_lost c_out c_fewest c_ways c_next c_held) H locs → W p l e (RM 4 91) s m args below meth c H locs 0 0 QQ (F0 m 83 ls []) := fun b0 b1 b2 b3 b4 e ls H locs hl hG => ih b0 b1 b2 b3 b4 ec_netAt ec_netWide ec_netFrom ec_netTo (hi _ e) K0 ls H locs hl hG
      have KX : ∀ (c_netAt : Nat → Int32) (c_netWide : Nat → Int32) (c_netFrom : Nat → Int32) (c_netTo : Nat → Int32), w = .inr (c_netAt, c_netWide, c_netFrom, c_netTo) → ∀ (ls : Array Slot) (H : Heap) (locs : List Loc), lv_has ls 2 [(0, .ref (a 0))] → G dC dI A H0 (W_X9 a cI cJ c_length c_text c_stands c_homeFar c_nets c_netAt c_netWide c_netFrom c_netTo c_priceX c_priceY c_many c_days c_aims c_speeds c_kinds c_keptMany c_undoMany c_undos c_spot c_told c_to c_stood c_home c_lost c_out c_fewest c_ways c_next c_held) H locs → W p l e (RM 4 91) s m args below meth c H locs 0 0 QQ (F0 m 154 ls []) := fun b0 b1 b2 b3 e ls H locs hl hG => by cases hr _ e; exact K0 ls H locs hl hG
      clear h0 hi hr K0 ih
      unfold DX9_lay_L83s at h
      refine lv_iload_n hx hb dX9_lay_83 rfl (lv_at hl 1 rfl) ?_
      refine lv_iconst (v := (5 : Int32)) hx hb dX9_lay_84 (by decide) ?_
      refine lv_icmp_ge (tgt := 154) hx hb dX9_lay_85 (by decide) (fun c_21 => ?_) (fun c_21 => ?_)
      · have h := ite_t h c_21
        exact KX _ _ _ _ (Option.some.inj h).symm _ _ _ (lv_sub hl [0] rfl) hG
      · have h := ite_f h c_21
        refine lv_aload_n hx hb dX9_lay_88 rfl (lv_at hl 0 rfl) ?_
        refine r_get X hG in_X9 rfl 5 (by decide) w_636 0 rfl rfl dX9_lay_89 ?_
        refine lv_iload_n hx hb dX9_lay_92 rfl (lv_at hl 1 rfl) ?_
        refine lv_aload_n hx hb dX9_lay_93 rfl (lv_at hl 0 rfl) ?_
        refine r_get X hG in_X9 rfl 5 (by decide) w_636 0 rfl rfl dX9_lay_94 ?_
        refine lv_bipush (v := (6 : Int32)) hx hb dX9_lay_97 (by decide) ?_
        refine lv_iload_n hx hb dX9_lay_99 rfl (lv_at hl 1 rfl) ?_
        refine lv_iadd hx hb dX9_lay_100 ?_
        obtain ⟨g_22, h⟩ := gd h
        refine r_iald X hG 5 rfl g_22 dX9_lay_101 ?_
        obtain ⟨g_23, h⟩ := gd h
        refine r_iast X hG 5 (ws' := (W_X9 a cI cJ c_length c_text c_stands c_homeFar c_nets (upd c_netAt x1.toNatClampNeg (c_netAt ((6 : Int32) + x1).toNatClampNeg)) c_netWide c_netFrom c_netTo c_priceX c_priceY c_many c_days c_aims c_speeds c_kinds c_keptMany c_undoMany c_undos c_spot c_told c_to c_stood c_home c_lost c_out c_fewest c_ways c_next c_held)) rfl g_23 rfl dX9_lay_102 (fun H locs hG => ?_)
        refine lv_aload_n hx hb dX9_lay_103 rfl (lv_at hl 0 rfl) ?_
        refine r_get X hG in_X9 rfl 6 (by decide) w_637 0 rfl rfl dX9_lay_104 ?_
        refine lv_iload_n hx hb dX9_lay_107 rfl (lv_at hl 1 rfl) ?_
        refine lv_aload_n hx hb dX9_lay_108 rfl (lv_at hl 0 rfl) ?_
        refine r_get X hG in_X9 rfl 6 (by decide) w_637 0 rfl rfl dX9_lay_109 ?_
        refine lv_bipush (v := (6 : Int32)) hx hb dX9_lay_112 (by decide) ?_
        refine lv_iload_n hx hb dX9_lay_114 rfl (lv_at hl 1 rfl) ?_
        refine lv_iadd hx hb dX9_lay_115 ?_
        obtain ⟨g_24, h⟩ := gd h
        refine r_iald X hG 6 rfl g_24 dX9_lay_116 ?_
        obtain ⟨g_25, h⟩ := gd h
        refine r_iast X hG 6 (ws' := (W_X9 a cI cJ c_length c_text c_stands c_homeFar c_nets (upd c_netAt x1.toNatClampNeg (c_netAt ((6 : Int32) + x1).toNatClampNeg)) (upd c_netWide x1.toNatClampNeg (c_netWide ((6 : Int32) + x1).toNatClampNeg)) c_netFrom c_netTo c_priceX c_priceY c_many c_days c_aims c_speeds c_kinds c_keptMany c_undoMany c_undos c_spot c_told c_to c_stood c_home c_lost c_out c_fewest c_ways c_next c_held)) rfl g_25 rfl dX9_lay_117 (fun H locs hG => ?_)
        refine lv_aload_n hx hb dX9_lay_118 rfl (lv_at hl 0 rfl) ?_
        refine r_get X hG in_X9 rfl 7 (by decide) w_638 0 rfl rfl dX9_lay_119 ?_
        refine lv_iload_n hx hb dX9_lay_122 rfl (lv_at hl 1 rfl) ?_
        refine lv_aload_n hx hb dX9_lay_123 rfl (lv_at hl 0 rfl) ?_
        refine r_get X hG in_X9 rfl 7 (by decide) w_638 0 rfl rfl dX9_lay_124 ?_
        refine lv_bipush (v := (6 : Int32)) hx hb dX9_lay_127 (by decide) ?_
        refine lv_iload_n hx hb dX9_lay_129 rfl (lv_at hl 1 rfl) ?_
        refine lv_iadd hx hb dX9_lay_130 ?_
        obtain ⟨g_26, h⟩ := gd h
        refine r_iald X hG 7 rfl g_26 dX9_lay_131 ?_
        obtain ⟨g_27, h⟩ := gd h
        refine r_iast X hG 7 (ws' := (W_X9 a cI cJ c_length c_text c_stands c_homeFar c_nets (upd c_netAt x1.toNatClampNeg (c_netAt ((6 : Int32) + x1).toNatClampNeg)) (upd c_netWide x1.toNatClampNeg (c_netWide ((6 : Int32) + x1).toNatClampNeg)) (upd c_netFrom x1.toNatClampNeg (c_netFrom ((6 : Int32) + x1).toNatClampNeg)) c_netTo c_priceX c_priceY c_many c_days c_aims c_speeds c_kinds c_keptMany c_undoMany c_undos c_spot c_told c_to c_stood c_home c_lost c_out c_fewest c_ways c_next c_held)) rfl g_27 rfl dX9_lay_132 (fun H locs hG => ?_)
        refine lv_aload_n hx hb dX9_lay_133 rfl (lv_at hl 0 rfl) ?_
        refine r_get X hG in_X9 rfl 8 (by decide) w_639 0 rfl rfl dX9_lay_134 ?_
        refine lv_iload_n hx hb dX9_lay_137 rfl (lv_at hl 1 rfl) ?_
        refine lv_aload_n hx hb dX9_lay_138 rfl (lv_at hl 0 rfl) ?_
        refine r_get X hG in_X9 rfl 8 (by decide) w_639 0 rfl rfl dX9_lay_139 ?_
        refine lv_bipush (v := (6 : Int32)) hx hb dX9_lay_142 (by decide) ?_
        refine lv_iload_n hx hb dX9_lay_144 rfl (lv_at hl 1 rfl) ?_
        refine lv_iadd hx hb dX9_lay_145 ?_
        obtain ⟨g_28, h⟩ := gd h
        refine r_iald X hG 8 rfl g_28 dX9_lay_146 ?_
        obtain ⟨g_29, h⟩ := gd h
        refine r_iast X hG 8 (ws' := (W_X9 a cI cJ c_length c_text c_stands c_homeFar c_nets (upd c_netAt x1.toNatClampNeg (c_netAt ((6 : Int32) + x1).toNatClampNeg)) (upd c_netWide x1.toNatClampNeg (c_netWide ((6 : Int32) + x1).toNatClampNeg)) (upd c_netFrom x1.toNatClampNeg (c_netFrom ((6 : Int32) + x1).toNatClampNeg)) (upd c_netTo x1.toNatClampNeg (c_netTo ((6 : Int32) + x1).toNatClampNeg)) c_priceX c_priceY c_many c_days c_aims c_speeds c_kinds c_keptMany c_undoMany c_undos c_spot c_told c_to c_stood c_home c_lost c_out c_fewest c_ways c_next c_held)) rfl g_29 rfl dX9_lay_147 (fun H locs hG => ?_)
        refine lv_iinc (v := (x1 + (1 : Int32))) (lv' := [(1, .int (x1 + (1 : Int32))), (0, .ref (a 0))]) hx hb dX9_lay_148 hl (k := 1) rfl rfl (by decide) rfl (fun ls hl => ?_)
        refine lv_goto (tgt := 83) hx hb dX9_lay_151 (by decide) ?_
        exact KC _ _ _ _ _ (Option.some.inj h).symm _ _ _ (lv_sub hl [1, 0] rfl) hG
  have h := hD
  unfold DX9_lay at h
  clear hD
  refine lv_aload_n hx hb dX9_lay_0 rfl (lv_at hl 0 rfl) ?_
  obtain ⟨r_1, k_stands_2, k_homeFar_3, k_nets_4, k_netAt_5, k_netWide_6, k_netFrom_7, k_netTo_8, k_priceX_9, k_priceY_10, k_many_11, k_days_12, k_aims_13, k_speeds_14, k_kinds_15, k_spot_16, k_told_17, hz_18, h⟩ := bd17_some h
  refine aft_i1 (run_V1 (rest := []) X hG hl.1 (mX9_readAll l dC dI cI cJ a c_length c_text c_stands c_homeFar c_nets c_netAt c_netWide c_netFrom c_netTo c_priceX c_priceY c_many c_days c_aims c_speeds c_kinds c_keptMany c_undoMany c_undos c_spot c_told c_to c_stood c_home c_lost c_out c_fewest c_ways c_next c_held hz_18) gi_V_X9_127 hd_V_yX9_readAll ⟨rfl, rfl⟩ rfl ⟨Nat.le_of_ble_eq_true rfl, Nat.le_of_ble_eq_true rfl⟩ 0 rfl rfl rfl rfl (Nat.le_of_ble_eq_true rfl) ⟨Nat.le_of_ble_eq_true rfl, Nat.le_of_ble_eq_true rfl⟩ dX9_lay_1) hG rfl (fun H locs hG => ?_)
  clear hz_18
  refine lv_bipush (v := (-4 : Int32)) hx hb dX9_lay_4 (by decide) ?_
  refine lv_icmp_ne (tgt := 18) hx hb dX9_lay_6 (by decide) (fun c_19 => ?_) (fun c_19 => ?_)
  · have h := ite_f h c_19
    refine lv_bipush (v := (-2 : Int32)) hx hb dX9_lay_18 (by decide) ?_
    cases h
    exact ret _ _ _ _ dX9_lay_20 hG
  · have h := ite_t h c_19
    refine lv_aload_n hx hb dX9_lay_9 rfl (lv_at hl 0 rfl) ?_
    refine r_get X hG in_X9 rfl 11 (by decide) w_642 0 rfl rfl dX9_lay_10 ?_
    refine lv_iconst (v := (1 : Int32)) hx hb dX9_lay_13 (by decide) ?_
    refine r_iald X hG 11 rfl (vpd (by decide)) dX9_lay_14 ?_
    refine lv_if_ne (tgt := 21) hx hb dX9_lay_15 (by decide) (fun c_20 => ?_) (fun c_20 => ?_)
    · have h := ite_f h c_20
      refine lv_aload_n hx hb dX9_lay_21 rfl (lv_at hl 0 rfl) ?_
      refine r_get X hG in_X9 rfl 2 (by decide) w_633 0 rfl rfl dX9_lay_22 ?_
      refine lv_iconst (v := (0 : Int32)) hx hb dX9_lay_25 (by decide) ?_
      refine lv_aload_n hx hb dX9_lay_26 rfl (lv_at hl 0 rfl) ?_
      refine r_get X hG in_X9 rfl 2 (by decide) w_633 0 rfl rfl dX9_lay_27 ?_
      refine lv_iconst (v := (1 : Int32)) hx hb dX9_lay_30 (by decide) ?_
      refine r_iald X hG 2 rfl (vpd (by decide)) dX9_lay_31 ?_
      refine r_iast X hG 2 (ws' := (W_X9 a cI cJ c_length c_text (upd k_stands_2 (0 : Int32).toNatClampNeg (k_stands_2 (1 : Int32).toNatClampNeg)) k_homeFar_3 k_nets_4 k_netAt_5 k_netWide_6 k_netFrom_7 k_netTo_8 k_priceX_9 k_priceY_10 k_many_11 k_days_12 k_aims_13 k_speeds_14 k_kinds_15 c_keptMany c_undoMany c_undos k_spot_16 k_told_17 c_to c_stood c_home c_lost c_out c_fewest c_ways c_next c_held)) rfl (vpd (by decide)) rfl dX9_lay_32 (fun H locs hG => ?_)
      refine lv_aload_n hx hb dX9_lay_33 rfl (lv_at hl 0 rfl) ?_
      refine r_get X hG in_X9 rfl 3 (by decide) w_634 0 rfl rfl dX9_lay_34 ?_
      refine lv_iconst (v := (0 : Int32)) hx hb dX9_lay_37 (by decide) ?_
      refine lv_aload_n hx hb dX9_lay_38 rfl (lv_at hl 0 rfl) ?_
      refine r_get X hG in_X9 rfl 3 (by decide) w_634 0 rfl rfl dX9_lay_39 ?_
      refine lv_iconst (v := (1 : Int32)) hx hb dX9_lay_42 (by decide) ?_
      refine r_iald X hG 3 rfl (vpd (by decide)) dX9_lay_43 ?_
      refine r_iast X hG 3 (ws' := (W_X9 a cI cJ c_length c_text (upd k_stands_2 (0 : Int32).toNatClampNeg (k_stands_2 (1 : Int32).toNatClampNeg)) (upd k_homeFar_3 (0 : Int32).toNatClampNeg (k_homeFar_3 (1 : Int32).toNatClampNeg)) k_nets_4 k_netAt_5 k_netWide_6 k_netFrom_7 k_netTo_8 k_priceX_9 k_priceY_10 k_many_11 k_days_12 k_aims_13 k_speeds_14 k_kinds_15 c_keptMany c_undoMany c_undos k_spot_16 k_told_17 c_to c_stood c_home c_lost c_out c_fewest c_ways c_next c_held)) rfl (vpd (by decide)) rfl dX9_lay_44 (fun H locs hG => ?_)
      refine lv_aload_n hx hb dX9_lay_45 rfl (lv_at hl 0 rfl) ?_
      refine r_get X hG in_X9 rfl 4 (by decide) w_635 0 rfl rfl dX9_lay_46 ?_
      refine lv_iconst (v := (0 : Int32)) hx hb dX9_lay_49 (by decide) ?_
      refine lv_aload_n hx hb dX9_lay_50 rfl (lv_at hl 0 rfl) ?_
      refine r_get X hG in_X9 rfl 4 (by decide) w_635 0 rfl rfl dX9_lay_51 ?_
      refine lv_iconst (v := (1 : Int32)) hx hb dX9_lay_54 (by decide) ?_
      refine r_iald X hG 4 rfl (vpd (by decide)) dX9_lay_55 ?_
      refine r_iast X hG 4 (ws' := (W_X9 a cI cJ c_length c_text (upd k_stands_2 (0 : Int32).toNatClampNeg (k_stands_2 (1 : Int32).toNatClampNeg)) (upd k_homeFar_3 (0 : Int32).toNatClampNeg (k_homeFar_3 (1 : Int32).toNatClampNeg)) (upd k_nets_4 (0 : Int32).toNatClampNeg (k_nets_4 (1 : Int32).toNatClampNeg)) k_netAt_5 k_netWide_6 k_netFrom_7 k_netTo_8 k_priceX_9 k_priceY_10 k_many_11 k_days_12 k_aims_13 k_speeds_14 k_kinds_15 c_keptMany c_undoMany c_undos k_spot_16 k_told_17 c_to c_stood c_home c_lost c_out c_fewest c_ways c_next c_held)) rfl (vpd (by decide)) rfl dX9_lay_56 (fun H locs hG => ?_)
      refine lv_aload_n hx hb dX9_lay_57 rfl (lv_at hl 0 rfl) ?_
      refine r_get X hG in_X9 rfl 9 (by decide) w_640 0 rfl rfl dX9_lay_58 ?_
      refine lv_iconst (v := (0 : Int32)) hx hb dX9_lay_61 (by decide) ?_
      refine lv_aload_n hx hb dX9_lay_62 rfl (lv_at hl 0 rfl) ?_
      refine r_get X hG in_X9 rfl 9 (by decide) w_640 0 rfl rfl dX9_lay_63 ?_
      refine lv_iconst (v := (1 : Int32)) hx hb dX9_lay_66 (by decide) ?_
      refine r_iald X hG 9 rfl (vpd (by decide)) dX9_lay_67 ?_
      refine r_iast X hG 9 (ws' := (W_X9 a cI cJ c_length c_text (upd k_stands_2 (0 : Int32).toNatClampNeg (k_stands_2 (1 : Int32).toNatClampNeg)) (upd k_homeFar_3 (0 : Int32).toNatClampNeg (k_homeFar_3 (1 : Int32).toNatClampNeg)) (upd k_nets_4 (0 : Int32).toNatClampNeg (k_nets_4 (1 : Int32).toNatClampNeg)) k_netAt_5 k_netWide_6 k_netFrom_7 k_netTo_8 (upd k_priceX_9 (0 : Int32).toNatClampNeg (k_priceX_9 (1 : Int32).toNatClampNeg)) k_priceY_10 k_many_11 k_days_12 k_aims_13 k_speeds_14 k_kinds_15 c_keptMany c_undoMany c_undos k_spot_16 k_told_17 c_to c_stood c_home c_lost c_out c_fewest c_ways c_next c_held)) rfl (vpd (by decide)) rfl dX9_lay_68 (fun H locs hG => ?_)
      refine lv_aload_n hx hb dX9_lay_69 rfl (lv_at hl 0 rfl) ?_
      refine r_get X hG in_X9 rfl 10 (by decide) w_641 0 rfl rfl dX9_lay_70 ?_
      refine lv_iconst (v := (0 : Int32)) hx hb dX9_lay_73 (by decide) ?_
      refine lv_aload_n hx hb dX9_lay_74 rfl (lv_at hl 0 rfl) ?_
      refine r_get X hG in_X9 rfl 10 (by decide) w_641 0 rfl rfl dX9_lay_75 ?_
      refine lv_iconst (v := (1 : Int32)) hx hb dX9_lay_78 (by decide) ?_
      refine r_iald X hG 10 rfl (vpd (by decide)) dX9_lay_79 ?_
      refine r_iast X hG 10 (ws' := (W_X9 a cI cJ c_length c_text (upd k_stands_2 (0 : Int32).toNatClampNeg (k_stands_2 (1 : Int32).toNatClampNeg)) (upd k_homeFar_3 (0 : Int32).toNatClampNeg (k_homeFar_3 (1 : Int32).toNatClampNeg)) (upd k_nets_4 (0 : Int32).toNatClampNeg (k_nets_4 (1 : Int32).toNatClampNeg)) k_netAt_5 k_netWide_6 k_netFrom_7 k_netTo_8 (upd k_priceX_9 (0 : Int32).toNatClampNeg (k_priceX_9 (1 : Int32).toNatClampNeg)) (upd k_priceY_10 (0 : Int32).toNatClampNeg (k_priceY_10 (1 : Int32).toNatClampNeg)) k_many_11 k_days_12 k_aims_13 k_speeds_14 k_kinds_15 c_keptMany c_undoMany c_undos k_spot_16 k_told_17 c_to c_stood c_home c_lost c_out c_fewest c_ways c_next c_held)) rfl (vpd (by decide)) rfl dX9_lay_80 (fun H locs hG => ?_)
      refine lv_iconst (v := (0 : Int32)) hx hb dX9_lay_81 (by decide) ?_
      refine lv_istore_n (lv' := [(1, .int (0 : Int32)), (0, .ref (a 0))]) hx hb dX9_lay_82 rfl hl (by decide) rfl (fun ls hl => ?_)
      obtain ⟨k_netAt_30, k_netWide_31, k_netFrom_32, k_netTo_33, hz, h⟩ := bd4_some h
      refine L83 (upd k_stands_2 (0 : Int32).toNatClampNeg (k_stands_2 (1 : Int32).toNatClampNeg)) (upd k_homeFar_3 (0 : Int32).toNatClampNeg (k_homeFar_3 (1 : Int32).toNatClampNeg)) (upd k_nets_4 (0 : Int32).toNatClampNeg (k_nets_4 (1 : Int32).toNatClampNeg)) (upd k_priceX_9 (0 : Int32).toNatClampNeg (k_priceX_9 (1 : Int32).toNatClampNeg)) (upd k_priceY_10 (0 : Int32).toNatClampNeg (k_priceY_10 (1 : Int32).toNatClampNeg)) k_many_11 k_days_12 k_aims_13 k_speeds_14 k_kinds_15 c_keptMany c_undoMany k_spot_16 k_told_17 FU (0 : Int32) k_netAt_5 k_netWide_6 k_netFrom_7 k_netTo_8 _ _ _ _ hz (fun ls H locs hl hG => ?_) _ _ _ (lv_sub hl [1, 0] rfl) hG
      clear hz
      refine lv_aload_n hx hb dX9_lay_154 rfl (lv_at hl 0 rfl) ?_
      refine lv_iconst (v := (1 : Int32)) hx hb dX9_lay_155 (by decide) ?_
      refine lv_iconst (v := (0 : Int32)) hx hb dX9_lay_156 (by decide) ?_
      obtain ⟨k_many_34, k_days_35, k_aims_36, k_speeds_37, k_kinds_38, hz_39, h⟩ := bd5_some h
      refine aft_v1 (run_V1 (rest := []) X hG hl.1 (mX9_copy l dC dI cI cJ a c_length c_text (upd k_stands_2 (0 : Int32).toNatClampNeg (k_stands_2 (1 : Int32).toNatClampNeg)) (upd k_homeFar_3 (0 : Int32).toNatClampNeg (k_homeFar_3 (1 : Int32).toNatClampNeg)) (upd k_nets_4 (0 : Int32).toNatClampNeg (k_nets_4 (1 : Int32).toNatClampNeg)) k_netAt_30 k_netWide_31 k_netFrom_32 k_netTo_33 (upd k_priceX_9 (0 : Int32).toNatClampNeg (k_priceX_9 (1 : Int32).toNatClampNeg)) (upd k_priceY_10 (0 : Int32).toNatClampNeg (k_priceY_10 (1 : Int32).toNatClampNeg)) k_many_11 k_days_12 k_aims_13 k_speeds_14 k_kinds_15 c_keptMany c_undoMany c_undos k_spot_16 k_told_17 c_to c_stood c_home c_lost c_out c_fewest c_ways c_next c_held (1 : Int32) (0 : Int32) hz_39) gi_V_X9_131 hd_V_yX9_copy ⟨rfl, rfl⟩ rfl ⟨Nat.le_of_ble_eq_true rfl, Nat.le_of_ble_eq_true rfl⟩ 0 rfl rfl rfl rfl (Nat.le_of_ble_eq_true rfl) ⟨Nat.le_of_ble_eq_true rfl, Nat.le_of_ble_eq_true rfl⟩ dX9_lay_157) hG rfl (fun H locs hG => ?_)
      clear hz_39
      refine lv_aload_n hx hb dX9_lay_160 rfl (lv_at hl 0 rfl) ?_
      refine lv_iconst (v := (0 : Int32)) hx hb dX9_lay_161 (by decide) ?_
      refine r_put X hG in_X9 rfl tyX9 tyX9_ok nmX9 16 (by decide) rfl (by decide +kernel) w_647 0 (ws' := (W_X9 a cI cJ c_length c_text (upd k_stands_2 (0 : Int32).toNatClampNeg (k_stands_2 (1 : Int32).toNatClampNeg)) (upd k_homeFar_3 (0 : Int32).toNatClampNeg (k_homeFar_3 (1 : Int32).toNatClampNeg)) (upd k_nets_4 (0 : Int32).toNatClampNeg (k_nets_4 (1 : Int32).toNatClampNeg)) k_netAt_30 k_netWide_31 k_netFrom_32 k_netTo_33 (upd k_priceX_9 (0 : Int32).toNatClampNeg (k_priceX_9 (1 : Int32).toNatClampNeg)) (upd k_priceY_10 (0 : Int32).toNatClampNeg (k_priceY_10 (1 : Int32).toNatClampNeg)) k_many_34 k_days_35 k_aims_36 k_speeds_37 k_kinds_38 (0 : Int32) c_undoMany c_undos k_spot_16 k_told_17 c_to c_stood c_home c_lost c_out c_fewest c_ways c_next c_held)) rfl (Nat.le_of_ble_eq_true rfl) rfl dX9_lay_162 (fun H locs hG => ?_)
      refine lv_aload_n hx hb dX9_lay_165 rfl (lv_at hl 0 rfl) ?_
      refine lv_iconst (v := (0 : Int32)) hx hb dX9_lay_166 (by decide) ?_
      refine r_put X hG in_X9 rfl tyX9 tyX9_ok nmX9 17 (by decide) rfl (by decide +kernel) w_648 0 (ws' := (W_X9 a cI cJ c_length c_text (upd k_stands_2 (0 : Int32).toNatClampNeg (k_stands_2 (1 : Int32).toNatClampNeg)) (upd k_homeFar_3 (0 : Int32).toNatClampNeg (k_homeFar_3 (1 : Int32).toNatClampNeg)) (upd k_nets_4 (0 : Int32).toNatClampNeg (k_nets_4 (1 : Int32).toNatClampNeg)) k_netAt_30 k_netWide_31 k_netFrom_32 k_netTo_33 (upd k_priceX_9 (0 : Int32).toNatClampNeg (k_priceX_9 (1 : Int32).toNatClampNeg)) (upd k_priceY_10 (0 : Int32).toNatClampNeg (k_priceY_10 (1 : Int32).toNatClampNeg)) k_many_34 k_days_35 k_aims_36 k_speeds_37 k_kinds_38 (0 : Int32) (0 : Int32) c_undos k_spot_16 k_told_17 c_to c_stood c_home c_lost c_out c_fewest c_ways c_next c_held)) rfl (Nat.le_of_ble_eq_true rfl) rfl dX9_lay_167 (fun H locs hG => ?_)
      refine lv_aload_n hx hb dX9_lay_170 rfl (lv_at hl 0 rfl) ?_
      refine r_get X hG in_X9 rfl 11 (by decide) w_642 0 rfl rfl dX9_lay_171 ?_
      refine lv_iconst (v := (0 : Int32)) hx hb dX9_lay_174 (by decide) ?_
      refine r_iald X hG 11 rfl (vpd (by decide)) dX9_lay_175 ?_
      cases h
      exact ret _ _ _ _ dX9_lay_176 hG
    · have h := ite_t h c_20
      refine lv_bipush (v := (-2 : Int32)) hx hb dX9_lay_18 (by decide) ?_
      cases h
      exact ret _ _ _ _ dX9_lay_20 hG
set_option maxRecDepth 100000 in
set_option maxHeartbeats 4000000 in
theorem mX9_isThrow (l : Launch) (dC : Nat → ClassId) (dI : Nat → Nat → Nat) (cI cJ : ClassId) (a : Nat → Nat) (c_length : Int32) (c_text : Nat → Int32) (c_stands : Nat → Int32) (c_homeFar : Nat → Int32) (c_nets : Nat → Int32) (c_netAt : Nat → Int32) (c_netWide : Nat → Int32) (c_netFrom : Nat → Int32) (c_netTo : Nat → Int32) (c_priceX : Nat → Int32) (c_priceY : Nat → Int32) (c_many : Nat → Int32) (c_days : Nat → Int32) (c_aims : Nat → Int32) (c_speeds : Nat → Int32) (c_kinds : Nat → Int32) (c_keptMany : Int32) (c_undoMany : Int32) (c_undos : Nat → Int32) (c_spot : Int32) (c_told : Nat → Int32) (c_to : Nat → Int32) (c_stood : Nat → Int32) (c_home : Nat → Int32) (c_lost : Nat → Int32) (c_out : Int32) (c_fewest : Nat → Int32) (c_ways : Nat → Int64) (c_next : Nat → Int64) (c_held : Nat → Int32) (x1 : Int32) {res : Int32} (hD : DX9_isThrow x1 c_many = some res) : Met l yX9_isThrow (WZ yX9_isThrow cX9_isThrow 2 (some .boolean)) (RM 1 25) (PC dC dI cI cJ [.ref (a 0), .int x1] (W_X9 a cI cJ c_length c_text c_stands c_homeFar c_nets c_netAt c_netWide c_netFrom c_netTo c_priceX c_priceY c_many c_days c_aims c_speeds c_kinds c_keptMany c_undoMany c_undos c_spot c_told c_to c_stood c_home c_lost c_out c_fewest c_ways c_next c_held)) (QI dC dI (W_X9 a cI cJ c_length c_text c_stands c_homeFar c_nets c_netAt c_netWide c_netFrom c_netTo c_priceX c_priceY c_many c_days c_aims c_speeds c_kinds c_keptMany c_undoMany c_undos c_spot c_told c_to c_stood c_home c_lost c_out c_fewest c_ways c_next c_held) (W_X9 a cI cJ c_length c_text c_stands c_homeFar c_nets c_netAt c_netWide c_netFrom c_netTo c_priceX c_priceY c_many c_days c_aims c_speeds c_kinds c_keptMany c_undoMany c_undos c_spot c_told c_to c_stood c_home c_lost c_out c_fewest c_ways c_next c_held) res) 0 0 (FA (W_X9 a cI cJ c_length c_text c_stands c_homeFar c_nets c_netAt c_netWide c_netFrom c_netTo c_priceX c_priceY c_many c_days c_aims c_speeds c_kinds c_keptMany c_undoMany c_undos c_spot c_told c_to c_stood c_home c_lost c_out c_fewest c_ways c_next c_held)) := by
  refine r_metZ (by decide +kernel) (Nat.le_of_ble_eq_true rfl) ?_
  intro p e s m args below meth c A H0 QQ X ret ls hl hG
  have X : Cx p m c cX9_isThrow 2 s args RX9 dC dI cI cJ meth (some .boolean) := X
  have hx := X.1.1
  have hb := X.1.2.1
  have hl : lv_has ls 2 [(0, .ref (a 0)), (1, .int x1)] := hl
  have h := hD
  unfold DX9_isThrow at h
  clear hD
  refine lv_iload_n hx hb dX9_isThrow_0 rfl (lv_at hl 1 rfl) ?_
  refine lv_i2l (v := (x1.toInt64)) hx hb dX9_isThrow_1 rfl ?_
  refine lv_lconst (v := (0 : Int64)) hx hb dX9_isThrow_2 (by decide) ?_
  refine lv_aload_n hx hb dX9_isThrow_3 rfl (lv_at hl 0 rfl) ?_
  refine r_get X hG in_X9 rfl 11 (by decide) w_642 0 rfl rfl dX9_isThrow_4 ?_
  refine lv_iconst (v := (0 : Int32)) hx hb dX9_isThrow_7 (by decide) ?_
  refine r_iald X hG 11 rfl (vpd (by decide)) dX9_isThrow_8 ?_
  refine lv_iconst (v := (1 : Int32)) hx hb dX9_isThrow_9 (by decide) ?_
  refine lv_isub hx hb dX9_isThrow_10 ?_
  refine lv_i2l (v := (((c_many (0 : Int32).toNatClampNeg) - (1 : Int32)).toInt64)) hx hb dX9_isThrow_11 rfl ?_
  obtain ⟨r_1, hz_2, h⟩ := bd1_some h
  refine aft_i (ws' := (W_X9 a cI cJ c_length c_text c_stands c_homeFar c_nets c_netAt c_netWide c_netFrom c_netTo c_priceX c_priceY c_many c_days c_aims c_speeds c_kinds c_keptMany c_undoMany c_undos c_spot c_told c_to c_stood c_home c_lost c_out c_fewest c_ways c_next c_held)) (run_S (rest := []) X hG hl.1 (mX9_in l dC dI cI cJ (x1.toInt64) (0 : Int64) (((c_many (0 : Int32).toNatClampNeg) - (1 : Int32)).toInt64) hz_2) gi_S_X9_92 hd_S_yX9_in ⟨rfl, rfl⟩ rfl ⟨Nat.le_of_ble_eq_true rfl, Nat.le_of_ble_eq_true rfl⟩ [] (by decide) rfl rfl (Nat.le_of_ble_eq_true rfl) ⟨Nat.le_of_ble_eq_true rfl, Nat.le_of_ble_eq_true rfl⟩ dX9_isThrow_12) hG [] rfl rfl rfl (fun H locs hG => ?_)
  clear hz_2
  obtain ⟨g_3, h⟩ := gd h
  cases h
  exact ret _ _ _ _ dX9_isThrow_15 (Decidable.not_not.mp g_3) hG
set_option maxRecDepth 100000 in
set_option maxHeartbeats 4000000 in
theorem mX9_homeDay (l : Launch) (dC : Nat → ClassId) (dI : Nat → Nat → Nat) (cI cJ : ClassId) (a : Nat → Nat) (c_length : Int32) (c_text : Nat → Int32) (c_stands : Nat → Int32) (c_homeFar : Nat → Int32) (c_nets : Nat → Int32) (c_netAt : Nat → Int32) (c_netWide : Nat → Int32) (c_netFrom : Nat → Int32) (c_netTo : Nat → Int32) (c_priceX : Nat → Int32) (c_priceY : Nat → Int32) (c_many : Nat → Int32) (c_days : Nat → Int32) (c_aims : Nat → Int32) (c_speeds : Nat → Int32) (c_kinds : Nat → Int32) (c_keptMany : Int32) (c_undoMany : Int32) (c_undos : Nat → Int32) (c_spot : Int32) (c_told : Nat → Int32) (c_to : Nat → Int32) (c_stood : Nat → Int32) (c_home : Nat → Int32) (c_lost : Nat → Int32) (c_out : Int32) (c_fewest : Nat → Int32) (c_ways : Nat → Int64) (c_next : Nat → Int64) (c_held : Nat → Int32) (x1 : Int32) (x2 : Int32) {res : Int32} (hD : DX9_homeDay x1 x2 c_homeFar = some res) : Met l yX9_homeDay (WZ yX9_homeDay cX9_homeDay 3 (some .int)) (RM 0 0) (PC dC dI cI cJ [.ref (a 0), .int x1, .int x2] (W_X9 a cI cJ c_length c_text c_stands c_homeFar c_nets c_netAt c_netWide c_netFrom c_netTo c_priceX c_priceY c_many c_days c_aims c_speeds c_kinds c_keptMany c_undoMany c_undos c_spot c_told c_to c_stood c_home c_lost c_out c_fewest c_ways c_next c_held)) (QI dC dI (W_X9 a cI cJ c_length c_text c_stands c_homeFar c_nets c_netAt c_netWide c_netFrom c_netTo c_priceX c_priceY c_many c_days c_aims c_speeds c_kinds c_keptMany c_undoMany c_undos c_spot c_told c_to c_stood c_home c_lost c_out c_fewest c_ways c_next c_held) (W_X9 a cI cJ c_length c_text c_stands c_homeFar c_nets c_netAt c_netWide c_netFrom c_netTo c_priceX c_priceY c_many c_days c_aims c_speeds c_kinds c_keptMany c_undoMany c_undos c_spot c_told c_to c_stood c_home c_lost c_out c_fewest c_ways c_next c_held) res) 0 0 (FA (W_X9 a cI cJ c_length c_text c_stands c_homeFar c_nets c_netAt c_netWide c_netFrom c_netTo c_priceX c_priceY c_many c_days c_aims c_speeds c_kinds c_keptMany c_undoMany c_undos c_spot c_told c_to c_stood c_home c_lost c_out c_fewest c_ways c_next c_held)) := by
  refine r_metI (by decide +kernel) (Nat.le_of_ble_eq_true rfl) ?_
  intro p e s m args below meth c A H0 QQ X ret ls hl hG
  have X : Cx p m c cX9_homeDay 3 s args RX9 dC dI cI cJ meth (some .int) := X
  have hx := X.1.1
  have hb := X.1.2.1
  have hl : lv_has ls 3 [(0, .ref (a 0)), (1, .int x1), (2, .int x2)] := hl
  have h := hD
  unfold DX9_homeDay at h
  clear hD
  refine lv_iload_n hx hb dX9_homeDay_0 rfl (lv_at hl 1 rfl) ?_
  refine lv_aload_n hx hb dX9_homeDay_1 rfl (lv_at hl 0 rfl) ?_
  refine r_get X hG in_X9 rfl 3 (by decide) w_634 0 rfl rfl dX9_homeDay_2 ?_
  refine lv_iconst (v := (0 : Int32)) hx hb dX9_homeDay_5 (by decide) ?_
  refine r_iald X hG 3 rfl (vpd (by decide)) dX9_homeDay_6 ?_
  refine lv_iload_n hx hb dX9_homeDay_7 rfl (lv_at hl 2 rfl) ?_
  refine lv_iadd hx hb dX9_homeDay_8 ?_
  refine lv_iconst (v := (1 : Int32)) hx hb dX9_homeDay_9 (by decide) ?_
  refine lv_isub hx hb dX9_homeDay_10 ?_
  refine lv_iload_n hx hb dX9_homeDay_11 rfl (lv_at hl 2 rfl) ?_
  obtain ⟨g_1, h⟩ := gd h
  refine lv_idiv hx hb dX9_homeDay_12 g_1 ?_
  refine lv_iadd hx hb dX9_homeDay_13 ?_
  cases h
  exact ret _ _ _ _ dX9_homeDay_14 hG
set_option maxRecDepth 100000 in
set_option maxHeartbeats 4000000 in
theorem mX9_around (l : Launch) (dC : Nat → ClassId) (dI : Nat → Nat → Nat) (cI cJ : ClassId) (x0 : Int32) {res : Int32} (hD : DX9_around x0 = some res) : Met l yX9_around (WZ yX9_around cX9_around 1 (some .int)) (RM 0 0) (PC dC dI cI cJ [.int x0] []) (QI dC dI [] [] res) 0 0 (FA []) := by
  refine r_metI (by decide +kernel) (Nat.le_of_ble_eq_true rfl) ?_
  intro p e s m args below meth c A H0 QQ X ret ls hl hG
  have X : Cx p m c cX9_around 1 s args RX9 dC dI cI cJ meth (some .int) := X
  have hx := X.1.1
  have hb := X.1.2.1
  have hl : lv_has ls 1 [(0, .int x0)] := hl
  have h := hD
  unfold DX9_around at h
  clear hD
  refine lv_iload_n hx hb dX9_around_0 rfl (lv_at hl 0 rfl) ?_
  refine lv_bipush (v := (24 : Int32)) hx hb dX9_around_1 (by decide) ?_
  refine lv_irem hx hb dX9_around_3 (by decide) ?_
  refine lv_bipush (v := (24 : Int32)) hx hb dX9_around_4 (by decide) ?_
  refine lv_iadd hx hb dX9_around_6 ?_
  refine lv_bipush (v := (24 : Int32)) hx hb dX9_around_7 (by decide) ?_
  refine lv_irem hx hb dX9_around_9 (by decide) ?_
  cases h
  exact ret _ _ _ _ dX9_around_10 hG
set_option maxRecDepth 100000 in
set_option maxHeartbeats 4000000 in
theorem mX9_turnTo (l : Launch) (dC : Nat → ClassId) (dI : Nat → Nat → Nat) (cI cJ : ClassId) (a : Nat → Nat) (c_length : Int32) (c_text : Nat → Int32) (c_stands : Nat → Int32) (c_homeFar : Nat → Int32) (c_nets : Nat → Int32) (c_netAt : Nat → Int32) (c_netWide : Nat → Int32) (c_netFrom : Nat → Int32) (c_netTo : Nat → Int32) (c_priceX : Nat → Int32) (c_priceY : Nat → Int32) (c_many : Nat → Int32) (c_days : Nat → Int32) (c_aims : Nat → Int32) (c_speeds : Nat → Int32) (c_kinds : Nat → Int32) (c_keptMany : Int32) (c_undoMany : Int32) (c_undos : Nat → Int32) (c_spot : Int32) (c_told : Nat → Int32) (c_to : Nat → Int32) (c_stood : Nat → Int32) (c_home : Nat → Int32) (c_lost : Nat → Int32) (c_out : Int32) (c_fewest : Nat → Int32) (c_ways : Nat → Int64) (c_next : Nat → Int64) (c_held : Nat → Int32) (x1 : Int32) {res : Int32} {n_to : Nat → Int32} {n_stood : Nat → Int32} (hD : DX9_turnTo x1 c_stands c_many c_days c_aims c_speeds c_kinds c_to c_stood c_out = some (res, n_to, n_stood)) : Met l yX9_turnTo (WZ yX9_turnTo cX9_turnTo 5 (some .int)) (RM 1 21) (PC dC dI cI cJ [.ref (a 0), .int x1] (W_X9 a cI cJ c_length c_text c_stands c_homeFar c_nets c_netAt c_netWide c_netFrom c_netTo c_priceX c_priceY c_many c_days c_aims c_speeds c_kinds c_keptMany c_undoMany c_undos c_spot c_told c_to c_stood c_home c_lost c_out c_fewest c_ways c_next c_held)) (QI dC dI (W_X9 a cI cJ c_length c_text c_stands c_homeFar c_nets c_netAt c_netWide c_netFrom c_netTo c_priceX c_priceY c_many c_days c_aims c_speeds c_kinds c_keptMany c_undoMany c_undos c_spot c_told c_to c_stood c_home c_lost c_out c_fewest c_ways c_next c_held) (W_X9 a cI cJ c_length c_text c_stands c_homeFar c_nets c_netAt c_netWide c_netFrom c_netTo c_priceX c_priceY c_many c_days c_aims c_speeds c_kinds c_keptMany c_undoMany c_undos c_spot c_told n_to n_stood c_home c_lost c_out c_fewest c_ways c_next c_held) res) 0 0 (FA (W_X9 a cI cJ c_length c_text c_stands c_homeFar c_nets c_netAt c_netWide c_netFrom c_netTo c_priceX c_priceY c_many c_days c_aims c_speeds c_kinds c_keptMany c_undoMany c_undos c_spot c_told c_to c_stood c_home c_lost c_out c_fewest c_ways c_next c_held)) := by
  refine r_metI (by decide +kernel) (Nat.le_of_ble_eq_true rfl) ?_
  intro p e s m args below meth c A H0 QQ X ret ls hl hG
  have X : Cx p m c cX9_turnTo 5 s args RX9 dC dI cI cJ meth (some .int) := X
  have hx := X.1.1
  have hb := X.1.2.1
  have hl : lv_has ls 5 [(0, .ref (a 0)), (1, .int x1)] := hl
  have J109 : ∀ (y0 : Int32) (y1 : Int32) (y2 : Int32) (x3 : Int32) (x4 : Int32) (c_to : Nat → Int32) (c_stood : Nat → Int32), ∀ (w : (Int32 × Int32 × (Nat → Int32) × (Nat → Int32)) ⊕ (Int32 × (Nat → Int32) × (Nat → Int32))), DX9_turnTo_J109 c_to c_stood y0 y1 y2 x4 = some w → (∀ (x2 : Int32) (x4 : Int32) (c_to : Nat → Int32) (c_stood : Nat → Int32), w = .inl (x2, x4, c_to, c_stood) → ∀ (ls : Array Slot) (H : Heap) (locs : List Loc), lv_has ls 5 [(0, .ref (a 0)), (1, .int x1), (2, .int x2), (3, .int x3), (4, .int x4)] → G dC dI A H0 (W_X9 a cI cJ c_length c_text c_stands c_homeFar c_nets c_netAt c_netWide c_netFrom c_netTo c_priceX c_priceY c_many c_days c_aims c_speeds c_kinds c_keptMany c_undoMany c_undos c_spot c_told c_to c_stood c_home c_lost c_out c_fewest c_ways c_next c_held) H locs → W p l e (RM 1 21) s m args below meth c H locs 0 0 QQ (F0 m 17 ls [])) → (∀ (x2 : Int32) (c_to : Nat → Int32) (c_stood : Nat → Int32), w = .inr (x2, c_to, c_stood) → ∀ (ls : Array Slot) (H : Heap) (locs : List Loc), lv_has ls 5 [(0, .ref (a 0)), (1, .int x1), (2, .int x2), (3, .int x3)] → G dC dI A H0 (W_X9 a cI cJ c_length c_text c_stands c_homeFar c_nets c_netAt c_netWide c_netFrom c_netTo c_priceX c_priceY c_many c_days c_aims c_speeds c_kinds c_keptMany c_undoMany c_undos c_spot c_told c_to c_stood c_home c_lost c_out c_fewest c_ways c_next c_held) H locs → W p l e (RM 1 21) s m args below meth c H locs 0 0 QQ (F0 m 129 ls [])) → ∀ (ls : Array Slot) (H : Heap) (locs : List Loc), lv_has ls 5 [(0, .ref (a 0)), (1, .int x1), (3, .int x3), (4, .int x4)] → G dC dI A H0 (W_X9 a cI cJ c_length c_text c_stands c_homeFar c_nets c_netAt c_netWide c_netFrom c_netTo c_priceX c_priceY c_many c_days c_aims c_speeds c_kinds c_keptMany c_undoMany c_undos c_spot c_told c_to c_stood c_home c_lost c_out c_fewest c_ways c_next c_held) H locs → W p l e (RM 1 21) s m args below meth c H locs 0 0 QQ (F0 m 109 ls [.int y0, .int y1, .int y2]) := by
    intro y0 y1 y2 x3 x4 c_to c_stood w h KC KX ls H locs hl hG
    unfold DX9_turnTo_J109 at h
    refine lv_imul hx hb dX9_turnTo_109 ?_
    refine lv_isub hx hb dX9_turnTo_110 ?_
    obtain ⟨r_17, hz_18, h⟩ := bd1_some h
    refine aft_i (ws' := (W_X9 a cI cJ c_length c_text c_stands c_homeFar c_nets c_netAt c_netWide c_netFrom c_netTo c_priceX c_priceY c_many c_days c_aims c_speeds c_kinds c_keptMany c_undoMany c_undos c_spot c_told c_to c_stood c_home c_lost c_out c_fewest c_ways c_next c_held)) (run_S (rest := []) X hG hl.1 (mX9_around l dC dI cI cJ (y2 - (y1 * y0)) hz_18) gi_S_X9_148 hd_S_yX9_around ⟨rfl, rfl⟩ rfl ⟨Nat.le_of_ble_eq_true rfl, Nat.le_of_ble_eq_true rfl⟩ [] (by decide) rfl rfl (Nat.le_of_ble_eq_true rfl) ⟨Nat.le_of_ble_eq_true rfl, Nat.le_of_ble_eq_true rfl⟩ dX9_turnTo_111) hG [] rfl rfl rfl (fun H locs hG => ?_)
    clear hz_18
    refine lv_istore_n (lv' := [(2, .int r_17), (0, .ref (a 0)), (1, .int x1), (3, .int x3), (4, .int x4)]) hx hb dX9_turnTo_114 rfl hl (by decide) rfl (fun ls hl => ?_)
    refine lv_aload_n hx hb dX9_turnTo_115 rfl (lv_at hl 1 rfl) ?_
    refine r_get X hG in_X9 rfl 22 (by decide) w_653 0 rfl rfl dX9_turnTo_116 ?_
    refine lv_iload hx hb dX9_turnTo_119 (lv_at hl 4 rfl) ?_
    refine lv_iload_n hx hb dX9_turnTo_121 rfl (lv_at hl 0 rfl) ?_
    obtain ⟨g_19, h⟩ := gd h
    refine r_iast X hG 19 (ws' := (W_X9 a cI cJ c_length c_text c_stands c_homeFar c_nets c_netAt c_netWide c_netFrom c_netTo c_priceX c_priceY c_many c_days c_aims c_speeds c_kinds c_keptMany c_undoMany c_undos c_spot c_told c_to (upd c_stood x4.toNatClampNeg r_17) c_home c_lost c_out c_fewest c_ways c_next c_held)) rfl g_19 rfl dX9_turnTo_122 (fun H locs hG => ?_)
    refine lv_iinc (v := (x4 + (1 : Int32))) (lv' := [(4, .int (x4 + (1 : Int32))), (2, .int r_17), (0, .ref (a 0)), (1, .int x1), (3, .int x3)]) hx hb dX9_turnTo_123 hl (k := 4) rfl rfl (by decide) rfl (fun ls hl => ?_)
    refine lv_goto (tgt := 17) hx hb dX9_turnTo_126 (by decide) ?_
    exact KC _ _ _ _ (Option.some.inj h).symm _ _ _ (lv_sub hl [2, 3, 1, 4, 0] rfl) hG
  have L17 : ∀ (x3 : Int32), ∀ (n : Nat) (x2 : Int32) (x4 : Int32) (c_to : Nat → Int32) (c_stood : Nat → Int32) (ex2 : Int32) (ec_to : Nat → Int32) (ec_stood : Nat → Int32), DX9_turnTo_L17 c_many c_days c_aims c_speeds c_kinds c_out x3 n x2 x4 c_to c_stood = some (ex2, ec_to, ec_stood) → (∀ (ls : Array Slot) (H : Heap) (locs : List Loc), lv_has ls 5 [(0, .ref (a 0)), (1, .int x1), (2, .int ex2), (3, .int x3)] → G dC dI A H0 (W_X9 a cI cJ c_length c_text c_stands c_homeFar c_nets c_netAt c_netWide c_netFrom c_netTo c_priceX c_priceY c_many c_days c_aims c_speeds c_kinds c_keptMany c_undoMany c_undos c_spot c_told ec_to ec_stood c_home c_lost c_out c_fewest c_ways c_next c_held) H locs → W p l e (RM 1 21) s m args below meth c H locs 0 0 QQ (F0 m 129 ls [])) → ∀ (ls : Array Slot) (H : Heap) (locs : List Loc), lv_has ls 5 [(0, .ref (a 0)), (1, .int x1), (2, .int x2), (3, .int x3), (4, .int x4)] → G dC dI A H0 (W_X9 a cI cJ c_length c_text c_stands c_homeFar c_nets c_netAt c_netWide c_netFrom c_netTo c_priceX c_priceY c_many c_days c_aims c_speeds c_kinds c_keptMany c_undoMany c_undos c_spot c_told c_to c_stood c_home c_lost c_out c_fewest c_ways c_next c_held) H locs → W p l e (RM 1 21) s m args below meth c H locs 0 0 QQ (F0 m 17 ls []) := by
    intro x3 n
    induction n with
    | zero => intro x2 x4 c_to c_stood ex2 ec_to ec_stood h; exact it_zero h
    | succ n ih =>
      intro x2 x4 c_to c_stood ex2 ec_to ec_stood h0 K0 ls H locs hl hG
      obtain ⟨w, h, hi, hr⟩ := it_succ h0
      have h : DX9_turnTo_L17s c_many c_days c_aims c_speeds c_kinds c_out x3 x2 x4 c_to c_stood = some w := h
      have KC : ∀ (x2 : Int32) (x4 : Int32) (c_to : Nat → Int32) (c_stood : Nat → Int32), w = .inl (x2, x4, c_to, c_stood) → ∀ (ls : Array Slot) (H : Heap) (locs : List Loc), lv_has ls 5 [(0, .ref (a 0)), (1, .int x1), (2, .int x2), (3, .int x3), (4, .int x4)] → G dC dI A H0 (W_X9 a cI cJ c_length c_text c_stands c_homeFar c_nets c_netAt c_netWide c_netFrom c_netTo c_priceX c_priceY c_many c_days c_aims c_speeds c_kinds c_keptMany c_undoMany c_undos c_spot c_told c_to c_stood c_home c_lost c_out c_fewest c_ways c_next c_held) H locs → W p l e (RM 1 21) s m args below meth c H locs 0 0 QQ (F0 m 17 ls []) := fun b0 b1 b2 b3 e ls H locs hl hG => ih b0 b1 b2 b3 ex2 ec_to ec_stood (hi _ e) K0 ls H locs hl hG
      have KX : ∀ (x2 : Int32) (c_to : Nat → Int32) (c_stood : Nat → Int32), w = .inr (x2, c_to, c_stood) → ∀ (ls : Array Slot) (H : Heap) (locs : List Loc), lv_has ls 5 [(0, .ref (a 0)), (1, .int x1), (2, .int x2), (3, .int x3)] → G dC dI A H0 (W_X9 a cI cJ c_length c_text c_stands c_homeFar c_nets c_netAt c_netWide c_netFrom c_netTo c_priceX c_priceY c_many c_days c_aims c_speeds c_kinds c_keptMany c_undoMany c_undos c_spot c_told c_to c_stood c_home c_lost c_out c_fewest c_ways c_next c_held) H locs → W p l e (RM 1 21) s m args below meth c H locs 0 0 QQ (F0 m 129 ls []) := fun b0 b1 b2 e ls H locs hl hG => by cases hr _ e; exact K0 ls H locs hl hG
      clear h0 hi hr K0 ih
      unfold DX9_turnTo_L17s at h
      refine lv_iload hx hb dX9_turnTo_17 (lv_at hl 4 rfl) ?_
      refine lv_aload_n hx hb dX9_turnTo_19 rfl (lv_at hl 0 rfl) ?_
      refine r_get X hG in_X9 rfl 11 (by decide) w_642 0 rfl rfl dX9_turnTo_20 ?_
      refine lv_iconst (v := (0 : Int32)) hx hb dX9_turnTo_23 (by decide) ?_
      refine r_iald X hG 11 rfl (vpd (by decide)) dX9_turnTo_24 ?_
      refine lv_icmp_ge (tgt := 129) hx hb dX9_turnTo_25 (by decide) (fun c_2 => ?_) (fun c_2 => ?_)
      · have h := ite_t h c_2
        exact KX _ _ _ (Option.some.inj h).symm _ _ _ (lv_sub hl [0, 1, 2, 3] rfl) hG
      · have h := ite_f h c_2
        refine lv_aload_n hx hb dX9_turnTo_28 rfl (lv_at hl 0 rfl) ?_
        refine r_get X hG in_X9 rfl 12 (by decide) w_643 0 rfl rfl dX9_turnTo_29 ?_
        refine lv_iload hx hb dX9_turnTo_32 (lv_at hl 4 rfl) ?_
        obtain ⟨g_3, h⟩ := gd h
        refine r_iald X hG 12 rfl g_3 dX9_turnTo_34 ?_
        refine lv_iload_n hx hb dX9_turnTo_35 rfl (lv_at hl 3 rfl) ?_
        refine lv_icmp_ne (tgt := 123) hx hb dX9_turnTo_36 (by decide) (fun c_4 => ?_) (fun c_4 => ?_)
        · have h := ite_f h c_4
          refine lv_iinc (v := (x4 + (1 : Int32))) (lv' := [(4, .int (x4 + (1 : Int32))), (0, .ref (a 0)), (1, .int x1), (2, .int x2), (3, .int x3)]) hx hb dX9_turnTo_123 hl (k := 4) rfl rfl (by decide) rfl (fun ls hl => ?_)
          refine lv_goto (tgt := 17) hx hb dX9_turnTo_126 (by decide) ?_
          exact KC _ _ _ _ (Option.some.inj h).symm _ _ _ (lv_sub hl [1, 2, 3, 4, 0] rfl) hG
        · have h := ite_t h c_4
          refine lv_aload_n hx hb dX9_turnTo_39 rfl (lv_at hl 0 rfl) ?_
          refine r_get X hG in_X9 rfl 25 (by decide) w_656 0 rfl rfl dX9_turnTo_40 ?_
          refine lv_iload hx hb dX9_turnTo_43 (lv_at hl 4 rfl) ?_
          obtain ⟨r_5, hz_6, h⟩ := bd1_some h
          refine aft_i (ws' := (W_X9 a cI cJ c_length c_text c_stands c_homeFar c_nets c_netAt c_netWide c_netFrom c_netTo c_priceX c_priceY c_many c_days c_aims c_speeds c_kinds c_keptMany c_undoMany c_undos c_spot c_told c_to c_stood c_home c_lost c_out c_fewest c_ways c_next c_held)) (run_S (rest := []) X hG hl.1 (mX9_has l dC dI cI cJ c_out x4 hz_6) gi_S_X9_144 hd_S_yX9_has ⟨rfl, rfl⟩ rfl ⟨Nat.le_of_ble_eq_true rfl, Nat.le_of_ble_eq_true rfl⟩ [] (by decide) rfl rfl (Nat.le_of_ble_eq_true rfl) ⟨Nat.le_of_ble_eq_true rfl, Nat.le_of_ble_eq_true rfl⟩ dX9_turnTo_45) hG [] rfl rfl rfl (fun H locs hG => ?_)
          clear hz_6
          refine lv_if_ne (tgt := 123) hx hb dX9_turnTo_48 (by decide) (fun c_7 => ?_) (fun c_7 => ?_)
          · have h := ite_f h c_7
            refine lv_iinc (v := (x4 + (1 : Int32))) (lv' := [(4, .int (x4 + (1 : Int32))), (0, .ref (a 0)), (1, .int x1), (2, .int x2), (3, .int x3)]) hx hb dX9_turnTo_123 hl (k := 4) rfl rfl (by decide) rfl (fun ls hl => ?_)
            refine lv_goto (tgt := 17) hx hb dX9_turnTo_126 (by decide) ?_
            exact KC _ _ _ _ (Option.some.inj h).symm _ _ _ (lv_sub hl [1, 2, 3, 4, 0] rfl) hG
          · have h := ite_t h c_7
            refine lv_aload_n hx hb dX9_turnTo_51 rfl (lv_at hl 0 rfl) ?_
            refine r_get X hG in_X9 rfl 21 (by decide) w_652 0 rfl rfl dX9_turnTo_52 ?_
            refine lv_iload hx hb dX9_turnTo_55 (lv_at hl 4 rfl) ?_
            refine lv_iload_n hx hb dX9_turnTo_57 rfl (lv_at hl 2 rfl) ?_
            refine lv_aload_n hx hb dX9_turnTo_58 rfl (lv_at hl 0 rfl) ?_
            refine r_get X hG in_X9 rfl 13 (by decide) w_644 0 rfl rfl dX9_turnTo_59 ?_
            refine lv_iload hx hb dX9_turnTo_62 (lv_at hl 4 rfl) ?_
            obtain ⟨g_8, h⟩ := gd h
            refine r_iald X hG 13 rfl g_8 dX9_turnTo_64 ?_
            refine lv_iadd hx hb dX9_turnTo_65 ?_
            obtain ⟨r_9, hz_10, h⟩ := bd1_some h
            refine aft_i (ws' := (W_X9 a cI cJ c_length c_text c_stands c_homeFar c_nets c_netAt c_netWide c_netFrom c_netTo c_priceX c_priceY c_many c_days c_aims c_speeds c_kinds c_keptMany c_undoMany c_undos c_spot c_told c_to c_stood c_home c_lost c_out c_fewest c_ways c_next c_held)) (run_S (rest := [.int x4, .ref (a 18)]) X hG hl.1 (mX9_around l dC dI cI cJ (x2 + (c_aims x4.toNatClampNeg)) hz_10) gi_S_X9_148 hd_S_yX9_around ⟨rfl, rfl⟩ rfl ⟨Nat.le_of_ble_eq_true rfl, Nat.le_of_ble_eq_true rfl⟩ [] (by decide) rfl rfl (Nat.le_of_ble_eq_true rfl) ⟨Nat.le_of_ble_eq_true rfl, Nat.le_of_ble_eq_true rfl⟩ dX9_turnTo_66) hG [] rfl rfl rfl (fun H locs hG => ?_)
            clear hz_10
            obtain ⟨g_11, h⟩ := gd h
            refine r_iast X hG 18 (ws' := (W_X9 a cI cJ c_length c_text c_stands c_homeFar c_nets c_netAt c_netWide c_netFrom c_netTo c_priceX c_priceY c_many c_days c_aims c_speeds c_kinds c_keptMany c_undoMany c_undos c_spot c_told (upd c_to x4.toNatClampNeg r_9) c_stood c_home c_lost c_out c_fewest c_ways c_next c_held)) rfl g_11 rfl dX9_turnTo_69 (fun H locs hG => ?_)
            refine lv_iload_n hx hb dX9_turnTo_70 rfl (lv_at hl 2 rfl) ?_
            refine lv_aload_n hx hb dX9_turnTo_71 rfl (lv_at hl 0 rfl) ?_
            refine r_get X hG in_X9 rfl 14 (by decide) w_645 0 rfl rfl dX9_turnTo_72 ?_
            refine lv_iload hx hb dX9_turnTo_75 (lv_at hl 4 rfl) ?_
            obtain ⟨g_12, h⟩ := gd h
            refine r_iald X hG 14 rfl g_12 dX9_turnTo_77 ?_
            refine lv_aload_n hx hb dX9_turnTo_78 rfl (lv_at hl 0 rfl) ?_
            refine r_get X hG in_X9 rfl 15 (by decide) w_646 0 rfl rfl dX9_turnTo_79 ?_
            refine lv_iload hx hb dX9_turnTo_82 (lv_at hl 4 rfl) ?_
            obtain ⟨g_13, h⟩ := gd h
            refine r_iald X hG 15 rfl g_13 dX9_turnTo_84 ?_
            refine lv_iconst (v := (1 : Int32)) hx hb dX9_turnTo_85 (by decide) ?_
            refine lv_icmp_ne (tgt := 93) hx hb dX9_turnTo_86 (by decide) (fun c_14 => ?_) (fun c_14 => ?_)
            · have h := ite_f h c_14
              refine lv_aload_n hx hb dX9_turnTo_93 rfl (lv_at hl 0 rfl) ?_
              refine r_get X hG in_X9 rfl 15 (by decide) w_646 0 rfl rfl dX9_turnTo_94 ?_
              refine lv_iload hx hb dX9_turnTo_97 (lv_at hl 4 rfl) ?_
              obtain ⟨g_15, h⟩ := gd h
              refine r_iald X hG 15 rfl g_15 dX9_turnTo_99 ?_
              refine lv_iconst (v := (2 : Int32)) hx hb dX9_turnTo_100 (by decide) ?_
              refine lv_icmp_ne (tgt := 108) hx hb dX9_turnTo_101 (by decide) (fun c_16 => ?_) (fun c_16 => ?_)
              · have h := ite_f h c_16
                refine lv_iconst (v := (1 : Int32)) hx hb dX9_turnTo_108 (by decide) ?_
                exact J109 (1 : Int32) (c_speeds x4.toNatClampNeg) x2 x3 x4 (upd c_to x4.toNatClampNeg r_9) c_stood _ h KC KX _ _ _ (lv_sub hl [0, 1, 3, 4] rfl) hG
              · have h := ite_t h c_16
                refine lv_iconst (v := (0 : Int32)) hx hb dX9_turnTo_104 (by decide) ?_
                refine lv_goto (tgt := 109) hx hb dX9_turnTo_105 (by decide) ?_
                exact J109 (0 : Int32) (c_speeds x4.toNatClampNeg) x2 x3 x4 (upd c_to x4.toNatClampNeg r_9) c_stood _ h KC KX _ _ _ (lv_sub hl [0, 1, 3, 4] rfl) hG
            · have h := ite_t h c_14
              refine lv_iconst (v := (2 : Int32)) hx hb dX9_turnTo_89 (by decide) ?_
              refine lv_goto (tgt := 109) hx hb dX9_turnTo_90 (by decide) ?_
              exact J109 (2 : Int32) (c_speeds x4.toNatClampNeg) x2 x3 x4 (upd c_to x4.toNatClampNeg r_9) c_stood _ h KC KX _ _ _ (lv_sub hl [0, 1, 3, 4] rfl) hG
  have L9 : ∀ (n : Nat) (x2 : Int32) (x3 : Int32) (c_to : Nat → Int32) (c_stood : Nat → Int32) (ex2 : Int32) (ec_to : Nat → Int32) (ec_stood : Nat → Int32), DX9_turnTo_L9 x1 c_many c_days c_aims c_speeds c_kinds c_out n x2 x3 c_to c_stood = some (ex2, ec_to, ec_stood) → (∀ (ls : Array Slot) (H : Heap) (locs : List Loc), lv_has ls 5 [(2, .int ex2)] → G dC dI A H0 (W_X9 a cI cJ c_length c_text c_stands c_homeFar c_nets c_netAt c_netWide c_netFrom c_netTo c_priceX c_priceY c_many c_days c_aims c_speeds c_kinds c_keptMany c_undoMany c_undos c_spot c_told ec_to ec_stood c_home c_lost c_out c_fewest c_ways c_next c_held) H locs → W p l e (RM 1 21) s m args below meth c H locs 0 0 QQ (F0 m 135 ls [])) → ∀ (ls : Array Slot) (H : Heap) (locs : List Loc), lv_has ls 5 [(0, .ref (a 0)), (1, .int x1), (2, .int x2), (3, .int x3)] → G dC dI A H0 (W_X9 a cI cJ c_length c_text c_stands c_homeFar c_nets c_netAt c_netWide c_netFrom c_netTo c_priceX c_priceY c_many c_days c_aims c_speeds c_kinds c_keptMany c_undoMany c_undos c_spot c_told c_to c_stood c_home c_lost c_out c_fewest c_ways c_next c_held) H locs → W p l e (RM 1 21) s m args below meth c H locs 0 0 QQ (F0 m 9 ls []) := by
    intro  n
    induction n with
    | zero => intro x2 x3 c_to c_stood ex2 ec_to ec_stood h; exact it_zero h
    | succ n ih =>
      intro x2 x3 c_to c_stood ex2 ec_to ec_stood h0 K0 ls H locs hl hG
      obtain ⟨w, h, hi, hr⟩ := it_succ h0
      have h : DX9_turnTo_L9s x1 c_many c_days c_aims c_speeds c_kinds c_out x2 x3 c_to c_stood = some w := h
      have KC : ∀ (x2 : Int32) (x3 : Int32) (c_to : Nat → Int32) (c_stood : Nat → Int32), w = .inl (x2, x3, c_to, c_stood) → ∀ (ls : Array Slot) (H : Heap) (locs : List Loc), lv_has ls 5 [(0, .ref (a 0)), (1, .int x1), (2, .int x2), (3, .int x3)] → G dC dI A H0 (W_X9 a cI cJ c_length c_text c_stands c_homeFar c_nets c_netAt c_netWide c_netFrom c_netTo c_priceX c_priceY c_many c_days c_aims c_speeds c_kinds c_keptMany c_undoMany c_undos c_spot c_told c_to c_stood c_home c_lost c_out c_fewest c_ways c_next c_held) H locs → W p l e (RM 1 21) s m args below meth c H locs 0 0 QQ (F0 m 9 ls []) := fun b0 b1 b2 b3 e ls H locs hl hG => ih b0 b1 b2 b3 ex2 ec_to ec_stood (hi _ e) K0 ls H locs hl hG
      have KX : ∀ (x2 : Int32) (c_to : Nat → Int32) (c_stood : Nat → Int32), w = .inr (x2, c_to, c_stood) → ∀ (ls : Array Slot) (H : Heap) (locs : List Loc), lv_has ls 5 [(2, .int x2)] → G dC dI A H0 (W_X9 a cI cJ c_length c_text c_stands c_homeFar c_nets c_netAt c_netWide c_netFrom c_netTo c_priceX c_priceY c_many c_days c_aims c_speeds c_kinds c_keptMany c_undoMany c_undos c_spot c_told c_to c_stood c_home c_lost c_out c_fewest c_ways c_next c_held) H locs → W p l e (RM 1 21) s m args below meth c H locs 0 0 QQ (F0 m 135 ls []) := fun b0 b1 b2 e ls H locs hl hG => by cases hr _ e; exact K0 ls H locs hl hG
      clear h0 hi hr K0 ih
      unfold DX9_turnTo_L9s at h
      refine lv_iload_n hx hb dX9_turnTo_9 rfl (lv_at hl 3 rfl) ?_
      refine lv_iload_n hx hb dX9_turnTo_10 rfl (lv_at hl 1 rfl) ?_
      refine lv_icmp_gt (tgt := 135) hx hb dX9_turnTo_11 (by decide) (fun c_1 => ?_) (fun c_1 => ?_)
      · have h := ite_t h c_1
        exact KX _ _ _ (Option.some.inj h).symm _ _ _ (lv_sub hl [2] rfl) hG
      · have h := ite_f h c_1
        refine lv_iconst (v := (0 : Int32)) hx hb dX9_turnTo_14 (by decide) ?_
        refine lv_istore (lv' := [(4, .int (0 : Int32)), (0, .ref (a 0)), (1, .int x1), (2, .int x2), (3, .int x3)]) hx hb dX9_turnTo_15 hl (by decide) rfl (fun ls hl => ?_)
        obtain ⟨z2_20, k_to_21, k_stood_22, hz, h⟩ := bd3_some h
        refine L17 x3 FU x2 (0 : Int32) c_to c_stood _ _ _ hz (fun ls H locs hl hG => ?_) _ _ _ (lv_sub hl [1, 2, 3, 4, 0] rfl) hG
        clear hz
        refine lv_iinc (v := (x3 + (1 : Int32))) (lv' := [(3, .int (x3 + (1 : Int32))), (0, .ref (a 0)), (1, .int x1), (2, .int z2_20)]) hx hb dX9_turnTo_129 hl (k := 3) rfl rfl (by decide) rfl (fun ls hl => ?_)
        refine lv_goto (tgt := 9) hx hb dX9_turnTo_132 (by decide) ?_
        exact KC _ _ _ _ (Option.some.inj h).symm _ _ _ (lv_sub hl [1, 2, 3, 0] rfl) hG
  have h := hD
  unfold DX9_turnTo at h
  clear hD
  refine lv_aload_n hx hb dX9_turnTo_0 rfl (lv_at hl 0 rfl) ?_
  refine r_get X hG in_X9 rfl 2 (by decide) w_633 0 rfl rfl dX9_turnTo_1 ?_
  refine lv_iconst (v := (0 : Int32)) hx hb dX9_turnTo_4 (by decide) ?_
  refine r_iald X hG 2 rfl (vpd (by decide)) dX9_turnTo_5 ?_
  refine lv_istore_n (lv' := [(2, .int (c_stands (0 : Int32).toNatClampNeg)), (0, .ref (a 0)), (1, .int x1)]) hx hb dX9_turnTo_6 rfl hl (by decide) rfl (fun ls hl => ?_)
  refine lv_iconst (v := (0 : Int32)) hx hb dX9_turnTo_7 (by decide) ?_
  refine lv_istore_n (lv' := [(3, .int (0 : Int32)), (2, .int (c_stands (0 : Int32).toNatClampNeg)), (0, .ref (a 0)), (1, .int x1)]) hx hb dX9_turnTo_8 rfl hl (by decide) rfl (fun ls hl => ?_)
  obtain ⟨z2_23, k_to_24, k_stood_25, hz, h⟩ := bd3_some h
  refine L9  FU (c_stands (0 : Int32).toNatClampNeg) (0 : Int32) c_to c_stood _ _ _ hz (fun ls H locs hl hG => ?_) _ _ _ (lv_sub hl [2, 3, 1, 0] rfl) hG
  clear hz
  refine lv_iload_n hx hb dX9_turnTo_135 rfl (lv_at hl 0 rfl) ?_
  cases h
  exact ret _ _ _ _ dX9_turnTo_136 hG
