/-! CONTRACTS, laid by wip/gen/lay.py: yX8_commonDivisor, yX8_ways, yX8_odds, yX8_year, yX8_keep, yX8_back, yX8_count, yX9_in, yX9_has, yX9_noRock -/
set_option maxRecDepth 100000 in
set_option maxHeartbeats 4000000 in
theorem mX8_commonDivisor (l : Launch) (dC : Nat → ClassId) (dI : Nat → Nat → Nat) (cI cJ : ClassId) (x0 : Int64) (x2 : Int64) {res : Int64} (hD : DX8_commonDivisor x0 x2 = some res) : Met l yX8_commonDivisor (WZ yX8_commonDivisor cX8_commonDivisor 11 (some .long)) (RM 0 0) (PC dC dI cI cJ [.long x0, .long x2] []) (QL dC dI [] [] res) 0 0 (FA []) := by
  refine r_metL (by decide +kernel) (Nat.le_of_ble_eq_true rfl) ?_
  intro p e s m args below meth c A H0 QQ X ret ls hl hG
  have X : Cx p m c cX8_commonDivisor 11 s args RX8 dC dI cI cJ meth (some .long) := X
  have hx := X.1.1
  have hb := X.1.2.1
  have hl : lv_has ls 11 [(0, .long x0), (2, .long x2)] := hl
  have L9 : ∀ (n : Nat) (x4 : Int64) (x6 : Int64) (x8 : Int32) (ex4 : Int64), DX8_commonDivisor_L9 n x4 x6 x8 = some ex4 → (∀ (ls : Array Slot) (H : Heap) (locs : List Loc), lv_has ls 11 [(4, .long ex4)] → G dC dI A H0 [] H locs → W p l e (RM 0 0) s m args below meth c H locs 0 0 QQ (F0 m 44 ls [])) → ∀ (ls : Array Slot) (H : Heap) (locs : List Loc), lv_has ls 11 [(4, .long x4), (6, .long x6), (8, .int x8)] → G dC dI A H0 [] H locs → W p l e (RM 0 0) s m args below meth c H locs 0 0 QQ (F0 m 9 ls []) := by
    intro  n
    induction n with
    | zero => intro x4 x6 x8 ex4 h; exact it_zero h
    | succ n ih =>
      intro x4 x6 x8 ex4 h0 K0 ls H locs hl hG
      obtain ⟨w, h, hi, hr⟩ := it_succ h0
      have h : DX8_commonDivisor_L9s x4 x6 x8 = some w := h
      have KC : ∀ (x4 : Int64) (x6 : Int64) (x8 : Int32), w = .inl (x4, x6, x8) → ∀ (ls : Array Slot) (H : Heap) (locs : List Loc), lv_has ls 11 [(4, .long x4), (6, .long x6), (8, .int x8)] → G dC dI A H0 [] H locs → W p l e (RM 0 0) s m args below meth c H locs 0 0 QQ (F0 m 9 ls []) := fun b0 b1 b2 e ls H locs hl hG => ih b0 b1 b2 ex4 (hi _ e) K0 ls H locs hl hG
      have KX : ∀ (x4 : Int64), w = .inr x4 → ∀ (ls : Array Slot) (H : Heap) (locs : List Loc), lv_has ls 11 [(4, .long x4)] → G dC dI A H0 [] H locs → W p l e (RM 0 0) s m args below meth c H locs 0 0 QQ (F0 m 44 ls []) := fun b0 e ls H locs hl hG => by cases hr _ e; exact K0 ls H locs hl hG
      clear h0 hi hr K0 ih
      unfold DX8_commonDivisor_L9s at h
      refine lv_iload hx hb dX8_commonDivisor_9 (lv_at hl 2 rfl) ?_
      refine lv_bipush (v := (64 : Int32)) hx hb dX8_commonDivisor_11 (by decide) ?_
      refine lv_icmp_ge (tgt := 44) hx hb dX8_commonDivisor_13 (by decide) (fun c_1 => ?_) (fun c_1 => ?_)
      · have h := ite_t h c_1
        exact KX _ (Option.some.inj h).symm _ _ _ (lv_sub hl [0] rfl) hG
      · have h := ite_f h c_1
        refine lv_lload hx hb dX8_commonDivisor_16 (lv_at hl 1 rfl) ?_
        refine lv_lconst (v := (0 : Int64)) hx hb dX8_commonDivisor_18 (by decide) ?_
        refine W.lcmp hx hb dX8_commonDivisor_19 ?_
        refine lv_if_eq (tgt := 44) hx hb dX8_commonDivisor_20 (by decide) (fun c_2 => ?_) (fun c_2 => ?_)
        · have h := ite_t h c_2
          exact KX _ (Option.some.inj h).symm _ _ _ (lv_sub hl [0] rfl) hG
        · have h := ite_f h c_2
          refine lv_lload hx hb dX8_commonDivisor_23 (lv_at hl 0 rfl) ?_
          refine lv_lload hx hb dX8_commonDivisor_25 (lv_at hl 1 rfl) ?_
          obtain ⟨g_3, h⟩ := gd h
          refine lv_lrem hx hb dX8_commonDivisor_27 g_3 ?_
          refine lv_lstore (lv' := [(9, .long (x4 - x4 / x6 * x6)), (4, .long x4), (6, .long x6), (8, .int x8)]) hx hb dX8_commonDivisor_28 hl (by decide) rfl (fun ls hl => ?_)
          refine lv_lload hx hb dX8_commonDivisor_30 (lv_at hl 2 rfl) ?_
          refine lv_lstore (lv' := [(4, .long x6), (9, .long (x4 - x4 / x6 * x6)), (6, .long x6), (8, .int x8)]) hx hb dX8_commonDivisor_32 hl (by decide) rfl (fun ls hl => ?_)
          refine lv_lload hx hb dX8_commonDivisor_34 (lv_at hl 1 rfl) ?_
          refine lv_lstore (lv' := [(6, .long (x4 - x4 / x6 * x6)), (4, .long x6), (9, .long (x4 - x4 / x6 * x6)), (8, .int x8)]) hx hb dX8_commonDivisor_36 hl (by decide) rfl (fun ls hl => ?_)
          refine lv_iinc (v := (x8 + (1 : Int32))) (lv' := [(8, .int (x8 + (1 : Int32))), (6, .long (x4 - x4 / x6 * x6)), (4, .long x6), (9, .long (x4 - x4 / x6 * x6))]) hx hb dX8_commonDivisor_38 hl (k := 3) rfl rfl (by decide) rfl (fun ls hl => ?_)
          refine lv_goto (tgt := 9) hx hb dX8_commonDivisor_41 (by decide) ?_
          exact KC _ _ _ (Option.some.inj h).symm _ _ _ (lv_sub hl [2, 1, 0] rfl) hG
  have h := hD
  unfold DX8_commonDivisor at h
  clear hD
  refine lv_lload_n hx hb dX8_commonDivisor_0 rfl (lv_at hl 0 rfl) ?_
  refine lv_lstore (lv' := [(4, .long x0), (0, .long x0), (2, .long x2)]) hx hb dX8_commonDivisor_1 hl (by decide) rfl (fun ls hl => ?_)
  refine lv_lload_n hx hb dX8_commonDivisor_3 rfl (lv_at hl 2 rfl) ?_
  refine lv_lstore (lv' := [(6, .long x2), (4, .long x0), (0, .long x0), (2, .long x2)]) hx hb dX8_commonDivisor_4 hl (by decide) rfl (fun ls hl => ?_)
  refine lv_iconst (v := (0 : Int32)) hx hb dX8_commonDivisor_6 (by decide) ?_
  refine lv_istore (lv' := [(8, .int (0 : Int32)), (6, .long x2), (4, .long x0), (0, .long x0), (2, .long x2)]) hx hb dX8_commonDivisor_7 hl (by decide) rfl (fun ls hl => ?_)
  obtain ⟨z4_4, hz, h⟩ := bd1_some h
  refine L9  FU x0 x2 (0 : Int32) _ hz (fun ls H locs hl hG => ?_) _ _ _ (lv_sub hl [2, 1, 0] rfl) hG
  clear hz
  refine lv_lload hx hb dX8_commonDivisor_44 (lv_at hl 0 rfl) ?_
  cases h
  exact ret _ _ _ _ dX8_commonDivisor_46 hG
set_option maxRecDepth 100000 in
set_option maxHeartbeats 4000000 in
theorem mX8_ways (l : Launch) (dC : Nat → ClassId) (dI : Nat → Nat → Nat) (cI cJ : ClassId) (x0 : Int32) (x1 : Int32) {res : Int64} (hD : DX8_ways x0 x1 = some res) : Met l yX8_ways (WZ yX8_ways cX8_ways 5 (some .long)) (RM 0 0) (PC dC dI cI cJ [.int x0, .int x1] []) (QL dC dI [] [] res) 0 0 (FA []) := by
  refine r_metL (by decide +kernel) (Nat.le_of_ble_eq_true rfl) ?_
  intro p e s m args below meth c A H0 QQ X ret ls hl hG
  have X : Cx p m c cX8_ways 5 s args RX8 dC dI cI cJ meth (some .long) := X
  have hx := X.1.1
  have hb := X.1.2.1
  have hl : lv_has ls 5 [(0, .int x0), (1, .int x1)] := hl
  have L5 : ∀ (n : Nat) (x2 : Int64) (x4 : Int32) (ex2 : Int64), DX8_ways_L5 x0 x1 n x2 x4 = some ex2 → (∀ (ls : Array Slot) (H : Heap) (locs : List Loc), lv_has ls 5 [(2, .long ex2)] → G dC dI A H0 [] H locs → W p l e (RM 0 0) s m args below meth c H locs 0 0 QQ (F0 m 31 ls [])) → ∀ (ls : Array Slot) (H : Heap) (locs : List Loc), lv_has ls 5 [(0, .int x0), (1, .int x1), (2, .long x2), (4, .int x4)] → G dC dI A H0 [] H locs → W p l e (RM 0 0) s m args below meth c H locs 0 0 QQ (F0 m 5 ls []) := by
    intro  n
    induction n with
    | zero => intro x2 x4 ex2 h; exact it_zero h
    | succ n ih =>
      intro x2 x4 ex2 h0 K0 ls H locs hl hG
      obtain ⟨w, h, hi, hr⟩ := it_succ h0
      have h : DX8_ways_L5s x0 x1 x2 x4 = some w := h
      have KC : ∀ (x2 : Int64) (x4 : Int32), w = .inl (x2, x4) → ∀ (ls : Array Slot) (H : Heap) (locs : List Loc), lv_has ls 5 [(0, .int x0), (1, .int x1), (2, .long x2), (4, .int x4)] → G dC dI A H0 [] H locs → W p l e (RM 0 0) s m args below meth c H locs 0 0 QQ (F0 m 5 ls []) := fun b0 b1 e ls H locs hl hG => ih b0 b1 ex2 (hi _ e) K0 ls H locs hl hG
      have KX : ∀ (x2 : Int64), w = .inr x2 → ∀ (ls : Array Slot) (H : Heap) (locs : List Loc), lv_has ls 5 [(2, .long x2)] → G dC dI A H0 [] H locs → W p l e (RM 0 0) s m args below meth c H locs 0 0 QQ (F0 m 31 ls []) := fun b0 e ls H locs hl hG => by cases hr _ e; exact K0 ls H locs hl hG
      clear h0 hi hr K0 ih
      unfold DX8_ways_L5s at h
      refine lv_iload hx hb dX8_ways_5 (lv_at hl 3 rfl) ?_
      refine lv_iload_n hx hb dX8_ways_7 rfl (lv_at hl 1 rfl) ?_
      refine lv_icmp_gt (tgt := 31) hx hb dX8_ways_8 (by decide) (fun c_1 => ?_) (fun c_1 => ?_)
      · have h := ite_t h c_1
        exact KX _ (Option.some.inj h).symm _ _ _ (lv_sub hl [2] rfl) hG
      · have h := ite_f h c_1
        refine lv_lload_n hx hb dX8_ways_11 rfl (lv_at hl 2 rfl) ?_
        refine lv_iload_n hx hb dX8_ways_12 rfl (lv_at hl 0 rfl) ?_
        refine lv_iload hx hb dX8_ways_13 (lv_at hl 3 rfl) ?_
        refine lv_isub hx hb dX8_ways_15 ?_
        refine lv_iconst (v := (1 : Int32)) hx hb dX8_ways_16 (by decide) ?_
        refine lv_iadd hx hb dX8_ways_17 ?_
        refine lv_i2l (v := (((x0 - x4) + (1 : Int32)).toInt64)) hx hb dX8_ways_18 rfl ?_
        refine lv_lmul hx hb dX8_ways_19 ?_
        refine lv_iload hx hb dX8_ways_20 (lv_at hl 3 rfl) ?_
        refine lv_i2l (v := (x4.toInt64)) hx hb dX8_ways_22 rfl ?_
        obtain ⟨g_2, h⟩ := gd h
        refine lv_ldiv hx hb dX8_ways_23 g_2 ?_
        refine lv_lstore_n (lv' := [(2, .long ((x2 * (((x0 - x4) + (1 : Int32)).toInt64)) / (x4.toInt64))), (0, .int x0), (1, .int x1), (4, .int x4)]) hx hb dX8_ways_24 rfl hl (by decide) rfl (fun ls hl => ?_)
        refine lv_iinc (v := (x4 + (1 : Int32))) (lv' := [(4, .int (x4 + (1 : Int32))), (2, .long ((x2 * (((x0 - x4) + (1 : Int32)).toInt64)) / (x4.toInt64))), (0, .int x0), (1, .int x1)]) hx hb dX8_ways_25 hl (k := 3) rfl rfl (by decide) rfl (fun ls hl => ?_)
        refine lv_goto (tgt := 5) hx hb dX8_ways_28 (by decide) ?_
        exact KC _ _ (Option.some.inj h).symm _ _ _ (lv_sub hl [2, 3, 1, 0] rfl) hG
  have h := hD
  unfold DX8_ways at h
  clear hD
  refine lv_lconst (v := (1 : Int64)) hx hb dX8_ways_0 (by decide) ?_
  refine lv_lstore_n (lv' := [(2, .long (1 : Int64)), (0, .int x0), (1, .int x1)]) hx hb dX8_ways_1 rfl hl (by decide) rfl (fun ls hl => ?_)
  refine lv_iconst (v := (1 : Int32)) hx hb dX8_ways_2 (by decide) ?_
  refine lv_istore (lv' := [(4, .int (1 : Int32)), (2, .long (1 : Int64)), (0, .int x0), (1, .int x1)]) hx hb dX8_ways_3 hl (by decide) rfl (fun ls hl => ?_)
  obtain ⟨z2_3, hz, h⟩ := bd1_some h
  refine L5  FU (1 : Int64) (1 : Int32) _ hz (fun ls H locs hl hG => ?_) _ _ _ (lv_sub hl [2, 3, 1, 0] rfl) hG
  clear hz
  refine lv_lload_n hx hb dX8_ways_31 rfl (lv_at hl 0 rfl) ?_
  cases h
  exact ret _ _ _ _ dX8_ways_32 hG
set_option maxRecDepth 100000 in
set_option maxHeartbeats 4000000 in
theorem mX8_odds (l : Launch) (dC : Nat → ClassId) (dI : Nat → Nat → Nat) (cI cJ : ClassId) (a0 a1 a2 a3 a4 a5 a6 a7 a8 a9 a10 a11 a12 a13 a14 a15 a16 a17 a18 a19 a20 a21 a22 a23 a24 a25 a26 a27 a28 a29 : Nat) (c_text_bytes : Nat → Int32) (c_text_length : Int32) (c_reader_numbers : Nat → Int32) (c_reader_next : Int32) (c_laid_stand : Int32) (c_laid_home : Int32) (c_laid_priceStart : Int32) (c_laid_priceStep : Int32) (c_laid_thrown_cells : Nat → Int32) (c_laid_thrown_filled : Int32) (c_laid_nets_cells : Nat → Int32) (c_laid_nets_filled : Int32) (c_trial_stand : Int32) (c_trial_home : Int32) (c_trial_priceStart : Int32) (c_trial_priceStep : Int32) (c_trial_thrown_cells : Nat → Int32) (c_trial_thrown_filled : Int32) (c_trial_nets_cells : Nat → Int32) (c_trial_nets_filled : Int32) (c_flight_loads_cells : Nat → Int32) (c_flight_loads_filled : Int32) (c_flight_order : Nat → Int32) (c_flight_done : Int32) (c_flight_start : Int32) (c_flight_end : Int32) (c_changes_who : Nat → Int32) (c_changes_column : Nat → Int32) (c_changes_was : Nat → Int32) (c_changes_held : Int32) (c_kept_older_cells : Nat → Int32) (c_kept_older_filled : Int32) (c_kept_newer_cells : Nat → Int32) (c_kept_newer_filled : Int32) (c_kept_held : Int32) (c_turns_need : Nat → Int32) (x1 : Int32) (x2 : Int32) (x3 : Int32) {res : Int64} (hD : DX8_odds x1 x2 x3 = some res) : Met l yX8_odds (WZ yX8_odds cX8_odds 12 (some .long)) (RM 1 30) (PC dC dI cI cJ [.ref a0, .int x1, .int x2, .int x3] (W_X8 a0 a1 a2 a3 a4 a5 a6 a7 a8 a9 a10 a11 a12 a13 a14 a15 a16 a17 a18 a19 a20 a21 a22 a23 a24 a25 a26 a27 a28 a29 cI cJ c_text_bytes c_text_length c_reader_numbers c_reader_next c_laid_stand c_laid_home c_laid_priceStart c_laid_priceStep c_laid_thrown_cells c_laid_thrown_filled c_laid_nets_cells c_laid_nets_filled c_trial_stand c_trial_home c_trial_priceStart c_trial_priceStep c_trial_thrown_cells c_trial_thrown_filled c_trial_nets_cells c_trial_nets_filled c_flight_loads_cells c_flight_loads_filled c_flight_order c_flight_done c_flight_start c_flight_end c_changes_who c_changes_column c_changes_was c_changes_held c_kept_older_cells c_kept_older_filled c_kept_newer_cells c_kept_newer_filled c_kept_held c_turns_need)) (QL dC dI (W_X8 a0 a1 a2 a3 a4 a5 a6 a7 a8 a9 a10 a11 a12 a13 a14 a15 a16 a17 a18 a19 a20 a21 a22 a23 a24 a25 a26 a27 a28 a29 cI cJ c_text_bytes c_text_length c_reader_numbers c_reader_next c_laid_stand c_laid_home c_laid_priceStart c_laid_priceStep c_laid_thrown_cells c_laid_thrown_filled c_laid_nets_cells c_laid_nets_filled c_trial_stand c_trial_home c_trial_priceStart c_trial_priceStep c_trial_thrown_cells c_trial_thrown_filled c_trial_nets_cells c_trial_nets_filled c_flight_loads_cells c_flight_loads_filled c_flight_order c_flight_done c_flight_start c_flight_end c_changes_who c_changes_column c_changes_was c_changes_held c_kept_older_cells c_kept_older_filled c_kept_newer_cells c_kept_newer_filled c_kept_held c_turns_need) (W_X8 a0 a1 a2 a3 a4 a5 a6 a7 a8 a9 a10 a11 a12 a13 a14 a15 a16 a17 a18 a19 a20 a21 a22 a23 a24 a25 a26 a27 a28 a29 cI cJ c_text_bytes c_text_length c_reader_numbers c_reader_next c_laid_stand c_laid_home c_laid_priceStart c_laid_priceStep c_laid_thrown_cells c_laid_thrown_filled c_laid_nets_cells c_laid_nets_filled c_trial_stand c_trial_home c_trial_priceStart c_trial_priceStep c_trial_thrown_cells c_trial_thrown_filled c_trial_nets_cells c_trial_nets_filled c_flight_loads_cells c_flight_loads_filled c_flight_order c_flight_done c_flight_start c_flight_end c_changes_who c_changes_column c_changes_was c_changes_held c_kept_older_cells c_kept_older_filled c_kept_newer_cells c_kept_newer_filled c_kept_held c_turns_need) res) 0 0 (FA (W_X8 a0 a1 a2 a3 a4 a5 a6 a7 a8 a9 a10 a11 a12 a13 a14 a15 a16 a17 a18 a19 a20 a21 a22 a23 a24 a25 a26 a27 a28 a29 cI cJ c_text_bytes c_text_length c_reader_numbers c_reader_next c_laid_stand c_laid_home c_laid_priceStart c_laid_priceStep c_laid_thrown_cells c_laid_thrown_filled c_laid_nets_cells c_laid_nets_filled c_trial_stand c_trial_home c_trial_priceStart c_trial_priceStep c_trial_thrown_cells c_trial_thrown_filled c_trial_nets_cells c_trial_nets_filled c_flight_loads_cells c_flight_loads_filled c_flight_order c_flight_done c_flight_start c_flight_end c_changes_who c_changes_column c_changes_was c_changes_held c_kept_older_cells c_kept_older_filled c_kept_newer_cells c_kept_newer_filled c_kept_held c_turns_need)) := by
  refine r_metL (by decide +kernel) (Nat.le_of_ble_eq_true rfl) ?_
  intro p e s m args below meth c A H0 QQ X ret ls hl hG
  have X : Cx p m c cX8_odds 12 s args RX8 dC dI cI cJ meth (some .long) := X
  have hx := X.1.1
  have hb := X.1.2.1
  have hl : lv_has ls 12 [(0, .ref a0), (1, .int x1), (2, .int x2), (3, .int x3)] := hl
  have L48 : ∀ (x4 : Int64), ∀ (n : Nat) (x6 : Int64) (x8 : Int32) (ex6 : Int64), DX8_odds_L48 x1 x2 n x6 x8 = some ex6 → (∀ (ls : Array Slot) (H : Heap) (locs : List Loc), lv_has ls 12 [(3, .int x3), (4, .long x4), (6, .long ex6)] → G dC dI A H0 (W_X8 a0 a1 a2 a3 a4 a5 a6 a7 a8 a9 a10 a11 a12 a13 a14 a15 a16 a17 a18 a19 a20 a21 a22 a23 a24 a25 a26 a27 a28 a29 cI cJ c_text_bytes c_text_length c_reader_numbers c_reader_next c_laid_stand c_laid_home c_laid_priceStart c_laid_priceStep c_laid_thrown_cells c_laid_thrown_filled c_laid_nets_cells c_laid_nets_filled c_trial_stand c_trial_home c_trial_priceStart c_trial_priceStep c_trial_thrown_cells c_trial_thrown_filled c_trial_nets_cells c_trial_nets_filled c_flight_loads_cells c_flight_loads_filled c_flight_order c_flight_done c_flight_start c_flight_end c_changes_who c_changes_column c_changes_was c_changes_held c_kept_older_cells c_kept_older_filled c_kept_newer_cells c_kept_newer_filled c_kept_held c_turns_need) H locs → W p l e (RM 1 30) s m args below meth c H locs 0 0 QQ (F0 m 100 ls [])) → ∀ (ls : Array Slot) (H : Heap) (locs : List Loc), lv_has ls 12 [(1, .int x1), (2, .int x2), (3, .int x3), (4, .long x4), (6, .long x6), (8, .int x8)] → G dC dI A H0 (W_X8 a0 a1 a2 a3 a4 a5 a6 a7 a8 a9 a10 a11 a12 a13 a14 a15 a16 a17 a18 a19 a20 a21 a22 a23 a24 a25 a26 a27 a28 a29 cI cJ c_text_bytes c_text_length c_reader_numbers c_reader_next c_laid_stand c_laid_home c_laid_priceStart c_laid_priceStep c_laid_thrown_cells c_laid_thrown_filled c_laid_nets_cells c_laid_nets_filled c_trial_stand c_trial_home c_trial_priceStart c_trial_priceStep c_trial_thrown_cells c_trial_thrown_filled c_trial_nets_cells c_trial_nets_filled c_flight_loads_cells c_flight_loads_filled c_flight_order c_flight_done c_flight_start c_flight_end c_changes_who c_changes_column c_changes_was c_changes_held c_kept_older_cells c_kept_older_filled c_kept_newer_cells c_kept_newer_filled c_kept_held c_turns_need) H locs → W p l e (RM 1 30) s m args below meth c H locs 0 0 QQ (F0 m 48 ls []) := by
    intro x4 n
    induction n with
    | zero => intro x6 x8 ex6 h; exact it_zero h
    | succ n ih =>
      intro x6 x8 ex6 h0 K0 ls H locs hl hG
      obtain ⟨w, h, hi, hr⟩ := it_succ h0
      have h : DX8_odds_L48s x1 x2 x6 x8 = some w := h
      have KC : ∀ (x6 : Int64) (x8 : Int32), w = .inl (x6, x8) → ∀ (ls : Array Slot) (H : Heap) (locs : List Loc), lv_has ls 12 [(1, .int x1), (2, .int x2), (3, .int x3), (4, .long x4), (6, .long x6), (8, .int x8)] → G dC dI A H0 (W_X8 a0 a1 a2 a3 a4 a5 a6 a7 a8 a9 a10 a11 a12 a13 a14 a15 a16 a17 a18 a19 a20 a21 a22 a23 a24 a25 a26 a27 a28 a29 cI cJ c_text_bytes c_text_length c_reader_numbers c_reader_next c_laid_stand c_laid_home c_laid_priceStart c_laid_priceStep c_laid_thrown_cells c_laid_thrown_filled c_laid_nets_cells c_laid_nets_filled c_trial_stand c_trial_home c_trial_priceStart c_trial_priceStep c_trial_thrown_cells c_trial_thrown_filled c_trial_nets_cells c_trial_nets_filled c_flight_loads_cells c_flight_loads_filled c_flight_order c_flight_done c_flight_start c_flight_end c_changes_who c_changes_column c_changes_was c_changes_held c_kept_older_cells c_kept_older_filled c_kept_newer_cells c_kept_newer_filled c_kept_held c_turns_need) H locs → W p l e (RM 1 30) s m args below meth c H locs 0 0 QQ (F0 m 48 ls []) := fun b0 b1 e ls H locs hl hG => ih b0 b1 ex6 (hi _ e) K0 ls H locs hl hG
      have KX : ∀ (x6 : Int64), w = .inr x6 → ∀ (ls : Array Slot) (H : Heap) (locs : List Loc), lv_has ls 12 [(3, .int x3), (4, .long x4), (6, .long x6)] → G dC dI A H0 (W_X8 a0 a1 a2 a3 a4 a5 a6 a7 a8 a9 a10 a11 a12 a13 a14 a15 a16 a17 a18 a19 a20 a21 a22 a23 a24 a25 a26 a27 a28 a29 cI cJ c_text_bytes c_text_length c_reader_numbers c_reader_next c_laid_stand c_laid_home c_laid_priceStart c_laid_priceStep c_laid_thrown_cells c_laid_thrown_filled c_laid_nets_cells c_laid_nets_filled c_trial_stand c_trial_home c_trial_priceStart c_trial_priceStep c_trial_thrown_cells c_trial_thrown_filled c_trial_nets_cells c_trial_nets_filled c_flight_loads_cells c_flight_loads_filled c_flight_order c_flight_done c_flight_start c_flight_end c_changes_who c_changes_column c_changes_was c_changes_held c_kept_older_cells c_kept_older_filled c_kept_newer_cells c_kept_newer_filled c_kept_held c_turns_need) H locs → W p l e (RM 1 30) s m args below meth c H locs 0 0 QQ (F0 m 100 ls []) := fun b0 e ls H locs hl hG => by cases hr _ e; exact K0 ls H locs hl hG
      clear h0 hi hr K0 ih
      unfold DX8_odds_L48s at h
      refine lv_iload hx hb dX8_odds_48 (lv_at hl 5 rfl) ?_
      refine lv_iload_n hx hb dX8_odds_50 rfl (lv_at hl 0 rfl) ?_
      refine lv_icmp_gt (tgt := 100) hx hb dX8_odds_51 (by decide) (fun c_12 => ?_) (fun c_12 => ?_)
      · have h := ite_t h c_12
        exact KX _ (Option.some.inj h).symm _ _ _ (lv_sub hl [2, 3, 4] rfl) hG
      · have h := ite_f h c_12
        refine lv_iconst (v := (2 : Int32)) hx hb dX8_odds_54 (by decide) ?_
        refine lv_iload hx hb dX8_odds_55 (lv_at hl 5 rfl) ?_
        refine lv_imul hx hb dX8_odds_57 ?_
        refine lv_iload_n hx hb dX8_odds_58 rfl (lv_at hl 0 rfl) ?_
        refine lv_icmp_lt (tgt := 94) hx hb dX8_odds_59 (by decide) (fun c_13 => ?_) (fun c_13 => ?_)
        · have h := ite_t h c_13
          refine lv_iinc (v := (x8 + (1 : Int32))) (lv' := [(8, .int (x8 + (1 : Int32))), (1, .int x1), (2, .int x2), (3, .int x3), (4, .long x4), (6, .long x6)]) hx hb dX8_odds_94 hl (k := 5) rfl rfl (by decide) rfl (fun ls hl => ?_)
          refine lv_goto (tgt := 48) hx hb dX8_odds_97 (by decide) ?_
          exact KC _ _ (Option.some.inj h).symm _ _ _ (lv_sub hl [1, 2, 3, 4, 5, 0] rfl) hG
        · have h := ite_f h c_13
          refine lv_lload hx hb dX8_odds_62 (lv_at hl 4 rfl) ?_
          refine lv_iload_n hx hb dX8_odds_64 rfl (lv_at hl 0 rfl) ?_
          refine lv_iload hx hb dX8_odds_65 (lv_at hl 5 rfl) ?_
          obtain ⟨r_14, hz_15, h⟩ := bd1_some h
          refine aft_l (ws' := (W_X8 a0 a1 a2 a3 a4 a5 a6 a7 a8 a9 a10 a11 a12 a13 a14 a15 a16 a17 a18 a19 a20 a21 a22 a23 a24 a25 a26 a27 a28 a29 cI cJ c_text_bytes c_text_length c_reader_numbers c_reader_next c_laid_stand c_laid_home c_laid_priceStart c_laid_priceStep c_laid_thrown_cells c_laid_thrown_filled c_laid_nets_cells c_laid_nets_filled c_trial_stand c_trial_home c_trial_priceStart c_trial_priceStep c_trial_thrown_cells c_trial_thrown_filled c_trial_nets_cells c_trial_nets_filled c_flight_loads_cells c_flight_loads_filled c_flight_order c_flight_done c_flight_start c_flight_end c_changes_who c_changes_column c_changes_was c_changes_held c_kept_older_cells c_kept_older_filled c_kept_newer_cells c_kept_newer_filled c_kept_held c_turns_need)) (run_S (rest := [.long x6]) X hG hl.1 (mX8_ways l dC dI cI cJ x1 x8 hz_15) gi_S_X8_194 hd_S_yX8_ways ⟨rfl, rfl⟩ rfl ⟨Nat.le_of_ble_eq_true rfl, Nat.le_of_ble_eq_true rfl⟩ [] (by decide) rfl rfl (Nat.le_of_ble_eq_true rfl) ⟨Nat.le_of_ble_eq_true rfl, Nat.le_of_ble_eq_true rfl⟩ dX8_odds_67) hG [] rfl rfl rfl (fun H locs hG => ?_)
          clear hz_15
          refine lv_iload_n hx hb dX8_odds_70 rfl (lv_at hl 1 rfl) ?_
          refine lv_i2l (v := (x2.toInt64)) hx hb dX8_odds_71 rfl ?_
          refine lv_iload hx hb dX8_odds_72 (lv_at hl 5 rfl) ?_
          obtain ⟨r_16, hz_17, h⟩ := bd1_some h
          refine aft_l (ws' := (W_X8 a0 a1 a2 a3 a4 a5 a6 a7 a8 a9 a10 a11 a12 a13 a14 a15 a16 a17 a18 a19 a20 a21 a22 a23 a24 a25 a26 a27 a28 a29 cI cJ c_text_bytes c_text_length c_reader_numbers c_reader_next c_laid_stand c_laid_home c_laid_priceStart c_laid_priceStep c_laid_thrown_cells c_laid_thrown_filled c_laid_nets_cells c_laid_nets_filled c_trial_stand c_trial_home c_trial_priceStart c_trial_priceStep c_trial_thrown_cells c_trial_thrown_filled c_trial_nets_cells c_trial_nets_filled c_flight_loads_cells c_flight_loads_filled c_flight_order c_flight_done c_flight_start c_flight_end c_changes_who c_changes_column c_changes_was c_changes_held c_kept_older_cells c_kept_older_filled c_kept_newer_cells c_kept_newer_filled c_kept_held c_turns_need)) (run_S (rest := [.long r_14, .long x6]) X hG hl.1 (mX8_power l dC dI cI cJ (x2.toInt64) x8 hz_17) gi_S_X8_190 hd_S_yX8_power ⟨rfl, rfl⟩ rfl ⟨Nat.le_of_ble_eq_true rfl, Nat.le_of_ble_eq_true rfl⟩ [] (by decide) rfl rfl (Nat.le_of_ble_eq_true rfl) ⟨Nat.le_of_ble_eq_true rfl, Nat.le_of_ble_eq_true rfl⟩ dX8_odds_74) hG [] rfl rfl rfl (fun H locs hG => ?_)
          clear hz_17
          refine lv_lmul hx hb dX8_odds_77 ?_
          refine lv_bipush (v := (10 : Int32)) hx hb dX8_odds_78 (by decide) ?_
          refine lv_iload_n hx hb dX8_odds_80 rfl (lv_at hl 1 rfl) ?_
          refine lv_isub hx hb dX8_odds_81 ?_
          refine lv_i2l (v := (((10 : Int32) - x2).toInt64)) hx hb dX8_odds_82 rfl ?_
          refine lv_iload_n hx hb dX8_odds_83 rfl (lv_at hl 0 rfl) ?_
          refine lv_iload hx hb dX8_odds_84 (lv_at hl 5 rfl) ?_
          refine lv_isub hx hb dX8_odds_86 ?_
          obtain ⟨r_18, hz_19, h⟩ := bd1_some h
          refine aft_l (ws' := (W_X8 a0 a1 a2 a3 a4 a5 a6 a7 a8 a9 a10 a11 a12 a13 a14 a15 a16 a17 a18 a19 a20 a21 a22 a23 a24 a25 a26 a27 a28 a29 cI cJ c_text_bytes c_text_length c_reader_numbers c_reader_next c_laid_stand c_laid_home c_laid_priceStart c_laid_priceStep c_laid_thrown_cells c_laid_thrown_filled c_laid_nets_cells c_laid_nets_filled c_trial_stand c_trial_home c_trial_priceStart c_trial_priceStep c_trial_thrown_cells c_trial_thrown_filled c_trial_nets_cells c_trial_nets_filled c_flight_loads_cells c_flight_loads_filled c_flight_order c_flight_done c_flight_start c_flight_end c_changes_who c_changes_column c_changes_was c_changes_held c_kept_older_cells c_kept_older_filled c_kept_newer_cells c_kept_newer_filled c_kept_held c_turns_need)) (run_S (rest := [.long (r_14 * r_16), .long x6]) X hG hl.1 (mX8_power l dC dI cI cJ (((10 : Int32) - x2).toInt64) (x1 - x8) hz_19) gi_S_X8_190 hd_S_yX8_power ⟨rfl, rfl⟩ rfl ⟨Nat.le_of_ble_eq_true rfl, Nat.le_of_ble_eq_true rfl⟩ [] (by decide) rfl rfl (Nat.le_of_ble_eq_true rfl) ⟨Nat.le_of_ble_eq_true rfl, Nat.le_of_ble_eq_true rfl⟩ dX8_odds_87) hG [] rfl rfl rfl (fun H locs hG => ?_)
          clear hz_19
          refine lv_lmul hx hb dX8_odds_90 ?_
          refine lv_ladd hx hb dX8_odds_91 ?_
          refine lv_lstore (lv' := [(6, .long (x6 + ((r_14 * r_16) * r_18))), (1, .int x1), (2, .int x2), (3, .int x3), (4, .long x4), (8, .int x8)]) hx hb dX8_odds_92 hl (by decide) rfl (fun ls hl => ?_)
          refine lv_iinc (v := (x8 + (1 : Int32))) (lv' := [(8, .int (x8 + (1 : Int32))), (6, .long (x6 + ((r_14 * r_16) * r_18))), (1, .int x1), (2, .int x2), (3, .int x3), (4, .long x4)]) hx hb dX8_odds_94 hl (k := 5) rfl rfl (by decide) rfl (fun ls hl => ?_)
          refine lv_goto (tgt := 48) hx hb dX8_odds_97 (by decide) ?_
          exact KC _ _ (Option.some.inj h).symm _ _ _ (lv_sub hl [2, 3, 4, 5, 1, 0] rfl) hG
  have J120 : ∀ (y0 : Int64) (x8 : Int64), DX8_odds_J120 y0 x8 = some res → ∀ (ls : Array Slot) (H : Heap) (locs : List Loc), lv_has ls 12 [(8, .long x8)] → G dC dI A H0 (W_X8 a0 a1 a2 a3 a4 a5 a6 a7 a8 a9 a10 a11 a12 a13 a14 a15 a16 a17 a18 a19 a20 a21 a22 a23 a24 a25 a26 a27 a28 a29 cI cJ c_text_bytes c_text_length c_reader_numbers c_reader_next c_laid_stand c_laid_home c_laid_priceStart c_laid_priceStep c_laid_thrown_cells c_laid_thrown_filled c_laid_nets_cells c_laid_nets_filled c_trial_stand c_trial_home c_trial_priceStart c_trial_priceStep c_trial_thrown_cells c_trial_thrown_filled c_trial_nets_cells c_trial_nets_filled c_flight_loads_cells c_flight_loads_filled c_flight_order c_flight_done c_flight_start c_flight_end c_changes_who c_changes_column c_changes_was c_changes_held c_kept_older_cells c_kept_older_filled c_kept_newer_cells c_kept_newer_filled c_kept_held c_turns_need) H locs → W p l e (RM 1 30) s m args below meth c H locs 0 0 QQ (F0 m 120 ls [.long y0]) := by
    intro y0 x8 h  ls H locs hl hG
    unfold DX8_odds_J120 at h
    refine lv_lstore (lv' := [(10, .long y0), (8, .long x8)]) hx hb dX8_odds_120 hl (by decide) rfl (fun ls hl => ?_)
    refine lv_lload hx hb dX8_odds_122 (lv_at hl 1 rfl) ?_
    refine lv_lconst (v := (0 : Int64)) hx hb dX8_odds_124 (by decide) ?_
    refine W.lcmp hx hb dX8_odds_125 ?_
    refine lv_if_le (tgt := 137) hx hb dX8_odds_126 (by decide) (fun c_24 => ?_) (fun c_24 => ?_)
    · have h := ite_t h c_24
      refine lv_lload hx hb dX8_odds_137 (lv_at hl 0 rfl) ?_
      cases h
      exact ret _ _ _ _ dX8_odds_139 hG
    · have h := ite_f h c_24
      refine lv_lload hx hb dX8_odds_129 (lv_at hl 0 rfl) ?_
      refine lv_lload hx hb dX8_odds_131 (lv_at hl 1 rfl) ?_
      obtain ⟨g_25, h⟩ := gd h
      refine lv_ldiv hx hb dX8_odds_133 g_25 ?_
      refine lv_goto (tgt := 139) hx hb dX8_odds_134 (by decide) ?_
      cases h
      exact ret _ _ _ _ dX8_odds_139 hG
  have h := hD
  unfold DX8_odds at h
  clear hD
  refine lv_iload_n hx hb dX8_odds_0 rfl (lv_at hl 1 rfl) ?_
  refine lv_iconst (v := (0 : Int32)) hx hb dX8_odds_1 (by decide) ?_
  refine lv_bipush (v := (9 : Int32)) hx hb dX8_odds_2 (by decide) ?_
  obtain ⟨r_1, hz_2, h⟩ := bd1_some h
  refine aft_i (ws' := (W_X8 a0 a1 a2 a3 a4 a5 a6 a7 a8 a9 a10 a11 a12 a13 a14 a15 a16 a17 a18 a19 a20 a21 a22 a23 a24 a25 a26 a27 a28 a29 cI cJ c_text_bytes c_text_length c_reader_numbers c_reader_next c_laid_stand c_laid_home c_laid_priceStart c_laid_priceStep c_laid_thrown_cells c_laid_thrown_filled c_laid_nets_cells c_laid_nets_filled c_trial_stand c_trial_home c_trial_priceStart c_trial_priceStep c_trial_thrown_cells c_trial_thrown_filled c_trial_nets_cells c_trial_nets_filled c_flight_loads_cells c_flight_loads_filled c_flight_order c_flight_done c_flight_start c_flight_end c_changes_who c_changes_column c_changes_was c_changes_held c_kept_older_cells c_kept_older_filled c_kept_newer_cells c_kept_newer_filled c_kept_held c_turns_need)) (run_S (rest := []) X hG hl.1 (mX8_within l dC dI cI cJ x1 (0 : Int32) (9 : Int32) hz_2) gi_S_X8_74 hd_S_yX8_within ⟨rfl, rfl⟩ rfl ⟨Nat.le_of_ble_eq_true rfl, Nat.le_of_ble_eq_true rfl⟩ [] (by decide) rfl rfl (Nat.le_of_ble_eq_true rfl) ⟨Nat.le_of_ble_eq_true rfl, Nat.le_of_ble_eq_true rfl⟩ dX8_odds_4) hG [] rfl rfl rfl (fun H locs hG => ?_)
  clear hz_2
  refine lv_if_eq (tgt := 29) hx hb dX8_odds_7 (by decide) (fun c_3 => ?_) (fun c_3 => ?_)
  · have h := ite_t h c_3
    refine lv_ldc2 (v := (-1 : Int64)) hx hb X.1.2.2.2.1 (X.1.2.2.2.2 _ w_581) dX8_odds_29 ?_
    cases h
    exact ret _ _ _ _ dX8_odds_32 hG
  · have h := ite_f h c_3
    refine lv_iload_n hx hb dX8_odds_10 rfl (lv_at hl 2 rfl) ?_
    refine lv_iconst (v := (0 : Int32)) hx hb dX8_odds_11 (by decide) ?_
    refine lv_bipush (v := (10 : Int32)) hx hb dX8_odds_12 (by decide) ?_
    obtain ⟨r_4, hz_5, h⟩ := bd1_some h
    refine aft_i (ws' := (W_X8 a0 a1 a2 a3 a4 a5 a6 a7 a8 a9 a10 a11 a12 a13 a14 a15 a16 a17 a18 a19 a20 a21 a22 a23 a24 a25 a26 a27 a28 a29 cI cJ c_text_bytes c_text_length c_reader_numbers c_reader_next c_laid_stand c_laid_home c_laid_priceStart c_laid_priceStep c_laid_thrown_cells c_laid_thrown_filled c_laid_nets_cells c_laid_nets_filled c_trial_stand c_trial_home c_trial_priceStart c_trial_priceStep c_trial_thrown_cells c_trial_thrown_filled c_trial_nets_cells c_trial_nets_filled c_flight_loads_cells c_flight_loads_filled c_flight_order c_flight_done c_flight_start c_flight_end c_changes_who c_changes_column c_changes_was c_changes_held c_kept_older_cells c_kept_older_filled c_kept_newer_cells c_kept_newer_filled c_kept_held c_turns_need)) (run_S (rest := []) X hG hl.1 (mX8_within l dC dI cI cJ x2 (0 : Int32) (10 : Int32) hz_5) gi_S_X8_74 hd_S_yX8_within ⟨rfl, rfl⟩ rfl ⟨Nat.le_of_ble_eq_true rfl, Nat.le_of_ble_eq_true rfl⟩ [] (by decide) rfl rfl (Nat.le_of_ble_eq_true rfl) ⟨Nat.le_of_ble_eq_true rfl, Nat.le_of_ble_eq_true rfl⟩ dX8_odds_14) hG [] rfl rfl rfl (fun H locs hG => ?_)
    clear hz_5
    refine lv_if_eq (tgt := 29) hx hb dX8_odds_17 (by decide) (fun c_6 => ?_) (fun c_6 => ?_)
    · have h := ite_t h c_6
      refine lv_ldc2 (v := (-1 : Int64)) hx hb X.1.2.2.2.1 (X.1.2.2.2.2 _ w_581) dX8_odds_29 ?_
      cases h
      exact ret _ _ _ _ dX8_odds_32 hG
    · have h := ite_f h c_6
      refine lv_iload_n hx hb dX8_odds_20 rfl (lv_at hl 3 rfl) ?_
      refine lv_iconst (v := (0 : Int32)) hx hb dX8_odds_21 (by decide) ?_
      refine lv_iconst (v := (1 : Int32)) hx hb dX8_odds_22 (by decide) ?_
      obtain ⟨r_7, hz_8, h⟩ := bd1_some h
      refine aft_i (ws' := (W_X8 a0 a1 a2 a3 a4 a5 a6 a7 a8 a9 a10 a11 a12 a13 a14 a15 a16 a17 a18 a19 a20 a21 a22 a23 a24 a25 a26 a27 a28 a29 cI cJ c_text_bytes c_text_length c_reader_numbers c_reader_next c_laid_stand c_laid_home c_laid_priceStart c_laid_priceStep c_laid_thrown_cells c_laid_thrown_filled c_laid_nets_cells c_laid_nets_filled c_trial_stand c_trial_home c_trial_priceStart c_trial_priceStep c_trial_thrown_cells c_trial_thrown_filled c_trial_nets_cells c_trial_nets_filled c_flight_loads_cells c_flight_loads_filled c_flight_order c_flight_done c_flight_start c_flight_end c_changes_who c_changes_column c_changes_was c_changes_held c_kept_older_cells c_kept_older_filled c_kept_newer_cells c_kept_newer_filled c_kept_held c_turns_need)) (run_S (rest := []) X hG hl.1 (mX8_within l dC dI cI cJ x3 (0 : Int32) (1 : Int32) hz_8) gi_S_X8_74 hd_S_yX8_within ⟨rfl, rfl⟩ rfl ⟨Nat.le_of_ble_eq_true rfl, Nat.le_of_ble_eq_true rfl⟩ [] (by decide) rfl rfl (Nat.le_of_ble_eq_true rfl) ⟨Nat.le_of_ble_eq_true rfl, Nat.le_of_ble_eq_true rfl⟩ dX8_odds_23) hG [] rfl rfl rfl (fun H locs hG => ?_)
      clear hz_8
      refine lv_if_ne (tgt := 33) hx hb dX8_odds_26 (by decide) (fun c_9 => ?_) (fun c_9 => ?_)
      · have h := ite_f h c_9
        refine lv_ldc2 (v := (10 : Int64)) hx hb X.1.2.2.2.1 (X.1.2.2.2.2 _ w_582) dX8_odds_33 ?_
        refine lv_iload_n hx hb dX8_odds_36 rfl (lv_at hl 1 rfl) ?_
        obtain ⟨r_10, hz_11, h⟩ := bd1_some h
        refine aft_l (ws' := (W_X8 a0 a1 a2 a3 a4 a5 a6 a7 a8 a9 a10 a11 a12 a13 a14 a15 a16 a17 a18 a19 a20 a21 a22 a23 a24 a25 a26 a27 a28 a29 cI cJ c_text_bytes c_text_length c_reader_numbers c_reader_next c_laid_stand c_laid_home c_laid_priceStart c_laid_priceStep c_laid_thrown_cells c_laid_thrown_filled c_laid_nets_cells c_laid_nets_filled c_trial_stand c_trial_home c_trial_priceStart c_trial_priceStep c_trial_thrown_cells c_trial_thrown_filled c_trial_nets_cells c_trial_nets_filled c_flight_loads_cells c_flight_loads_filled c_flight_order c_flight_done c_flight_start c_flight_end c_changes_who c_changes_column c_changes_was c_changes_held c_kept_older_cells c_kept_older_filled c_kept_newer_cells c_kept_newer_filled c_kept_held c_turns_need)) (run_S (rest := []) X hG hl.1 (mX8_power l dC dI cI cJ (10 : Int64) x1 hz_11) gi_S_X8_190 hd_S_yX8_power ⟨rfl, rfl⟩ rfl ⟨Nat.le_of_ble_eq_true rfl, Nat.le_of_ble_eq_true rfl⟩ [] (by decide) rfl rfl (Nat.le_of_ble_eq_true rfl) ⟨Nat.le_of_ble_eq_true rfl, Nat.le_of_ble_eq_true rfl⟩ dX8_odds_37) hG [] rfl rfl rfl (fun H locs hG => ?_)
        clear hz_11
        refine lv_lstore (lv' := [(4, .long r_10), (0, .ref a0), (1, .int x1), (2, .int x2), (3, .int x3)]) hx hb dX8_odds_40 hl (by decide) rfl (fun ls hl => ?_)
        refine lv_lconst (v := (0 : Int64)) hx hb dX8_odds_42 (by decide) ?_
        refine lv_lstore (lv' := [(6, .long (0 : Int64)), (4, .long r_10), (0, .ref a0), (1, .int x1), (2, .int x2), (3, .int x3)]) hx hb dX8_odds_43 hl (by decide) rfl (fun ls hl => ?_)
        refine lv_iconst (v := (0 : Int32)) hx hb dX8_odds_45 (by decide) ?_
        refine lv_istore (lv' := [(8, .int (0 : Int32)), (6, .long (0 : Int64)), (4, .long r_10), (0, .ref a0), (1, .int x1), (2, .int x2), (3, .int x3)]) hx hb dX8_odds_46 hl (by decide) rfl (fun ls hl => ?_)
        obtain ⟨z6_20, hz, h⟩ := bd1_some h
        refine L48 r_10 FU (0 : Int64) (0 : Int32) _ hz (fun ls H locs hl hG => ?_) _ _ _ (lv_sub hl [4, 5, 6, 2, 1, 0] rfl) hG
        clear hz
        refine lv_lload hx hb dX8_odds_100 (lv_at hl 2 rfl) ?_
        refine lv_lload hx hb dX8_odds_102 (lv_at hl 1 rfl) ?_
        obtain ⟨r_21, hz_22, h⟩ := bd1_some h
        refine aft_l (ws' := (W_X8 a0 a1 a2 a3 a4 a5 a6 a7 a8 a9 a10 a11 a12 a13 a14 a15 a16 a17 a18 a19 a20 a21 a22 a23 a24 a25 a26 a27 a28 a29 cI cJ c_text_bytes c_text_length c_reader_numbers c_reader_next c_laid_stand c_laid_home c_laid_priceStart c_laid_priceStep c_laid_thrown_cells c_laid_thrown_filled c_laid_nets_cells c_laid_nets_filled c_trial_stand c_trial_home c_trial_priceStart c_trial_priceStep c_trial_thrown_cells c_trial_thrown_filled c_trial_nets_cells c_trial_nets_filled c_flight_loads_cells c_flight_loads_filled c_flight_order c_flight_done c_flight_start c_flight_end c_changes_who c_changes_column c_changes_was c_changes_held c_kept_older_cells c_kept_older_filled c_kept_newer_cells c_kept_newer_filled c_kept_held c_turns_need)) (run_S (rest := []) X hG hl.1 (mX8_commonDivisor l dC dI cI cJ z6_20 r_10 hz_22) gi_S_X8_198 hd_S_yX8_commonDivisor ⟨rfl, rfl⟩ rfl ⟨Nat.le_of_ble_eq_true rfl, Nat.le_of_ble_eq_true rfl⟩ [] (by decide) rfl rfl (Nat.le_of_ble_eq_true rfl) ⟨Nat.le_of_ble_eq_true rfl, Nat.le_of_ble_eq_true rfl⟩ dX8_odds_104) hG [] rfl rfl rfl (fun H locs hG => ?_)
        clear hz_22
        refine lv_lstore (lv' := [(8, .long r_21), (3, .int x3), (4, .long r_10), (6, .long z6_20)]) hx hb dX8_odds_107 hl (by decide) rfl (fun ls hl => ?_)
        refine lv_iload_n hx hb dX8_odds_109 rfl (lv_at hl 1 rfl) ?_
        refine lv_if_ne (tgt := 118) hx hb dX8_odds_110 (by decide) (fun c_23 => ?_) (fun c_23 => ?_)
        · have h := ite_f h c_23
          refine lv_lload hx hb dX8_odds_118 (lv_at hl 2 rfl) ?_
          exact J120 r_10 r_21  h  _ _ _ (lv_sub hl [0] rfl) hG
        · have h := ite_t h c_23
          refine lv_lload hx hb dX8_odds_113 (lv_at hl 3 rfl) ?_
          refine lv_goto (tgt := 120) hx hb dX8_odds_115 (by decide) ?_
          exact J120 z6_20 r_21  h  _ _ _ (lv_sub hl [0] rfl) hG
      · have h := ite_t h c_9
        refine lv_ldc2 (v := (-1 : Int64)) hx hb X.1.2.2.2.1 (X.1.2.2.2.2 _ w_581) dX8_odds_29 ?_
        cases h
        exact ret _ _ _ _ dX8_odds_32 hG
set_option maxRecDepth 100000 in
set_option maxHeartbeats 4000000 in
theorem mX8_year (l : Launch) (dC : Nat → ClassId) (dI : Nat → Nat → Nat) (cI cJ : ClassId) (a0 a1 a2 a3 a4 a5 a6 a7 a8 a9 a10 a11 a12 a13 a14 a15 a16 a17 a18 a19 a20 a21 a22 a23 a24 a25 a26 a27 a28 a29 : Nat) (c_text_bytes : Nat → Int32) (c_text_length : Int32) (c_reader_numbers : Nat → Int32) (c_reader_next : Int32) (c_laid_stand : Int32) (c_laid_home : Int32) (c_laid_priceStart : Int32) (c_laid_priceStep : Int32) (c_laid_thrown_cells : Nat → Int32) (c_laid_thrown_filled : Int32) (c_laid_nets_cells : Nat → Int32) (c_laid_nets_filled : Int32) (c_trial_stand : Int32) (c_trial_home : Int32) (c_trial_priceStart : Int32) (c_trial_priceStep : Int32) (c_trial_thrown_cells : Nat → Int32) (c_trial_thrown_filled : Int32) (c_trial_nets_cells : Nat → Int32) (c_trial_nets_filled : Int32) (c_flight_loads_cells : Nat → Int32) (c_flight_loads_filled : Int32) (c_flight_order : Nat → Int32) (c_flight_done : Int32) (c_flight_start : Int32) (c_flight_end : Int32) (c_changes_who : Nat → Int32) (c_changes_column : Nat → Int32) (c_changes_was : Nat → Int32) (c_changes_held : Int32) (c_kept_older_cells : Nat → Int32) (c_kept_older_filled : Int32) (c_kept_newer_cells : Nat → Int32) (c_kept_newer_filled : Int32) (c_kept_held : Int32) (c_turns_need : Nat → Int32) (x1 : Int32) (x2 : Int32) {res : Int32} {n_trial_stand : Int32} {n_trial_home : Int32} {n_trial_priceStart : Int32} {n_trial_priceStep : Int32} {n_trial_thrown_cells : Nat → Int32} {n_trial_thrown_filled : Int32} {n_trial_nets_cells : Nat → Int32} {n_trial_nets_filled : Int32} {n_flight_loads_cells : Nat → Int32} {n_flight_order : Nat → Int32} {n_flight_done : Int32} {n_flight_start : Int32} {n_flight_end : Int32} (hD : DX8_year x1 x2 c_laid_stand c_laid_home c_laid_priceStart c_laid_priceStep c_laid_thrown_cells c_laid_thrown_filled c_laid_nets_cells c_laid_nets_filled c_trial_stand c_trial_home c_trial_priceStart c_trial_priceStep c_trial_thrown_cells c_trial_thrown_filled c_trial_nets_cells c_trial_nets_filled c_flight_loads_cells c_flight_order c_flight_done c_flight_start c_flight_end = some (res, n_trial_stand, n_trial_home, n_trial_priceStart, n_trial_priceStep, n_trial_thrown_cells, n_trial_thrown_filled, n_trial_nets_cells, n_trial_nets_filled, n_flight_loads_cells, n_flight_order, n_flight_done, n_flight_start, n_flight_end)) : Met l yX8_year (WZ yX8_year cX8_year 6 (some .int)) (RM 6 143) (PC dC dI cI cJ [.ref a0, .int x1, .int x2] (W_X8 a0 a1 a2 a3 a4 a5 a6 a7 a8 a9 a10 a11 a12 a13 a14 a15 a16 a17 a18 a19 a20 a21 a22 a23 a24 a25 a26 a27 a28 a29 cI cJ c_text_bytes c_text_length c_reader_numbers c_reader_next c_laid_stand c_laid_home c_laid_priceStart c_laid_priceStep c_laid_thrown_cells c_laid_thrown_filled c_laid_nets_cells c_laid_nets_filled c_trial_stand c_trial_home c_trial_priceStart c_trial_priceStep c_trial_thrown_cells c_trial_thrown_filled c_trial_nets_cells c_trial_nets_filled c_flight_loads_cells c_flight_loads_filled c_flight_order c_flight_done c_flight_start c_flight_end c_changes_who c_changes_column c_changes_was c_changes_held c_kept_older_cells c_kept_older_filled c_kept_newer_cells c_kept_newer_filled c_kept_held c_turns_need)) (QI dC dI (W_X8 a0 a1 a2 a3 a4 a5 a6 a7 a8 a9 a10 a11 a12 a13 a14 a15 a16 a17 a18 a19 a20 a21 a22 a23 a24 a25 a26 a27 a28 a29 cI cJ c_text_bytes c_text_length c_reader_numbers c_reader_next c_laid_stand c_laid_home c_laid_priceStart c_laid_priceStep c_laid_thrown_cells c_laid_thrown_filled c_laid_nets_cells c_laid_nets_filled c_trial_stand c_trial_home c_trial_priceStart c_trial_priceStep c_trial_thrown_cells c_trial_thrown_filled c_trial_nets_cells c_trial_nets_filled c_flight_loads_cells c_flight_loads_filled c_flight_order c_flight_done c_flight_start c_flight_end c_changes_who c_changes_column c_changes_was c_changes_held c_kept_older_cells c_kept_older_filled c_kept_newer_cells c_kept_newer_filled c_kept_held c_turns_need) (W_X8 a0 a1 a2 a3 a4 a5 a6 a7 a8 a9 a10 a11 a12 a13 a14 a15 a16 a17 a18 a19 a20 a21 a22 a23 a24 a25 a26 a27 a28 a29 cI cJ c_text_bytes c_text_length c_reader_numbers c_reader_next c_laid_stand c_laid_home c_laid_priceStart c_laid_priceStep c_laid_thrown_cells c_laid_thrown_filled c_laid_nets_cells c_laid_nets_filled n_trial_stand n_trial_home n_trial_priceStart n_trial_priceStep n_trial_thrown_cells n_trial_thrown_filled n_trial_nets_cells n_trial_nets_filled n_flight_loads_cells c_flight_loads_filled n_flight_order n_flight_done n_flight_start n_flight_end c_changes_who c_changes_column c_changes_was c_changes_held c_kept_older_cells c_kept_older_filled c_kept_newer_cells c_kept_newer_filled c_kept_held c_turns_need) res) 0 0 (FA (W_X8 a0 a1 a2 a3 a4 a5 a6 a7 a8 a9 a10 a11 a12 a13 a14 a15 a16 a17 a18 a19 a20 a21 a22 a23 a24 a25 a26 a27 a28 a29 cI cJ c_text_bytes c_text_length c_reader_numbers c_reader_next c_laid_stand c_laid_home c_laid_priceStart c_laid_priceStep c_laid_thrown_cells c_laid_thrown_filled c_laid_nets_cells c_laid_nets_filled c_trial_stand c_trial_home c_trial_priceStart c_trial_priceStep c_trial_thrown_cells c_trial_thrown_filled c_trial_nets_cells c_trial_nets_filled c_flight_loads_cells c_flight_loads_filled c_flight_order c_flight_done c_flight_start c_flight_end c_changes_who c_changes_column c_changes_was c_changes_held c_kept_older_cells c_kept_older_filled c_kept_newer_cells c_kept_newer_filled c_kept_held c_turns_need)) := by
  refine r_metI (by decide +kernel) (Nat.le_of_ble_eq_true rfl) ?_
  intro p e s m args below meth c A H0 QQ X ret ls hl hG
  have X : Cx p m c cX8_year 6 s args RX8 dC dI cI cJ meth (some .int) := X
  have hx := X.1.1
  have hb := X.1.2.1
  have hl : lv_has ls 6 [(0, .ref a0), (1, .int x1), (2, .int x2)] := hl
  have L35 : ∀ (c_trial_stand : Int32) (c_trial_home : Int32) (c_trial_priceStart : Int32) (c_trial_priceStep : Int32) (c_trial_thrown_filled : Int32) (c_trial_nets_cells : Nat → Int32) (c_trial_nets_filled : Int32) (c_flight_loads_cells : Nat → Int32) (c_flight_order : Nat → Int32) (c_flight_done : Int32) (c_flight_start : Int32) (c_flight_end : Int32), ∀ (n : Nat) (x3 : Int32) (c_trial_thrown_cells : Nat → Int32) (ec_trial_thrown_cells : Nat → Int32), DX8_year_L35 x1 c_trial_thrown_filled n x3 c_trial_thrown_cells = some ec_trial_thrown_cells → (∀ (ls : Array Slot) (H : Heap) (locs : List Loc), lv_has ls 6 [(0, .ref a0), (2, .int x2)] → G dC dI A H0 (W_X8 a0 a1 a2 a3 a4 a5 a6 a7 a8 a9 a10 a11 a12 a13 a14 a15 a16 a17 a18 a19 a20 a21 a22 a23 a24 a25 a26 a27 a28 a29 cI cJ c_text_bytes c_text_length c_reader_numbers c_reader_next c_laid_stand c_laid_home c_laid_priceStart c_laid_priceStep c_laid_thrown_cells c_laid_thrown_filled c_laid_nets_cells c_laid_nets_filled c_trial_stand c_trial_home c_trial_priceStart c_trial_priceStep ec_trial_thrown_cells c_trial_thrown_filled c_trial_nets_cells c_trial_nets_filled c_flight_loads_cells c_flight_loads_filled c_flight_order c_flight_done c_flight_start c_flight_end c_changes_who c_changes_column c_changes_was c_changes_held c_kept_older_cells c_kept_older_filled c_kept_newer_cells c_kept_newer_filled c_kept_held c_turns_need) H locs → W p l e (RM 6 143) s m args below meth c H locs 0 0 QQ (F0 m 98 ls [])) → ∀ (ls : Array Slot) (H : Heap) (locs : List Loc), lv_has ls 6 [(0, .ref a0), (1, .int x1), (2, .int x2), (3, .int x3)] → G dC dI A H0 (W_X8 a0 a1 a2 a3 a4 a5 a6 a7 a8 a9 a10 a11 a12 a13 a14 a15 a16 a17 a18 a19 a20 a21 a22 a23 a24 a25 a26 a27 a28 a29 cI cJ c_text_bytes c_text_length c_reader_numbers c_reader_next c_laid_stand c_laid_home c_laid_priceStart c_laid_priceStep c_laid_thrown_cells c_laid_thrown_filled c_laid_nets_cells c_laid_nets_filled c_trial_stand c_trial_home c_trial_priceStart c_trial_priceStep c_trial_thrown_cells c_trial_thrown_filled c_trial_nets_cells c_trial_nets_filled c_flight_loads_cells c_flight_loads_filled c_flight_order c_flight_done c_flight_start c_flight_end c_changes_who c_changes_column c_changes_was c_changes_held c_kept_older_cells c_kept_older_filled c_kept_newer_cells c_kept_newer_filled c_kept_held c_turns_need) H locs → W p l e (RM 6 143) s m args below meth c H locs 0 0 QQ (F0 m 35 ls []) := by
    intro c_trial_stand c_trial_home c_trial_priceStart c_trial_priceStep c_trial_thrown_filled c_trial_nets_cells c_trial_nets_filled c_flight_loads_cells c_flight_order c_flight_done c_flight_start c_flight_end n
    induction n with
    | zero => intro x3 c_trial_thrown_cells ec_trial_thrown_cells h; exact it_zero h
    | succ n ih =>
      intro x3 c_trial_thrown_cells ec_trial_thrown_cells h0 K0 ls H locs hl hG
      obtain ⟨w, h, hi, hr⟩ := it_succ h0
      have h : DX8_year_L35s x1 c_trial_thrown_filled x3 c_trial_thrown_cells = some w := h
      have KC : ∀ (x3 : Int32) (c_trial_thrown_cells : Nat → Int32), w = .inl (x3, c_trial_thrown_cells) → ∀ (ls : Array Slot) (H : Heap) (locs : List Loc), lv_has ls 6 [(0, .ref a0), (1, .int x1), (2, .int x2), (3, .int x3)] → G dC dI A H0 (W_X8 a0 a1 a2 a3 a4 a5 a6 a7 a8 a9 a10 a11 a12 a13 a14 a15 a16 a17 a18 a19 a20 a21 a22 a23 a24 a25 a26 a27 a28 a29 cI cJ c_text_bytes c_text_length c_reader_numbers c_reader_next c_laid_stand c_laid_home c_laid_priceStart c_laid_priceStep c_laid_thrown_cells c_laid_thrown_filled c_laid_nets_cells c_laid_nets_filled c_trial_stand c_trial_home c_trial_priceStart c_trial_priceStep c_trial_thrown_cells c_trial_thrown_filled c_trial_nets_cells c_trial_nets_filled c_flight_loads_cells c_flight_loads_filled c_flight_order c_flight_done c_flight_start c_flight_end c_changes_who c_changes_column c_changes_was c_changes_held c_kept_older_cells c_kept_older_filled c_kept_newer_cells c_kept_newer_filled c_kept_held c_turns_need) H locs → W p l e (RM 6 143) s m args below meth c H locs 0 0 QQ (F0 m 35 ls []) := fun b0 b1 e ls H locs hl hG => ih b0 b1 ec_trial_thrown_cells (hi _ e) K0 ls H locs hl hG
      have KX : ∀ (c_trial_thrown_cells : Nat → Int32), w = .inr c_trial_thrown_cells → ∀ (ls : Array Slot) (H : Heap) (locs : List Loc), lv_has ls 6 [(0, .ref a0), (2, .int x2)] → G dC dI A H0 (W_X8 a0 a1 a2 a3 a4 a5 a6 a7 a8 a9 a10 a11 a12 a13 a14 a15 a16 a17 a18 a19 a20 a21 a22 a23 a24 a25 a26 a27 a28 a29 cI cJ c_text_bytes c_text_length c_reader_numbers c_reader_next c_laid_stand c_laid_home c_laid_priceStart c_laid_priceStep c_laid_thrown_cells c_laid_thrown_filled c_laid_nets_cells c_laid_nets_filled c_trial_stand c_trial_home c_trial_priceStart c_trial_priceStep c_trial_thrown_cells c_trial_thrown_filled c_trial_nets_cells c_trial_nets_filled c_flight_loads_cells c_flight_loads_filled c_flight_order c_flight_done c_flight_start c_flight_end c_changes_who c_changes_column c_changes_was c_changes_held c_kept_older_cells c_kept_older_filled c_kept_newer_cells c_kept_newer_filled c_kept_held c_turns_need) H locs → W p l e (RM 6 143) s m args below meth c H locs 0 0 QQ (F0 m 98 ls []) := fun b0 e ls H locs hl hG => by cases hr _ e; exact K0 ls H locs hl hG
      clear h0 hi hr K0 ih
      unfold DX8_year_L35s at h
      refine lv_iload_n hx hb dX8_year_35 rfl (lv_at hl 3 rfl) ?_
      refine lv_aload_n hx hb dX8_year_36 rfl (lv_at hl 0 rfl) ?_
      refine r_get X hG in_X8 rfl 3 (by decide) w_238 0 rfl rfl dX8_year_37 ?_
      refine r_getN X hG in_X3 rfl 4 (by decide) w_136 10 rfl rfl dX8_year_40 ?_
      obtain ⟨r_16, hz_17, h⟩ := bd1_some h
      refine aft_i (ws' := (W_X8 a0 a1 a2 a3 a4 a5 a6 a7 a8 a9 a10 a11 a12 a13 a14 a15 a16 a17 a18 a19 a20 a21 a22 a23 a24 a25 a26 a27 a28 a29 cI cJ c_text_bytes c_text_length c_reader_numbers c_reader_next c_laid_stand c_laid_home c_laid_priceStart c_laid_priceStep c_laid_thrown_cells c_laid_thrown_filled c_laid_nets_cells c_laid_nets_filled c_trial_stand c_trial_home c_trial_priceStart c_trial_priceStep c_trial_thrown_cells c_trial_thrown_filled c_trial_nets_cells c_trial_nets_filled c_flight_loads_cells c_flight_loads_filled c_flight_order c_flight_done c_flight_start c_flight_end c_changes_who c_changes_column c_changes_was c_changes_held c_kept_older_cells c_kept_older_filled c_kept_newer_cells c_kept_newer_filled c_kept_held c_turns_need)) (run_V (rest := [.int x3]) X hG hl.1 (mX5_rows l dC dI cI cJ a11 a12 (7 : Int32) (4 : Int32) 28 c_trial_thrown_cells c_trial_thrown_filled hz_17) gi_V_X8_90 hd_V_yX5_rows ⟨rfl, rfl⟩ rfl ⟨Nat.le_of_ble_eq_true rfl, Nat.le_of_ble_eq_true rfl⟩ [11, 12] (by decide) rfl 11 rfl rfl rfl rfl (Nat.le_of_ble_eq_true rfl) ⟨Nat.le_of_ble_eq_true rfl, Nat.le_of_ble_eq_true rfl⟩ dX8_year_43) hG [11, 12] rfl rfl rfl (fun H locs hG => ?_)
      clear hz_17
      refine lv_icmp_ge (tgt := 98) hx hb dX8_year_46 (by decide) (fun c_18 => ?_) (fun c_18 => ?_)
      · have h := ite_t h c_18
        exact KX _ (Option.some.inj h).symm _ _ _ (lv_sub hl [0, 2] rfl) hG
      · have h := ite_f h c_18
        refine lv_ldc2 (v := (7919 : Int64)) hx hb X.1.2.2.2.1 (X.1.2.2.2.2 _ w_596) dX8_year_49 ?_
        refine lv_iload_n hx hb dX8_year_52 rfl (lv_at hl 1 rfl) ?_
        refine lv_i2l (v := (x1.toInt64)) hx hb dX8_year_53 rfl ?_
        refine lv_lmul hx hb dX8_year_54 ?_
        refine lv_ldc2 (v := (6151 : Int64)) hx hb X.1.2.2.2.1 (X.1.2.2.2.2 _ w_597) dX8_year_55 ?_
        refine lv_iload_n hx hb dX8_year_58 rfl (lv_at hl 3 rfl) ?_
        refine lv_i2l (v := (x3.toInt64)) hx hb dX8_year_59 rfl ?_
        refine lv_lmul hx hb dX8_year_60 ?_
        refine lv_ladd hx hb dX8_year_61 ?_
        refine lv_lconst (v := (1 : Int64)) hx hb dX8_year_62 (by decide) ?_
        refine lv_ladd hx hb dX8_year_63 ?_
        refine lv_lstore (lv' := [(4, .long ((((7919 : Int64) * (x1.toInt64)) + ((6151 : Int64) * (x3.toInt64))) + (1 : Int64))), (0, .ref a0), (1, .int x1), (2, .int x2), (3, .int x3)]) hx hb dX8_year_64 hl (by decide) rfl (fun ls hl => ?_)
        refine lv_aload_n hx hb dX8_year_66 rfl (lv_at hl 1 rfl) ?_
        refine r_get X hG in_X8 rfl 3 (by decide) w_238 0 rfl rfl dX8_year_67 ?_
        refine r_getN X hG in_X3 rfl 4 (by decide) w_136 10 rfl rfl dX8_year_70 ?_
        refine lv_iload_n hx hb dX8_year_73 rfl (lv_at hl 4 rfl) ?_
        refine lv_iconst (v := (1 : Int32)) hx hb dX8_year_74 (by decide) ?_
        refine lv_lload hx hb dX8_year_75 (lv_at hl 0 rfl) ?_
        refine lv_lload hx hb dX8_year_77 (lv_at hl 0 rfl) ?_
        refine lv_lmul hx hb dX8_year_79 ?_
        refine lv_ldc2 (v := (65521 : Int64)) hx hb X.1.2.2.2.1 (X.1.2.2.2.2 _ w_598) dX8_year_80 ?_
        refine lv_lrem hx hb dX8_year_83 (by decide) ?_
        refine lv_ldc2 (v := (24 : Int64)) hx hb X.1.2.2.2.1 (X.1.2.2.2.2 _ w_599) dX8_year_84 ?_
        refine lv_lrem hx hb dX8_year_87 (by decide) ?_
        refine lv_l2i (v := ((((((((7919 : Int64) * (x1.toInt64)) + ((6151 : Int64) * (x3.toInt64))) + (1 : Int64)) * ((((7919 : Int64) * (x1.toInt64)) + ((6151 : Int64) * (x3.toInt64))) + (1 : Int64))) - (((((7919 : Int64) * (x1.toInt64)) + ((6151 : Int64) * (x3.toInt64))) + (1 : Int64)) * ((((7919 : Int64) * (x1.toInt64)) + ((6151 : Int64) * (x3.toInt64))) + (1 : Int64))) / (65521 : Int64) * (65521 : Int64)) - ((((((7919 : Int64) * (x1.toInt64)) + ((6151 : Int64) * (x3.toInt64))) + (1 : Int64)) * ((((7919 : Int64) * (x1.toInt64)) + ((6151 : Int64) * (x3.toInt64))) + (1 : Int64))) - (((((7919 : Int64) * (x1.toInt64)) + ((6151 : Int64) * (x3.toInt64))) + (1 : Int64)) * ((((7919 : Int64) * (x1.toInt64)) + ((6151 : Int64) * (x3.toInt64))) + (1 : Int64))) / (65521 : Int64) * (65521 : Int64)) / (24 : Int64) * (24 : Int64)).toInt32)) hx hb dX8_year_88 rfl ?_
        obtain ⟨k_trial_thrown_cells_19, hz_20, h⟩ := bd1_some h
        refine aft_v (ws' := (W_X8 a0 a1 a2 a3 a4 a5 a6 a7 a8 a9 a10 a11 a12 a13 a14 a15 a16 a17 a18 a19 a20 a21 a22 a23 a24 a25 a26 a27 a28 a29 cI cJ c_text_bytes c_text_length c_reader_numbers c_reader_next c_laid_stand c_laid_home c_laid_priceStart c_laid_priceStep c_laid_thrown_cells c_laid_thrown_filled c_laid_nets_cells c_laid_nets_filled c_trial_stand c_trial_home c_trial_priceStart c_trial_priceStep k_trial_thrown_cells_19 c_trial_thrown_filled c_trial_nets_cells c_trial_nets_filled c_flight_loads_cells c_flight_loads_filled c_flight_order c_flight_done c_flight_start c_flight_end c_changes_who c_changes_column c_changes_was c_changes_held c_kept_older_cells c_kept_older_filled c_kept_newer_cells c_kept_newer_filled c_kept_held c_turns_need)) (run_V (rest := []) X hG hl.1 (mX5_set l dC dI cI cJ a11 a12 (7 : Int32) (4 : Int32) 28 c_trial_thrown_cells c_trial_thrown_filled x3 (1 : Int32) ((((((((7919 : Int64) * (x1.toInt64)) + ((6151 : Int64) * (x3.toInt64))) + (1 : Int64)) * ((((7919 : Int64) * (x1.toInt64)) + ((6151 : Int64) * (x3.toInt64))) + (1 : Int64))) - (((((7919 : Int64) * (x1.toInt64)) + ((6151 : Int64) * (x3.toInt64))) + (1 : Int64)) * ((((7919 : Int64) * (x1.toInt64)) + ((6151 : Int64) * (x3.toInt64))) + (1 : Int64))) / (65521 : Int64) * (65521 : Int64)) - ((((((7919 : Int64) * (x1.toInt64)) + ((6151 : Int64) * (x3.toInt64))) + (1 : Int64)) * ((((7919 : Int64) * (x1.toInt64)) + ((6151 : Int64) * (x3.toInt64))) + (1 : Int64))) - (((((7919 : Int64) * (x1.toInt64)) + ((6151 : Int64) * (x3.toInt64))) + (1 : Int64)) * ((((7919 : Int64) * (x1.toInt64)) + ((6151 : Int64) * (x3.toInt64))) + (1 : Int64))) / (65521 : Int64) * (65521 : Int64)) / (24 : Int64) * (24 : Int64)).toInt32) hz_20) gi_V_X8_148 hd_V_yX5_set ⟨rfl, rfl⟩ rfl ⟨Nat.le_of_ble_eq_true rfl, Nat.le_of_ble_eq_true rfl⟩ [11, 12] (by decide) rfl 11 rfl rfl rfl rfl (Nat.le_of_ble_eq_true rfl) ⟨Nat.le_of_ble_eq_true rfl, Nat.le_of_ble_eq_true rfl⟩ dX8_year_89) hG [11, 12] rfl rfl rfl (fun H locs hG => ?_)
        clear hz_20
        refine lv_iinc (v := (x3 + (1 : Int32))) (lv' := [(3, .int (x3 + (1 : Int32))), (4, .long ((((7919 : Int64) * (x1.toInt64)) + ((6151 : Int64) * (x3.toInt64))) + (1 : Int64))), (0, .ref a0), (1, .int x1), (2, .int x2)]) hx hb dX8_year_92 hl (k := 4) rfl rfl (by decide) rfl (fun ls hl => ?_)
        refine lv_goto (tgt := 35) hx hb dX8_year_95 (by decide) ?_
        exact KC _ _ (Option.some.inj h).symm _ _ _ (lv_sub hl [2, 3, 4, 0] rfl) hG
  have h := hD
  unfold DX8_year at h
  clear hD
  refine lv_iload_n hx hb dX8_year_0 rfl (lv_at hl 1 rfl) ?_
  refine lv_iconst (v := (0 : Int32)) hx hb dX8_year_1 (by decide) ?_
  refine lv_sipush (v := (9999 : Int32)) hx hb dX8_year_2 (by decide) ?_
  obtain ⟨r_1, hz_2, h⟩ := bd1_some h
  refine aft_i (ws' := (W_X8 a0 a1 a2 a3 a4 a5 a6 a7 a8 a9 a10 a11 a12 a13 a14 a15 a16 a17 a18 a19 a20 a21 a22 a23 a24 a25 a26 a27 a28 a29 cI cJ c_text_bytes c_text_length c_reader_numbers c_reader_next c_laid_stand c_laid_home c_laid_priceStart c_laid_priceStep c_laid_thrown_cells c_laid_thrown_filled c_laid_nets_cells c_laid_nets_filled c_trial_stand c_trial_home c_trial_priceStart c_trial_priceStep c_trial_thrown_cells c_trial_thrown_filled c_trial_nets_cells c_trial_nets_filled c_flight_loads_cells c_flight_loads_filled c_flight_order c_flight_done c_flight_start c_flight_end c_changes_who c_changes_column c_changes_was c_changes_held c_kept_older_cells c_kept_older_filled c_kept_newer_cells c_kept_newer_filled c_kept_held c_turns_need)) (run_S (rest := []) X hG hl.1 (mX8_within l dC dI cI cJ x1 (0 : Int32) (9999 : Int32) hz_2) gi_S_X8_74 hd_S_yX8_within ⟨rfl, rfl⟩ rfl ⟨Nat.le_of_ble_eq_true rfl, Nat.le_of_ble_eq_true rfl⟩ [] (by decide) rfl rfl (Nat.le_of_ble_eq_true rfl) ⟨Nat.le_of_ble_eq_true rfl, Nat.le_of_ble_eq_true rfl⟩ dX8_year_5) hG [] rfl rfl rfl (fun H locs hG => ?_)
  clear hz_2
  refine lv_if_eq (tgt := 20) hx hb dX8_year_8 (by decide) (fun c_3 => ?_) (fun c_3 => ?_)
  · have h := ite_t h c_3
    refine lv_iconst (v := (-1 : Int32)) hx hb dX8_year_20 (by decide) ?_
    cases h
    exact ret _ _ _ _ dX8_year_21 hG
  · have h := ite_f h c_3
    refine lv_iload_n hx hb dX8_year_11 rfl (lv_at hl 2 rfl) ?_
    refine lv_iconst (v := (0 : Int32)) hx hb dX8_year_12 (by decide) ?_
    refine lv_iconst (v := (2 : Int32)) hx hb dX8_year_13 (by decide) ?_
    obtain ⟨r_4, hz_5, h⟩ := bd1_some h
    refine aft_i (ws' := (W_X8 a0 a1 a2 a3 a4 a5 a6 a7 a8 a9 a10 a11 a12 a13 a14 a15 a16 a17 a18 a19 a20 a21 a22 a23 a24 a25 a26 a27 a28 a29 cI cJ c_text_bytes c_text_length c_reader_numbers c_reader_next c_laid_stand c_laid_home c_laid_priceStart c_laid_priceStep c_laid_thrown_cells c_laid_thrown_filled c_laid_nets_cells c_laid_nets_filled c_trial_stand c_trial_home c_trial_priceStart c_trial_priceStep c_trial_thrown_cells c_trial_thrown_filled c_trial_nets_cells c_trial_nets_filled c_flight_loads_cells c_flight_loads_filled c_flight_order c_flight_done c_flight_start c_flight_end c_changes_who c_changes_column c_changes_was c_changes_held c_kept_older_cells c_kept_older_filled c_kept_newer_cells c_kept_newer_filled c_kept_held c_turns_need)) (run_S (rest := []) X hG hl.1 (mX8_within l dC dI cI cJ x2 (0 : Int32) (2 : Int32) hz_5) gi_S_X8_74 hd_S_yX8_within ⟨rfl, rfl⟩ rfl ⟨Nat.le_of_ble_eq_true rfl, Nat.le_of_ble_eq_true rfl⟩ [] (by decide) rfl rfl (Nat.le_of_ble_eq_true rfl) ⟨Nat.le_of_ble_eq_true rfl, Nat.le_of_ble_eq_true rfl⟩ dX8_year_14) hG [] rfl rfl rfl (fun H locs hG => ?_)
    clear hz_5
    refine lv_if_ne (tgt := 22) hx hb dX8_year_17 (by decide) (fun c_6 => ?_) (fun c_6 => ?_)
    · have h := ite_f h c_6
      refine lv_aload_n hx hb dX8_year_22 rfl (lv_at hl 0 rfl) ?_
      refine r_get X hG in_X8 rfl 3 (by decide) w_238 0 rfl rfl dX8_year_23 ?_
      refine lv_aload_n hx hb dX8_year_26 rfl (lv_at hl 0 rfl) ?_
      refine r_get X hG in_X8 rfl 2 (by decide) w_237 0 rfl rfl dX8_year_27 ?_
      obtain ⟨k_trial_stand_7, k_trial_home_8, k_trial_priceStart_9, k_trial_priceStep_10, k_trial_thrown_cells_11, k_trial_thrown_filled_12, k_trial_nets_cells_13, k_trial_nets_filled_14, hz_15, h⟩ := bd8_some h
      refine aft_v (ws' := (W_X8 a0 a1 a2 a3 a4 a5 a6 a7 a8 a9 a10 a11 a12 a13 a14 a15 a16 a17 a18 a19 a20 a21 a22 a23 a24 a25 a26 a27 a28 a29 cI cJ c_text_bytes c_text_length c_reader_numbers c_reader_next c_laid_stand c_laid_home c_laid_priceStart c_laid_priceStep c_laid_thrown_cells c_laid_thrown_filled c_laid_nets_cells c_laid_nets_filled k_trial_stand_7 k_trial_home_8 k_trial_priceStart_9 k_trial_priceStep_10 k_trial_thrown_cells_11 k_trial_thrown_filled_12 k_trial_nets_cells_13 k_trial_nets_filled_14 c_flight_loads_cells c_flight_loads_filled c_flight_order c_flight_done c_flight_start c_flight_end c_changes_who c_changes_column c_changes_was c_changes_held c_kept_older_cells c_kept_older_filled c_kept_newer_cells c_kept_newer_filled c_kept_held c_turns_need)) (run_V (rest := []) X hG hl.1 (mX3_takeOver l dC dI cI cJ a10 a11 a12 a13 a14 a5 a6 a7 a8 a9 c_trial_stand c_trial_home c_trial_priceStart c_trial_priceStep c_trial_thrown_cells c_trial_thrown_filled c_trial_nets_cells c_trial_nets_filled c_laid_stand c_laid_home c_laid_priceStart c_laid_priceStep c_laid_thrown_cells c_laid_thrown_filled c_laid_nets_cells c_laid_nets_filled hz_15) gi_V_X8_94 hd_V_yX3_takeOver ⟨rfl, rfl⟩ rfl ⟨Nat.le_of_ble_eq_true rfl, Nat.le_of_ble_eq_true rfl⟩ [10, 11, 12, 13, 14, 5, 6, 7, 8, 9] (by decide) rfl 10 rfl rfl rfl rfl (Nat.le_of_ble_eq_true rfl) ⟨Nat.le_of_ble_eq_true rfl, Nat.le_of_ble_eq_true rfl⟩ dX8_year_30) hG [10, 11, 12, 13, 14, 5, 6, 7, 8, 9] rfl rfl rfl (fun H locs hG => ?_)
      clear hz_15
      refine lv_iconst (v := (0 : Int32)) hx hb dX8_year_33 (by decide) ?_
      refine lv_istore_n (lv' := [(3, .int (0 : Int32)), (0, .ref a0), (1, .int x1), (2, .int x2)]) hx hb dX8_year_34 rfl hl (by decide) rfl (fun ls hl => ?_)
      obtain ⟨k_trial_thrown_cells_21, hz, h⟩ := bd1_some h
      refine L35 k_trial_stand_7 k_trial_home_8 k_trial_priceStart_9 k_trial_priceStep_10 k_trial_thrown_filled_12 k_trial_nets_cells_13 k_trial_nets_filled_14 c_flight_loads_cells c_flight_order c_flight_done c_flight_start c_flight_end FU (0 : Int32) k_trial_thrown_cells_11 _ hz (fun ls H locs hl hG => ?_) _ _ _ (lv_sub hl [1, 2, 3, 0] rfl) hG
      clear hz
      refine lv_aload_n hx hb dX8_year_98 rfl (lv_at hl 0 rfl) ?_
      refine r_get X hG in_X8 rfl 4 (by decide) w_239 0 rfl rfl dX8_year_99 ?_
      refine lv_aload_n hx hb dX8_year_102 rfl (lv_at hl 0 rfl) ?_
      refine r_get X hG in_X8 rfl 3 (by decide) w_238 0 rfl rfl dX8_year_103 ?_
      refine lv_iconst (v := (0 : Int32)) hx hb dX8_year_106 (by decide) ?_
      obtain ⟨k_flight_loads_cells_22, k_flight_order_23, k_flight_done_24, k_flight_start_25, k_flight_end_26, hz_27, h⟩ := bd5_some h
      refine aft_v (ws' := (W_X8 a0 a1 a2 a3 a4 a5 a6 a7 a8 a9 a10 a11 a12 a13 a14 a15 a16 a17 a18 a19 a20 a21 a22 a23 a24 a25 a26 a27 a28 a29 cI cJ c_text_bytes c_text_length c_reader_numbers c_reader_next c_laid_stand c_laid_home c_laid_priceStart c_laid_priceStep c_laid_thrown_cells c_laid_thrown_filled c_laid_nets_cells c_laid_nets_filled k_trial_stand_7 k_trial_home_8 k_trial_priceStart_9 k_trial_priceStep_10 k_trial_thrown_cells_21 k_trial_thrown_filled_12 k_trial_nets_cells_13 k_trial_nets_filled_14 k_flight_loads_cells_22 c_flight_loads_filled k_flight_order_23 k_flight_done_24 k_flight_start_25 k_flight_end_26 c_changes_who c_changes_column c_changes_was c_changes_held c_kept_older_cells c_kept_older_filled c_kept_newer_cells c_kept_newer_filled c_kept_held c_turns_need)) (run_V (rest := []) X hG hl.1 (mX1_fly l dC dI cI cJ a15 a16 a17 a18 a10 a11 a12 a13 a14 c_flight_loads_cells c_flight_loads_filled c_flight_order c_flight_done c_flight_start c_flight_end k_trial_stand_7 k_trial_home_8 k_trial_priceStart_9 k_trial_priceStep_10 k_trial_thrown_cells_21 k_trial_thrown_filled_12 k_trial_nets_cells_13 k_trial_nets_filled_14 (0 : Int32) hz_27) gi_V_X8_106 hd_V_yX1_fly ⟨rfl, rfl⟩ rfl ⟨Nat.le_of_ble_eq_true rfl, Nat.le_of_ble_eq_true rfl⟩ [15, 16, 17, 18, 10, 11, 12, 13, 14] (by decide) rfl 15 rfl rfl rfl rfl (Nat.le_of_ble_eq_true rfl) ⟨Nat.le_of_ble_eq_true rfl, Nat.le_of_ble_eq_true rfl⟩ dX8_year_107) hG [15, 16, 17, 18, 10, 11, 12, 13, 14] rfl rfl rfl (fun H locs hG => ?_)
      clear hz_27
      refine lv_iload_n hx hb dX8_year_110 rfl (lv_at hl 1 rfl) ?_
      rcases Decidable.em (x2 = (0 : Int32)) with c_28 | c_28
      · have h := ite_t h c_28
        refine lv_lookup (off := 25) (tgt := 136) hx hb dX8_year_111 (by decide) (by rw [c_28] <;> decide) (by decide) ?_
        refine lv_aload_n hx hb dX8_year_136 rfl (lv_at hl 0 rfl) ?_
        refine r_get X hG in_X8 rfl 4 (by decide) w_239 0 rfl rfl dX8_year_137 ?_
        refine lv_iconst (v := (0 : Int32)) hx hb dX8_year_140 (by decide) ?_
        obtain ⟨r_29, hz_30, h⟩ := bd1_some h
        refine aft_i (ws' := (W_X8 a0 a1 a2 a3 a4 a5 a6 a7 a8 a9 a10 a11 a12 a13 a14 a15 a16 a17 a18 a19 a20 a21 a22 a23 a24 a25 a26 a27 a28 a29 cI cJ c_text_bytes c_text_length c_reader_numbers c_reader_next c_laid_stand c_laid_home c_laid_priceStart c_laid_priceStep c_laid_thrown_cells c_laid_thrown_filled c_laid_nets_cells c_laid_nets_filled k_trial_stand_7 k_trial_home_8 k_trial_priceStart_9 k_trial_priceStep_10 k_trial_thrown_cells_21 k_trial_thrown_filled_12 k_trial_nets_cells_13 k_trial_nets_filled_14 k_flight_loads_cells_22 c_flight_loads_filled k_flight_order_23 k_flight_done_24 k_flight_start_25 k_flight_end_26 c_changes_who c_changes_column c_changes_was c_changes_held c_kept_older_cells c_kept_older_filled c_kept_newer_cells c_kept_newer_filled c_kept_held c_turns_need)) (run_V (rest := []) X hG hl.1 (mX1_howMany l dC dI cI cJ a15 a16 a17 a18 k_flight_loads_cells_22 c_flight_loads_filled k_flight_order_23 k_flight_done_24 k_flight_start_25 k_flight_end_26 (0 : Int32) hz_30) gi_V_X8_127 hd_V_yX1_howMany ⟨rfl, rfl⟩ rfl ⟨Nat.le_of_ble_eq_true rfl, Nat.le_of_ble_eq_true rfl⟩ [15, 16, 17, 18] (by decide) rfl 15 rfl rfl rfl rfl (Nat.le_of_ble_eq_true rfl) ⟨Nat.le_of_ble_eq_true rfl, Nat.le_of_ble_eq_true rfl⟩ dX8_year_141) hG [15, 16, 17, 18] rfl rfl rfl (fun H locs hG => ?_)
        clear hz_30
        cases h
        exact ret _ _ _ _ dX8_year_144 hG
      · have h := ite_f h c_28
        rcases Decidable.em (x2 = (1 : Int32)) with c_31 | c_31
        · have h := ite_t h c_31
          refine lv_lookup (off := 34) (tgt := 145) hx hb dX8_year_111 (by decide) (by rw [c_31] <;> decide) (by decide) ?_
          refine lv_aload_n hx hb dX8_year_145 rfl (lv_at hl 0 rfl) ?_
          refine r_get X hG in_X8 rfl 4 (by decide) w_239 0 rfl rfl dX8_year_146 ?_
          obtain ⟨r_32, hz_33, h⟩ := bd1_some h
          refine aft_i (ws' := (W_X8 a0 a1 a2 a3 a4 a5 a6 a7 a8 a9 a10 a11 a12 a13 a14 a15 a16 a17 a18 a19 a20 a21 a22 a23 a24 a25 a26 a27 a28 a29 cI cJ c_text_bytes c_text_length c_reader_numbers c_reader_next c_laid_stand c_laid_home c_laid_priceStart c_laid_priceStep c_laid_thrown_cells c_laid_thrown_filled c_laid_nets_cells c_laid_nets_filled k_trial_stand_7 k_trial_home_8 k_trial_priceStart_9 k_trial_priceStep_10 k_trial_thrown_cells_21 k_trial_thrown_filled_12 k_trial_nets_cells_13 k_trial_nets_filled_14 k_flight_loads_cells_22 c_flight_loads_filled k_flight_order_23 k_flight_done_24 k_flight_start_25 k_flight_end_26 c_changes_who c_changes_column c_changes_was c_changes_held c_kept_older_cells c_kept_older_filled c_kept_newer_cells c_kept_newer_filled c_kept_held c_turns_need)) (run_V (rest := []) X hG hl.1 (mX1_paidInAll l dC dI cI cJ a15 a16 a17 a18 k_flight_loads_cells_22 c_flight_loads_filled k_flight_order_23 k_flight_done_24 k_flight_start_25 k_flight_end_26 hz_33) gi_V_X8_124 hd_V_yX1_paidInAll ⟨rfl, rfl⟩ rfl ⟨Nat.le_of_ble_eq_true rfl, Nat.le_of_ble_eq_true rfl⟩ [15, 16, 17, 18] (by decide) rfl 15 rfl rfl rfl rfl (Nat.le_of_ble_eq_true rfl) ⟨Nat.le_of_ble_eq_true rfl, Nat.le_of_ble_eq_true rfl⟩ dX8_year_149) hG [15, 16, 17, 18] rfl rfl rfl (fun H locs hG => ?_)
          clear hz_33
          cases h
          exact ret _ _ _ _ dX8_year_152 hG
        · have h := ite_f h c_31
          refine lv_lookup (off := 42) (tgt := 153) hx hb dX8_year_111 (by decide) (by rw [lv_osw c_28 (a := 0) rfl, lv_osw c_31 (a := 1) rfl] <;> rfl) (by decide) ?_
          refine lv_aload_n hx hb dX8_year_153 rfl (lv_at hl 0 rfl) ?_
          refine r_get X hG in_X8 rfl 4 (by decide) w_239 0 rfl rfl dX8_year_154 ?_
          refine r_getN X hG in_X1 rfl 4 (by decide) w_166 15 rfl rfl dX8_year_157 ?_
          cases h
          exact ret _ _ _ _ dX8_year_160 hG
    · have h := ite_t h c_6
      refine lv_iconst (v := (-1 : Int32)) hx hb dX8_year_20 (by decide) ?_
      cases h
      exact ret _ _ _ _ dX8_year_21 hG
set_option maxRecDepth 100000 in
set_option maxHeartbeats 4000000 in
theorem mX8_keep (l : Launch) (dC : Nat → ClassId) (dI : Nat → Nat → Nat) (cI cJ : ClassId) (a0 a1 a2 a3 a4 a5 a6 a7 a8 a9 a10 a11 a12 a13 a14 a15 a16 a17 a18 a19 a20 a21 a22 a23 a24 a25 a26 a27 a28 a29 : Nat) (c_text_bytes : Nat → Int32) (c_text_length : Int32) (c_reader_numbers : Nat → Int32) (c_reader_next : Int32) (c_laid_stand : Int32) (c_laid_home : Int32) (c_laid_priceStart : Int32) (c_laid_priceStep : Int32) (c_laid_thrown_cells : Nat → Int32) (c_laid_thrown_filled : Int32) (c_laid_nets_cells : Nat → Int32) (c_laid_nets_filled : Int32) (c_trial_stand : Int32) (c_trial_home : Int32) (c_trial_priceStart : Int32) (c_trial_priceStep : Int32) (c_trial_thrown_cells : Nat → Int32) (c_trial_thrown_filled : Int32) (c_trial_nets_cells : Nat → Int32) (c_trial_nets_filled : Int32) (c_flight_loads_cells : Nat → Int32) (c_flight_loads_filled : Int32) (c_flight_order : Nat → Int32) (c_flight_done : Int32) (c_flight_start : Int32) (c_flight_end : Int32) (c_changes_who : Nat → Int32) (c_changes_column : Nat → Int32) (c_changes_was : Nat → Int32) (c_changes_held : Int32) (c_kept_older_cells : Nat → Int32) (c_kept_older_filled : Int32) (c_kept_newer_cells : Nat → Int32) (c_kept_newer_filled : Int32) (c_kept_held : Int32) (c_turns_need : Nat → Int32) {res : Int32} {n_kept_older_cells : Nat → Int32} {n_kept_older_filled : Int32} {n_kept_newer_cells : Nat → Int32} {n_kept_newer_filled : Int32} {n_kept_held : Int32} (hD : DX8_keep c_laid_thrown_cells c_laid_thrown_filled c_kept_older_cells c_kept_older_filled c_kept_newer_cells c_kept_newer_filled c_kept_held = some (res, n_kept_older_cells, n_kept_older_filled, n_kept_newer_cells, n_kept_newer_filled, n_kept_held)) : Met l yX8_keep (WZ yX8_keep cX8_keep 1 (some .int)) (RM 3 60) (PC dC dI cI cJ [.ref a0] (W_X8 a0 a1 a2 a3 a4 a5 a6 a7 a8 a9 a10 a11 a12 a13 a14 a15 a16 a17 a18 a19 a20 a21 a22 a23 a24 a25 a26 a27 a28 a29 cI cJ c_text_bytes c_text_length c_reader_numbers c_reader_next c_laid_stand c_laid_home c_laid_priceStart c_laid_priceStep c_laid_thrown_cells c_laid_thrown_filled c_laid_nets_cells c_laid_nets_filled c_trial_stand c_trial_home c_trial_priceStart c_trial_priceStep c_trial_thrown_cells c_trial_thrown_filled c_trial_nets_cells c_trial_nets_filled c_flight_loads_cells c_flight_loads_filled c_flight_order c_flight_done c_flight_start c_flight_end c_changes_who c_changes_column c_changes_was c_changes_held c_kept_older_cells c_kept_older_filled c_kept_newer_cells c_kept_newer_filled c_kept_held c_turns_need)) (QI dC dI (W_X8 a0 a1 a2 a3 a4 a5 a6 a7 a8 a9 a10 a11 a12 a13 a14 a15 a16 a17 a18 a19 a20 a21 a22 a23 a24 a25 a26 a27 a28 a29 cI cJ c_text_bytes c_text_length c_reader_numbers c_reader_next c_laid_stand c_laid_home c_laid_priceStart c_laid_priceStep c_laid_thrown_cells c_laid_thrown_filled c_laid_nets_cells c_laid_nets_filled c_trial_stand c_trial_home c_trial_priceStart c_trial_priceStep c_trial_thrown_cells c_trial_thrown_filled c_trial_nets_cells c_trial_nets_filled c_flight_loads_cells c_flight_loads_filled c_flight_order c_flight_done c_flight_start c_flight_end c_changes_who c_changes_column c_changes_was c_changes_held c_kept_older_cells c_kept_older_filled c_kept_newer_cells c_kept_newer_filled c_kept_held c_turns_need) (W_X8 a0 a1 a2 a3 a4 a5 a6 a7 a8 a9 a10 a11 a12 a13 a14 a15 a16 a17 a18 a19 a20 a21 a22 a23 a24 a25 a26 a27 a28 a29 cI cJ c_text_bytes c_text_length c_reader_numbers c_reader_next c_laid_stand c_laid_home c_laid_priceStart c_laid_priceStep c_laid_thrown_cells c_laid_thrown_filled c_laid_nets_cells c_laid_nets_filled c_trial_stand c_trial_home c_trial_priceStart c_trial_priceStep c_trial_thrown_cells c_trial_thrown_filled c_trial_nets_cells c_trial_nets_filled c_flight_loads_cells c_flight_loads_filled c_flight_order c_flight_done c_flight_start c_flight_end c_changes_who c_changes_column c_changes_was c_changes_held n_kept_older_cells n_kept_older_filled n_kept_newer_cells n_kept_newer_filled n_kept_held c_turns_need) res) 0 0 (FA (W_X8 a0 a1 a2 a3 a4 a5 a6 a7 a8 a9 a10 a11 a12 a13 a14 a15 a16 a17 a18 a19 a20 a21 a22 a23 a24 a25 a26 a27 a28 a29 cI cJ c_text_bytes c_text_length c_reader_numbers c_reader_next c_laid_stand c_laid_home c_laid_priceStart c_laid_priceStep c_laid_thrown_cells c_laid_thrown_filled c_laid_nets_cells c_laid_nets_filled c_trial_stand c_trial_home c_trial_priceStart c_trial_priceStep c_trial_thrown_cells c_trial_thrown_filled c_trial_nets_cells c_trial_nets_filled c_flight_loads_cells c_flight_loads_filled c_flight_order c_flight_done c_flight_start c_flight_end c_changes_who c_changes_column c_changes_was c_changes_held c_kept_older_cells c_kept_older_filled c_kept_newer_cells c_kept_newer_filled c_kept_held c_turns_need)) := by
  refine r_metI (by decide +kernel) (Nat.le_of_ble_eq_true rfl) ?_
  intro p e s m args below meth c A H0 QQ X ret ls hl hG
  have X : Cx p m c cX8_keep 1 s args RX8 dC dI cI cJ meth (some .int) := X
  have hx := X.1.1
  have hb := X.1.2.1
  have hl : lv_has ls 1 [(0, .ref a0)] := hl
  have h := hD
  unfold DX8_keep at h
  clear hD
  refine lv_aload_n hx hb dX8_keep_0 rfl (lv_at hl 0 rfl) ?_
  refine r_get X hG in_X8 rfl 6 (by decide) w_241 0 rfl rfl dX8_keep_1 ?_
  refine lv_aload_n hx hb dX8_keep_4 rfl (lv_at hl 0 rfl) ?_
  refine r_get X hG in_X8 rfl 2 (by decide) w_237 0 rfl rfl dX8_keep_5 ?_
  refine r_getN X hG in_X3 rfl 4 (by decide) w_136 5 rfl rfl dX8_keep_8 ?_
  obtain ⟨r_1, k_kept_older_cells_2, k_kept_older_filled_3, k_kept_newer_cells_4, k_kept_newer_filled_5, k_kept_held_6, hz_7, h⟩ := bd6_some h
  refine aft_i (ws' := (W_X8 a0 a1 a2 a3 a4 a5 a6 a7 a8 a9 a10 a11 a12 a13 a14 a15 a16 a17 a18 a19 a20 a21 a22 a23 a24 a25 a26 a27 a28 a29 cI cJ c_text_bytes c_text_length c_reader_numbers c_reader_next c_laid_stand c_laid_home c_laid_priceStart c_laid_priceStep c_laid_thrown_cells c_laid_thrown_filled c_laid_nets_cells c_laid_nets_filled c_trial_stand c_trial_home c_trial_priceStart c_trial_priceStep c_trial_thrown_cells c_trial_thrown_filled c_trial_nets_cells c_trial_nets_filled c_flight_loads_cells c_flight_loads_filled c_flight_order c_flight_done c_flight_start c_flight_end c_changes_who c_changes_column c_changes_was c_changes_held k_kept_older_cells_2 k_kept_older_filled_3 k_kept_newer_cells_4 k_kept_newer_filled_5 k_kept_held_6 c_turns_need)) (run_V (rest := []) X hG hl.1 (mX2_take l dC dI cI cJ a23 a24 a25 a26 a27 a6 a7 c_kept_older_cells c_kept_older_filled c_kept_newer_cells c_kept_newer_filled c_kept_held c_laid_thrown_cells c_laid_thrown_filled hz_7) gi_V_X8_210 hd_V_yX2_take ⟨rfl, rfl⟩ rfl ⟨Nat.le_of_ble_eq_true rfl, Nat.le_of_ble_eq_true rfl⟩ [23, 24, 25, 26, 27, 6, 7] (by decide) rfl 23 rfl rfl rfl rfl (Nat.le_of_ble_eq_true rfl) ⟨Nat.le_of_ble_eq_true rfl, Nat.le_of_ble_eq_true rfl⟩ dX8_keep_11) hG [23, 24, 25, 26, 27, 6, 7] rfl rfl rfl (fun H locs hG => ?_)
  clear hz_7
  refine lv_if_eq (tgt := 27) hx hb dX8_keep_14 (by decide) (fun c_8 => ?_) (fun c_8 => ?_)
  · have h := ite_t h c_8
    refine lv_bipush (v := (-3 : Int32)) hx hb dX8_keep_27 (by decide) ?_
    cases h
    exact ret _ _ _ _ dX8_keep_29 hG
  · have h := ite_f h c_8
    refine lv_aload_n hx hb dX8_keep_17 rfl (lv_at hl 0 rfl) ?_
    refine r_get X hG in_X8 rfl 6 (by decide) w_241 0 rfl rfl dX8_keep_18 ?_
    refine r_getN X hG in_X2 rfl 2 (by decide) w_209 23 rfl rfl dX8_keep_21 ?_
    refine lv_goto (tgt := 29) hx hb dX8_keep_24 (by decide) ?_
    cases h
    exact ret _ _ _ _ dX8_keep_29 hG
set_option maxRecDepth 100000 in
set_option maxHeartbeats 4000000 in
theorem mX8_back (l : Launch) (dC : Nat → ClassId) (dI : Nat → Nat → Nat) (cI cJ : ClassId) (a0 a1 a2 a3 a4 a5 a6 a7 a8 a9 a10 a11 a12 a13 a14 a15 a16 a17 a18 a19 a20 a21 a22 a23 a24 a25 a26 a27 a28 a29 : Nat) (c_text_bytes : Nat → Int32) (c_text_length : Int32) (c_reader_numbers : Nat → Int32) (c_reader_next : Int32) (c_laid_stand : Int32) (c_laid_home : Int32) (c_laid_priceStart : Int32) (c_laid_priceStep : Int32) (c_laid_thrown_cells : Nat → Int32) (c_laid_thrown_filled : Int32) (c_laid_nets_cells : Nat → Int32) (c_laid_nets_filled : Int32) (c_trial_stand : Int32) (c_trial_home : Int32) (c_trial_priceStart : Int32) (c_trial_priceStep : Int32) (c_trial_thrown_cells : Nat → Int32) (c_trial_thrown_filled : Int32) (c_trial_nets_cells : Nat → Int32) (c_trial_nets_filled : Int32) (c_flight_loads_cells : Nat → Int32) (c_flight_loads_filled : Int32) (c_flight_order : Nat → Int32) (c_flight_done : Int32) (c_flight_start : Int32) (c_flight_end : Int32) (c_changes_who : Nat → Int32) (c_changes_column : Nat → Int32) (c_changes_was : Nat → Int32) (c_changes_held : Int32) (c_kept_older_cells : Nat → Int32) (c_kept_older_filled : Int32) (c_kept_newer_cells : Nat → Int32) (c_kept_newer_filled : Int32) (c_kept_held : Int32) (c_turns_need : Nat → Int32) {res : Int32} {n_laid_thrown_cells : Nat → Int32} {n_laid_thrown_filled : Int32} {n_changes_held : Int32} {n_kept_held : Int32} (hD : DX8_back c_laid_thrown_cells c_laid_thrown_filled c_changes_held c_kept_older_cells c_kept_older_filled c_kept_newer_cells c_kept_newer_filled c_kept_held = some (res, n_laid_thrown_cells, n_laid_thrown_filled, n_changes_held, n_kept_held)) : Met l yX8_back (WZ yX8_back cX8_back 1 (some .int)) (RM 3 60) (PC dC dI cI cJ [.ref a0] (W_X8 a0 a1 a2 a3 a4 a5 a6 a7 a8 a9 a10 a11 a12 a13 a14 a15 a16 a17 a18 a19 a20 a21 a22 a23 a24 a25 a26 a27 a28 a29 cI cJ c_text_bytes c_text_length c_reader_numbers c_reader_next c_laid_stand c_laid_home c_laid_priceStart c_laid_priceStep c_laid_thrown_cells c_laid_thrown_filled c_laid_nets_cells c_laid_nets_filled c_trial_stand c_trial_home c_trial_priceStart c_trial_priceStep c_trial_thrown_cells c_trial_thrown_filled c_trial_nets_cells c_trial_nets_filled c_flight_loads_cells c_flight_loads_filled c_flight_order c_flight_done c_flight_start c_flight_end c_changes_who c_changes_column c_changes_was c_changes_held c_kept_older_cells c_kept_older_filled c_kept_newer_cells c_kept_newer_filled c_kept_held c_turns_need)) (QI dC dI (W_X8 a0 a1 a2 a3 a4 a5 a6 a7 a8 a9 a10 a11 a12 a13 a14 a15 a16 a17 a18 a19 a20 a21 a22 a23 a24 a25 a26 a27 a28 a29 cI cJ c_text_bytes c_text_length c_reader_numbers c_reader_next c_laid_stand c_laid_home c_laid_priceStart c_laid_priceStep c_laid_thrown_cells c_laid_thrown_filled c_laid_nets_cells c_laid_nets_filled c_trial_stand c_trial_home c_trial_priceStart c_trial_priceStep c_trial_thrown_cells c_trial_thrown_filled c_trial_nets_cells c_trial_nets_filled c_flight_loads_cells c_flight_loads_filled c_flight_order c_flight_done c_flight_start c_flight_end c_changes_who c_changes_column c_changes_was c_changes_held c_kept_older_cells c_kept_older_filled c_kept_newer_cells c_kept_newer_filled c_kept_held c_turns_need) (W_X8 a0 a1 a2 a3 a4 a5 a6 a7 a8 a9 a10 a11 a12 a13 a14 a15 a16 a17 a18 a19 a20 a21 a22 a23 a24 a25 a26 a27 a28 a29 cI cJ c_text_bytes c_text_length c_reader_numbers c_reader_next c_laid_stand c_laid_home c_laid_priceStart c_laid_priceStep n_laid_thrown_cells n_laid_thrown_filled c_laid_nets_cells c_laid_nets_filled c_trial_stand c_trial_home c_trial_priceStart c_trial_priceStep c_trial_thrown_cells c_trial_thrown_filled c_trial_nets_cells c_trial_nets_filled c_flight_loads_cells c_flight_loads_filled c_flight_order c_flight_done c_flight_start c_flight_end c_changes_who c_changes_column c_changes_was n_changes_held c_kept_older_cells c_kept_older_filled c_kept_newer_cells c_kept_newer_filled n_kept_held c_turns_need) res) 0 0 (FA (W_X8 a0 a1 a2 a3 a4 a5 a6 a7 a8 a9 a10 a11 a12 a13 a14 a15 a16 a17 a18 a19 a20 a21 a22 a23 a24 a25 a26 a27 a28 a29 cI cJ c_text_bytes c_text_length c_reader_numbers c_reader_next c_laid_stand c_laid_home c_laid_priceStart c_laid_priceStep c_laid_thrown_cells c_laid_thrown_filled c_laid_nets_cells c_laid_nets_filled c_trial_stand c_trial_home c_trial_priceStart c_trial_priceStep c_trial_thrown_cells c_trial_thrown_filled c_trial_nets_cells c_trial_nets_filled c_flight_loads_cells c_flight_loads_filled c_flight_order c_flight_done c_flight_start c_flight_end c_changes_who c_changes_column c_changes_was c_changes_held c_kept_older_cells c_kept_older_filled c_kept_newer_cells c_kept_newer_filled c_kept_held c_turns_need)) := by
  refine r_metI (by decide +kernel) (Nat.le_of_ble_eq_true rfl) ?_
  intro p e s m args below meth c A H0 QQ X ret ls hl hG
  have X : Cx p m c cX8_back 1 s args RX8 dC dI cI cJ meth (some .int) := X
  have hx := X.1.1
  have hb := X.1.2.1
  have hl : lv_has ls 1 [(0, .ref a0)] := hl
  have h := hD
  unfold DX8_back at h
  clear hD
  refine lv_aload_n hx hb dX8_back_0 rfl (lv_at hl 0 rfl) ?_
  refine r_get X hG in_X8 rfl 6 (by decide) w_241 0 rfl rfl dX8_back_1 ?_
  refine lv_aload_n hx hb dX8_back_4 rfl (lv_at hl 0 rfl) ?_
  refine r_get X hG in_X8 rfl 2 (by decide) w_237 0 rfl rfl dX8_back_5 ?_
  refine r_getN X hG in_X3 rfl 4 (by decide) w_136 5 rfl rfl dX8_back_8 ?_
  obtain ⟨r_1, k_kept_held_2, k_laid_thrown_cells_3, k_laid_thrown_filled_4, hz_5, h⟩ := bd4_some h
  refine aft_i (ws' := (W_X8 a0 a1 a2 a3 a4 a5 a6 a7 a8 a9 a10 a11 a12 a13 a14 a15 a16 a17 a18 a19 a20 a21 a22 a23 a24 a25 a26 a27 a28 a29 cI cJ c_text_bytes c_text_length c_reader_numbers c_reader_next c_laid_stand c_laid_home c_laid_priceStart c_laid_priceStep k_laid_thrown_cells_3 k_laid_thrown_filled_4 c_laid_nets_cells c_laid_nets_filled c_trial_stand c_trial_home c_trial_priceStart c_trial_priceStep c_trial_thrown_cells c_trial_thrown_filled c_trial_nets_cells c_trial_nets_filled c_flight_loads_cells c_flight_loads_filled c_flight_order c_flight_done c_flight_start c_flight_end c_changes_who c_changes_column c_changes_was c_changes_held c_kept_older_cells c_kept_older_filled c_kept_newer_cells c_kept_newer_filled k_kept_held_2 c_turns_need)) (run_V (rest := []) X hG hl.1 (mX2_giveBack l dC dI cI cJ a23 a24 a25 a26 a27 a6 a7 c_kept_older_cells c_kept_older_filled c_kept_newer_cells c_kept_newer_filled c_kept_held c_laid_thrown_cells c_laid_thrown_filled hz_5) gi_V_X8_214 hd_V_yX2_giveBack ⟨rfl, rfl⟩ rfl ⟨Nat.le_of_ble_eq_true rfl, Nat.le_of_ble_eq_true rfl⟩ [23, 24, 25, 26, 27, 6, 7] (by decide) rfl 23 rfl rfl rfl rfl (Nat.le_of_ble_eq_true rfl) ⟨Nat.le_of_ble_eq_true rfl, Nat.le_of_ble_eq_true rfl⟩ dX8_back_11) hG [23, 24, 25, 26, 27, 6, 7] rfl rfl rfl (fun H locs hG => ?_)
  clear hz_5
  refine lv_if_ne (tgt := 20) hx hb dX8_back_14 (by decide) (fun c_6 => ?_) (fun c_6 => ?_)
  · have h := ite_f h c_6
    refine lv_aload_n hx hb dX8_back_20 rfl (lv_at hl 0 rfl) ?_
    refine r_get X hG in_X8 rfl 5 (by decide) w_240 0 rfl rfl dX8_back_21 ?_
    obtain ⟨k_changes_held_7, hz_8, h⟩ := bd1_some h
    refine aft_v (ws' := (W_X8 a0 a1 a2 a3 a4 a5 a6 a7 a8 a9 a10 a11 a12 a13 a14 a15 a16 a17 a18 a19 a20 a21 a22 a23 a24 a25 a26 a27 a28 a29 cI cJ c_text_bytes c_text_length c_reader_numbers c_reader_next c_laid_stand c_laid_home c_laid_priceStart c_laid_priceStep k_laid_thrown_cells_3 k_laid_thrown_filled_4 c_laid_nets_cells c_laid_nets_filled c_trial_stand c_trial_home c_trial_priceStart c_trial_priceStep c_trial_thrown_cells c_trial_thrown_filled c_trial_nets_cells c_trial_nets_filled c_flight_loads_cells c_flight_loads_filled c_flight_order c_flight_done c_flight_start c_flight_end c_changes_who c_changes_column c_changes_was k_changes_held_7 c_kept_older_cells c_kept_older_filled c_kept_newer_cells c_kept_newer_filled k_kept_held_2 c_turns_need)) (run_V (rest := []) X hG hl.1 (mX0_forget l dC dI cI cJ a19 a20 a21 a22 c_changes_who c_changes_column c_changes_was c_changes_held hz_8) gi_V_X8_98 hd_V_yX0_forget ⟨rfl, rfl⟩ rfl ⟨Nat.le_of_ble_eq_true rfl, Nat.le_of_ble_eq_true rfl⟩ [19, 20, 21, 22] (by decide) rfl 19 rfl rfl rfl rfl (Nat.le_of_ble_eq_true rfl) ⟨Nat.le_of_ble_eq_true rfl, Nat.le_of_ble_eq_true rfl⟩ dX8_back_24) hG [19, 20, 21, 22] rfl rfl rfl (fun H locs hG => ?_)
    clear hz_8
    refine lv_aload_n hx hb dX8_back_27 rfl (lv_at hl 0 rfl) ?_
    refine r_get X hG in_X8 rfl 6 (by decide) w_241 0 rfl rfl dX8_back_28 ?_
    refine r_getN X hG in_X2 rfl 2 (by decide) w_209 23 rfl rfl dX8_back_31 ?_
    cases h
    exact ret _ _ _ _ dX8_back_34 hG
  · have h := ite_t h c_6
    refine lv_bipush (v := (-2 : Int32)) hx hb dX8_back_17 (by decide) ?_
    cases h
    exact ret _ _ _ _ dX8_back_19 hG
set_option maxRecDepth 100000 in
set_option maxHeartbeats 4000000 in
theorem mX8_count (l : Launch) (dC : Nat → ClassId) (dI : Nat → Nat → Nat) (cI cJ : ClassId) (a0 a1 a2 a3 a4 a5 a6 a7 a8 a9 a10 a11 a12 a13 a14 a15 a16 a17 a18 a19 a20 a21 a22 a23 a24 a25 a26 a27 a28 a29 : Nat) (c_text_bytes : Nat → Int32) (c_text_length : Int32) (c_reader_numbers : Nat → Int32) (c_reader_next : Int32) (c_laid_stand : Int32) (c_laid_home : Int32) (c_laid_priceStart : Int32) (c_laid_priceStep : Int32) (c_laid_thrown_cells : Nat → Int32) (c_laid_thrown_filled : Int32) (c_laid_nets_cells : Nat → Int32) (c_laid_nets_filled : Int32) (c_trial_stand : Int32) (c_trial_home : Int32) (c_trial_priceStart : Int32) (c_trial_priceStep : Int32) (c_trial_thrown_cells : Nat → Int32) (c_trial_thrown_filled : Int32) (c_trial_nets_cells : Nat → Int32) (c_trial_nets_filled : Int32) (c_flight_loads_cells : Nat → Int32) (c_flight_loads_filled : Int32) (c_flight_order : Nat → Int32) (c_flight_done : Int32) (c_flight_start : Int32) (c_flight_end : Int32) (c_changes_who : Nat → Int32) (c_changes_column : Nat → Int32) (c_changes_was : Nat → Int32) (c_changes_held : Int32) (c_kept_older_cells : Nat → Int32) (c_kept_older_filled : Int32) (c_kept_newer_cells : Nat → Int32) (c_kept_newer_filled : Int32) (c_kept_held : Int32) (c_turns_need : Nat → Int32) (x1 : Int32) {res : Int32} (hD : DX8_count x1 c_text_length c_laid_stand c_laid_home c_laid_thrown_filled c_laid_nets_filled c_changes_held c_kept_held = some res) : Met l yX8_count (WZ yX8_count cX8_count 2 (some .int)) (RM 1 20) (PC dC dI cI cJ [.ref a0, .int x1] (W_X8 a0 a1 a2 a3 a4 a5 a6 a7 a8 a9 a10 a11 a12 a13 a14 a15 a16 a17 a18 a19 a20 a21 a22 a23 a24 a25 a26 a27 a28 a29 cI cJ c_text_bytes c_text_length c_reader_numbers c_reader_next c_laid_stand c_laid_home c_laid_priceStart c_laid_priceStep c_laid_thrown_cells c_laid_thrown_filled c_laid_nets_cells c_laid_nets_filled c_trial_stand c_trial_home c_trial_priceStart c_trial_priceStep c_trial_thrown_cells c_trial_thrown_filled c_trial_nets_cells c_trial_nets_filled c_flight_loads_cells c_flight_loads_filled c_flight_order c_flight_done c_flight_start c_flight_end c_changes_who c_changes_column c_changes_was c_changes_held c_kept_older_cells c_kept_older_filled c_kept_newer_cells c_kept_newer_filled c_kept_held c_turns_need)) (QI dC dI (W_X8 a0 a1 a2 a3 a4 a5 a6 a7 a8 a9 a10 a11 a12 a13 a14 a15 a16 a17 a18 a19 a20 a21 a22 a23 a24 a25 a26 a27 a28 a29 cI cJ c_text_bytes c_text_length c_reader_numbers c_reader_next c_laid_stand c_laid_home c_laid_priceStart c_laid_priceStep c_laid_thrown_cells c_laid_thrown_filled c_laid_nets_cells c_laid_nets_filled c_trial_stand c_trial_home c_trial_priceStart c_trial_priceStep c_trial_thrown_cells c_trial_thrown_filled c_trial_nets_cells c_trial_nets_filled c_flight_loads_cells c_flight_loads_filled c_flight_order c_flight_done c_flight_start c_flight_end c_changes_who c_changes_column c_changes_was c_changes_held c_kept_older_cells c_kept_older_filled c_kept_newer_cells c_kept_newer_filled c_kept_held c_turns_need) (W_X8 a0 a1 a2 a3 a4 a5 a6 a7 a8 a9 a10 a11 a12 a13 a14 a15 a16 a17 a18 a19 a20 a21 a22 a23 a24 a25 a26 a27 a28 a29 cI cJ c_text_bytes c_text_length c_reader_numbers c_reader_next c_laid_stand c_laid_home c_laid_priceStart c_laid_priceStep c_laid_thrown_cells c_laid_thrown_filled c_laid_nets_cells c_laid_nets_filled c_trial_stand c_trial_home c_trial_priceStart c_trial_priceStep c_trial_thrown_cells c_trial_thrown_filled c_trial_nets_cells c_trial_nets_filled c_flight_loads_cells c_flight_loads_filled c_flight_order c_flight_done c_flight_start c_flight_end c_changes_who c_changes_column c_changes_was c_changes_held c_kept_older_cells c_kept_older_filled c_kept_newer_cells c_kept_newer_filled c_kept_held c_turns_need) res) 0 0 (FA (W_X8 a0 a1 a2 a3 a4 a5 a6 a7 a8 a9 a10 a11 a12 a13 a14 a15 a16 a17 a18 a19 a20 a21 a22 a23 a24 a25 a26 a27 a28 a29 cI cJ c_text_bytes c_text_length c_reader_numbers c_reader_next c_laid_stand c_laid_home c_laid_priceStart c_laid_priceStep c_laid_thrown_cells c_laid_thrown_filled c_laid_nets_cells c_laid_nets_filled c_trial_stand c_trial_home c_trial_priceStart c_trial_priceStep c_trial_thrown_cells c_trial_thrown_filled c_trial_nets_cells c_trial_nets_filled c_flight_loads_cells c_flight_loads_filled c_flight_order c_flight_done c_flight_start c_flight_end c_changes_who c_changes_column c_changes_was c_changes_held c_kept_older_cells c_kept_older_filled c_kept_newer_cells c_kept_newer_filled c_kept_held c_turns_need)) := by
  refine r_metI (by decide +kernel) (Nat.le_of_ble_eq_true rfl) ?_
  intro p e s m args below meth c A H0 QQ X ret ls hl hG
  have X : Cx p m c cX8_count 2 s args RX8 dC dI cI cJ meth (some .int) := X
  have hx := X.1.1
  have hb := X.1.2.1
  have hl : lv_has ls 2 [(0, .ref a0), (1, .int x1)] := hl
  have h := hD
  unfold DX8_count at h
  clear hD
  refine lv_iload_n hx hb dX8_count_0 rfl (lv_at hl 1 rfl) ?_
  rcases Decidable.em (x1 = (0 : Int32)) with c_1 | c_1
  · have h := ite_t h c_1
    refine lv_tableIn (off := 43) (tgt := 44) hx hb dX8_count_1 (by rw [c_1] <;> decide) (by rw [c_1] <;> decide) (by rw [c_1] <;> rfl) (by decide) ?_
    refine lv_aload_n hx hb dX8_count_44 rfl (lv_at hl 0 rfl) ?_
    refine r_get X hG in_X8 rfl 2 (by decide) w_237 0 rfl rfl dX8_count_45 ?_
    refine r_getN X hG in_X3 rfl 4 (by decide) w_136 5 rfl rfl dX8_count_48 ?_
    obtain ⟨r_2, hz_3, h⟩ := bd1_some h
    refine aft_i (ws' := (W_X8 a0 a1 a2 a3 a4 a5 a6 a7 a8 a9 a10 a11 a12 a13 a14 a15 a16 a17 a18 a19 a20 a21 a22 a23 a24 a25 a26 a27 a28 a29 cI cJ c_text_bytes c_text_length c_reader_numbers c_reader_next c_laid_stand c_laid_home c_laid_priceStart c_laid_priceStep c_laid_thrown_cells c_laid_thrown_filled c_laid_nets_cells c_laid_nets_filled c_trial_stand c_trial_home c_trial_priceStart c_trial_priceStep c_trial_thrown_cells c_trial_thrown_filled c_trial_nets_cells c_trial_nets_filled c_flight_loads_cells c_flight_loads_filled c_flight_order c_flight_done c_flight_start c_flight_end c_changes_who c_changes_column c_changes_was c_changes_held c_kept_older_cells c_kept_older_filled c_kept_newer_cells c_kept_newer_filled c_kept_held c_turns_need)) (run_V (rest := []) X hG hl.1 (mX5_rows l dC dI cI cJ a6 a7 (7 : Int32) (4 : Int32) 28 c_laid_thrown_cells c_laid_thrown_filled hz_3) gi_V_X8_90 hd_V_yX5_rows ⟨rfl, rfl⟩ rfl ⟨Nat.le_of_ble_eq_true rfl, Nat.le_of_ble_eq_true rfl⟩ [6, 7] (by decide) rfl 6 rfl rfl rfl rfl (Nat.le_of_ble_eq_true rfl) ⟨Nat.le_of_ble_eq_true rfl, Nat.le_of_ble_eq_true rfl⟩ dX8_count_51) hG [6, 7] rfl rfl rfl (fun H locs hG => ?_)
    clear hz_3
    cases h
    exact ret _ _ _ _ dX8_count_54 hG
  · have h := ite_f h c_1
    rcases Decidable.em (x1 = (1 : Int32)) with c_4 | c_4
    · have h := ite_t h c_4
      refine lv_tableIn (off := 54) (tgt := 55) hx hb dX8_count_1 (by rw [c_4] <;> decide) (by rw [c_4] <;> decide) (by rw [c_4] <;> rfl) (by decide) ?_
      refine lv_aload_n hx hb dX8_count_55 rfl (lv_at hl 0 rfl) ?_
      refine r_get X hG in_X8 rfl 2 (by decide) w_237 0 rfl rfl dX8_count_56 ?_
      refine r_getN X hG in_X3 rfl 5 (by decide) w_139 5 rfl rfl dX8_count_59 ?_
      obtain ⟨r_5, hz_6, h⟩ := bd1_some h
      refine aft_i (ws' := (W_X8 a0 a1 a2 a3 a4 a5 a6 a7 a8 a9 a10 a11 a12 a13 a14 a15 a16 a17 a18 a19 a20 a21 a22 a23 a24 a25 a26 a27 a28 a29 cI cJ c_text_bytes c_text_length c_reader_numbers c_reader_next c_laid_stand c_laid_home c_laid_priceStart c_laid_priceStep c_laid_thrown_cells c_laid_thrown_filled c_laid_nets_cells c_laid_nets_filled c_trial_stand c_trial_home c_trial_priceStart c_trial_priceStep c_trial_thrown_cells c_trial_thrown_filled c_trial_nets_cells c_trial_nets_filled c_flight_loads_cells c_flight_loads_filled c_flight_order c_flight_done c_flight_start c_flight_end c_changes_who c_changes_column c_changes_was c_changes_held c_kept_older_cells c_kept_older_filled c_kept_newer_cells c_kept_newer_filled c_kept_held c_turns_need)) (run_V (rest := []) X hG hl.1 (mX5_rows l dC dI cI cJ a8 a9 (5 : Int32) (4 : Int32) 20 c_laid_nets_cells c_laid_nets_filled hz_6) gi_V_X8_90 hd_V_yX5_rows ⟨rfl, rfl⟩ rfl ⟨Nat.le_of_ble_eq_true rfl, Nat.le_of_ble_eq_true rfl⟩ [8, 9] (by decide) rfl 8 rfl rfl rfl rfl (Nat.le_of_ble_eq_true rfl) ⟨Nat.le_of_ble_eq_true rfl, Nat.le_of_ble_eq_true rfl⟩ dX8_count_62) hG [8, 9] rfl rfl rfl (fun H locs hG => ?_)
      clear hz_6
      cases h
      exact ret _ _ _ _ dX8_count_65 hG
    · have h := ite_f h c_4
      rcases Decidable.em (x1 = (2 : Int32)) with c_7 | c_7
      · have h := ite_t h c_7
        refine lv_tableIn (off := 65) (tgt := 66) hx hb dX8_count_1 (by rw [c_7] <;> decide) (by rw [c_7] <;> decide) (by rw [c_7] <;> rfl) (by decide) ?_
        refine lv_aload_n hx hb dX8_count_66 rfl (lv_at hl 0 rfl) ?_
        refine r_get X hG in_X8 rfl 2 (by decide) w_237 0 rfl rfl dX8_count_67 ?_
        refine r_getN X hG in_X3 rfl 0 (by decide) w_129 5 rfl rfl dX8_count_70 ?_
        cases h
        exact ret _ _ _ _ dX8_count_73 hG
      · have h := ite_f h c_7
        rcases Decidable.em (x1 = (3 : Int32)) with c_8 | c_8
        · have h := ite_t h c_8
          refine lv_tableIn (off := 73) (tgt := 74) hx hb dX8_count_1 (by rw [c_8] <;> decide) (by rw [c_8] <;> decide) (by rw [c_8] <;> rfl) (by decide) ?_
          refine lv_aload_n hx hb dX8_count_74 rfl (lv_at hl 0 rfl) ?_
          refine r_get X hG in_X8 rfl 2 (by decide) w_237 0 rfl rfl dX8_count_75 ?_
          refine r_getN X hG in_X3 rfl 1 (by decide) w_132 5 rfl rfl dX8_count_78 ?_
          cases h
          exact ret _ _ _ _ dX8_count_81 hG
        · have h := ite_f h c_8
          rcases Decidable.em (x1 = (4 : Int32)) with c_9 | c_9
          · have h := ite_t h c_9
            refine lv_tableIn (off := 81) (tgt := 82) hx hb dX8_count_1 (by rw [c_9] <;> decide) (by rw [c_9] <;> decide) (by rw [c_9] <;> rfl) (by decide) ?_
            refine lv_aload_n hx hb dX8_count_82 rfl (lv_at hl 0 rfl) ?_
            refine r_get X hG in_X8 rfl 5 (by decide) w_240 0 rfl rfl dX8_count_83 ?_
            refine r_getN X hG in_X0 rfl 3 (by decide) w_188 19 rfl rfl dX8_count_86 ?_
            cases h
            exact ret _ _ _ _ dX8_count_89 hG
          · have h := ite_f h c_9
            rcases Decidable.em (x1 = (5 : Int32)) with c_10 | c_10
            · have h := ite_t h c_10
              refine lv_tableIn (off := 89) (tgt := 90) hx hb dX8_count_1 (by rw [c_10] <;> decide) (by rw [c_10] <;> decide) (by rw [c_10] <;> rfl) (by decide) ?_
              refine lv_aload_n hx hb dX8_count_90 rfl (lv_at hl 0 rfl) ?_
              refine r_get X hG in_X8 rfl 6 (by decide) w_241 0 rfl rfl dX8_count_91 ?_
              refine r_getN X hG in_X2 rfl 2 (by decide) w_209 23 rfl rfl dX8_count_94 ?_
              cases h
              exact ret _ _ _ _ dX8_count_97 hG
            · have h := ite_f h c_10
              rcases Decidable.em (x1 = (6 : Int32)) with c_11 | c_11
              · have h := ite_t h c_11
                refine lv_tableIn (off := 97) (tgt := 98) hx hb dX8_count_1 (by rw [c_11] <;> decide) (by rw [c_11] <;> decide) (by rw [c_11] <;> rfl) (by decide) ?_
                refine lv_aload_n hx hb dX8_count_98 rfl (lv_at hl 0 rfl) ?_
                refine r_get X hG in_X8 rfl 0 (by decide) w_235 0 rfl rfl dX8_count_99 ?_
                refine r_getN X hG in_X6 rfl 1 (by decide) w_70 1 rfl rfl dX8_count_102 ?_
                cases h
                exact ret _ _ _ _ dX8_count_105 hG
              · have h := ite_f h c_11
                refine lv_tableOut (tgt := 106) hx hb dX8_count_1 (by have := lv_neT c_1 (a := 0) rfl; have := lv_neT c_4 (a := 1) rfl; have := lv_neT c_7 (a := 2) rfl; have := lv_neT c_8 (a := 3) rfl; have := lv_neT c_9 (a := 4) rfl; have := lv_neT c_10 (a := 5) rfl; have := lv_neT c_11 (a := 6) rfl; omega) (by decide) ?_
                refine lv_iconst (v := (-1 : Int32)) hx hb dX8_count_106 (by decide) ?_
                cases h
                exact ret _ _ _ _ dX8_count_107 hG
set_option maxRecDepth 100000 in
set_option maxHeartbeats 4000000 in
theorem mX9_in (l : Launch) (dC : Nat → ClassId) (dI : Nat → Nat → Nat) (cI cJ : ClassId) (x0 : Int64) (x2 : Int64) (x4 : Int64) {res : Int32} (hD : DX9_in x0 x2 x4 = some res) : Met l yX9_in (WZ yX9_in cX9_in 6 (some .boolean)) (RM 0 0) (PC dC dI cI cJ [.long x0, .long x2, .long x4] []) (QI dC dI [] [] res) 0 0 (FA []) := by
  refine r_metZ (by decide +kernel) (Nat.le_of_ble_eq_true rfl) ?_
  intro p e s m args below meth c A H0 QQ X ret ls hl hG
  have X : Cx p m c cX9_in 6 s args RX9 dC dI cI cJ meth (some .boolean) := X
  have hx := X.1.1
  have hb := X.1.2.1
  have hl : lv_has ls 6 [(0, .long x0), (2, .long x2), (4, .long x4)] := hl
  have h := hD
  unfold DX9_in at h
  clear hD
  refine lv_lload_n hx hb dX9_in_0 rfl (lv_at hl 0 rfl) ?_
  refine lv_lload_n hx hb dX9_in_1 rfl (lv_at hl 1 rfl) ?_
  refine W.lcmp hx hb dX9_in_2 ?_
  refine lv_if_lt (tgt := 17) hx hb dX9_in_3 (by decide) (fun c_1 => ?_) (fun c_1 => ?_)
  · have h := ite_t h c_1
    refine lv_iconst (v := (0 : Int32)) hx hb dX9_in_17 (by decide) ?_
    cases h
    exact ret _ _ _ _ dX9_in_18 (by decide) hG
  · have h := ite_f h c_1
    refine lv_lload_n hx hb dX9_in_6 rfl (lv_at hl 0 rfl) ?_
    refine lv_lload hx hb dX9_in_7 (lv_at hl 2 rfl) ?_
    refine W.lcmp hx hb dX9_in_9 ?_
    refine lv_if_gt (tgt := 17) hx hb dX9_in_10 (by decide) (fun c_2 => ?_) (fun c_2 => ?_)
    · have h := ite_t h c_2
      refine lv_iconst (v := (0 : Int32)) hx hb dX9_in_17 (by decide) ?_
      cases h
      exact ret _ _ _ _ dX9_in_18 (by decide) hG
    · have h := ite_f h c_2
      refine lv_iconst (v := (1 : Int32)) hx hb dX9_in_13 (by decide) ?_
      refine lv_goto (tgt := 18) hx hb dX9_in_14 (by decide) ?_
      cases h
      exact ret _ _ _ _ dX9_in_18 (by decide) hG
set_option maxRecDepth 100000 in
set_option maxHeartbeats 4000000 in
theorem mX9_has (l : Launch) (dC : Nat → ClassId) (dI : Nat → Nat → Nat) (cI cJ : ClassId) (x0 : Int32) (x1 : Int32) {res : Int32} (hD : DX9_has x0 x1 = some res) : Met l yX9_has (WZ yX9_has cX9_has 2 (some .boolean)) (RM 0 0) (PC dC dI cI cJ [.int x0, .int x1] []) (QI dC dI [] [] res) 0 0 (FA []) := by
  refine r_metZ (by decide +kernel) (Nat.le_of_ble_eq_true rfl) ?_
  intro p e s m args below meth c A H0 QQ X ret ls hl hG
  have X : Cx p m c cX9_has 2 s args RX9 dC dI cI cJ meth (some .boolean) := X
  have hx := X.1.1
  have hb := X.1.2.1
  have hl : lv_has ls 2 [(0, .int x0), (1, .int x1)] := hl
  have h := hD
  unfold DX9_has at h
  clear hD
  refine lv_iload_n hx hb dX9_has_0 rfl (lv_at hl 0 rfl) ?_
  refine lv_iload_n hx hb dX9_has_1 rfl (lv_at hl 1 rfl) ?_
  refine lv_ishr hx hb dX9_has_2 ?_
  refine lv_iconst (v := (1 : Int32)) hx hb dX9_has_3 (by decide) ?_
  refine lv_iand hx hb dX9_has_4 ?_
  refine lv_iconst (v := (1 : Int32)) hx hb dX9_has_5 (by decide) ?_
  refine lv_icmp_ne (tgt := 13) hx hb dX9_has_6 (by decide) (fun c_1 => ?_) (fun c_1 => ?_)
  · have h := ite_f h c_1
    refine lv_iconst (v := (0 : Int32)) hx hb dX9_has_13 (by decide) ?_
    cases h
    exact ret _ _ _ _ dX9_has_14 (by decide) hG
  · have h := ite_t h c_1
    refine lv_iconst (v := (1 : Int32)) hx hb dX9_has_9 (by decide) ?_
    refine lv_goto (tgt := 14) hx hb dX9_has_10 (by decide) ?_
    cases h
    exact ret _ _ _ _ dX9_has_14 (by decide) hG
set_option maxRecDepth 100000 in
set_option maxHeartbeats 4000000 in
theorem mX9_noRock (l : Launch) (dC : Nat → ClassId) (dI : Nat → Nat → Nat) (cI cJ : ClassId) (a : Nat → Nat) (c_length : Int32) (c_text : Nat → Int32) (c_stands : Nat → Int32) (c_homeFar : Nat → Int32) (c_nets : Nat → Int32) (c_netAt : Nat → Int32) (c_netWide : Nat → Int32) (c_netFrom : Nat → Int32) (c_netTo : Nat → Int32) (c_priceX : Nat → Int32) (c_priceY : Nat → Int32) (c_many : Nat → Int32) (c_days : Nat → Int32) (c_aims : Nat → Int32) (c_speeds : Nat → Int32) (c_kinds : Nat → Int32) (c_keptMany : Int32) (c_undoMany : Int32) (c_undos : Nat → Int32) (c_spot : Int32) (c_told : Nat → Int32) (c_to : Nat → Int32) (c_stood : Nat → Int32) (c_home : Nat → Int32) (c_lost : Nat → Int32) (c_out : Int32) (c_fewest : Nat → Int32) (c_ways : Nat → Int64) (c_next : Nat → Int64) (c_held : Nat → Int32) (x1 : Int32) {n_stands : Nat → Int32} {n_homeFar : Nat → Int32} {n_nets : Nat → Int32} {n_priceX : Nat → Int32} {n_priceY : Nat → Int32} {n_many : Nat → Int32} (hD : DX9_noRock x1 c_stands c_homeFar c_nets c_priceX c_priceY c_many = some (n_stands, n_homeFar, n_nets, n_priceX, n_priceY, n_many)) : Met l yX9_noRock (WZ yX9_noRock cX9_noRock 2 none) (RM 0 0) (PC dC dI cI cJ [.ref (a 0), .int x1] (W_X9 a cI cJ c_length c_text c_stands c_homeFar c_nets c_netAt c_netWide c_netFrom c_netTo c_priceX c_priceY c_many c_days c_aims c_speeds c_kinds c_keptMany c_undoMany c_undos c_spot c_told c_to c_stood c_home c_lost c_out c_fewest c_ways c_next c_held)) (QV dC dI (W_X9 a cI cJ c_length c_text c_stands c_homeFar c_nets c_netAt c_netWide c_netFrom c_netTo c_priceX c_priceY c_many c_days c_aims c_speeds c_kinds c_keptMany c_undoMany c_undos c_spot c_told c_to c_stood c_home c_lost c_out c_fewest c_ways c_next c_held) (W_X9 a cI cJ c_length c_text n_stands n_homeFar n_nets c_netAt c_netWide c_netFrom c_netTo n_priceX n_priceY n_many c_days c_aims c_speeds c_kinds c_keptMany c_undoMany c_undos c_spot c_told c_to c_stood c_home c_lost c_out c_fewest c_ways c_next c_held)) 0 0 (FA (W_X9 a cI cJ c_length c_text c_stands c_homeFar c_nets c_netAt c_netWide c_netFrom c_netTo c_priceX c_priceY c_many c_days c_aims c_speeds c_kinds c_keptMany c_undoMany c_undos c_spot c_told c_to c_stood c_home c_lost c_out c_fewest c_ways c_next c_held)) := by
  refine r_metV (by decide +kernel) (Nat.le_of_ble_eq_true rfl) ?_
  intro p e s m args below meth c A H0 QQ X ret ls hl hG
  have X : Cx p m c cX9_noRock 2 s args RX9 dC dI cI cJ meth none := X
  have hx := X.1.1
  have hb := X.1.2.1
  have hl : lv_has ls 2 [(0, .ref (a 0)), (1, .int x1)] := hl
  have h := hD
  unfold DX9_noRock at h
  clear hD
  refine lv_aload_n hx hb dX9_noRock_0 rfl (lv_at hl 0 rfl) ?_
  refine r_get X hG in_X9 rfl 2 (by decide) w_633 0 rfl rfl dX9_noRock_1 ?_
  refine lv_iload_n hx hb dX9_noRock_4 rfl (lv_at hl 1 rfl) ?_
  refine lv_iconst (v := (0 : Int32)) hx hb dX9_noRock_5 (by decide) ?_
  obtain ⟨g_1, h⟩ := gd h
  refine r_iast X hG 2 (ws' := (W_X9 a cI cJ c_length c_text (upd c_stands x1.toNatClampNeg (0 : Int32)) c_homeFar c_nets c_netAt c_netWide c_netFrom c_netTo c_priceX c_priceY c_many c_days c_aims c_speeds c_kinds c_keptMany c_undoMany c_undos c_spot c_told c_to c_stood c_home c_lost c_out c_fewest c_ways c_next c_held)) rfl g_1 rfl dX9_noRock_6 (fun H locs hG => ?_)
  refine lv_aload_n hx hb dX9_noRock_7 rfl (lv_at hl 0 rfl) ?_
  refine r_get X hG in_X9 rfl 3 (by decide) w_634 0 rfl rfl dX9_noRock_8 ?_
  refine lv_iload_n hx hb dX9_noRock_11 rfl (lv_at hl 1 rfl) ?_
  refine lv_bipush (v := (12 : Int32)) hx hb dX9_noRock_12 (by decide) ?_
  obtain ⟨g_2, h⟩ := gd h
  refine r_iast X hG 3 (ws' := (W_X9 a cI cJ c_length c_text (upd c_stands x1.toNatClampNeg (0 : Int32)) (upd c_homeFar x1.toNatClampNeg (12 : Int32)) c_nets c_netAt c_netWide c_netFrom c_netTo c_priceX c_priceY c_many c_days c_aims c_speeds c_kinds c_keptMany c_undoMany c_undos c_spot c_told c_to c_stood c_home c_lost c_out c_fewest c_ways c_next c_held)) rfl g_2 rfl dX9_noRock_14 (fun H locs hG => ?_)
  refine lv_aload_n hx hb dX9_noRock_15 rfl (lv_at hl 0 rfl) ?_
  refine r_get X hG in_X9 rfl 4 (by decide) w_635 0 rfl rfl dX9_noRock_16 ?_
  refine lv_iload_n hx hb dX9_noRock_19 rfl (lv_at hl 1 rfl) ?_
  refine lv_iconst (v := (0 : Int32)) hx hb dX9_noRock_20 (by decide) ?_
  obtain ⟨g_3, h⟩ := gd h
  refine r_iast X hG 4 (ws' := (W_X9 a cI cJ c_length c_text (upd c_stands x1.toNatClampNeg (0 : Int32)) (upd c_homeFar x1.toNatClampNeg (12 : Int32)) (upd c_nets x1.toNatClampNeg (0 : Int32)) c_netAt c_netWide c_netFrom c_netTo c_priceX c_priceY c_many c_days c_aims c_speeds c_kinds c_keptMany c_undoMany c_undos c_spot c_told c_to c_stood c_home c_lost c_out c_fewest c_ways c_next c_held)) rfl g_3 rfl dX9_noRock_21 (fun H locs hG => ?_)
  refine lv_aload_n hx hb dX9_noRock_22 rfl (lv_at hl 0 rfl) ?_
  refine r_get X hG in_X9 rfl 9 (by decide) w_640 0 rfl rfl dX9_noRock_23 ?_
  refine lv_iload_n hx hb dX9_noRock_26 rfl (lv_at hl 1 rfl) ?_
  refine lv_iconst (v := (0 : Int32)) hx hb dX9_noRock_27 (by decide) ?_
  obtain ⟨g_4, h⟩ := gd h
  refine r_iast X hG 9 (ws' := (W_X9 a cI cJ c_length c_text (upd c_stands x1.toNatClampNeg (0 : Int32)) (upd c_homeFar x1.toNatClampNeg (12 : Int32)) (upd c_nets x1.toNatClampNeg (0 : Int32)) c_netAt c_netWide c_netFrom c_netTo (upd c_priceX x1.toNatClampNeg (0 : Int32)) c_priceY c_many c_days c_aims c_speeds c_kinds c_keptMany c_undoMany c_undos c_spot c_told c_to c_stood c_home c_lost c_out c_fewest c_ways c_next c_held)) rfl g_4 rfl dX9_noRock_28 (fun H locs hG => ?_)
  refine lv_aload_n hx hb dX9_noRock_29 rfl (lv_at hl 0 rfl) ?_
  refine r_get X hG in_X9 rfl 10 (by decide) w_641 0 rfl rfl dX9_noRock_30 ?_
  refine lv_iload_n hx hb dX9_noRock_33 rfl (lv_at hl 1 rfl) ?_
  refine lv_bipush (v := (7 : Int32)) hx hb dX9_noRock_34 (by decide) ?_
  obtain ⟨g_5, h⟩ := gd h
  refine r_iast X hG 10 (ws' := (W_X9 a cI cJ c_length c_text (upd c_stands x1.toNatClampNeg (0 : Int32)) (upd c_homeFar x1.toNatClampNeg (12 : Int32)) (upd c_nets x1.toNatClampNeg (0 : Int32)) c_netAt c_netWide c_netFrom c_netTo (upd c_priceX x1.toNatClampNeg (0 : Int32)) (upd c_priceY x1.toNatClampNeg (7 : Int32)) c_many c_days c_aims c_speeds c_kinds c_keptMany c_undoMany c_undos c_spot c_told c_to c_stood c_home c_lost c_out c_fewest c_ways c_next c_held)) rfl g_5 rfl dX9_noRock_36 (fun H locs hG => ?_)
  refine lv_aload_n hx hb dX9_noRock_37 rfl (lv_at hl 0 rfl) ?_
  refine r_get X hG in_X9 rfl 11 (by decide) w_642 0 rfl rfl dX9_noRock_38 ?_
  refine lv_iload_n hx hb dX9_noRock_41 rfl (lv_at hl 1 rfl) ?_
  refine lv_iconst (v := (0 : Int32)) hx hb dX9_noRock_42 (by decide) ?_
  obtain ⟨g_6, h⟩ := gd h
  refine r_iast X hG 11 (ws' := (W_X9 a cI cJ c_length c_text (upd c_stands x1.toNatClampNeg (0 : Int32)) (upd c_homeFar x1.toNatClampNeg (12 : Int32)) (upd c_nets x1.toNatClampNeg (0 : Int32)) c_netAt c_netWide c_netFrom c_netTo (upd c_priceX x1.toNatClampNeg (0 : Int32)) (upd c_priceY x1.toNatClampNeg (7 : Int32)) (upd c_many x1.toNatClampNeg (0 : Int32)) c_days c_aims c_speeds c_kinds c_keptMany c_undoMany c_undos c_spot c_told c_to c_stood c_home c_lost c_out c_fewest c_ways c_next c_held)) rfl g_6 rfl dX9_noRock_43 (fun H locs hG => ?_)
  cases h
  exact ret _ _ _ _ dX9_noRock_44 hG
