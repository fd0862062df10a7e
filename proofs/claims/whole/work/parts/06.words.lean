/-! WORDS of the tables by their places; the worlds. Laid by wip/gen/lay.py -/
theorem in_X0 : ∀ w ∈ u_ws RX0 TX0 4, w ∈ BIG := by decide +kernel
theorem in_X1 : ∀ w ∈ u_ws RX1 TX1 5, w ∈ BIG := by decide +kernel
theorem in_X2 : ∀ w ∈ u_ws RX2 TX2 3, w ∈ BIG := by decide +kernel
theorem in_X3 : ∀ w ∈ u_ws RX3 TX3 6, w ∈ BIG := by decide +kernel
theorem in_X4 : ∀ w ∈ u_ws RX4 TX4 2, w ∈ BIG := by decide +kernel
theorem in_X5 : ∀ w ∈ u_ws RX5 TX5 4, w ∈ BIG := by decide +kernel
theorem in_X6 : ∀ w ∈ u_ws RX6 TX6 2, w ∈ BIG := by decide +kernel
theorem in_X7 : ∀ w ∈ u_ws RX7 TX7 1, w ∈ BIG := by decide +kernel
theorem in_X8 : ∀ w ∈ u_ws RX8 TX8 8, w ∈ BIG := by decide +kernel
theorem in_X9 : ∀ w ∈ u_ws RX9 TX9 30, w ∈ BIG := by decide +kernel
def W_X0 (a0 a1 a2 a3 : Nat) (cI cJ : ClassId) (c_who : Nat → Int32) (c_column : Nat → Int32) (c_was : Nat → Int32) (c_held : Int32) : va_W := [(a0, .inr (0, [.ref a1, .ref a2, .ref a3, .int c_held])), (a1, .inl (cI, 8, .inl c_who)), (a2, .inl (cI, 8, .inl c_column)), (a3, .inl (cI, 8, .inl c_was))]
def W_A (a0 : Nat) (cI cJ : ClassId) (pn : Nat) (c_row : Nat → Int32) : va_W := [(a0, .inl (cI, pn, .inl c_row))]
def W_X5 (a0 a1 : Nat) (cI cJ : ClassId) (pm : Int32) (pw : Int32) (pn : Nat) (c_cells : Nat → Int32) (c_filled : Int32) : va_W := [(a0, .inr (5, [.ref a1, .int pm, .int pw, .int c_filled])), (a1, .inl (cI, pn, .inl c_cells))]
def W_X0_X5 (a0 a1 a2 a3 a4 a5 : Nat) (cI cJ : ClassId) (c_who : Nat → Int32) (c_column : Nat → Int32) (c_was : Nat → Int32) (c_held : Int32) (o_cells : Nat → Int32) (o_filled : Int32) : va_W := [(a0, .inr (0, [.ref a1, .ref a2, .ref a3, .int c_held])), (a1, .inl (cI, 8, .inl c_who)), (a2, .inl (cI, 8, .inl c_column)), (a3, .inl (cI, 8, .inl c_was)), (a4, .inr (5, [.ref a5, .int (7 : Int32), .int (4 : Int32), .int o_filled])), (a5, .inl (cI, 28, .inl o_cells))]
def W_X1 (a0 a1 a2 a3 : Nat) (cI cJ : ClassId) (c_loads_cells : Nat → Int32) (c_loads_filled : Int32) (c_order : Nat → Int32) (c_done : Int32) (c_start : Int32) (c_end : Int32) : va_W := [(a0, .inr (1, [.ref a1, .ref a3, .int c_done, .int c_start, .int c_end])), (a1, .inr (5, [.ref a2, .int (7 : Int32), .int (10 : Int32), .int c_loads_filled])), (a2, .inl (cI, 70, .inl c_loads_cells)), (a3, .inl (cI, 7, .inl c_order))]
def W_X3 (a0 a1 a2 a3 a4 : Nat) (cI cJ : ClassId) (c_stand : Int32) (c_home : Int32) (c_priceStart : Int32) (c_priceStep : Int32) (c_thrown_cells : Nat → Int32) (c_thrown_filled : Int32) (c_nets_cells : Nat → Int32) (c_nets_filled : Int32) : va_W := [(a0, .inr (3, [.int c_stand, .int c_home, .int c_priceStart, .int c_priceStep, .ref a1, .ref a3])), (a1, .inr (5, [.ref a2, .int (7 : Int32), .int (4 : Int32), .int c_thrown_filled])), (a2, .inl (cI, 28, .inl c_thrown_cells)), (a3, .inr (5, [.ref a4, .int (5 : Int32), .int (4 : Int32), .int c_nets_filled])), (a4, .inl (cI, 20, .inl c_nets_cells))]
def W_X1_X3 (a0 a1 a2 a3 a4 a5 a6 a7 a8 : Nat) (cI cJ : ClassId) (c_loads_cells : Nat → Int32) (c_loads_filled : Int32) (c_order : Nat → Int32) (c_done : Int32) (c_start : Int32) (c_end : Int32) (o_stand : Int32) (o_home : Int32) (o_priceStart : Int32) (o_priceStep : Int32) (o_thrown_cells : Nat → Int32) (o_thrown_filled : Int32) (o_nets_cells : Nat → Int32) (o_nets_filled : Int32) : va_W := [(a0, .inr (1, [.ref a1, .ref a3, .int c_done, .int c_start, .int c_end])), (a1, .inr (5, [.ref a2, .int (7 : Int32), .int (10 : Int32), .int c_loads_filled])), (a2, .inl (cI, 70, .inl c_loads_cells)), (a3, .inl (cI, 7, .inl c_order)), (a4, .inr (3, [.int o_stand, .int o_home, .int o_priceStart, .int o_priceStep, .ref a5, .ref a7])), (a5, .inr (5, [.ref a6, .int (7 : Int32), .int (4 : Int32), .int o_thrown_filled])), (a6, .inl (cI, 28, .inl o_thrown_cells)), (a7, .inr (5, [.ref a8, .int (5 : Int32), .int (4 : Int32), .int o_nets_filled])), (a8, .inl (cI, 20, .inl o_nets_cells))]
def W_X2 (a0 a1 a2 a3 a4 : Nat) (cI cJ : ClassId) (c_older_cells : Nat → Int32) (c_older_filled : Int32) (c_newer_cells : Nat → Int32) (c_newer_filled : Int32) (c_held : Int32) : va_W := [(a0, .inr (2, [.ref a1, .ref a3, .int c_held])), (a1, .inr (5, [.ref a2, .int (7 : Int32), .int (4 : Int32), .int c_older_filled])), (a2, .inl (cI, 28, .inl c_older_cells)), (a3, .inr (5, [.ref a4, .int (7 : Int32), .int (4 : Int32), .int c_newer_filled])), (a4, .inl (cI, 28, .inl c_newer_cells))]
def W_X5_X5 (a0 a1 a2 a3 : Nat) (cI cJ : ClassId) (pm : Int32) (pw : Int32) (pn : Nat) (qm : Int32) (qw : Int32) (qn : Nat) (c_cells : Nat → Int32) (c_filled : Int32) (o_cells : Nat → Int32) (o_filled : Int32) : va_W := [(a0, .inr (5, [.ref a1, .int pm, .int pw, .int c_filled])), (a1, .inl (cI, pn, .inl c_cells)), (a2, .inr (5, [.ref a3, .int qm, .int qw, .int o_filled])), (a3, .inl (cI, qn, .inl o_cells))]
def W_X2_X5 (a0 a1 a2 a3 a4 a5 a6 : Nat) (cI cJ : ClassId) (c_older_cells : Nat → Int32) (c_older_filled : Int32) (c_newer_cells : Nat → Int32) (c_newer_filled : Int32) (c_held : Int32) (o_cells : Nat → Int32) (o_filled : Int32) : va_W := [(a0, .inr (2, [.ref a1, .ref a3, .int c_held])), (a1, .inr (5, [.ref a2, .int (7 : Int32), .int (4 : Int32), .int c_older_filled])), (a2, .inl (cI, 28, .inl c_older_cells)), (a3, .inr (5, [.ref a4, .int (7 : Int32), .int (4 : Int32), .int c_newer_filled])), (a4, .inl (cI, 28, .inl c_newer_cells)), (a5, .inr (5, [.ref a6, .int (7 : Int32), .int (4 : Int32), .int o_filled])), (a6, .inl (cI, 28, .inl o_cells))]
def W_X3_X3 (a0 a1 a2 a3 a4 a5 a6 a7 a8 a9 : Nat) (cI cJ : ClassId) (c_stand : Int32) (c_home : Int32) (c_priceStart : Int32) (c_priceStep : Int32) (c_thrown_cells : Nat → Int32) (c_thrown_filled : Int32) (c_nets_cells : Nat → Int32) (c_nets_filled : Int32) (o_stand : Int32) (o_home : Int32) (o_priceStart : Int32) (o_priceStep : Int32) (o_thrown_cells : Nat → Int32) (o_thrown_filled : Int32) (o_nets_cells : Nat → Int32) (o_nets_filled : Int32) : va_W := [(a0, .inr (3, [.int c_stand, .int c_home, .int c_priceStart, .int c_priceStep, .ref a1, .ref a3])), (a1, .inr (5, [.ref a2, .int (7 : Int32), .int (4 : Int32), .int c_thrown_filled])), (a2, .inl (cI, 28, .inl c_thrown_cells)), (a3, .inr (5, [.ref a4, .int (5 : Int32), .int (4 : Int32), .int c_nets_filled])), (a4, .inl (cI, 20, .inl c_nets_cells)), (a5, .inr (3, [.int o_stand, .int o_home, .int o_priceStart, .int o_priceStep, .ref a6, .ref a8])), (a6, .inr (5, [.ref a7, .int (7 : Int32), .int (4 : Int32), .int o_thrown_filled])), (a7, .inl (cI, 28, .inl o_thrown_cells)), (a8, .inr (5, [.ref a9, .int (5 : Int32), .int (4 : Int32), .int o_nets_filled])), (a9, .inl (cI, 20, .inl o_nets_cells))]
def W_X6 (a0 a1 : Nat) (cI cJ : ClassId) (c_bytes : Nat → Int32) (c_length : Int32) : va_W := [(a0, .inr (6, [.ref a1, .int c_length])), (a1, .inl (cI, 300, .inl c_bytes))]
def W_X4_X6 (a0 a1 a2 a3 : Nat) (cI cJ : ClassId) (c_numbers : Nat → Int32) (c_next : Int32) (o_bytes : Nat → Int32) (o_length : Int32) : va_W := [(a0, .inr (4, [.ref a1, .int c_next])), (a1, .inl (cI, 4, .inl c_numbers)), (a2, .inr (6, [.ref a3, .int o_length])), (a3, .inl (cI, 300, .inl o_bytes))]
def W_X4_X6_X3 (a0 a1 a2 a3 a4 a5 a6 a7 a8 : Nat) (cI cJ : ClassId) (c_numbers : Nat → Int32) (c_next : Int32) (o_bytes : Nat → Int32) (o_length : Int32) (o_stand : Int32) (o_home : Int32) (o_priceStart : Int32) (o_priceStep : Int32) (o_thrown_cells : Nat → Int32) (o_thrown_filled : Int32) (o_nets_cells : Nat → Int32) (o_nets_filled : Int32) : va_W := [(a0, .inr (4, [.ref a1, .int c_next])), (a1, .inl (cI, 4, .inl c_numbers)), (a2, .inr (6, [.ref a3, .int o_length])), (a3, .inl (cI, 300, .inl o_bytes)), (a4, .inr (3, [.int o_stand, .int o_home, .int o_priceStart, .int o_priceStep, .ref a5, .ref a7])), (a5, .inr (5, [.ref a6, .int (7 : Int32), .int (4 : Int32), .int o_thrown_filled])), (a6, .inl (cI, 28, .inl o_thrown_cells)), (a7, .inr (5, [.ref a8, .int (5 : Int32), .int (4 : Int32), .int o_nets_filled])), (a8, .inl (cI, 20, .inl o_nets_cells))]
def W_X7 (a0 a1 : Nat) (cI cJ : ClassId) (c_need : Nat → Int32) : va_W := [(a0, .inr (7, [.ref a1])), (a1, .inl (cI, 24, .inl c_need))]
def W_X8 (a0 a1 a2 a3 a4 a5 a6 a7 a8 a9 a10 a11 a12 a13 a14 a15 a16 a17 a18 a19 a20 a21 a22 a23 a24 a25 a26 a27 a28 a29 : Nat) (cI cJ : ClassId) (c_text_bytes : Nat → Int32) (c_text_length : Int32) (c_reader_numbers : Nat → Int32) (c_reader_next : Int32) (c_laid_stand : Int32) (c_laid_home : Int32) (c_laid_priceStart : Int32) (c_laid_priceStep : Int32) (c_laid_thrown_cells : Nat → Int32) (c_laid_thrown_filled : Int32) (c_laid_nets_cells : Nat → Int32) (c_laid_nets_filled : Int32) (c_trial_stand : Int32) (c_trial_home : Int32) (c_trial_priceStart : Int32) (c_trial_priceStep : Int32) (c_trial_thrown_cells : Nat → Int32) (c_trial_thrown_filled : Int32) (c_trial_nets_cells : Nat → Int32) (c_trial_nets_filled : Int32) (c_flight_loads_cells : Nat → Int32) (c_flight_loads_filled : Int32) (c_flight_order : Nat → Int32) (c_flight_done : Int32) (c_flight_start : Int32) (c_flight_end : Int32) (c_changes_who : Nat → Int32) (c_changes_column : Nat → Int32) (c_changes_was : Nat → Int32) (c_changes_held : Int32) (c_kept_older_cells : Nat → Int32) (c_kept_older_filled : Int32) (c_kept_newer_cells : Nat → Int32) (c_kept_newer_filled : Int32) (c_kept_held : Int32) (c_turns_need : Nat → Int32) : va_W := [(a0, .inr (8, [.ref a1, .ref a3, .ref a5, .ref a10, .ref a15, .ref a19, .ref a23, .ref a28])), (a1, .inr (6, [.ref a2, .int c_text_length])), (a2, .inl (cI, 300, .inl c_text_bytes)), (a3, .inr (4, [.ref a4, .int c_reader_next])), (a4, .inl (cI, 4, .inl c_reader_numbers)), (a5, .inr (3, [.int c_laid_stand, .int c_laid_home, .int c_laid_priceStart, .int c_laid_priceStep, .ref a6, .ref a8])), (a6, .inr (5, [.ref a7, .int (7 : Int32), .int (4 : Int32), .int c_laid_thrown_filled])), (a7, .inl (cI, 28, .inl c_laid_thrown_cells)), (a8, .inr (5, [.ref a9, .int (5 : Int32), .int (4 : Int32), .int c_laid_nets_filled])), (a9, .inl (cI, 20, .inl c_laid_nets_cells)), (a10, .inr (3, [.int c_trial_stand, .int c_trial_home, .int c_trial_priceStart, .int c_trial_priceStep, .ref a11, .ref a13])), (a11, .inr (5, [.ref a12, .int (7 : Int32), .int (4 : Int32), .int c_trial_thrown_filled])), (a12, .inl (cI, 28, .inl c_trial_thrown_cells)), (a13, .inr (5, [.ref a14, .int (5 : Int32), .int (4 : Int32), .int c_trial_nets_filled])), (a14, .inl (cI, 20, .inl c_trial_nets_cells)), (a15, .inr (1, [.ref a16, .ref a18, .int c_flight_done, .int c_flight_start, .int c_flight_end])), (a16, .inr (5, [.ref a17, .int (7 : Int32), .int (10 : Int32), .int c_flight_loads_filled])), (a17, .inl (cI, 70, .inl c_flight_loads_cells)), (a18, .inl (cI, 7, .inl c_flight_order)), (a19, .inr (0, [.ref a20, .ref a21, .ref a22, .int c_changes_held])), (a20, .inl (cI, 8, .inl c_changes_who)), (a21, .inl (cI, 8, .inl c_changes_column)), (a22, .inl (cI, 8, .inl c_changes_was)), (a23, .inr (2, [.ref a24, .ref a26, .int c_kept_held])), (a24, .inr (5, [.ref a25, .int (7 : Int32), .int (4 : Int32), .int c_kept_older_filled])), (a25, .inl (cI, 28, .inl c_kept_older_cells)), (a26, .inr (5, [.ref a27, .int (7 : Int32), .int (4 : Int32), .int c_kept_newer_filled])), (a27, .inl (cI, 28, .inl c_kept_newer_cells)), (a28, .inr (7, [.ref a29])), (a29, .inl (cI, 24, .inl c_turns_need))]
def W_X9 (a : Nat → Nat) (cI cJ : ClassId) (c_length : Int32) (c_text : Nat → Int32) (c_stands : Nat → Int32) (c_homeFar : Nat → Int32) (c_nets : Nat → Int32) (c_netAt : Nat → Int32) (c_netWide : Nat → Int32) (c_netFrom : Nat → Int32) (c_netTo : Nat → Int32) (c_priceX : Nat → Int32) (c_priceY : Nat → Int32) (c_many : Nat → Int32) (c_days : Nat → Int32) (c_aims : Nat → Int32) (c_speeds : Nat → Int32) (c_kinds : Nat → Int32) (c_keptMany : Int32) (c_undoMany : Int32) (c_undos : Nat → Int32) (c_spot : Int32) (c_told : Nat → Int32) (c_to : Nat → Int32) (c_stood : Nat → Int32) (c_home : Nat → Int32) (c_lost : Nat → Int32) (c_out : Int32) (c_fewest : Nat → Int32) (c_ways : Nat → Int64) (c_next : Nat → Int64) (c_held : Nat → Int32) : va_W := [((a 0), .inr (9, [.int c_length, .ref (a 1), .ref (a 2), .ref (a 3), .ref (a 4), .ref (a 5), .ref (a 6), .ref (a 7), .ref (a 8), .ref (a 9), .ref (a 10), .ref (a 11), .ref (a 12), .ref (a 13), .ref (a 14), .ref (a 15), .int c_keptMany, .int c_undoMany, .ref (a 16), .int c_spot, .ref (a 17), .ref (a 18), .ref (a 19), .ref (a 20), .ref (a 21), .int c_out, .ref (a 22), .ref (a 23), .ref (a 24), .ref (a 25)])), ((a 1), .inl (cI, 300, .inl c_text)), ((a 2), .inl (cI, 2, .inl c_stands)), ((a 3), .inl (cI, 2, .inl c_homeFar)), ((a 4), .inl (cI, 2, .inl c_nets)), ((a 5), .inl (cI, 12, .inl c_netAt)), ((a 6), .inl (cI, 12, .inl c_netWide)), ((a 7), .inl (cI, 12, .inl c_netFrom)), ((a 8), .inl (cI, 12, .inl c_netTo)), ((a 9), .inl (cI, 2, .inl c_priceX)), ((a 10), .inl (cI, 2, .inl c_priceY)), ((a 11), .inl (cI, 4, .inl c_many)), ((a 12), .inl (cI, 28, .inl c_days)), ((a 13), .inl (cI, 28, .inl c_aims)), ((a 14), .inl (cI, 28, .inl c_speeds)), ((a 15), .inl (cI, 28, .inl c_kinds)), ((a 16), .inl (cI, 24, .inl c_undos)), ((a 17), .inl (cI, 4, .inl c_told)), ((a 18), .inl (cI, 7, .inl c_to)), ((a 19), .inl (cI, 7, .inl c_stood)), ((a 20), .inl (cI, 7, .inl c_home)), ((a 21), .inl (cI, 7, .inl c_lost)), ((a 22), .inl (cI, 24, .inl c_fewest)), ((a 23), .inl (cJ, 21, .inr (.inl c_ways))), ((a 24), .inl (cJ, 21, .inr (.inl c_next))), ((a 25), .inl (cI, 7, .inl c_held))]
def W_X4 (a0 a1 : Nat) (cI cJ : ClassId) (c_numbers : Nat → Int32) (c_next : Int32) : va_W := [(a0, .inr (4, [.ref a1, .int c_next])), (a1, .inl (cI, 4, .inl c_numbers))]
theorem w_0 : Cond.selects RX4 yX4_readItem yX4_readItem ∈ BIG := bw 0 (by decide +kernel) rfl
theorem w_1 : Cond.selects RX4 yX4_readNumber yX4_readNumber ∈ BIG := bw 1 (by decide +kernel) rfl
theorem w_2 : Cond.selects RX3 yX3_tellRock yX3_tellRock ∈ BIG := bw 2 (by decide +kernel) rfl
theorem w_3 : Cond.selects RX3 yX3_tellThrow yX3_tellThrow ∈ BIG := bw 3 (by decide +kernel) rfl
theorem w_4 : Cond.selects RX3 yX3_tellNet yX3_tellNet ∈ BIG := bw 4 (by decide +kernel) rfl
theorem w_5 : Cond.selects RX3 yX3_tellPrice yX3_tellPrice ∈ BIG := bw 5 (by decide +kernel) rfl
theorem w_6 : Cond.selects RX1 yX1_lineUp yX1_lineUp ∈ BIG := bw 6 (by decide +kernel) rfl
theorem w_7 : Cond.selects RX1 yX1_throwAll yX1_throwAll ∈ BIG := bw 7 (by decide +kernel) rfl
theorem w_8 : Cond.selects RX1 yX1_turnBy yX1_turnBy ∈ BIG := bw 8 (by decide +kernel) rfl
theorem w_9 : Cond.selects RX1 yX1_meetAll yX1_meetAll ∈ BIG := bw 9 (by decide +kernel) rfl
theorem w_10 : Cond.selects RX1 yX1_nextMeeting yX1_nextMeeting ∈ BIG := bw 10 (by decide +kernel) rfl
theorem w_11 : Cond.selects RX1 yX1_meetingOf yX1_meetingOf ∈ BIG := bw 11 (by decide +kernel) rfl
theorem w_12 : Cond.selects RX1 yX1_loseOn yX1_loseOn ∈ BIG := bw 12 (by decide +kernel) rfl
theorem w_13 : Cond.selects RX1 yX1_bringHome yX1_bringHome ∈ BIG := bw 13 (by decide +kernel) rfl
theorem w_14 : Cond.selects RX1 yX1_come yX1_come ∈ BIG := bw 14 (by decide +kernel) rfl
theorem w_15 : Cond.selects RX8 yX8_change yX8_change ∈ BIG := bw 15 (by decide +kernel) rfl
theorem w_16 : Cond.selects RX0 yX0_dropOldest yX0_dropOldest ∈ BIG := bw 16 (by decide +kernel) rfl
theorem w_17 : Cond.selects RX7 yX7_goOn yX7_goOn ∈ BIG := bw 17 (by decide +kernel) rfl
theorem w_18 : Cond.selects RX9 yX9_noRock yX9_noRock ∈ BIG := bw 18 (by decide +kernel) rfl
theorem w_19 : Cond.selects RX9 yX9_readAll yX9_readAll ∈ BIG := bw 19 (by decide +kernel) rfl
theorem w_20 : Cond.selects RX9 yX9_item yX9_item ∈ BIG := bw 20 (by decide +kernel) rfl
theorem w_21 : Cond.selects RX9 yX9_byteAt yX9_byteAt ∈ BIG := bw 21 (by decide +kernel) rfl
theorem w_22 : Cond.selects RX9 yX9_figures yX9_figures ∈ BIG := bw 22 (by decide +kernel) rfl
theorem w_23 : Cond.selects RX9 yX9_copy yX9_copy ∈ BIG := bw 23 (by decide +kernel) rfl
theorem w_24 : Cond.selects RX9 yX9_isThrow yX9_isThrow ∈ BIG := bw 24 (by decide +kernel) rfl
theorem w_25 : Cond.selects RX9 yX9_go yX9_go ∈ BIG := bw 25 (by decide +kernel) rfl
theorem w_26 : Cond.selects RX9 yX9_turnTo yX9_turnTo ∈ BIG := bw 26 (by decide +kernel) rfl
theorem w_27 : Cond.selects RX9 yX9_homeDay yX9_homeDay ∈ BIG := bw 27 (by decide +kernel) rfl
theorem w_28 : Cond.selects RX9 yX9_meetOn yX9_meetOn ∈ BIG := bw 28 (by decide +kernel) rfl
theorem w_29 : Cond.selects RX9 yX9_isOnWay yX9_isOnWay ∈ BIG := bw 29 (by decide +kernel) rfl
theorem w_30 : Cond.selects RX9 yX9_farOf yX9_farOf ∈ BIG := bw 30 (by decide +kernel) rfl
theorem w_31 : Cond.selects RX9 yX9_howOf yX9_howOf ∈ BIG := bw 31 (by decide +kernel) rfl
theorem w_32 : Cond.selects RX9 yX9_isCaught yX9_isCaught ∈ BIG := bw 32 (by decide +kernel) rfl
theorem w_33 : Cond.selects RX9 yX9_placeOf yX9_placeOf ∈ BIG := bw 33 (by decide +kernel) rfl
theorem w_34 : Cond.selects RX9 yX9_paidOf yX9_paidOf ∈ BIG := bw 34 (by decide +kernel) rfl
theorem w_35 : Cond.selects RX9 yX9_priceOf yX9_priceOf ∈ BIG := bw 35 (by decide +kernel) rfl
theorem w_36 : Cond.selects RX9 yX9_howMany yX9_howMany ∈ BIG := bw 36 (by decide +kernel) rfl
theorem w_37 : Cond.selects RX9 yX9_paidAll yX9_paidAll ∈ BIG := bw 37 (by decide +kernel) rfl
theorem w_38 : Cond.selects RX9 yX9_note yX9_note ∈ BIG := bw 38 (by decide +kernel) rfl
theorem w_39 : Cond.selects RX9 yX9_isMeeter yX9_isMeeter ∈ BIG := bw 39 (by decide +kernel) rfl
theorem w_41 : Cond.initialized RX8 ∈ BIG := bw 41 (by decide +kernel) rfl
theorem w_42 : Cond.initialized RX6 ∈ BIG := bw 42 (by decide +kernel) rfl
theorem w_43 : Cond.initialized RX4 ∈ BIG := bw 43 (by decide +kernel) rfl
theorem w_44 : Cond.initialized RX3 ∈ BIG := bw 44 (by decide +kernel) rfl
theorem w_45 : Cond.initialized RX5 ∈ BIG := bw 45 (by decide +kernel) rfl
theorem w_46 : Cond.initialized "java/lang/Math" ∈ BIG := bw 46 (by decide +kernel) rfl
theorem w_47 : Cond.initialized RX1 ∈ BIG := bw 47 (by decide +kernel) rfl
theorem w_48 : Cond.initialized RX0 ∈ BIG := bw 48 (by decide +kernel) rfl
theorem w_49 : Cond.initialized RX2 ∈ BIG := bw 49 (by decide +kernel) rfl
theorem w_50 : Cond.initialized RX7 ∈ BIG := bw 50 (by decide +kernel) rfl
theorem w_51 : Cond.initialized RX9 ∈ BIG := bw 51 (by decide +kernel) rfl
theorem w_52 : Cond.initialized "java/lang/System" ∈ BIG := bw 52 (by decide +kernel) rfl
theorem w_53 : Cond.initialized "java/lang/Integer" ∈ BIG := bw 53 (by decide +kernel) rfl
theorem w_54 : Cond.classLink RL 7 RX8 ∈ BIG := bw 54 (by decide +kernel) rfl
theorem w_55 : Cond.instantiable RX8 8 ∈ BIG := bw 55 (by decide +kernel) rfl
theorem w_56 : Cond.methodLink RL 9 yX8_init ∈ BIG := bw 56 (by decide +kernel) rfl
theorem w_57 : Cond.instanceMethod yX8_init ∈ BIG := bw 57 (by decide +kernel) rfl
theorem w_58 : Cond.code yX8_init cX8_init 1 none ∈ BIG := bw 58 (by decide +kernel) rfl
theorem w_59 : Cond.methodLink RX8 1 objectInit ∈ BIG := bw 59 (by decide +kernel) rfl
theorem w_60 : Cond.instanceMethod objectInit ∈ BIG := bw 60 (by decide +kernel) rfl
theorem w_61 : Cond.code objectInit ⟨#[0xb1]⟩ 1 none ∈ BIG := bw 61 (by decide +kernel) rfl
theorem w_62 : Cond.classLink RX8 7 RX6 ∈ BIG := bw 62 (by decide +kernel) rfl
theorem w_63 : Cond.instantiable RX6 2 ∈ BIG := bw 63 (by decide +kernel) rfl
theorem w_64 : Cond.methodLinkNest RX8 9 yX6_init "ThrownHome" ∈ NEST := nw 64 (by decide +kernel) rfl
theorem w_65 : Cond.instanceMethod yX6_init ∈ BIG := bw 65 (by decide +kernel) rfl
theorem w_66 : Cond.code yX6_init cX6_init 1 none ∈ BIG := bw 66 (by decide +kernel) rfl
theorem w_67 : Cond.methodLink RX6 3 objectInit ∈ BIG := bw 67 (by decide +kernel) rfl
theorem w_68 : Cond.fieldLink RX6 9 "ThrownHome$Text" "bytes" "[I" ∈ BIG := bw 68 (by decide +kernel) rfl
theorem w_69 : Cond.fieldLink RX6 15 "ThrownHome$Text" "length" "I" ∈ BIG := bw 69 (by decide +kernel) rfl
theorem w_70 : Cond.fieldLinkNest RX8 78 "ThrownHome$Text" "length" "I" "ThrownHome" ∈ NEST := nw 70 (by decide +kernel) rfl
theorem w_71 : Cond.fieldLinkNest RX4 24 "ThrownHome$Text" "length" "I" "ThrownHome" ∈ NEST := nw 71 (by decide +kernel) rfl
theorem w_77 : Cond.arrayClass (newarray.typeOf .int) ∈ BIG := bw 77 (by decide +kernel) rfl
theorem w_78 : Cond.classLink RX8 16 RX4 ∈ BIG := bw 78 (by decide +kernel) rfl
theorem w_79 : Cond.instantiable RX4 2 ∈ BIG := bw 79 (by decide +kernel) rfl
theorem w_80 : Cond.methodLinkNest RX8 18 yX4_init "ThrownHome" ∈ NEST := nw 80 (by decide +kernel) rfl
theorem w_81 : Cond.instanceMethod yX4_init ∈ BIG := bw 81 (by decide +kernel) rfl
theorem w_82 : Cond.code yX4_init cX4_init 1 none ∈ BIG := bw 82 (by decide +kernel) rfl
theorem w_83 : Cond.methodLink RX4 3 objectInit ∈ BIG := bw 83 (by decide +kernel) rfl
theorem w_84 : Cond.fieldLink RX4 9 "ThrownHome$Reader" "numbers" "[I" ∈ BIG := bw 84 (by decide +kernel) rfl
theorem w_85 : Cond.fieldLink RX4 15 "ThrownHome$Reader" "next" "I" ∈ BIG := bw 85 (by decide +kernel) rfl
theorem w_91 : Cond.classLink RX8 23 RX3 ∈ BIG := bw 91 (by decide +kernel) rfl
theorem w_92 : Cond.instantiable RX3 6 ∈ BIG := bw 92 (by decide +kernel) rfl
theorem w_93 : Cond.methodLink RX8 25 yX3_init ∈ BIG := bw 93 (by decide +kernel) rfl
theorem w_94 : Cond.instanceMethod yX3_init ∈ BIG := bw 94 (by decide +kernel) rfl
theorem w_95 : Cond.code yX3_init cX3_init 1 none ∈ BIG := bw 95 (by decide +kernel) rfl
theorem w_96 : Cond.methodLink RX3 3 objectInit ∈ BIG := bw 96 (by decide +kernel) rfl
theorem w_97 : Cond.classLink RX3 9 RX5 ∈ BIG := bw 97 (by decide +kernel) rfl
theorem w_98 : Cond.instantiable RX5 4 ∈ BIG := bw 98 (by decide +kernel) rfl
theorem w_99 : Cond.methodLink RX3 11 yX5_init ∈ BIG := bw 99 (by decide +kernel) rfl
theorem w_100 : Cond.instanceMethod yX5_init ∈ BIG := bw 100 (by decide +kernel) rfl
theorem w_101 : Cond.code yX5_init cX5_init 3 none ∈ BIG := bw 101 (by decide +kernel) rfl
theorem w_102 : Cond.methodLink RX5 1 objectInit ∈ BIG := bw 102 (by decide +kernel) rfl
theorem w_103 : Cond.methodLink RX5 7 Lib.Math.max.name ∈ BIG := bw 103 (by decide +kernel) rfl
theorem w_104 : Cond.static Lib.Math.max.name ∈ BIG := bw 104 (by decide +kernel) rfl
theorem w_105 : Cond.code Lib.Math.max.name Lib.Math.max.code 2 (some .int) ∈ BIG := bw 105 (by decide +kernel) rfl
theorem w_106 : Cond.fieldLink RX5 22 "ThrownHome$Table" "cells" "[I" ∈ BIG := bw 106 (by decide +kernel) rfl
theorem w_107 : Cond.fieldLink RX5 13 "ThrownHome$Table" "most" "I" ∈ BIG := bw 107 (by decide +kernel) rfl
theorem w_108 : Cond.fieldLink RX5 19 "ThrownHome$Table" "wide" "I" ∈ BIG := bw 108 (by decide +kernel) rfl
theorem w_109 : Cond.fieldLink RX5 26 "ThrownHome$Table" "filled" "I" ∈ BIG := bw 109 (by decide +kernel) rfl
theorem w_119 : Cond.methodLink RX3 23 yX3_makeBare ∈ BIG := bw 119 (by decide +kernel) rfl
theorem w_120 : Cond.instanceMethod yX3_makeBare ∈ BIG := bw 120 (by decide +kernel) rfl
theorem w_121 : Cond.selects RX3 yX3_makeBare yX3_makeBare ∈ BIG := bw 121 (by decide +kernel) rfl
theorem w_122 : Cond.code yX3_makeBare cX3_makeBare 1 none ∈ BIG := bw 122 (by decide +kernel) rfl
theorem w_123 : Cond.methodLink RX3 39 yX5_empty ∈ BIG := bw 123 (by decide +kernel) rfl
theorem w_124 : Cond.instanceMethod yX5_empty ∈ BIG := bw 124 (by decide +kernel) rfl
theorem w_125 : Cond.selects RX5 yX5_empty yX5_empty ∈ BIG := bw 125 (by decide +kernel) rfl
theorem w_126 : Cond.code yX5_empty cX5_empty 1 none ∈ BIG := bw 126 (by decide +kernel) rfl
theorem w_127 : Cond.fieldLink RX3 26 "ThrownHome$Plan" "stand" "I" ∈ BIG := bw 127 (by decide +kernel) rfl
theorem w_128 : Cond.fieldLinkNest RX1 55 "ThrownHome$Plan" "stand" "I" "ThrownHome" ∈ NEST := nw 128 (by decide +kernel) rfl
theorem w_129 : Cond.fieldLinkNest RX8 217 "ThrownHome$Plan" "stand" "I" "ThrownHome" ∈ NEST := nw 129 (by decide +kernel) rfl
theorem w_130 : Cond.fieldLink RX3 30 "ThrownHome$Plan" "home" "I" ∈ BIG := bw 130 (by decide +kernel) rfl
theorem w_131 : Cond.fieldLinkNest RX1 61 "ThrownHome$Plan" "home" "I" "ThrownHome" ∈ NEST := nw 131 (by decide +kernel) rfl
theorem w_132 : Cond.fieldLinkNest RX8 164 "ThrownHome$Plan" "home" "I" "ThrownHome" ∈ NEST := nw 132 (by decide +kernel) rfl
theorem w_133 : Cond.fieldLink RX3 33 "ThrownHome$Plan" "priceStart" "I" ∈ BIG := bw 133 (by decide +kernel) rfl
theorem w_134 : Cond.fieldLink RX3 36 "ThrownHome$Plan" "priceStep" "I" ∈ BIG := bw 134 (by decide +kernel) rfl
theorem w_135 : Cond.fieldLink RX3 14 "ThrownHome$Plan" "thrown" "LThrownHome$Table;" ∈ BIG := bw 135 (by decide +kernel) rfl
theorem w_136 : Cond.fieldLinkNest RX8 61 "ThrownHome$Plan" "thrown" "LThrownHome$Table;" "ThrownHome" ∈ NEST := nw 136 (by decide +kernel) rfl
theorem w_137 : Cond.fieldLinkNest RX1 34 "ThrownHome$Plan" "thrown" "LThrownHome$Table;" "ThrownHome" ∈ NEST := nw 137 (by decide +kernel) rfl
theorem w_138 : Cond.fieldLink RX3 20 "ThrownHome$Plan" "nets" "LThrownHome$Table;" ∈ BIG := bw 138 (by decide +kernel) rfl
theorem w_139 : Cond.fieldLinkNest RX8 71 "ThrownHome$Plan" "nets" "LThrownHome$Table;" "ThrownHome" ∈ NEST := nw 139 (by decide +kernel) rfl
theorem w_153 : Cond.classLink RX8 33 RX1 ∈ BIG := bw 153 (by decide +kernel) rfl
theorem w_154 : Cond.instantiable RX1 5 ∈ BIG := bw 154 (by decide +kernel) rfl
theorem w_155 : Cond.methodLinkNest RX8 35 yX1_init "ThrownHome" ∈ NEST := nw 155 (by decide +kernel) rfl
theorem w_156 : Cond.instanceMethod yX1_init ∈ BIG := bw 156 (by decide +kernel) rfl
theorem w_157 : Cond.code yX1_init cX1_init 1 none ∈ BIG := bw 157 (by decide +kernel) rfl
theorem w_158 : Cond.methodLink RX1 3 objectInit ∈ BIG := bw 158 (by decide +kernel) rfl
theorem w_159 : Cond.classLink RX1 9 RX5 ∈ BIG := bw 159 (by decide +kernel) rfl
theorem w_160 : Cond.methodLink RX1 11 yX5_init ∈ BIG := bw 160 (by decide +kernel) rfl
theorem w_161 : Cond.fieldLink RX1 14 "ThrownHome$Flight" "loads" "LThrownHome$Table;" ∈ BIG := bw 161 (by decide +kernel) rfl
theorem w_162 : Cond.fieldLink RX1 20 "ThrownHome$Flight" "order" "[I" ∈ BIG := bw 162 (by decide +kernel) rfl
theorem w_163 : Cond.fieldLink RX1 24 "ThrownHome$Flight" "done" "I" ∈ BIG := bw 163 (by decide +kernel) rfl
theorem w_164 : Cond.fieldLink RX1 28 "ThrownHome$Flight" "start" "I" ∈ BIG := bw 164 (by decide +kernel) rfl
theorem w_165 : Cond.fieldLink RX1 31 "ThrownHome$Flight" "end" "I" ∈ BIG := bw 165 (by decide +kernel) rfl
theorem w_166 : Cond.fieldLinkNest RX8 174 "ThrownHome$Flight" "end" "I" "ThrownHome" ∈ NEST := nw 166 (by decide +kernel) rfl
theorem w_178 : Cond.classLink RX8 40 RX0 ∈ BIG := bw 178 (by decide +kernel) rfl
theorem w_179 : Cond.instantiable RX0 4 ∈ BIG := bw 179 (by decide +kernel) rfl
theorem w_180 : Cond.methodLinkNest RX8 42 yX0_init "ThrownHome" ∈ NEST := nw 180 (by decide +kernel) rfl
theorem w_181 : Cond.instanceMethod yX0_init ∈ BIG := bw 181 (by decide +kernel) rfl
theorem w_182 : Cond.code yX0_init cX0_init 1 none ∈ BIG := bw 182 (by decide +kernel) rfl
theorem w_183 : Cond.methodLink RX0 3 objectInit ∈ BIG := bw 183 (by decide +kernel) rfl
theorem w_184 : Cond.fieldLink RX0 9 "ThrownHome$Changes" "who" "[I" ∈ BIG := bw 184 (by decide +kernel) rfl
theorem w_185 : Cond.fieldLink RX0 15 "ThrownHome$Changes" "column" "[I" ∈ BIG := bw 185 (by decide +kernel) rfl
theorem w_186 : Cond.fieldLink RX0 18 "ThrownHome$Changes" "was" "[I" ∈ BIG := bw 186 (by decide +kernel) rfl
theorem w_187 : Cond.fieldLink RX0 21 "ThrownHome$Changes" "held" "I" ∈ BIG := bw 187 (by decide +kernel) rfl
theorem w_188 : Cond.fieldLinkNest RX8 138 "ThrownHome$Changes" "held" "I" "ThrownHome" ∈ NEST := nw 188 (by decide +kernel) rfl
theorem w_198 : Cond.classLink RX8 47 RX2 ∈ BIG := bw 198 (by decide +kernel) rfl
theorem w_199 : Cond.instantiable RX2 3 ∈ BIG := bw 199 (by decide +kernel) rfl
theorem w_200 : Cond.methodLinkNest RX8 49 yX2_init "ThrownHome" ∈ NEST := nw 200 (by decide +kernel) rfl
theorem w_201 : Cond.instanceMethod yX2_init ∈ BIG := bw 201 (by decide +kernel) rfl
theorem w_202 : Cond.code yX2_init cX2_init 1 none ∈ BIG := bw 202 (by decide +kernel) rfl
theorem w_203 : Cond.methodLink RX2 3 objectInit ∈ BIG := bw 203 (by decide +kernel) rfl
theorem w_204 : Cond.classLink RX2 9 RX5 ∈ BIG := bw 204 (by decide +kernel) rfl
theorem w_205 : Cond.methodLink RX2 11 yX5_init ∈ BIG := bw 205 (by decide +kernel) rfl
theorem w_206 : Cond.fieldLink RX2 14 "ThrownHome$Kept" "older" "LThrownHome$Table;" ∈ BIG := bw 206 (by decide +kernel) rfl
theorem w_207 : Cond.fieldLink RX2 20 "ThrownHome$Kept" "newer" "LThrownHome$Table;" ∈ BIG := bw 207 (by decide +kernel) rfl
theorem w_208 : Cond.fieldLink RX2 23 "ThrownHome$Kept" "held" "I" ∈ BIG := bw 208 (by decide +kernel) rfl
theorem w_209 : Cond.fieldLinkNest RX8 213 "ThrownHome$Kept" "held" "I" "ThrownHome" ∈ NEST := nw 209 (by decide +kernel) rfl
theorem w_217 : Cond.classLink RX8 54 RX7 ∈ BIG := bw 217 (by decide +kernel) rfl
theorem w_218 : Cond.instantiable RX7 1 ∈ BIG := bw 218 (by decide +kernel) rfl
theorem w_219 : Cond.methodLinkNest RX8 56 yX7_init "ThrownHome" ∈ NEST := nw 219 (by decide +kernel) rfl
theorem w_220 : Cond.instanceMethod yX7_init ∈ BIG := bw 220 (by decide +kernel) rfl
theorem w_221 : Cond.code yX7_init cX7_init 1 none ∈ BIG := bw 221 (by decide +kernel) rfl
theorem w_222 : Cond.methodLink RX7 3 objectInit ∈ BIG := bw 222 (by decide +kernel) rfl
theorem w_223 : Cond.fieldLink RX7 9 "ThrownHome$Turns" "need" "[I" ∈ BIG := bw 223 (by decide +kernel) rfl
theorem w_227 : Cond.methodLink RX8 65 yX5_add ∈ BIG := bw 227 (by decide +kernel) rfl
theorem w_228 : Cond.instanceMethod yX5_add ∈ BIG := bw 228 (by decide +kernel) rfl
theorem w_229 : Cond.selects RX5 yX5_add yX5_add ∈ BIG := bw 229 (by decide +kernel) rfl
theorem w_230 : Cond.code yX5_add cX5_add 5 (some .boolean) ∈ BIG := bw 230 (by decide +kernel) rfl
theorem w_231 : Cond.methodLink RX5 29 yX5_set ∈ BIG := bw 231 (by decide +kernel) rfl
theorem w_232 : Cond.instanceMethod yX5_set ∈ BIG := bw 232 (by decide +kernel) rfl
theorem w_233 : Cond.selects RX5 yX5_set yX5_set ∈ BIG := bw 233 (by decide +kernel) rfl
theorem w_234 : Cond.code yX5_set cX5_set 4 none ∈ BIG := bw 234 (by decide +kernel) rfl
theorem w_235 : Cond.fieldLink RX8 10 "ThrownHome" "text" "LThrownHome$Text;" ∈ BIG := bw 235 (by decide +kernel) rfl
theorem w_236 : Cond.fieldLink RX8 19 "ThrownHome" "reader" "LThrownHome$Reader;" ∈ BIG := bw 236 (by decide +kernel) rfl
theorem w_237 : Cond.fieldLink RX8 26 "ThrownHome" "laid" "LThrownHome$Plan;" ∈ BIG := bw 237 (by decide +kernel) rfl
theorem w_238 : Cond.fieldLink RX8 30 "ThrownHome" "trial" "LThrownHome$Plan;" ∈ BIG := bw 238 (by decide +kernel) rfl
theorem w_239 : Cond.fieldLink RX8 36 "ThrownHome" "flight" "LThrownHome$Flight;" ∈ BIG := bw 239 (by decide +kernel) rfl
theorem w_240 : Cond.fieldLink RX8 43 "ThrownHome" "changes" "LThrownHome$Changes;" ∈ BIG := bw 240 (by decide +kernel) rfl
theorem w_241 : Cond.fieldLink RX8 50 "ThrownHome" "kept" "LThrownHome$Kept;" ∈ BIG := bw 241 (by decide +kernel) rfl
theorem w_242 : Cond.fieldLink RX8 57 "ThrownHome" "turns" "LThrownHome$Turns;" ∈ BIG := bw 242 (by decide +kernel) rfl
theorem w_260 : Cond.methodLink RL 15 yX8_write ∈ BIG := bw 260 (by decide +kernel) rfl
theorem w_261 : Cond.instanceMethod yX8_write ∈ BIG := bw 261 (by decide +kernel) rfl
theorem w_262 : Cond.selects RX8 yX8_write yX8_write ∈ BIG := bw 262 (by decide +kernel) rfl
theorem w_263 : Cond.code yX8_write cX8_write 5 (some .int) ∈ BIG := bw 263 (by decide +kernel) rfl
theorem w_264 : Cond.methodLink RX8 74 yX8_within ∈ BIG := bw 264 (by decide +kernel) rfl
theorem w_265 : Cond.static yX8_within ∈ BIG := bw 265 (by decide +kernel) rfl
theorem w_266 : Cond.code yX8_within cX8_within 3 (some .boolean) ∈ BIG := bw 266 (by decide +kernel) rfl
theorem w_267 : Cond.methodLink RX8 82 yX6_append ∈ BIG := bw 267 (by decide +kernel) rfl
theorem w_268 : Cond.instanceMethod yX6_append ∈ BIG := bw 268 (by decide +kernel) rfl
theorem w_269 : Cond.selects RX6 yX6_append yX6_append ∈ BIG := bw 269 (by decide +kernel) rfl
theorem w_270 : Cond.code yX6_append cX6_append 2 none ∈ BIG := bw 270 (by decide +kernel) rfl
theorem w_271 : Cond.methodLinkNest RX6 19 yX8_put "ThrownHome" ∈ NEST := nw 271 (by decide +kernel) rfl
theorem w_272 : Cond.static yX8_put ∈ BIG := bw 272 (by decide +kernel) rfl
theorem w_273 : Cond.code yX8_put cX8_put 3 none ∈ BIG := bw 273 (by decide +kernel) rfl
theorem w_274 : Cond.methodLink RL 20 yX8_wipe ∈ BIG := bw 274 (by decide +kernel) rfl
theorem w_275 : Cond.instanceMethod yX8_wipe ∈ BIG := bw 275 (by decide +kernel) rfl
theorem w_276 : Cond.selects RX8 yX8_wipe yX8_wipe ∈ BIG := bw 276 (by decide +kernel) rfl
theorem w_277 : Cond.code yX8_wipe cX8_wipe 2 (some .int) ∈ BIG := bw 277 (by decide +kernel) rfl
theorem w_278 : Cond.methodLink RL 25 yX8_fault ∈ BIG := bw 278 (by decide +kernel) rfl
theorem w_279 : Cond.instanceMethod yX8_fault ∈ BIG := bw 279 (by decide +kernel) rfl
theorem w_280 : Cond.selects RX8 yX8_fault yX8_fault ∈ BIG := bw 280 (by decide +kernel) rfl
theorem w_281 : Cond.code yX8_fault cX8_fault 1 (some .int) ∈ BIG := bw 281 (by decide +kernel) rfl
theorem w_282 : Cond.methodLink RX8 86 yX4_firstFault ∈ BIG := bw 282 (by decide +kernel) rfl
theorem w_283 : Cond.instanceMethod yX4_firstFault ∈ BIG := bw 283 (by decide +kernel) rfl
theorem w_284 : Cond.selects RX4 yX4_firstFault yX4_firstFault ∈ BIG := bw 284 (by decide +kernel) rfl
theorem w_285 : Cond.code yX4_firstFault cX4_firstFault 5 (some .int) ∈ BIG := bw 285 (by decide +kernel) rfl
theorem w_286 : Cond.methodLink RX4 19 yX3_makeBare ∈ BIG := bw 286 (by decide +kernel) rfl
theorem w_287 : Cond.methodLink RX4 29 yX4_readItem ∈ BIG := bw 287 (by decide +kernel) rfl
theorem w_289 : Cond.instanceMethod yX4_readItem ∈ BIG := bw 289 (by decide +kernel) rfl
theorem w_290 : Cond.code yX4_readItem cX4_readItem 7 (some .boolean) ∈ BIG := bw 290 (by decide +kernel) rfl
theorem w_291 : Cond.methodLink RX4 33 yX6_signAt ∈ BIG := bw 291 (by decide +kernel) rfl
theorem w_292 : Cond.instanceMethod yX6_signAt ∈ BIG := bw 292 (by decide +kernel) rfl
theorem w_293 : Cond.selects RX6 yX6_signAt yX6_signAt ∈ BIG := bw 293 (by decide +kernel) rfl
theorem w_294 : Cond.code yX6_signAt cX6_signAt 2 (some .int) ∈ BIG := bw 294 (by decide +kernel) rfl
theorem w_295 : Cond.methodLinkNest RX6 23 yX8_at "ThrownHome" ∈ NEST := nw 295 (by decide +kernel) rfl
theorem w_296 : Cond.static yX8_at ∈ BIG := bw 296 (by decide +kernel) rfl
theorem w_297 : Cond.code yX8_at cX8_at 2 (some .int) ∈ BIG := bw 297 (by decide +kernel) rfl
theorem w_298 : Cond.methodLink RX4 37 yX4_numbersBehind ∈ BIG := bw 298 (by decide +kernel) rfl
theorem w_299 : Cond.static yX4_numbersBehind ∈ BIG := bw 299 (by decide +kernel) rfl
theorem w_300 : Cond.code yX4_numbersBehind cX4_numbersBehind 1 (some .int) ∈ BIG := bw 300 (by decide +kernel) rfl
theorem w_301 : Cond.methodLink RX4 40 yX4_readNumber ∈ BIG := bw 301 (by decide +kernel) rfl
theorem w_303 : Cond.instanceMethod yX4_readNumber ∈ BIG := bw 303 (by decide +kernel) rfl
theorem w_304 : Cond.code yX4_readNumber cX4_readNumber 4 (some .boolean) ∈ BIG := bw 304 (by decide +kernel) rfl
theorem w_305 : Cond.methodLink RX4 52 yX4_isFigure ∈ BIG := bw 305 (by decide +kernel) rfl
theorem w_306 : Cond.static yX4_isFigure ∈ BIG := bw 306 (by decide +kernel) rfl
theorem w_307 : Cond.code yX4_isFigure cX4_isFigure 1 (some .boolean) ∈ BIG := bw 307 (by decide +kernel) rfl
theorem w_308 : Cond.methodLinkNest RX4 56 yX8_put "ThrownHome" ∈ NEST := nw 308 (by decide +kernel) rfl
theorem w_309 : Cond.methodLinkNest RX4 44 yX8_at "ThrownHome" ∈ NEST := nw 309 (by decide +kernel) rfl
theorem w_310 : Cond.methodLink RX4 48 yX3_tell ∈ BIG := bw 310 (by decide +kernel) rfl
theorem w_311 : Cond.instanceMethod yX3_tell ∈ BIG := bw 311 (by decide +kernel) rfl
theorem w_312 : Cond.selects RX3 yX3_tell yX3_tell ∈ BIG := bw 312 (by decide +kernel) rfl
theorem w_313 : Cond.code yX3_tell cX3_tell 6 (some .boolean) ∈ BIG := bw 313 (by decide +kernel) rfl
theorem w_314 : Cond.methodLink RX3 46 yX3_tellRock ∈ BIG := bw 314 (by decide +kernel) rfl
theorem w_316 : Cond.instanceMethod yX3_tellRock ∈ BIG := bw 316 (by decide +kernel) rfl
theorem w_317 : Cond.code yX3_tellRock cX3_tellRock 3 (some .boolean) ∈ BIG := bw 317 (by decide +kernel) rfl
theorem w_318 : Cond.methodLinkNest RX3 60 yX8_within "ThrownHome" ∈ NEST := nw 318 (by decide +kernel) rfl
theorem w_319 : Cond.methodLink RX3 50 yX3_tellThrow ∈ BIG := bw 319 (by decide +kernel) rfl
theorem w_321 : Cond.instanceMethod yX3_tellThrow ∈ BIG := bw 321 (by decide +kernel) rfl
theorem w_322 : Cond.code yX3_tellThrow cX3_tellThrow 5 (some .boolean) ∈ BIG := bw 322 (by decide +kernel) rfl
theorem w_323 : Cond.methodLink RX3 64 yX5_add ∈ BIG := bw 323 (by decide +kernel) rfl
theorem w_324 : Cond.methodLink RX3 54 yX3_tellNet ∈ BIG := bw 324 (by decide +kernel) rfl
theorem w_326 : Cond.instanceMethod yX3_tellNet ∈ BIG := bw 326 (by decide +kernel) rfl
theorem w_327 : Cond.code yX3_tellNet cX3_tellNet 5 (some .boolean) ∈ BIG := bw 327 (by decide +kernel) rfl
theorem w_328 : Cond.methodLink RX3 57 yX3_tellPrice ∈ BIG := bw 328 (by decide +kernel) rfl
theorem w_330 : Cond.instanceMethod yX3_tellPrice ∈ BIG := bw 330 (by decide +kernel) rfl
theorem w_331 : Cond.code yX3_tellPrice cX3_tellPrice 3 (some .boolean) ∈ BIG := bw 331 (by decide +kernel) rfl
theorem w_332 : Cond.methodLink RL 29 yX8_lay ∈ BIG := bw 332 (by decide +kernel) rfl
theorem w_333 : Cond.instanceMethod yX8_lay ∈ BIG := bw 333 (by decide +kernel) rfl
theorem w_334 : Cond.selects RX8 yX8_lay yX8_lay ∈ BIG := bw 334 (by decide +kernel) rfl
theorem w_335 : Cond.code yX8_lay cX8_lay 1 (some .int) ∈ BIG := bw 335 (by decide +kernel) rfl
theorem w_336 : Cond.methodLink RX8 90 yX5_rows ∈ BIG := bw 336 (by decide +kernel) rfl
theorem w_337 : Cond.instanceMethod yX5_rows ∈ BIG := bw 337 (by decide +kernel) rfl
theorem w_338 : Cond.selects RX5 yX5_rows yX5_rows ∈ BIG := bw 338 (by decide +kernel) rfl
theorem w_339 : Cond.code yX5_rows cX5_rows 1 (some .int) ∈ BIG := bw 339 (by decide +kernel) rfl
theorem w_340 : Cond.methodLink RX8 94 yX3_takeOver ∈ BIG := bw 340 (by decide +kernel) rfl
theorem w_341 : Cond.instanceMethod yX3_takeOver ∈ BIG := bw 341 (by decide +kernel) rfl
theorem w_342 : Cond.selects RX3 yX3_takeOver yX3_takeOver ∈ BIG := bw 342 (by decide +kernel) rfl
theorem w_343 : Cond.code yX3_takeOver cX3_takeOver 2 none ∈ BIG := bw 343 (by decide +kernel) rfl
theorem w_344 : Cond.methodLink RX3 42 yX5_takeOver ∈ BIG := bw 344 (by decide +kernel) rfl
theorem w_345 : Cond.instanceMethod yX5_takeOver ∈ BIG := bw 345 (by decide +kernel) rfl
theorem w_346 : Cond.selects RX5 yX5_takeOver yX5_takeOver ∈ BIG := bw 346 (by decide +kernel) rfl
theorem w_347 : Cond.code yX5_takeOver cX5_takeOver 2 none ∈ BIG := bw 347 (by decide +kernel) rfl
theorem w_348 : Cond.methodLink RX5 33 Lib.Math.min.name ∈ BIG := bw 348 (by decide +kernel) rfl
theorem w_349 : Cond.static Lib.Math.min.name ∈ BIG := bw 349 (by decide +kernel) rfl
theorem w_350 : Cond.code Lib.Math.min.name Lib.Math.min.code 2 (some .int) ∈ BIG := bw 350 (by decide +kernel) rfl
theorem w_351 : Cond.methodLink RX5 36 arraycopyName ∈ BIG := bw 351 (by decide +kernel) rfl
theorem w_352 : Cond.static arraycopyName ∈ BIG := bw 352 (by decide +kernel) rfl
theorem w_353 : Cond.native arraycopyName ∈ BIG := bw 353 (by decide +kernel) rfl
theorem w_354 : Cond.methodLink RX8 98 yX0_forget ∈ BIG := bw 354 (by decide +kernel) rfl
theorem w_355 : Cond.instanceMethod yX0_forget ∈ BIG := bw 355 (by decide +kernel) rfl
theorem w_356 : Cond.selects RX0 yX0_forget yX0_forget ∈ BIG := bw 356 (by decide +kernel) rfl
theorem w_357 : Cond.code yX0_forget cX0_forget 1 none ∈ BIG := bw 357 (by decide +kernel) rfl
theorem w_358 : Cond.methodLink RX8 101 yX2_forget ∈ BIG := bw 358 (by decide +kernel) rfl
theorem w_359 : Cond.instanceMethod yX2_forget ∈ BIG := bw 359 (by decide +kernel) rfl
theorem w_360 : Cond.selects RX2 yX2_forget yX2_forget ∈ BIG := bw 360 (by decide +kernel) rfl
theorem w_361 : Cond.code yX2_forget cX2_forget 1 none ∈ BIG := bw 361 (by decide +kernel) rfl
theorem w_362 : Cond.methodLink RL 33 yX8_load ∈ BIG := bw 362 (by decide +kernel) rfl
theorem w_363 : Cond.instanceMethod yX8_load ∈ BIG := bw 363 (by decide +kernel) rfl
theorem w_364 : Cond.selects RX8 yX8_load yX8_load ∈ BIG := bw 364 (by decide +kernel) rfl
theorem w_365 : Cond.code yX8_load cX8_load 3 (some .int) ∈ BIG := bw 365 (by decide +kernel) rfl
theorem w_366 : Cond.methodLink RX8 102 yX5_has ∈ BIG := bw 366 (by decide +kernel) rfl
theorem w_367 : Cond.instanceMethod yX5_has ∈ BIG := bw 367 (by decide +kernel) rfl
theorem w_368 : Cond.selects RX5 yX5_has yX5_has ∈ BIG := bw 368 (by decide +kernel) rfl
theorem w_369 : Cond.code yX5_has cX5_has 2 (some .boolean) ∈ BIG := bw 369 (by decide +kernel) rfl
theorem w_370 : Cond.methodLink RX8 106 yX1_fly ∈ BIG := bw 370 (by decide +kernel) rfl
theorem w_371 : Cond.instanceMethod yX1_fly ∈ BIG := bw 371 (by decide +kernel) rfl
theorem w_372 : Cond.selects RX1 yX1_fly yX1_fly ∈ BIG := bw 372 (by decide +kernel) rfl
theorem w_373 : Cond.code yX1_fly cX1_fly 5 none ∈ BIG := bw 373 (by decide +kernel) rfl
theorem w_374 : Cond.methodLink RX1 39 yX5_rows ∈ BIG := bw 374 (by decide +kernel) rfl
theorem w_375 : Cond.methodLink RX1 43 yX5_get ∈ BIG := bw 375 (by decide +kernel) rfl
theorem w_376 : Cond.instanceMethod yX5_get ∈ BIG := bw 376 (by decide +kernel) rfl
theorem w_377 : Cond.selects RX5 yX5_get yX5_get ∈ BIG := bw 377 (by decide +kernel) rfl
theorem w_378 : Cond.code yX5_get cX5_get 4 (some .int) ∈ BIG := bw 378 (by decide +kernel) rfl
theorem w_379 : Cond.methodLink RX1 47 yX5_set ∈ BIG := bw 379 (by decide +kernel) rfl
theorem w_380 : Cond.methodLink RX1 51 yX1_lineUp ∈ BIG := bw 380 (by decide +kernel) rfl
theorem w_382 : Cond.instanceMethod yX1_lineUp ∈ BIG := bw 382 (by decide +kernel) rfl
theorem w_383 : Cond.code yX1_lineUp cX1_lineUp 3 none ∈ BIG := bw 383 (by decide +kernel) rfl
theorem w_384 : Cond.methodLinkNest RX1 71 yX8_at "ThrownHome" ∈ NEST := nw 384 (by decide +kernel) rfl
theorem w_385 : Cond.methodLinkNest RX1 75 yX8_put "ThrownHome" ∈ NEST := nw 385 (by decide +kernel) rfl
theorem w_386 : Cond.methodLink RX1 58 yX1_throwAll ∈ BIG := bw 386 (by decide +kernel) rfl
theorem w_388 : Cond.instanceMethod yX1_throwAll ∈ BIG := bw 388 (by decide +kernel) rfl
theorem w_389 : Cond.code yX1_throwAll cX1_throwAll 4 none ∈ BIG := bw 389 (by decide +kernel) rfl
theorem w_390 : Cond.methodLink RX1 79 yX1_turnBy ∈ BIG := bw 390 (by decide +kernel) rfl
theorem w_392 : Cond.instanceMethod yX1_turnBy ∈ BIG := bw 392 (by decide +kernel) rfl
theorem w_393 : Cond.code yX1_turnBy cX1_turnBy 2 (some .int) ∈ BIG := bw 393 (by decide +kernel) rfl
theorem w_394 : Cond.methodLink RX1 83 yJ9_floorMod_7cf53 ∈ BIG := bw 394 (by decide +kernel) rfl
theorem w_395 : Cond.static yJ9_floorMod_7cf53 ∈ BIG := bw 395 (by decide +kernel) rfl
theorem w_396 : Cond.code yJ9_floorMod_7cf53 cJ9_floorMod_7cf53 3 (some .int) ∈ BIG := bw 396 (by decide +kernel) rfl
theorem w_397 : Cond.methodLink RX1 64 yX1_meetAll ∈ BIG := bw 397 (by decide +kernel) rfl
theorem w_399 : Cond.instanceMethod yX1_meetAll ∈ BIG := bw 399 (by decide +kernel) rfl
theorem w_400 : Cond.code yX1_meetAll cX1_meetAll 4 none ∈ BIG := bw 400 (by decide +kernel) rfl
theorem w_401 : Cond.methodLink RX1 88 yX1_nextMeeting ∈ BIG := bw 401 (by decide +kernel) rfl
theorem w_403 : Cond.instanceMethod yX1_nextMeeting ∈ BIG := bw 403 (by decide +kernel) rfl
theorem w_404 : Cond.code yX1_nextMeeting cX1_nextMeeting 7 (some .int) ∈ BIG := bw 404 (by decide +kernel) rfl
theorem w_405 : Cond.methodLink RX1 94 yX1_meetingOf ∈ BIG := bw 405 (by decide +kernel) rfl
theorem w_407 : Cond.instanceMethod yX1_meetingOf ∈ BIG := bw 407 (by decide +kernel) rfl
theorem w_408 : Cond.code yX1_meetingOf cX1_meetingOf 4 (some .int) ∈ BIG := bw 408 (by decide +kernel) rfl
theorem w_409 : Cond.methodLinkNest RX1 101 yX8_meetingDay "ThrownHome" ∈ NEST := nw 409 (by decide +kernel) rfl
theorem w_410 : Cond.static yX8_meetingDay ∈ BIG := bw 410 (by decide +kernel) rfl
theorem w_411 : Cond.code yX8_meetingDay cX8_meetingDay 9 (some .int) ∈ BIG := bw 411 (by decide +kernel) rfl
theorem w_412 : Cond.methodLink RX1 98 Lib.Math.min.name ∈ BIG := bw 412 (by decide +kernel) rfl
theorem w_413 : Cond.methodLink RX1 91 yX1_loseOn ∈ BIG := bw 413 (by decide +kernel) rfl
theorem w_415 : Cond.instanceMethod yX1_loseOn ∈ BIG := bw 415 (by decide +kernel) rfl
theorem w_416 : Cond.code yX1_loseOn cX1_loseOn 8 none ∈ BIG := bw 416 (by decide +kernel) rfl
theorem w_417 : Cond.methodLink RX1 67 yX1_bringHome ∈ BIG := bw 417 (by decide +kernel) rfl
theorem w_419 : Cond.instanceMethod yX1_bringHome ∈ BIG := bw 419 (by decide +kernel) rfl
theorem w_420 : Cond.code yX1_bringHome cX1_bringHome 4 none ∈ BIG := bw 420 (by decide +kernel) rfl
theorem w_421 : Cond.methodLink RX1 105 yX1_come ∈ BIG := bw 421 (by decide +kernel) rfl
theorem w_423 : Cond.instanceMethod yX1_come ∈ BIG := bw 423 (by decide +kernel) rfl
theorem w_424 : Cond.code yX1_come cX1_come 9 none ∈ BIG := bw 424 (by decide +kernel) rfl
theorem w_425 : Cond.methodLink RX1 109 Lib.Math.max.name ∈ BIG := bw 425 (by decide +kernel) rfl
theorem w_426 : Cond.methodLink RX1 112 yX3_catches ∈ BIG := bw 426 (by decide +kernel) rfl
theorem w_427 : Cond.instanceMethod yX3_catches ∈ BIG := bw 427 (by decide +kernel) rfl
theorem w_428 : Cond.selects RX3 yX3_catches yX3_catches ∈ BIG := bw 428 (by decide +kernel) rfl
theorem w_429 : Cond.code yX3_catches cX3_catches 5 (some .boolean) ∈ BIG := bw 429 (by decide +kernel) rfl
theorem w_430 : Cond.methodLink RX3 67 yX5_rows ∈ BIG := bw 430 (by decide +kernel) rfl
theorem w_431 : Cond.methodLink RX3 71 yX5_get ∈ BIG := bw 431 (by decide +kernel) rfl
theorem w_432 : Cond.methodLinkNest RX3 75 yX8_apart "ThrownHome" ∈ NEST := nw 432 (by decide +kernel) rfl
theorem w_433 : Cond.static yX8_apart ∈ BIG := bw 433 (by decide +kernel) rfl
theorem w_434 : Cond.code yX8_apart cX8_apart 3 (some .int) ∈ BIG := bw 434 (by decide +kernel) rfl
theorem w_435 : Cond.methodLink RX8 177 yJ9_floorMod_7cf53 ∈ BIG := bw 435 (by decide +kernel) rfl
theorem w_436 : Cond.methodLink RX8 154 Lib.Math.min.name ∈ BIG := bw 436 (by decide +kernel) rfl
theorem w_437 : Cond.methodLink RX1 116 yX3_priceOn ∈ BIG := bw 437 (by decide +kernel) rfl
theorem w_438 : Cond.instanceMethod yX3_priceOn ∈ BIG := bw 438 (by decide +kernel) rfl
theorem w_439 : Cond.selects RX3 yX3_priceOn yX3_priceOn ∈ BIG := bw 439 (by decide +kernel) rfl
theorem w_440 : Cond.code yX3_priceOn cX3_priceOn 2 (some .int) ∈ BIG := bw 440 (by decide +kernel) rfl
theorem w_441 : Cond.methodLink RX8 110 yX1_known ∈ BIG := bw 441 (by decide +kernel) rfl
theorem w_442 : Cond.instanceMethod yX1_known ∈ BIG := bw 442 (by decide +kernel) rfl
theorem w_443 : Cond.selects RX1 yX1_known yX1_known ∈ BIG := bw 443 (by decide +kernel) rfl
theorem w_444 : Cond.code yX1_known cX1_known 3 (some .int) ∈ BIG := bw 444 (by decide +kernel) rfl
theorem w_445 : Cond.methodLink RL 38 yX8_far ∈ BIG := bw 445 (by decide +kernel) rfl
theorem w_446 : Cond.instanceMethod yX8_far ∈ BIG := bw 446 (by decide +kernel) rfl
theorem w_447 : Cond.selects RX8 yX8_far yX8_far ∈ BIG := bw 447 (by decide +kernel) rfl
theorem w_448 : Cond.code yX8_far cX8_far 3 (some .int) ∈ BIG := bw 448 (by decide +kernel) rfl
theorem w_449 : Cond.methodLink RX8 114 yX1_farOn ∈ BIG := bw 449 (by decide +kernel) rfl
theorem w_450 : Cond.instanceMethod yX1_farOn ∈ BIG := bw 450 (by decide +kernel) rfl
theorem w_451 : Cond.selects RX1 yX1_farOn yX1_farOn ∈ BIG := bw 451 (by decide +kernel) rfl
theorem w_452 : Cond.code yX1_farOn cX1_farOn 5 (some .int) ∈ BIG := bw 452 (by decide +kernel) rfl
theorem w_453 : Cond.methodLink RL 42 yX8_rock ∈ BIG := bw 453 (by decide +kernel) rfl
theorem w_454 : Cond.instanceMethod yX8_rock ∈ BIG := bw 454 (by decide +kernel) rfl
theorem w_455 : Cond.selects RX8 yX8_rock yX8_rock ∈ BIG := bw 455 (by decide +kernel) rfl
theorem w_456 : Cond.code yX8_rock cX8_rock 2 (some .int) ∈ BIG := bw 456 (by decide +kernel) rfl
theorem w_457 : Cond.methodLink RX8 117 yX1_standBehind ∈ BIG := bw 457 (by decide +kernel) rfl
theorem w_458 : Cond.instanceMethod yX1_standBehind ∈ BIG := bw 458 (by decide +kernel) rfl
theorem w_459 : Cond.selects RX1 yX1_standBehind yX1_standBehind ∈ BIG := bw 459 (by decide +kernel) rfl
theorem w_460 : Cond.code yX1_standBehind cX1_standBehind 5 (some .int) ∈ BIG := bw 460 (by decide +kernel) rfl
theorem w_461 : Cond.methodLink RL 47 yX8_price ∈ BIG := bw 461 (by decide +kernel) rfl
theorem w_462 : Cond.instanceMethod yX8_price ∈ BIG := bw 462 (by decide +kernel) rfl
theorem w_463 : Cond.selects RX8 yX8_price yX8_price ∈ BIG := bw 463 (by decide +kernel) rfl
theorem w_464 : Cond.code yX8_price cX8_price 2 (some .int) ∈ BIG := bw 464 (by decide +kernel) rfl
theorem w_465 : Cond.methodLink RX8 121 yX3_priceOn ∈ BIG := bw 465 (by decide +kernel) rfl
theorem w_466 : Cond.methodLink RL 51 yX8_all ∈ BIG := bw 466 (by decide +kernel) rfl
theorem w_467 : Cond.instanceMethod yX8_all ∈ BIG := bw 467 (by decide +kernel) rfl
theorem w_468 : Cond.selects RX8 yX8_all yX8_all ∈ BIG := bw 468 (by decide +kernel) rfl
theorem w_469 : Cond.code yX8_all cX8_all 2 (some .int) ∈ BIG := bw 469 (by decide +kernel) rfl
theorem w_470 : Cond.methodLink RX8 124 yX1_paidInAll ∈ BIG := bw 470 (by decide +kernel) rfl
theorem w_471 : Cond.instanceMethod yX1_paidInAll ∈ BIG := bw 471 (by decide +kernel) rfl
theorem w_472 : Cond.selects RX1 yX1_paidInAll yX1_paidInAll ∈ BIG := bw 472 (by decide +kernel) rfl
theorem w_473 : Cond.code yX1_paidInAll cX1_paidInAll 3 (some .int) ∈ BIG := bw 473 (by decide +kernel) rfl
theorem w_474 : Cond.methodLink RX8 127 yX1_howMany ∈ BIG := bw 474 (by decide +kernel) rfl
theorem w_475 : Cond.instanceMethod yX1_howMany ∈ BIG := bw 475 (by decide +kernel) rfl
theorem w_476 : Cond.selects RX1 yX1_howMany yX1_howMany ∈ BIG := bw 476 (by decide +kernel) rfl
theorem w_477 : Cond.code yX1_howMany cX1_howMany 4 (some .int) ∈ BIG := bw 477 (by decide +kernel) rfl
theorem w_478 : Cond.methodLink RL 55 yX8_aim ∈ BIG := bw 478 (by decide +kernel) rfl
theorem w_479 : Cond.instanceMethod yX8_aim ∈ BIG := bw 479 (by decide +kernel) rfl
theorem w_480 : Cond.selects RX8 yX8_aim yX8_aim ∈ BIG := bw 480 (by decide +kernel) rfl
theorem w_481 : Cond.code yX8_aim cX8_aim 3 (some .int) ∈ BIG := bw 481 (by decide +kernel) rfl
theorem w_482 : Cond.methodLink RX8 130 yX8_change ∈ BIG := bw 482 (by decide +kernel) rfl
theorem w_484 : Cond.instanceMethod yX8_change ∈ BIG := bw 484 (by decide +kernel) rfl
theorem w_485 : Cond.code yX8_change cX8_change 6 (some .int) ∈ BIG := bw 485 (by decide +kernel) rfl
theorem w_486 : Cond.methodLink RX8 141 yX5_get ∈ BIG := bw 486 (by decide +kernel) rfl
theorem w_487 : Cond.methodLink RX8 144 yX0_note ∈ BIG := bw 487 (by decide +kernel) rfl
theorem w_488 : Cond.instanceMethod yX0_note ∈ BIG := bw 488 (by decide +kernel) rfl
theorem w_489 : Cond.selects RX0 yX0_note yX0_note ∈ BIG := bw 489 (by decide +kernel) rfl
theorem w_490 : Cond.code yX0_note cX0_note 4 none ∈ BIG := bw 490 (by decide +kernel) rfl
theorem w_491 : Cond.methodLink RX0 25 yX0_dropOldest ∈ BIG := bw 491 (by decide +kernel) rfl
theorem w_493 : Cond.instanceMethod yX0_dropOldest ∈ BIG := bw 493 (by decide +kernel) rfl
theorem w_494 : Cond.code yX0_dropOldest cX0_dropOldest 2 none ∈ BIG := bw 494 (by decide +kernel) rfl
theorem w_495 : Cond.methodLinkNest RX0 32 yX8_at "ThrownHome" ∈ NEST := nw 495 (by decide +kernel) rfl
theorem w_496 : Cond.methodLinkNest RX0 28 yX8_put "ThrownHome" ∈ NEST := nw 496 (by decide +kernel) rfl
theorem w_497 : Cond.methodLink RX8 148 yX5_set ∈ BIG := bw 497 (by decide +kernel) rfl
theorem w_498 : Cond.methodLink RL 59 yX8_move ∈ BIG := bw 498 (by decide +kernel) rfl
theorem w_499 : Cond.instanceMethod yX8_move ∈ BIG := bw 499 (by decide +kernel) rfl
theorem w_500 : Cond.selects RX8 yX8_move yX8_move ∈ BIG := bw 500 (by decide +kernel) rfl
theorem w_501 : Cond.code yX8_move cX8_move 3 (some .int) ∈ BIG := bw 501 (by decide +kernel) rfl
theorem w_502 : Cond.methodLink RL 63 yX8_speed ∈ BIG := bw 502 (by decide +kernel) rfl
theorem w_503 : Cond.instanceMethod yX8_speed ∈ BIG := bw 503 (by decide +kernel) rfl
theorem w_504 : Cond.selects RX8 yX8_speed yX8_speed ∈ BIG := bw 504 (by decide +kernel) rfl
theorem w_505 : Cond.code yX8_speed cX8_speed 3 (some .int) ∈ BIG := bw 505 (by decide +kernel) rfl
theorem w_506 : Cond.methodLink RL 67 yX8_undo ∈ BIG := bw 506 (by decide +kernel) rfl
theorem w_507 : Cond.instanceMethod yX8_undo ∈ BIG := bw 507 (by decide +kernel) rfl
theorem w_508 : Cond.selects RX8 yX8_undo yX8_undo ∈ BIG := bw 508 (by decide +kernel) rfl
theorem w_509 : Cond.code yX8_undo cX8_undo 1 (some .int) ∈ BIG := bw 509 (by decide +kernel) rfl
theorem w_510 : Cond.methodLink RX8 134 yX0_takeBack ∈ BIG := bw 510 (by decide +kernel) rfl
theorem w_511 : Cond.instanceMethod yX0_takeBack ∈ BIG := bw 511 (by decide +kernel) rfl
theorem w_512 : Cond.selects RX0 yX0_takeBack yX0_takeBack ∈ BIG := bw 512 (by decide +kernel) rfl
theorem w_513 : Cond.code yX0_takeBack cX0_takeBack 2 (some .boolean) ∈ BIG := bw 513 (by decide +kernel) rfl
theorem w_514 : Cond.methodLink RX0 36 yX5_set ∈ BIG := bw 514 (by decide +kernel) rfl
theorem w_515 : Cond.methodLink RL 71 yX8_bestAim ∈ BIG := bw 515 (by decide +kernel) rfl
theorem w_516 : Cond.instanceMethod yX8_bestAim ∈ BIG := bw 516 (by decide +kernel) rfl
theorem w_517 : Cond.selects RX8 yX8_bestAim yX8_bestAim ∈ BIG := bw 517 (by decide +kernel) rfl
theorem w_518 : Cond.code yX8_bestAim cX8_bestAim 6 (some .int) ∈ BIG := bw 518 (by decide +kernel) rfl
theorem w_519 : Cond.methodLink RL 75 yX8_bestDay ∈ BIG := bw 519 (by decide +kernel) rfl
theorem w_520 : Cond.instanceMethod yX8_bestDay ∈ BIG := bw 520 (by decide +kernel) rfl
theorem w_521 : Cond.selects RX8 yX8_bestDay yX8_bestDay ∈ BIG := bw 521 (by decide +kernel) rfl
theorem w_522 : Cond.code yX8_bestDay cX8_bestDay 6 (some .int) ∈ BIG := bw 522 (by decide +kernel) rfl
theorem w_523 : Cond.methodLink RL 79 yX8_net ∈ BIG := bw 523 (by decide +kernel) rfl
theorem w_524 : Cond.instanceMethod yX8_net ∈ BIG := bw 524 (by decide +kernel) rfl
theorem w_525 : Cond.selects RX8 yX8_net yX8_net ∈ BIG := bw 525 (by decide +kernel) rfl
theorem w_526 : Cond.code yX8_net cX8_net 7 (some .int) ∈ BIG := bw 526 (by decide +kernel) rfl
theorem w_527 : Cond.methodLink RX8 151 yX1_caughtWith ∈ BIG := bw 527 (by decide +kernel) rfl
theorem w_528 : Cond.instanceMethod yX1_caughtWith ∈ BIG := bw 528 (by decide +kernel) rfl
theorem w_529 : Cond.selects RX1 yX1_caughtWith yX1_caughtWith ∈ BIG := bw 529 (by decide +kernel) rfl
theorem w_530 : Cond.code yX1_caughtWith cX1_caughtWith 7 (some .int) ∈ BIG := bw 530 (by decide +kernel) rfl
theorem w_531 : Cond.methodLinkNest RX1 119 yX8_apart "ThrownHome" ∈ NEST := nw 531 (by decide +kernel) rfl
theorem w_532 : Cond.methodLink RL 83 yX8_clear ∈ BIG := bw 532 (by decide +kernel) rfl
theorem w_533 : Cond.instanceMethod yX8_clear ∈ BIG := bw 533 (by decide +kernel) rfl
theorem w_534 : Cond.selects RX8 yX8_clear yX8_clear ∈ BIG := bw 534 (by decide +kernel) rfl
theorem w_535 : Cond.code yX8_clear cX8_clear 5 (some .int) ∈ BIG := bw 535 (by decide +kernel) rfl
theorem w_536 : Cond.methodLink RX8 159 yJ6_bitCount_0f7a4 ∈ BIG := bw 536 (by decide +kernel) rfl
theorem w_537 : Cond.static yJ6_bitCount_0f7a4 ∈ BIG := bw 537 (by decide +kernel) rfl
theorem w_538 : Cond.code yJ6_bitCount_0f7a4 cJ6_bitCount_0f7a4 1 (some .int) ∈ BIG := bw 538 (by decide +kernel) rfl
theorem w_539 : Cond.constant RJ6 265 (1431655765) ∈ BIG := bw 539 (by decide +kernel) rfl
theorem w_540 : Cond.constant RJ6 266 (858993459) ∈ BIG := bw 540 (by decide +kernel) rfl
theorem w_541 : Cond.constant RJ6 267 (252645135) ∈ BIG := bw 541 (by decide +kernel) rfl
theorem w_542 : Cond.methodLink RL 87 yX8_stray ∈ BIG := bw 542 (by decide +kernel) rfl
theorem w_543 : Cond.instanceMethod yX8_stray ∈ BIG := bw 543 (by decide +kernel) rfl
theorem w_544 : Cond.selects RX8 yX8_stray yX8_stray ∈ BIG := bw 544 (by decide +kernel) rfl
theorem w_545 : Cond.code yX8_stray cX8_stray 6 (some .int) ∈ BIG := bw 545 (by decide +kernel) rfl
theorem w_546 : Cond.methodLink RL 92 yX8_meeters ∈ BIG := bw 546 (by decide +kernel) rfl
theorem w_547 : Cond.instanceMethod yX8_meeters ∈ BIG := bw 547 (by decide +kernel) rfl
theorem w_548 : Cond.selects RX8 yX8_meeters yX8_meeters ∈ BIG := bw 548 (by decide +kernel) rfl
theorem w_549 : Cond.code yX8_meeters cX8_meeters 8 (some .int) ∈ BIG := bw 549 (by decide +kernel) rfl
theorem w_550 : Cond.methodLink RX8 167 yX8_meetingDay ∈ BIG := bw 550 (by decide +kernel) rfl
theorem w_551 : Cond.methodLink RL 96 yX8_stand ∈ BIG := bw 551 (by decide +kernel) rfl
theorem w_552 : Cond.instanceMethod yX8_stand ∈ BIG := bw 552 (by decide +kernel) rfl
theorem w_553 : Cond.selects RX8 yX8_stand yX8_stand ∈ BIG := bw 553 (by decide +kernel) rfl
theorem w_554 : Cond.code yX8_stand cX8_stand 5 (some .int) ∈ BIG := bw 554 (by decide +kernel) rfl
theorem w_555 : Cond.methodLink RX8 171 yX7_reach ∈ BIG := bw 555 (by decide +kernel) rfl
theorem w_556 : Cond.instanceMethod yX7_reach ∈ BIG := bw 556 (by decide +kernel) rfl
theorem w_557 : Cond.selects RX7 yX7_reach yX7_reach ∈ BIG := bw 557 (by decide +kernel) rfl
theorem w_558 : Cond.code yX7_reach cX7_reach 4 none ∈ BIG := bw 558 (by decide +kernel) rfl
theorem w_559 : Cond.methodLinkNest RX7 15 yX8_put "ThrownHome" ∈ NEST := nw 559 (by decide +kernel) rfl
theorem w_560 : Cond.methodLinkNest RX7 19 yX8_at "ThrownHome" ∈ NEST := nw 560 (by decide +kernel) rfl
theorem w_561 : Cond.methodLink RX7 23 yX7_goOn ∈ BIG := bw 561 (by decide +kernel) rfl
theorem w_563 : Cond.instanceMethod yX7_goOn ∈ BIG := bw 563 (by decide +kernel) rfl
theorem w_564 : Cond.code yX7_goOn cX7_goOn 6 none ∈ BIG := bw 564 (by decide +kernel) rfl
theorem w_565 : Cond.methodLink RX7 27 yX7_isIn ∈ BIG := bw 565 (by decide +kernel) rfl
theorem w_566 : Cond.static yX7_isIn ∈ BIG := bw 566 (by decide +kernel) rfl
theorem w_567 : Cond.code yX7_isIn cX7_isIn 2 (some .boolean) ∈ BIG := bw 567 (by decide +kernel) rfl
theorem w_568 : Cond.methodLink RX8 180 yX7_fewest ∈ BIG := bw 568 (by decide +kernel) rfl
theorem w_569 : Cond.instanceMethod yX7_fewest ∈ BIG := bw 569 (by decide +kernel) rfl
theorem w_570 : Cond.selects RX7 yX7_fewest yX7_fewest ∈ BIG := bw 570 (by decide +kernel) rfl
theorem w_571 : Cond.code yX7_fewest cX7_fewest 2 (some .int) ∈ BIG := bw 571 (by decide +kernel) rfl
theorem w_572 : Cond.methodLink RX8 183 yX7_firstSpeed ∈ BIG := bw 572 (by decide +kernel) rfl
theorem w_573 : Cond.instanceMethod yX7_firstSpeed ∈ BIG := bw 573 (by decide +kernel) rfl
theorem w_574 : Cond.selects RX7 yX7_firstSpeed yX7_firstSpeed ∈ BIG := bw 574 (by decide +kernel) rfl
theorem w_575 : Cond.code yX7_firstSpeed cX7_firstSpeed 5 (some .int) ∈ BIG := bw 575 (by decide +kernel) rfl
theorem w_576 : Cond.methodLink RX7 31 yJ9_floorMod_7cf53 ∈ BIG := bw 576 (by decide +kernel) rfl
theorem w_577 : Cond.methodLink RL 100 yX8_odds ∈ BIG := bw 577 (by decide +kernel) rfl
theorem w_578 : Cond.instanceMethod yX8_odds ∈ BIG := bw 578 (by decide +kernel) rfl
theorem w_579 : Cond.selects RX8 yX8_odds yX8_odds ∈ BIG := bw 579 (by decide +kernel) rfl
theorem w_580 : Cond.code yX8_odds cX8_odds 12 (some .long) ∈ BIG := bw 580 (by decide +kernel) rfl
theorem w_581 : Cond.constantLong RX8 186 (-1) ∈ BIG := bw 581 (by decide +kernel) rfl
theorem w_582 : Cond.constantLong RX8 188 (10) ∈ BIG := bw 582 (by decide +kernel) rfl
theorem w_583 : Cond.methodLink RX8 190 yX8_power ∈ BIG := bw 583 (by decide +kernel) rfl
theorem w_584 : Cond.static yX8_power ∈ BIG := bw 584 (by decide +kernel) rfl
theorem w_585 : Cond.code yX8_power cX8_power 6 (some .long) ∈ BIG := bw 585 (by decide +kernel) rfl
theorem w_586 : Cond.methodLink RX8 194 yX8_ways ∈ BIG := bw 586 (by decide +kernel) rfl
theorem w_587 : Cond.static yX8_ways ∈ BIG := bw 587 (by decide +kernel) rfl
theorem w_588 : Cond.code yX8_ways cX8_ways 5 (some .long) ∈ BIG := bw 588 (by decide +kernel) rfl
theorem w_589 : Cond.methodLink RX8 198 yX8_commonDivisor ∈ BIG := bw 589 (by decide +kernel) rfl
theorem w_590 : Cond.static yX8_commonDivisor ∈ BIG := bw 590 (by decide +kernel) rfl
theorem w_591 : Cond.code yX8_commonDivisor cX8_commonDivisor 11 (some .long) ∈ BIG := bw 591 (by decide +kernel) rfl
theorem w_592 : Cond.methodLink RL 105 yX8_year ∈ BIG := bw 592 (by decide +kernel) rfl
theorem w_593 : Cond.instanceMethod yX8_year ∈ BIG := bw 593 (by decide +kernel) rfl
theorem w_594 : Cond.selects RX8 yX8_year yX8_year ∈ BIG := bw 594 (by decide +kernel) rfl
theorem w_595 : Cond.code yX8_year cX8_year 6 (some .int) ∈ BIG := bw 595 (by decide +kernel) rfl
theorem w_596 : Cond.constantLong RX8 202 (7919) ∈ BIG := bw 596 (by decide +kernel) rfl
theorem w_597 : Cond.constantLong RX8 204 (6151) ∈ BIG := bw 597 (by decide +kernel) rfl
theorem w_598 : Cond.constantLong RX8 206 (65521) ∈ BIG := bw 598 (by decide +kernel) rfl
theorem w_599 : Cond.constantLong RX8 208 (24) ∈ BIG := bw 599 (by decide +kernel) rfl
theorem w_600 : Cond.methodLink RL 109 yX8_keep ∈ BIG := bw 600 (by decide +kernel) rfl
theorem w_601 : Cond.instanceMethod yX8_keep ∈ BIG := bw 601 (by decide +kernel) rfl
theorem w_602 : Cond.selects RX8 yX8_keep yX8_keep ∈ BIG := bw 602 (by decide +kernel) rfl
theorem w_603 : Cond.code yX8_keep cX8_keep 1 (some .int) ∈ BIG := bw 603 (by decide +kernel) rfl
theorem w_604 : Cond.methodLink RX8 210 yX2_take ∈ BIG := bw 604 (by decide +kernel) rfl
theorem w_605 : Cond.instanceMethod yX2_take ∈ BIG := bw 605 (by decide +kernel) rfl
theorem w_606 : Cond.selects RX2 yX2_take yX2_take ∈ BIG := bw 606 (by decide +kernel) rfl
theorem w_607 : Cond.code yX2_take cX2_take 2 (some .boolean) ∈ BIG := bw 607 (by decide +kernel) rfl
theorem w_608 : Cond.methodLink RX2 27 yX5_takeOver ∈ BIG := bw 608 (by decide +kernel) rfl
theorem w_609 : Cond.methodLink RL 113 yX8_back ∈ BIG := bw 609 (by decide +kernel) rfl
theorem w_610 : Cond.instanceMethod yX8_back ∈ BIG := bw 610 (by decide +kernel) rfl
theorem w_611 : Cond.selects RX8 yX8_back yX8_back ∈ BIG := bw 611 (by decide +kernel) rfl
theorem w_612 : Cond.code yX8_back cX8_back 1 (some .int) ∈ BIG := bw 612 (by decide +kernel) rfl
theorem w_613 : Cond.methodLink RX8 214 yX2_giveBack ∈ BIG := bw 613 (by decide +kernel) rfl
theorem w_614 : Cond.instanceMethod yX2_giveBack ∈ BIG := bw 614 (by decide +kernel) rfl
theorem w_615 : Cond.selects RX2 yX2_giveBack yX2_giveBack ∈ BIG := bw 615 (by decide +kernel) rfl
theorem w_616 : Cond.code yX2_giveBack cX2_giveBack 2 (some .boolean) ∈ BIG := bw 616 (by decide +kernel) rfl
theorem w_617 : Cond.methodLink RL 117 yX8_count ∈ BIG := bw 617 (by decide +kernel) rfl
theorem w_618 : Cond.instanceMethod yX8_count ∈ BIG := bw 618 (by decide +kernel) rfl
theorem w_619 : Cond.selects RX8 yX8_count yX8_count ∈ BIG := bw 619 (by decide +kernel) rfl
theorem w_620 : Cond.code yX8_count cX8_count 2 (some .int) ∈ BIG := bw 620 (by decide +kernel) rfl
theorem w_621 : Cond.classLink RL 10 RX9 ∈ BIG := bw 621 (by decide +kernel) rfl
theorem w_622 : Cond.instantiable RX9 30 ∈ BIG := bw 622 (by decide +kernel) rfl
theorem w_623 : Cond.methodLink RL 12 yX9_init ∈ BIG := bw 623 (by decide +kernel) rfl
theorem w_624 : Cond.instanceMethod yX9_init ∈ BIG := bw 624 (by decide +kernel) rfl
theorem w_625 : Cond.code yX9_init cX9_init 1 none ∈ BIG := bw 625 (by decide +kernel) rfl
theorem w_626 : Cond.methodLink RX9 1 objectInit ∈ BIG := bw 626 (by decide +kernel) rfl
theorem w_627 : Cond.methodLink RX9 86 yX9_noRock ∈ BIG := bw 627 (by decide +kernel) rfl
theorem w_629 : Cond.instanceMethod yX9_noRock ∈ BIG := bw 629 (by decide +kernel) rfl
theorem w_630 : Cond.code yX9_noRock cX9_noRock 2 none ∈ BIG := bw 630 (by decide +kernel) rfl
theorem w_631 : Cond.fieldLink RX9 96 "ThrownHomeModel" "length" "I" ∈ BIG := bw 631 (by decide +kernel) rfl
theorem w_632 : Cond.fieldLink RX9 7 "ThrownHomeModel" "text" "[I" ∈ BIG := bw 632 (by decide +kernel) rfl
theorem w_633 : Cond.fieldLink RX9 13 "ThrownHomeModel" "stands" "[I" ∈ BIG := bw 633 (by decide +kernel) rfl
theorem w_634 : Cond.fieldLink RX9 16 "ThrownHomeModel" "homeFar" "[I" ∈ BIG := bw 634 (by decide +kernel) rfl
theorem w_635 : Cond.fieldLink RX9 19 "ThrownHomeModel" "nets" "[I" ∈ BIG := bw 635 (by decide +kernel) rfl
theorem w_636 : Cond.fieldLink RX9 22 "ThrownHomeModel" "netAt" "[I" ∈ BIG := bw 636 (by decide +kernel) rfl
theorem w_637 : Cond.fieldLink RX9 25 "ThrownHomeModel" "netWide" "[I" ∈ BIG := bw 637 (by decide +kernel) rfl
theorem w_638 : Cond.fieldLink RX9 28 "ThrownHomeModel" "netFrom" "[I" ∈ BIG := bw 638 (by decide +kernel) rfl
theorem w_639 : Cond.fieldLink RX9 31 "ThrownHomeModel" "netTo" "[I" ∈ BIG := bw 639 (by decide +kernel) rfl
theorem w_640 : Cond.fieldLink RX9 34 "ThrownHomeModel" "priceX" "[I" ∈ BIG := bw 640 (by decide +kernel) rfl
theorem w_641 : Cond.fieldLink RX9 37 "ThrownHomeModel" "priceY" "[I" ∈ BIG := bw 641 (by decide +kernel) rfl
theorem w_642 : Cond.fieldLink RX9 40 "ThrownHomeModel" "many" "[I" ∈ BIG := bw 642 (by decide +kernel) rfl
theorem w_643 : Cond.fieldLink RX9 43 "ThrownHomeModel" "days" "[I" ∈ BIG := bw 643 (by decide +kernel) rfl
theorem w_644 : Cond.fieldLink RX9 46 "ThrownHomeModel" "aims" "[I" ∈ BIG := bw 644 (by decide +kernel) rfl
theorem w_645 : Cond.fieldLink RX9 49 "ThrownHomeModel" "speeds" "[I" ∈ BIG := bw 645 (by decide +kernel) rfl
theorem w_646 : Cond.fieldLink RX9 52 "ThrownHomeModel" "kinds" "[I" ∈ BIG := bw 646 (by decide +kernel) rfl
theorem w_647 : Cond.fieldLink RX9 135 "ThrownHomeModel" "keptMany" "I" ∈ BIG := bw 647 (by decide +kernel) rfl
theorem w_648 : Cond.fieldLink RX9 138 "ThrownHomeModel" "undoMany" "I" ∈ BIG := bw 648 (by decide +kernel) rfl
theorem w_649 : Cond.fieldLink RX9 55 "ThrownHomeModel" "undos" "[I" ∈ BIG := bw 649 (by decide +kernel) rfl
theorem w_650 : Cond.fieldLink RX9 102 "ThrownHomeModel" "spot" "I" ∈ BIG := bw 650 (by decide +kernel) rfl
theorem w_651 : Cond.fieldLink RX9 58 "ThrownHomeModel" "told" "[I" ∈ BIG := bw 651 (by decide +kernel) rfl
theorem w_652 : Cond.fieldLink RX9 61 "ThrownHomeModel" "to" "[I" ∈ BIG := bw 652 (by decide +kernel) rfl
theorem w_653 : Cond.fieldLink RX9 64 "ThrownHomeModel" "stood" "[I" ∈ BIG := bw 653 (by decide +kernel) rfl
theorem w_654 : Cond.fieldLink RX9 67 "ThrownHomeModel" "home" "[I" ∈ BIG := bw 654 (by decide +kernel) rfl
theorem w_655 : Cond.fieldLink RX9 70 "ThrownHomeModel" "lost" "[I" ∈ BIG := bw 655 (by decide +kernel) rfl
theorem w_656 : Cond.fieldLink RX9 141 "ThrownHomeModel" "out" "I" ∈ BIG := bw 656 (by decide +kernel) rfl
theorem w_657 : Cond.fieldLink RX9 73 "ThrownHomeModel" "fewest" "[I" ∈ BIG := bw 657 (by decide +kernel) rfl
theorem w_658 : Cond.fieldLink RX9 76 "ThrownHomeModel" "ways" "[J" ∈ BIG := bw 658 (by decide +kernel) rfl
theorem w_659 : Cond.fieldLink RX9 80 "ThrownHomeModel" "next" "[J" ∈ BIG := bw 659 (by decide +kernel) rfl
theorem w_660 : Cond.fieldLink RX9 83 "ThrownHomeModel" "held" "[I" ∈ BIG := bw 660 (by decide +kernel) rfl
theorem w_722 : Cond.arrayClass (newarray.typeOf .long) ∈ BIG := bw 722 (by decide +kernel) rfl
theorem w_723 : Cond.methodLink RL 19 yX9_write ∈ BIG := bw 723 (by decide +kernel) rfl
theorem w_724 : Cond.instanceMethod yX9_write ∈ BIG := bw 724 (by decide +kernel) rfl
theorem w_725 : Cond.selects RX9 yX9_write yX9_write ∈ BIG := bw 725 (by decide +kernel) rfl
theorem w_726 : Cond.code yX9_write cX9_write 5 (some .int) ∈ BIG := bw 726 (by decide +kernel) rfl
theorem w_727 : Cond.constantLong RX9 90 (8) ∈ BIG := bw 727 (by decide +kernel) rfl
theorem w_728 : Cond.methodLink RX9 92 yX9_in ∈ BIG := bw 728 (by decide +kernel) rfl
theorem w_729 : Cond.static yX9_in ∈ BIG := bw 729 (by decide +kernel) rfl
theorem w_730 : Cond.code yX9_in cX9_in 6 (some .boolean) ∈ BIG := bw 730 (by decide +kernel) rfl
theorem w_731 : Cond.constantLong RX9 100 (255) ∈ BIG := bw 731 (by decide +kernel) rfl
theorem w_732 : Cond.methodLink RL 24 yX9_wipe ∈ BIG := bw 732 (by decide +kernel) rfl
theorem w_733 : Cond.instanceMethod yX9_wipe ∈ BIG := bw 733 (by decide +kernel) rfl
theorem w_734 : Cond.selects RX9 yX9_wipe yX9_wipe ∈ BIG := bw 734 (by decide +kernel) rfl
theorem w_735 : Cond.code yX9_wipe cX9_wipe 2 (some .int) ∈ BIG := bw 735 (by decide +kernel) rfl
theorem w_736 : Cond.methodLink RL 28 yX9_fault ∈ BIG := bw 736 (by decide +kernel) rfl
theorem w_737 : Cond.instanceMethod yX9_fault ∈ BIG := bw 737 (by decide +kernel) rfl
theorem w_738 : Cond.selects RX9 yX9_fault yX9_fault ∈ BIG := bw 738 (by decide +kernel) rfl
theorem w_739 : Cond.code yX9_fault cX9_fault 1 (some .int) ∈ BIG := bw 739 (by decide +kernel) rfl
theorem w_740 : Cond.methodLink RX9 127 yX9_readAll ∈ BIG := bw 740 (by decide +kernel) rfl
theorem w_742 : Cond.instanceMethod yX9_readAll ∈ BIG := bw 742 (by decide +kernel) rfl
theorem w_743 : Cond.code yX9_readAll cX9_readAll 2 (some .int) ∈ BIG := bw 743 (by decide +kernel) rfl
theorem w_744 : Cond.methodLink RX9 123 yX9_item ∈ BIG := bw 744 (by decide +kernel) rfl
theorem w_746 : Cond.instanceMethod yX9_item ∈ BIG := bw 746 (by decide +kernel) rfl
theorem w_747 : Cond.code yX9_item cX9_item 2 (some .boolean) ∈ BIG := bw 747 (by decide +kernel) rfl
theorem w_748 : Cond.methodLink RX9 105 yX9_byteAt ∈ BIG := bw 748 (by decide +kernel) rfl
theorem w_750 : Cond.instanceMethod yX9_byteAt ∈ BIG := bw 750 (by decide +kernel) rfl
theorem w_751 : Cond.code yX9_byteAt cX9_byteAt 2 (some .int) ∈ BIG := bw 751 (by decide +kernel) rfl
theorem w_752 : Cond.methodLink RX9 115 yX9_figures ∈ BIG := bw 752 (by decide +kernel) rfl
theorem w_754 : Cond.instanceMethod yX9_figures ∈ BIG := bw 754 (by decide +kernel) rfl
theorem w_755 : Cond.code yX9_figures cX9_figures 5 (some .boolean) ∈ BIG := bw 755 (by decide +kernel) rfl
theorem w_756 : Cond.constantLong RX9 109 (48) ∈ BIG := bw 756 (by decide +kernel) rfl
theorem w_757 : Cond.constantLong RX9 111 (57) ∈ BIG := bw 757 (by decide +kernel) rfl
theorem w_758 : Cond.constantLong RX9 113 (2) ∈ BIG := bw 758 (by decide +kernel) rfl
theorem w_759 : Cond.constantLong RX9 119 (60) ∈ BIG := bw 759 (by decide +kernel) rfl
theorem w_760 : Cond.constantLong RX9 121 (6) ∈ BIG := bw 760 (by decide +kernel) rfl
theorem w_761 : Cond.methodLink RL 32 yX9_lay ∈ BIG := bw 761 (by decide +kernel) rfl
theorem w_762 : Cond.instanceMethod yX9_lay ∈ BIG := bw 762 (by decide +kernel) rfl
theorem w_763 : Cond.selects RX9 yX9_lay yX9_lay ∈ BIG := bw 763 (by decide +kernel) rfl
theorem w_764 : Cond.code yX9_lay cX9_lay 2 (some .int) ∈ BIG := bw 764 (by decide +kernel) rfl
theorem w_765 : Cond.methodLink RX9 131 yX9_copy ∈ BIG := bw 765 (by decide +kernel) rfl
theorem w_767 : Cond.instanceMethod yX9_copy ∈ BIG := bw 767 (by decide +kernel) rfl
theorem w_768 : Cond.code yX9_copy cX9_copy 4 none ∈ BIG := bw 768 (by decide +kernel) rfl
theorem w_769 : Cond.methodLink RL 37 yX9_load ∈ BIG := bw 769 (by decide +kernel) rfl
theorem w_770 : Cond.instanceMethod yX9_load ∈ BIG := bw 770 (by decide +kernel) rfl
theorem w_771 : Cond.selects RX9 yX9_load yX9_load ∈ BIG := bw 771 (by decide +kernel) rfl
theorem w_772 : Cond.code yX9_load cX9_load 3 (some .int) ∈ BIG := bw 772 (by decide +kernel) rfl
theorem w_773 : Cond.methodLink RX9 182 yX9_isThrow ∈ BIG := bw 773 (by decide +kernel) rfl
theorem w_775 : Cond.instanceMethod yX9_isThrow ∈ BIG := bw 775 (by decide +kernel) rfl
theorem w_776 : Cond.code yX9_isThrow cX9_isThrow 2 (some .boolean) ∈ BIG := bw 776 (by decide +kernel) rfl
theorem w_777 : Cond.methodLink RX9 185 yX9_go ∈ BIG := bw 777 (by decide +kernel) rfl
theorem w_779 : Cond.instanceMethod yX9_go ∈ BIG := bw 779 (by decide +kernel) rfl
theorem w_780 : Cond.code yX9_go cX9_go 4 none ∈ BIG := bw 780 (by decide +kernel) rfl
theorem w_781 : Cond.methodLink RX9 158 yX9_turnTo ∈ BIG := bw 781 (by decide +kernel) rfl
theorem w_783 : Cond.instanceMethod yX9_turnTo ∈ BIG := bw 783 (by decide +kernel) rfl
theorem w_784 : Cond.code yX9_turnTo cX9_turnTo 5 (some .int) ∈ BIG := bw 784 (by decide +kernel) rfl
theorem w_785 : Cond.methodLink RX9 144 yX9_has ∈ BIG := bw 785 (by decide +kernel) rfl
theorem w_786 : Cond.static yX9_has ∈ BIG := bw 786 (by decide +kernel) rfl
theorem w_787 : Cond.code yX9_has cX9_has 2 (some .boolean) ∈ BIG := bw 787 (by decide +kernel) rfl
theorem w_788 : Cond.methodLink RX9 148 yX9_around ∈ BIG := bw 788 (by decide +kernel) rfl
theorem w_789 : Cond.static yX9_around ∈ BIG := bw 789 (by decide +kernel) rfl
theorem w_790 : Cond.code yX9_around cX9_around 1 (some .int) ∈ BIG := bw 790 (by decide +kernel) rfl
theorem w_791 : Cond.methodLink RX9 161 yX9_homeDay ∈ BIG := bw 791 (by decide +kernel) rfl
theorem w_793 : Cond.instanceMethod yX9_homeDay ∈ BIG := bw 793 (by decide +kernel) rfl
theorem w_794 : Cond.code yX9_homeDay cX9_homeDay 3 (some .int) ∈ BIG := bw 794 (by decide +kernel) rfl
theorem w_795 : Cond.methodLink RX9 164 yX9_meetOn ∈ BIG := bw 795 (by decide +kernel) rfl
theorem w_797 : Cond.instanceMethod yX9_meetOn ∈ BIG := bw 797 (by decide +kernel) rfl
theorem w_798 : Cond.code yX9_meetOn cX9_meetOn 6 none ∈ BIG := bw 798 (by decide +kernel) rfl
theorem w_799 : Cond.methodLink RX9 151 yX9_isOnWay ∈ BIG := bw 799 (by decide +kernel) rfl
theorem w_801 : Cond.instanceMethod yX9_isOnWay ∈ BIG := bw 801 (by decide +kernel) rfl
theorem w_802 : Cond.code yX9_isOnWay cX9_isOnWay 3 (some .boolean) ∈ BIG := bw 802 (by decide +kernel) rfl
theorem w_803 : Cond.methodLink RX9 154 yX9_farOf ∈ BIG := bw 803 (by decide +kernel) rfl
theorem w_805 : Cond.instanceMethod yX9_farOf ∈ BIG := bw 805 (by decide +kernel) rfl
theorem w_806 : Cond.code yX9_farOf cX9_farOf 3 (some .int) ∈ BIG := bw 806 (by decide +kernel) rfl
theorem w_807 : Cond.methodLink RX9 176 yX9_howOf ∈ BIG := bw 807 (by decide +kernel) rfl
theorem w_809 : Cond.instanceMethod yX9_howOf ∈ BIG := bw 809 (by decide +kernel) rfl
theorem w_810 : Cond.code yX9_howOf cX9_howOf 2 (some .int) ∈ BIG := bw 810 (by decide +kernel) rfl
theorem w_811 : Cond.methodLink RX9 173 yX9_isCaught ∈ BIG := bw 811 (by decide +kernel) rfl
theorem w_813 : Cond.instanceMethod yX9_isCaught ∈ BIG := bw 813 (by decide +kernel) rfl
theorem w_814 : Cond.code yX9_isCaught cX9_isCaught 4 (some .boolean) ∈ BIG := bw 814 (by decide +kernel) rfl
theorem w_815 : Cond.methodLink RX9 167 yX9_placeOf ∈ BIG := bw 815 (by decide +kernel) rfl
theorem w_817 : Cond.instanceMethod yX9_placeOf ∈ BIG := bw 817 (by decide +kernel) rfl
theorem w_818 : Cond.code yX9_placeOf cX9_placeOf 2 (some .int) ∈ BIG := bw 818 (by decide +kernel) rfl
theorem w_819 : Cond.methodLink RX9 170 yX9_apart ∈ BIG := bw 819 (by decide +kernel) rfl
theorem w_820 : Cond.static yX9_apart ∈ BIG := bw 820 (by decide +kernel) rfl
theorem w_821 : Cond.code yX9_apart cX9_apart 3 (some .int) ∈ BIG := bw 821 (by decide +kernel) rfl
theorem w_822 : Cond.methodLink RX9 188 yX9_paidOf ∈ BIG := bw 822 (by decide +kernel) rfl
theorem w_824 : Cond.instanceMethod yX9_paidOf ∈ BIG := bw 824 (by decide +kernel) rfl
theorem w_825 : Cond.code yX9_paidOf cX9_paidOf 2 (some .int) ∈ BIG := bw 825 (by decide +kernel) rfl
theorem w_826 : Cond.methodLink RX9 179 yX9_priceOf ∈ BIG := bw 826 (by decide +kernel) rfl
theorem w_828 : Cond.instanceMethod yX9_priceOf ∈ BIG := bw 828 (by decide +kernel) rfl
theorem w_829 : Cond.code yX9_priceOf cX9_priceOf 2 (some .int) ∈ BIG := bw 829 (by decide +kernel) rfl
theorem w_830 : Cond.methodLink RL 41 yX9_far ∈ BIG := bw 830 (by decide +kernel) rfl
theorem w_831 : Cond.instanceMethod yX9_far ∈ BIG := bw 831 (by decide +kernel) rfl
theorem w_832 : Cond.selects RX9 yX9_far yX9_far ∈ BIG := bw 832 (by decide +kernel) rfl
theorem w_833 : Cond.code yX9_far cX9_far 3 (some .int) ∈ BIG := bw 833 (by decide +kernel) rfl
theorem w_834 : Cond.methodLink RX9 193 yX9_isDay ∈ BIG := bw 834 (by decide +kernel) rfl
theorem w_835 : Cond.static yX9_isDay ∈ BIG := bw 835 (by decide +kernel) rfl
theorem w_836 : Cond.code yX9_isDay cX9_isDay 1 (some .boolean) ∈ BIG := bw 836 (by decide +kernel) rfl
theorem w_837 : Cond.constantLong RX9 191 (99) ∈ BIG := bw 837 (by decide +kernel) rfl
theorem w_838 : Cond.methodLink RL 46 yX9_rock ∈ BIG := bw 838 (by decide +kernel) rfl
theorem w_839 : Cond.instanceMethod yX9_rock ∈ BIG := bw 839 (by decide +kernel) rfl
theorem w_840 : Cond.selects RX9 yX9_rock yX9_rock ∈ BIG := bw 840 (by decide +kernel) rfl
theorem w_841 : Cond.code yX9_rock cX9_rock 2 (some .int) ∈ BIG := bw 841 (by decide +kernel) rfl
theorem w_842 : Cond.methodLink RL 50 yX9_price ∈ BIG := bw 842 (by decide +kernel) rfl
theorem w_843 : Cond.instanceMethod yX9_price ∈ BIG := bw 843 (by decide +kernel) rfl
theorem w_844 : Cond.selects RX9 yX9_price yX9_price ∈ BIG := bw 844 (by decide +kernel) rfl
theorem w_845 : Cond.code yX9_price cX9_price 2 (some .int) ∈ BIG := bw 845 (by decide +kernel) rfl
theorem w_846 : Cond.methodLink RL 54 yX9_all ∈ BIG := bw 846 (by decide +kernel) rfl
theorem w_847 : Cond.instanceMethod yX9_all ∈ BIG := bw 847 (by decide +kernel) rfl
theorem w_848 : Cond.selects RX9 yX9_all yX9_all ∈ BIG := bw 848 (by decide +kernel) rfl
theorem w_849 : Cond.code yX9_all cX9_all 2 (some .int) ∈ BIG := bw 849 (by decide +kernel) rfl
theorem w_850 : Cond.constantLong RX9 196 (3) ∈ BIG := bw 850 (by decide +kernel) rfl
theorem w_851 : Cond.methodLink RX9 198 yX9_howMany ∈ BIG := bw 851 (by decide +kernel) rfl
theorem w_853 : Cond.instanceMethod yX9_howMany ∈ BIG := bw 853 (by decide +kernel) rfl
theorem w_854 : Cond.code yX9_howMany cX9_howMany 4 (some .int) ∈ BIG := bw 854 (by decide +kernel) rfl
theorem w_855 : Cond.methodLink RX9 201 yX9_paidAll ∈ BIG := bw 855 (by decide +kernel) rfl
theorem w_857 : Cond.instanceMethod yX9_paidAll ∈ BIG := bw 857 (by decide +kernel) rfl
theorem w_858 : Cond.code yX9_paidAll cX9_paidAll 3 (some .int) ∈ BIG := bw 858 (by decide +kernel) rfl
theorem w_859 : Cond.methodLink RL 58 yX9_aim ∈ BIG := bw 859 (by decide +kernel) rfl
theorem w_860 : Cond.instanceMethod yX9_aim ∈ BIG := bw 860 (by decide +kernel) rfl
theorem w_861 : Cond.selects RX9 yX9_aim yX9_aim ∈ BIG := bw 861 (by decide +kernel) rfl
theorem w_862 : Cond.code yX9_aim cX9_aim 4 (some .int) ∈ BIG := bw 862 (by decide +kernel) rfl
theorem w_863 : Cond.constantLong RX9 204 (23) ∈ BIG := bw 863 (by decide +kernel) rfl
theorem w_864 : Cond.methodLink RX9 206 yX9_note ∈ BIG := bw 864 (by decide +kernel) rfl
theorem w_866 : Cond.instanceMethod yX9_note ∈ BIG := bw 866 (by decide +kernel) rfl
theorem w_867 : Cond.code yX9_note cX9_note 5 (some .int) ∈ BIG := bw 867 (by decide +kernel) rfl
theorem w_868 : Cond.methodLink RL 62 yX9_move ∈ BIG := bw 868 (by decide +kernel) rfl
theorem w_869 : Cond.instanceMethod yX9_move ∈ BIG := bw 869 (by decide +kernel) rfl
theorem w_870 : Cond.selects RX9 yX9_move yX9_move ∈ BIG := bw 870 (by decide +kernel) rfl
theorem w_871 : Cond.code yX9_move cX9_move 4 (some .int) ∈ BIG := bw 871 (by decide +kernel) rfl
theorem w_872 : Cond.constantLong RX9 210 (40) ∈ BIG := bw 872 (by decide +kernel) rfl
theorem w_873 : Cond.methodLink RL 66 yX9_speed ∈ BIG := bw 873 (by decide +kernel) rfl
theorem w_874 : Cond.instanceMethod yX9_speed ∈ BIG := bw 874 (by decide +kernel) rfl
theorem w_875 : Cond.selects RX9 yX9_speed yX9_speed ∈ BIG := bw 875 (by decide +kernel) rfl
theorem w_876 : Cond.code yX9_speed cX9_speed 4 (some .int) ∈ BIG := bw 876 (by decide +kernel) rfl
theorem w_877 : Cond.methodLink RL 70 yX9_undo ∈ BIG := bw 877 (by decide +kernel) rfl
theorem w_878 : Cond.instanceMethod yX9_undo ∈ BIG := bw 878 (by decide +kernel) rfl
theorem w_879 : Cond.selects RX9 yX9_undo yX9_undo ∈ BIG := bw 879 (by decide +kernel) rfl
theorem w_880 : Cond.code yX9_undo cX9_undo 4 (some .int) ∈ BIG := bw 880 (by decide +kernel) rfl
theorem w_881 : Cond.methodLink RL 74 yX9_bestAim ∈ BIG := bw 881 (by decide +kernel) rfl
theorem w_882 : Cond.instanceMethod yX9_bestAim ∈ BIG := bw 882 (by decide +kernel) rfl
theorem w_883 : Cond.selects RX9 yX9_bestAim yX9_bestAim ∈ BIG := bw 883 (by decide +kernel) rfl
theorem w_884 : Cond.code yX9_bestAim cX9_bestAim 8 (some .int) ∈ BIG := bw 884 (by decide +kernel) rfl
theorem w_885 : Cond.methodLink RL 78 yX9_bestDay ∈ BIG := bw 885 (by decide +kernel) rfl
theorem w_886 : Cond.instanceMethod yX9_bestDay ∈ BIG := bw 886 (by decide +kernel) rfl
theorem w_887 : Cond.selects RX9 yX9_bestDay yX9_bestDay ∈ BIG := bw 887 (by decide +kernel) rfl
theorem w_888 : Cond.code yX9_bestDay cX9_bestDay 8 (some .int) ∈ BIG := bw 888 (by decide +kernel) rfl
theorem w_889 : Cond.methodLink RL 82 yX9_net ∈ BIG := bw 889 (by decide +kernel) rfl
theorem w_890 : Cond.instanceMethod yX9_net ∈ BIG := bw 890 (by decide +kernel) rfl
theorem w_891 : Cond.selects RX9 yX9_net yX9_net ∈ BIG := bw 891 (by decide +kernel) rfl
theorem w_892 : Cond.code yX9_net cX9_net 8 (some .int) ∈ BIG := bw 892 (by decide +kernel) rfl
theorem w_893 : Cond.methodLink RL 86 yX9_clear ∈ BIG := bw 893 (by decide +kernel) rfl
theorem w_894 : Cond.instanceMethod yX9_clear ∈ BIG := bw 894 (by decide +kernel) rfl
theorem w_895 : Cond.selects RX9 yX9_clear yX9_clear ∈ BIG := bw 895 (by decide +kernel) rfl
theorem w_896 : Cond.code yX9_clear cX9_clear 5 (some .int) ∈ BIG := bw 896 (by decide +kernel) rfl
theorem w_897 : Cond.methodLink RX9 212 yX9_bits ∈ BIG := bw 897 (by decide +kernel) rfl
theorem w_898 : Cond.static yX9_bits ∈ BIG := bw 898 (by decide +kernel) rfl
theorem w_899 : Cond.code yX9_bits cX9_bits 3 (some .int) ∈ BIG := bw 899 (by decide +kernel) rfl
theorem w_900 : Cond.methodLink RL 91 yX9_stray ∈ BIG := bw 900 (by decide +kernel) rfl
theorem w_901 : Cond.instanceMethod yX9_stray ∈ BIG := bw 901 (by decide +kernel) rfl
theorem w_902 : Cond.selects RX9 yX9_stray yX9_stray ∈ BIG := bw 902 (by decide +kernel) rfl
theorem w_903 : Cond.code yX9_stray cX9_stray 7 (some .int) ∈ BIG := bw 903 (by decide +kernel) rfl
theorem w_904 : Cond.methodLink RL 95 yX9_meeters ∈ BIG := bw 904 (by decide +kernel) rfl
theorem w_905 : Cond.instanceMethod yX9_meeters ∈ BIG := bw 905 (by decide +kernel) rfl
theorem w_906 : Cond.selects RX9 yX9_meeters yX9_meeters ∈ BIG := bw 906 (by decide +kernel) rfl
theorem w_907 : Cond.code yX9_meeters cX9_meeters 7 (some .int) ∈ BIG := bw 907 (by decide +kernel) rfl
theorem w_908 : Cond.methodLink RX9 215 yX9_isMeeter ∈ BIG := bw 908 (by decide +kernel) rfl
theorem w_910 : Cond.instanceMethod yX9_isMeeter ∈ BIG := bw 910 (by decide +kernel) rfl
theorem w_911 : Cond.code yX9_isMeeter cX9_isMeeter 8 (some .boolean) ∈ BIG := bw 911 (by decide +kernel) rfl
theorem w_912 : Cond.methodLink RL 99 yX9_stand ∈ BIG := bw 912 (by decide +kernel) rfl
theorem w_913 : Cond.instanceMethod yX9_stand ∈ BIG := bw 913 (by decide +kernel) rfl
theorem w_914 : Cond.selects RX9 yX9_stand yX9_stand ∈ BIG := bw 914 (by decide +kernel) rfl
theorem w_915 : Cond.code yX9_stand cX9_stand 8 (some .int) ∈ BIG := bw 915 (by decide +kernel) rfl
theorem w_916 : Cond.constantLong RX9 219 (63) ∈ BIG := bw 916 (by decide +kernel) rfl
theorem w_917 : Cond.methodLink RL 104 yX9_odds ∈ BIG := bw 917 (by decide +kernel) rfl
theorem w_918 : Cond.instanceMethod yX9_odds ∈ BIG := bw 918 (by decide +kernel) rfl
theorem w_919 : Cond.selects RX9 yX9_odds yX9_odds ∈ BIG := bw 919 (by decide +kernel) rfl
theorem w_920 : Cond.code yX9_odds cX9_odds 14 (some .long) ∈ BIG := bw 920 (by decide +kernel) rfl
theorem w_921 : Cond.constantLong RX9 221 (9) ∈ BIG := bw 921 (by decide +kernel) rfl
theorem w_922 : Cond.constantLong RX9 223 (10) ∈ BIG := bw 922 (by decide +kernel) rfl
theorem w_923 : Cond.constantLong RX9 225 (-1) ∈ BIG := bw 923 (by decide +kernel) rfl
theorem w_924 : Cond.methodLink RL 108 yX9_year ∈ BIG := bw 924 (by decide +kernel) rfl
theorem w_925 : Cond.instanceMethod yX9_year ∈ BIG := bw 925 (by decide +kernel) rfl
theorem w_926 : Cond.selects RX9 yX9_year yX9_year ∈ BIG := bw 926 (by decide +kernel) rfl
theorem w_927 : Cond.code yX9_year cX9_year 6 (some .int) ∈ BIG := bw 927 (by decide +kernel) rfl
theorem w_928 : Cond.constantLong RX9 227 (9999) ∈ BIG := bw 928 (by decide +kernel) rfl
theorem w_929 : Cond.constantLong RX9 229 (7919) ∈ BIG := bw 929 (by decide +kernel) rfl
theorem w_930 : Cond.constantLong RX9 231 (6151) ∈ BIG := bw 930 (by decide +kernel) rfl
theorem w_931 : Cond.constantLong RX9 233 (65521) ∈ BIG := bw 931 (by decide +kernel) rfl
theorem w_932 : Cond.constantLong RX9 235 (24) ∈ BIG := bw 932 (by decide +kernel) rfl
theorem w_933 : Cond.methodLink RL 112 yX9_keep ∈ BIG := bw 933 (by decide +kernel) rfl
theorem w_934 : Cond.instanceMethod yX9_keep ∈ BIG := bw 934 (by decide +kernel) rfl
theorem w_935 : Cond.selects RX9 yX9_keep yX9_keep ∈ BIG := bw 935 (by decide +kernel) rfl
theorem w_936 : Cond.code yX9_keep cX9_keep 1 (some .int) ∈ BIG := bw 936 (by decide +kernel) rfl
theorem w_937 : Cond.methodLink RL 116 yX9_back ∈ BIG := bw 937 (by decide +kernel) rfl
theorem w_938 : Cond.instanceMethod yX9_back ∈ BIG := bw 938 (by decide +kernel) rfl
theorem w_939 : Cond.selects RX9 yX9_back yX9_back ∈ BIG := bw 939 (by decide +kernel) rfl
theorem w_940 : Cond.code yX9_back cX9_back 1 (some .int) ∈ BIG := bw 940 (by decide +kernel) rfl
theorem w_941 : Cond.methodLink RL 120 yX9_count ∈ BIG := bw 941 (by decide +kernel) rfl
theorem w_942 : Cond.instanceMethod yX9_count ∈ BIG := bw 942 (by decide +kernel) rfl
theorem w_943 : Cond.selects RX9 yX9_count yX9_count ∈ BIG := bw 943 (by decide +kernel) rfl
theorem w_944 : Cond.code yX9_count cX9_count 2 (some .int) ∈ BIG := bw 944 (by decide +kernel) rfl
theorem w_945 : Cond.constantLong RL 13 (4294967295) ∈ BIG := bw 945 (by decide +kernel) rfl
theorem gi_N_yX8_at : GoodIn BIG (WZ yX8_at cX8_at 2 (some .int)) := gi_N w_297
theorem gi_N_yX8_put : GoodIn BIG (WZ yX8_put cX8_put 3 none) := gi_N w_273
theorem gi_V_X0_25 : GoodIn BIG (wsV RX0 25 RX0 yX0_dropOldest (WZ yX0_dropOldest cX0_dropOldest 2 none)) := gi_V w_491 w_493 w_16 w_48 w_494
theorem gi_V_X0_36 : GoodIn BIG (wsV RX0 36 RX5 yX5_set (WZ yX5_set cX5_set 4 none)) := gi_V w_514 w_232 w_233 w_45 w_234
theorem gi_V_X1_43 : GoodIn BIG (wsV RX1 43 RX5 yX5_get (WZ yX5_get cX5_get 4 (some .int))) := gi_V w_375 w_376 w_377 w_45 w_378
theorem gi_V_X1_47 : GoodIn BIG (wsV RX1 47 RX5 yX5_set (WZ yX5_set cX5_set 4 none)) := gi_V w_379 w_232 w_233 w_45 w_234
theorem gi_V_X1_79 : GoodIn BIG (wsV RX1 79 RX1 yX1_turnBy (WZ yX1_turnBy cX1_turnBy 2 (some .int))) := gi_V w_390 w_392 w_8 w_47 w_393
theorem gi_S_X1_83 : GoodIn BIG (va_wsS RX1 83 yJ9_floorMod_7cf53 (WZ yJ9_floorMod_7cf53 cJ9_floorMod_7cf53 3 (some .int))) := gi_S w_394 w_395 w_46 w_396
theorem gi_N_yX8_meetingDay : GoodIn BIG (WZ yX8_meetingDay cX8_meetingDay 9 (some .int)) := gi_N w_411
theorem gi_V_X1_94 : GoodIn BIG (wsV RX1 94 RX1 yX1_meetingOf (WZ yX1_meetingOf cX1_meetingOf 4 (some .int))) := gi_V w_405 w_407 w_11 w_47 w_408
theorem gi_V_X1_88 : GoodIn BIG (wsV RX1 88 RX1 yX1_nextMeeting (WZ yX1_nextMeeting cX1_nextMeeting 7 (some .int))) := gi_V w_401 w_403 w_10 w_47 w_404
theorem gi_V_X1_91 : GoodIn BIG (wsV RX1 91 RX1 yX1_loseOn (WZ yX1_loseOn cX1_loseOn 8 none)) := gi_V w_413 w_415 w_12 w_47 w_416
theorem gi_S_X8_177 : GoodIn BIG (va_wsS RX8 177 yJ9_floorMod_7cf53 (WZ yJ9_floorMod_7cf53 cJ9_floorMod_7cf53 3 (some .int))) := gi_S w_435 w_395 w_46 w_396
theorem gi_V_X3_67 : GoodIn BIG (wsV RX3 67 RX5 yX5_rows (WZ yX5_rows cX5_rows 1 (some .int))) := gi_V w_430 w_337 w_338 w_45 w_339
theorem gi_V_X3_71 : GoodIn BIG (wsV RX3 71 RX5 yX5_get (WZ yX5_get cX5_get 4 (some .int))) := gi_V w_431 w_376 w_377 w_45 w_378
theorem gi_N_yX8_apart : GoodIn BIG (WZ yX8_apart cX8_apart 3 (some .int)) := gi_N w_434
theorem gi_V_X1_112 : GoodIn BIG (wsV RX1 112 RX3 yX3_catches (WZ yX3_catches cX3_catches 5 (some .boolean))) := gi_V w_426 w_427 w_428 w_44 w_429
theorem gi_V_X1_116 : GoodIn BIG (wsV RX1 116 RX3 yX3_priceOn (WZ yX3_priceOn cX3_priceOn 2 (some .int))) := gi_V w_437 w_438 w_439 w_44 w_440
theorem gi_V_X1_105 : GoodIn BIG (wsV RX1 105 RX1 yX1_come (WZ yX1_come cX1_come 9 none)) := gi_V w_421 w_423 w_14 w_47 w_424
theorem gi_V_X1_39 : GoodIn BIG (wsV RX1 39 RX5 yX5_rows (WZ yX5_rows cX5_rows 1 (some .int))) := gi_V w_374 w_337 w_338 w_45 w_339
theorem gi_V_X1_51 : GoodIn BIG (wsV RX1 51 RX1 yX1_lineUp (WZ yX1_lineUp cX1_lineUp 3 none)) := gi_V w_380 w_382 w_6 w_47 w_383
theorem gi_V_X1_58 : GoodIn BIG (wsV RX1 58 RX1 yX1_throwAll (WZ yX1_throwAll cX1_throwAll 4 none)) := gi_V w_386 w_388 w_7 w_47 w_389
theorem gi_V_X1_64 : GoodIn BIG (wsV RX1 64 RX1 yX1_meetAll (WZ yX1_meetAll cX1_meetAll 4 none)) := gi_V w_397 w_399 w_9 w_47 w_400
theorem gi_V_X1_67 : GoodIn BIG (wsV RX1 67 RX1 yX1_bringHome (WZ yX1_bringHome cX1_bringHome 4 none)) := gi_V w_417 w_419 w_13 w_47 w_420
theorem gi_V_X2_27 : GoodIn BIG (wsV RX2 27 RX5 yX5_takeOver (WZ yX5_takeOver cX5_takeOver 2 none)) := gi_V w_608 w_345 w_346 w_45 w_347
theorem gi_V_X3_39 : GoodIn BIG (wsV RX3 39 RX5 yX5_empty (WZ yX5_empty cX5_empty 1 none)) := gi_V w_123 w_124 w_125 w_45 w_126
theorem gi_V_X3_42 : GoodIn BIG (wsV RX3 42 RX5 yX5_takeOver (WZ yX5_takeOver cX5_takeOver 2 none)) := gi_V w_344 w_345 w_346 w_45 w_347
theorem gi_V_X5_29 : GoodIn BIG (wsV RX5 29 RX5 yX5_set (WZ yX5_set cX5_set 4 none)) := gi_V w_231 w_232 w_233 w_45 w_234
theorem gi_N_yX8_within : GoodIn BIG (WZ yX8_within cX8_within 3 (some .boolean)) := gi_N w_266
theorem gi_V_X3_64 : GoodIn BIG (wsV RX3 64 RX5 yX5_add (WZ yX5_add cX5_add 5 (some .boolean))) := gi_V w_323 w_228 w_229 w_45 w_230
theorem gi_V_X3_54 : GoodIn BIG (wsV RX3 54 RX3 yX3_tellNet (WZ yX3_tellNet cX3_tellNet 5 (some .boolean))) := gi_V w_324 w_326 w_4 w_44 w_327
theorem gi_V_X3_57 : GoodIn BIG (wsV RX3 57 RX3 yX3_tellPrice (WZ yX3_tellPrice cX3_tellPrice 3 (some .boolean))) := gi_V w_328 w_330 w_5 w_44 w_331
theorem gi_V_X3_46 : GoodIn BIG (wsV RX3 46 RX3 yX3_tellRock (WZ yX3_tellRock cX3_tellRock 3 (some .boolean))) := gi_V w_314 w_316 w_2 w_44 w_317
theorem gi_V_X3_50 : GoodIn BIG (wsV RX3 50 RX3 yX3_tellThrow (WZ yX3_tellThrow cX3_tellThrow 5 (some .boolean))) := gi_V w_319 w_321 w_3 w_44 w_322
theorem gi_V_X4_33 : GoodIn BIG (wsV RX4 33 RX6 yX6_signAt (WZ yX6_signAt cX6_signAt 2 (some .int))) := gi_V w_291 w_292 w_293 w_42 w_294
theorem gi_S_X4_52 : GoodIn BIG (va_wsS RX4 52 yX4_isFigure (WZ yX4_isFigure cX4_isFigure 1 (some .boolean))) := gi_S w_305 w_306 w_43 w_307
theorem gi_S_X4_37 : GoodIn BIG (va_wsS RX4 37 yX4_numbersBehind (WZ yX4_numbersBehind cX4_numbersBehind 1 (some .int))) := gi_S w_298 w_299 w_43 w_300
theorem gi_V_X4_40 : GoodIn BIG (wsV RX4 40 RX4 yX4_readNumber (WZ yX4_readNumber cX4_readNumber 4 (some .boolean))) := gi_V w_301 w_303 w_1 w_43 w_304
theorem gi_V_X4_48 : GoodIn BIG (wsV RX4 48 RX3 yX3_tell (WZ yX3_tell cX3_tell 6 (some .boolean))) := gi_V w_310 w_311 w_312 w_44 w_313
theorem gi_V_X4_19 : GoodIn BIG (wsV RX4 19 RX3 yX3_makeBare (WZ yX3_makeBare cX3_makeBare 1 none)) := gi_V w_286 w_120 w_121 w_44 w_122
theorem gi_V_X4_29 : GoodIn BIG (wsV RX4 29 RX4 yX4_readItem (WZ yX4_readItem cX4_readItem 7 (some .boolean))) := gi_V w_287 w_289 w_0 w_43 w_290
theorem gi_S_X7_27 : GoodIn BIG (va_wsS RX7 27 yX7_isIn (WZ yX7_isIn cX7_isIn 2 (some .boolean))) := gi_S w_565 w_566 w_50 w_567
theorem gi_V_X7_23 : GoodIn BIG (wsV RX7 23 RX7 yX7_goOn (WZ yX7_goOn cX7_goOn 6 none)) := gi_V w_561 w_563 w_17 w_50 w_564
theorem gi_S_X7_31 : GoodIn BIG (va_wsS RX7 31 yJ9_floorMod_7cf53 (WZ yJ9_floorMod_7cf53 cJ9_floorMod_7cf53 3 (some .int))) := gi_S w_576 w_395 w_46 w_396
theorem gi_S_X8_74 : GoodIn BIG (va_wsS RX8 74 yX8_within (WZ yX8_within cX8_within 3 (some .boolean))) := gi_S w_264 w_265 w_41 w_266
theorem gi_V_X8_82 : GoodIn BIG (wsV RX8 82 RX6 yX6_append (WZ yX6_append cX6_append 2 none)) := gi_V w_267 w_268 w_269 w_42 w_270
theorem gi_V_X8_86 : GoodIn BIG (wsV RX8 86 RX4 yX4_firstFault (WZ yX4_firstFault cX4_firstFault 5 (some .int))) := gi_V w_282 w_283 w_284 w_43 w_285
theorem gi_V_X8_90 : GoodIn BIG (wsV RX8 90 RX5 yX5_rows (WZ yX5_rows cX5_rows 1 (some .int))) := gi_V w_336 w_337 w_338 w_45 w_339
theorem gi_V_X8_94 : GoodIn BIG (wsV RX8 94 RX3 yX3_takeOver (WZ yX3_takeOver cX3_takeOver 2 none)) := gi_V w_340 w_341 w_342 w_44 w_343
theorem gi_V_X8_98 : GoodIn BIG (wsV RX8 98 RX0 yX0_forget (WZ yX0_forget cX0_forget 1 none)) := gi_V w_354 w_355 w_356 w_48 w_357
theorem gi_V_X8_101 : GoodIn BIG (wsV RX8 101 RX2 yX2_forget (WZ yX2_forget cX2_forget 1 none)) := gi_V w_358 w_359 w_360 w_49 w_361
theorem gi_V_X8_102 : GoodIn BIG (wsV RX8 102 RX5 yX5_has (WZ yX5_has cX5_has 2 (some .boolean))) := gi_V w_366 w_367 w_368 w_45 w_369
theorem gi_V_X8_106 : GoodIn BIG (wsV RX8 106 RX1 yX1_fly (WZ yX1_fly cX1_fly 5 none)) := gi_V w_370 w_371 w_372 w_47 w_373
theorem gi_V_X8_110 : GoodIn BIG (wsV RX8 110 RX1 yX1_known (WZ yX1_known cX1_known 3 (some .int))) := gi_V w_441 w_442 w_443 w_47 w_444
theorem gi_V_X8_114 : GoodIn BIG (wsV RX8 114 RX1 yX1_farOn (WZ yX1_farOn cX1_farOn 5 (some .int))) := gi_V w_449 w_450 w_451 w_47 w_452
theorem gi_V_X8_117 : GoodIn BIG (wsV RX8 117 RX1 yX1_standBehind (WZ yX1_standBehind cX1_standBehind 5 (some .int))) := gi_V w_457 w_458 w_459 w_47 w_460
theorem gi_V_X8_121 : GoodIn BIG (wsV RX8 121 RX3 yX3_priceOn (WZ yX3_priceOn cX3_priceOn 2 (some .int))) := gi_V w_465 w_438 w_439 w_44 w_440
theorem gi_V_X8_127 : GoodIn BIG (wsV RX8 127 RX1 yX1_howMany (WZ yX1_howMany cX1_howMany 4 (some .int))) := gi_V w_474 w_475 w_476 w_47 w_477
theorem gi_V_X8_124 : GoodIn BIG (wsV RX8 124 RX1 yX1_paidInAll (WZ yX1_paidInAll cX1_paidInAll 3 (some .int))) := gi_V w_470 w_471 w_472 w_47 w_473
theorem gi_V_X8_141 : GoodIn BIG (wsV RX8 141 RX5 yX5_get (WZ yX5_get cX5_get 4 (some .int))) := gi_V w_486 w_376 w_377 w_45 w_378
theorem gi_V_X8_144 : GoodIn BIG (wsV RX8 144 RX0 yX0_note (WZ yX0_note cX0_note 4 none)) := gi_V w_487 w_488 w_489 w_48 w_490
theorem gi_V_X8_148 : GoodIn BIG (wsV RX8 148 RX5 yX5_set (WZ yX5_set cX5_set 4 none)) := gi_V w_497 w_232 w_233 w_45 w_234
theorem gi_V_X8_130 : GoodIn BIG (wsV RX8 130 RX8 yX8_change (WZ yX8_change cX8_change 6 (some .int))) := gi_V w_482 w_484 w_15 w_41 w_485
theorem gi_V_X8_134 : GoodIn BIG (wsV RX8 134 RX0 yX0_takeBack (WZ yX0_takeBack cX0_takeBack 2 (some .boolean))) := gi_V w_510 w_511 w_512 w_48 w_513
theorem gi_V_X8_151 : GoodIn BIG (wsV RX8 151 RX1 yX1_caughtWith (WZ yX1_caughtWith cX1_caughtWith 7 (some .int))) := gi_V w_527 w_528 w_529 w_47 w_530
theorem gi_S_X8_159 : GoodIn BIG (va_wsS RX8 159 yJ6_bitCount_0f7a4 (WZ yJ6_bitCount_0f7a4 cJ6_bitCount_0f7a4 1 (some .int))) := gi_S w_536 w_537 w_53 w_538
theorem gi_S_X8_167 : GoodIn BIG (va_wsS RX8 167 yX8_meetingDay (WZ yX8_meetingDay cX8_meetingDay 9 (some .int))) := gi_S w_550 w_410 w_41 w_411
theorem gi_V_X8_171 : GoodIn BIG (wsV RX8 171 RX7 yX7_reach (WZ yX7_reach cX7_reach 4 none)) := gi_V w_555 w_556 w_557 w_50 w_558
theorem gi_V_X8_183 : GoodIn BIG (wsV RX8 183 RX7 yX7_firstSpeed (WZ yX7_firstSpeed cX7_firstSpeed 5 (some .int))) := gi_V w_572 w_573 w_574 w_50 w_575
theorem gi_V_X8_180 : GoodIn BIG (wsV RX8 180 RX7 yX7_fewest (WZ yX7_fewest cX7_fewest 2 (some .int))) := gi_V w_568 w_569 w_570 w_50 w_571
theorem gi_S_X8_190 : GoodIn BIG (va_wsS RX8 190 yX8_power (WZ yX8_power cX8_power 6 (some .long))) := gi_S w_583 w_584 w_41 w_585
theorem gi_S_X8_194 : GoodIn BIG (va_wsS RX8 194 yX8_ways (WZ yX8_ways cX8_ways 5 (some .long))) := gi_S w_586 w_587 w_41 w_588
theorem gi_S_X8_198 : GoodIn BIG (va_wsS RX8 198 yX8_commonDivisor (WZ yX8_commonDivisor cX8_commonDivisor 11 (some .long))) := gi_S w_589 w_590 w_41 w_591
theorem gi_V_X8_210 : GoodIn BIG (wsV RX8 210 RX2 yX2_take (WZ yX2_take cX2_take 2 (some .boolean))) := gi_V w_604 w_605 w_606 w_49 w_607
theorem gi_V_X8_214 : GoodIn BIG (wsV RX8 214 RX2 yX2_giveBack (WZ yX2_giveBack cX2_giveBack 2 (some .boolean))) := gi_V w_613 w_614 w_615 w_49 w_616
theorem gi_S_X9_92 : GoodIn BIG (va_wsS RX9 92 yX9_in (WZ yX9_in cX9_in 6 (some .boolean))) := gi_S w_728 w_729 w_51 w_730
theorem gi_V_X9_105 : GoodIn BIG (wsV RX9 105 RX9 yX9_byteAt (WZ yX9_byteAt cX9_byteAt 2 (some .int))) := gi_V w_748 w_750 w_21 w_51 w_751
theorem gi_V_X9_115 : GoodIn BIG (wsV RX9 115 RX9 yX9_figures (WZ yX9_figures cX9_figures 5 (some .boolean))) := gi_V w_752 w_754 w_22 w_51 w_755
theorem gi_V_X9_86 : GoodIn BIG (wsV RX9 86 RX9 yX9_noRock (WZ yX9_noRock cX9_noRock 2 none)) := gi_V w_627 w_629 w_18 w_51 w_630
theorem gi_V_X9_123 : GoodIn BIG (wsV RX9 123 RX9 yX9_item (WZ yX9_item cX9_item 2 (some .boolean))) := gi_V w_744 w_746 w_20 w_51 w_747
theorem gi_V_X9_127 : GoodIn BIG (wsV RX9 127 RX9 yX9_readAll (WZ yX9_readAll cX9_readAll 2 (some .int))) := gi_V w_740 w_742 w_19 w_51 w_743
theorem gi_V_X9_131 : GoodIn BIG (wsV RX9 131 RX9 yX9_copy (WZ yX9_copy cX9_copy 4 none)) := gi_V w_765 w_767 w_23 w_51 w_768
theorem gi_S_X9_144 : GoodIn BIG (va_wsS RX9 144 yX9_has (WZ yX9_has cX9_has 2 (some .boolean))) := gi_S w_785 w_786 w_51 w_787
theorem gi_S_X9_148 : GoodIn BIG (va_wsS RX9 148 yX9_around (WZ yX9_around cX9_around 1 (some .int))) := gi_S w_788 w_789 w_51 w_790
theorem gi_V_X9_151 : GoodIn BIG (wsV RX9 151 RX9 yX9_isOnWay (WZ yX9_isOnWay cX9_isOnWay 3 (some .boolean))) := gi_V w_799 w_801 w_29 w_51 w_802
theorem gi_V_X9_154 : GoodIn BIG (wsV RX9 154 RX9 yX9_farOf (WZ yX9_farOf cX9_farOf 3 (some .int))) := gi_V w_803 w_805 w_30 w_51 w_806
theorem gi_V_X9_158 : GoodIn BIG (wsV RX9 158 RX9 yX9_turnTo (WZ yX9_turnTo cX9_turnTo 5 (some .int))) := gi_V w_781 w_783 w_26 w_51 w_784
theorem gi_V_X9_161 : GoodIn BIG (wsV RX9 161 RX9 yX9_homeDay (WZ yX9_homeDay cX9_homeDay 3 (some .int))) := gi_V w_791 w_793 w_27 w_51 w_794
theorem gi_V_X9_164 : GoodIn BIG (wsV RX9 164 RX9 yX9_meetOn (WZ yX9_meetOn cX9_meetOn 6 none)) := gi_V w_795 w_797 w_28 w_51 w_798
theorem gi_V_X9_167 : GoodIn BIG (wsV RX9 167 RX9 yX9_placeOf (WZ yX9_placeOf cX9_placeOf 2 (some .int))) := gi_V w_815 w_817 w_33 w_51 w_818
theorem gi_S_X9_170 : GoodIn BIG (va_wsS RX9 170 yX9_apart (WZ yX9_apart cX9_apart 3 (some .int))) := gi_S w_819 w_820 w_51 w_821
theorem gi_V_X9_173 : GoodIn BIG (wsV RX9 173 RX9 yX9_isCaught (WZ yX9_isCaught cX9_isCaught 4 (some .boolean))) := gi_V w_811 w_813 w_32 w_51 w_814
theorem gi_V_X9_176 : GoodIn BIG (wsV RX9 176 RX9 yX9_howOf (WZ yX9_howOf cX9_howOf 2 (some .int))) := gi_V w_807 w_809 w_31 w_51 w_810
theorem gi_V_X9_179 : GoodIn BIG (wsV RX9 179 RX9 yX9_priceOf (WZ yX9_priceOf cX9_priceOf 2 (some .int))) := gi_V w_826 w_828 w_35 w_51 w_829
theorem gi_V_X9_182 : GoodIn BIG (wsV RX9 182 RX9 yX9_isThrow (WZ yX9_isThrow cX9_isThrow 2 (some .boolean))) := gi_V w_773 w_775 w_24 w_51 w_776
theorem gi_V_X9_185 : GoodIn BIG (wsV RX9 185 RX9 yX9_go (WZ yX9_go cX9_go 4 none)) := gi_V w_777 w_779 w_25 w_51 w_780
theorem gi_V_X9_188 : GoodIn BIG (wsV RX9 188 RX9 yX9_paidOf (WZ yX9_paidOf cX9_paidOf 2 (some .int))) := gi_V w_822 w_824 w_34 w_51 w_825
theorem gi_S_X9_193 : GoodIn BIG (va_wsS RX9 193 yX9_isDay (WZ yX9_isDay cX9_isDay 1 (some .boolean))) := gi_S w_834 w_835 w_51 w_836
theorem gi_V_X9_201 : GoodIn BIG (wsV RX9 201 RX9 yX9_paidAll (WZ yX9_paidAll cX9_paidAll 3 (some .int))) := gi_V w_855 w_857 w_37 w_51 w_858
theorem gi_V_X9_198 : GoodIn BIG (wsV RX9 198 RX9 yX9_howMany (WZ yX9_howMany cX9_howMany 4 (some .int))) := gi_V w_851 w_853 w_36 w_51 w_854
theorem gi_V_X9_206 : GoodIn BIG (wsV RX9 206 RX9 yX9_note (WZ yX9_note cX9_note 5 (some .int))) := gi_V w_864 w_866 w_38 w_51 w_867
theorem gi_S_X9_212 : GoodIn BIG (va_wsS RX9 212 yX9_bits (WZ yX9_bits cX9_bits 3 (some .int))) := gi_S w_897 w_898 w_51 w_899
theorem gi_V_X9_215 : GoodIn BIG (wsV RX9 215 RX9 yX9_isMeeter (WZ yX9_isMeeter cX9_isMeeter 8 (some .boolean))) := gi_V w_908 w_910 w_39 w_51 w_911
theorem gi_N_yX6_init : GoodIn BIG (WZ yX6_init cX6_init 1 none) := gi_N w_66
theorem gi_N_yX4_init : GoodIn BIG (WZ yX4_init cX4_init 1 none) := gi_N w_82
theorem gi_N_yX5_init : GoodIn BIG (WZ yX5_init cX5_init 3 none) := gi_N w_101
theorem gi_V_X3_23 : GoodIn BIG (wsV RX3 23 RX3 yX3_makeBare (WZ yX3_makeBare cX3_makeBare 1 none)) := gi_V w_119 w_120 w_121 w_44 w_122
theorem gi_N_yX3_init : GoodIn BIG (WZ yX3_init cX3_init 1 none) := gi_N w_95
theorem gi_N_yX1_init : GoodIn BIG (WZ yX1_init cX1_init 1 none) := gi_N w_157
theorem gi_N_yX0_init : GoodIn BIG (WZ yX0_init cX0_init 1 none) := gi_N w_182
theorem gi_N_yX2_init : GoodIn BIG (WZ yX2_init cX2_init 1 none) := gi_N w_202
theorem gi_N_yX7_init : GoodIn BIG (WZ yX7_init cX7_init 1 none) := gi_N w_221
theorem gi_V_X8_65 : GoodIn BIG (wsV RX8 65 RX5 yX5_add (WZ yX5_add cX5_add 5 (some .boolean))) := gi_V w_227 w_228 w_229 w_45 w_230
theorem gi_V_L_15 : GoodIn BIG (wsV RL 15 RX8 yX8_write (WZ yX8_write cX8_write 5 (some .int))) := gi_V w_260 w_261 w_262 w_41 w_263
theorem gi_V_L_19 : GoodIn BIG (wsV RL 19 RX9 yX9_write (WZ yX9_write cX9_write 5 (some .int))) := gi_V w_723 w_724 w_725 w_51 w_726
theorem gi_V_L_20 : GoodIn BIG (wsV RL 20 RX8 yX8_wipe (WZ yX8_wipe cX8_wipe 2 (some .int))) := gi_V w_274 w_275 w_276 w_41 w_277
theorem gi_V_L_24 : GoodIn BIG (wsV RL 24 RX9 yX9_wipe (WZ yX9_wipe cX9_wipe 2 (some .int))) := gi_V w_732 w_733 w_734 w_51 w_735
theorem gi_V_L_25 : GoodIn BIG (wsV RL 25 RX8 yX8_fault (WZ yX8_fault cX8_fault 1 (some .int))) := gi_V w_278 w_279 w_280 w_41 w_281
theorem gi_V_L_28 : GoodIn BIG (wsV RL 28 RX9 yX9_fault (WZ yX9_fault cX9_fault 1 (some .int))) := gi_V w_736 w_737 w_738 w_51 w_739
theorem gi_V_L_29 : GoodIn BIG (wsV RL 29 RX8 yX8_lay (WZ yX8_lay cX8_lay 1 (some .int))) := gi_V w_332 w_333 w_334 w_41 w_335
theorem gi_V_L_32 : GoodIn BIG (wsV RL 32 RX9 yX9_lay (WZ yX9_lay cX9_lay 2 (some .int))) := gi_V w_761 w_762 w_763 w_51 w_764
theorem gi_V_L_33 : GoodIn BIG (wsV RL 33 RX8 yX8_load (WZ yX8_load cX8_load 3 (some .int))) := gi_V w_362 w_363 w_364 w_41 w_365
theorem gi_V_L_37 : GoodIn BIG (wsV RL 37 RX9 yX9_load (WZ yX9_load cX9_load 3 (some .int))) := gi_V w_769 w_770 w_771 w_51 w_772
theorem gi_V_L_38 : GoodIn BIG (wsV RL 38 RX8 yX8_far (WZ yX8_far cX8_far 3 (some .int))) := gi_V w_445 w_446 w_447 w_41 w_448
theorem gi_V_L_41 : GoodIn BIG (wsV RL 41 RX9 yX9_far (WZ yX9_far cX9_far 3 (some .int))) := gi_V w_830 w_831 w_832 w_51 w_833
theorem gi_V_L_42 : GoodIn BIG (wsV RL 42 RX8 yX8_rock (WZ yX8_rock cX8_rock 2 (some .int))) := gi_V w_453 w_454 w_455 w_41 w_456
theorem gi_V_L_46 : GoodIn BIG (wsV RL 46 RX9 yX9_rock (WZ yX9_rock cX9_rock 2 (some .int))) := gi_V w_838 w_839 w_840 w_51 w_841
theorem gi_V_L_47 : GoodIn BIG (wsV RL 47 RX8 yX8_price (WZ yX8_price cX8_price 2 (some .int))) := gi_V w_461 w_462 w_463 w_41 w_464
theorem gi_V_L_50 : GoodIn BIG (wsV RL 50 RX9 yX9_price (WZ yX9_price cX9_price 2 (some .int))) := gi_V w_842 w_843 w_844 w_51 w_845
theorem gi_V_L_51 : GoodIn BIG (wsV RL 51 RX8 yX8_all (WZ yX8_all cX8_all 2 (some .int))) := gi_V w_466 w_467 w_468 w_41 w_469
theorem gi_V_L_54 : GoodIn BIG (wsV RL 54 RX9 yX9_all (WZ yX9_all cX9_all 2 (some .int))) := gi_V w_846 w_847 w_848 w_51 w_849
theorem gi_V_L_55 : GoodIn BIG (wsV RL 55 RX8 yX8_aim (WZ yX8_aim cX8_aim 3 (some .int))) := gi_V w_478 w_479 w_480 w_41 w_481
theorem gi_V_L_58 : GoodIn BIG (wsV RL 58 RX9 yX9_aim (WZ yX9_aim cX9_aim 4 (some .int))) := gi_V w_859 w_860 w_861 w_51 w_862
theorem gi_V_L_59 : GoodIn BIG (wsV RL 59 RX8 yX8_move (WZ yX8_move cX8_move 3 (some .int))) := gi_V w_498 w_499 w_500 w_41 w_501
theorem gi_V_L_62 : GoodIn BIG (wsV RL 62 RX9 yX9_move (WZ yX9_move cX9_move 4 (some .int))) := gi_V w_868 w_869 w_870 w_51 w_871
theorem gi_V_L_63 : GoodIn BIG (wsV RL 63 RX8 yX8_speed (WZ yX8_speed cX8_speed 3 (some .int))) := gi_V w_502 w_503 w_504 w_41 w_505
theorem gi_V_L_66 : GoodIn BIG (wsV RL 66 RX9 yX9_speed (WZ yX9_speed cX9_speed 4 (some .int))) := gi_V w_873 w_874 w_875 w_51 w_876
theorem gi_V_L_67 : GoodIn BIG (wsV RL 67 RX8 yX8_undo (WZ yX8_undo cX8_undo 1 (some .int))) := gi_V w_506 w_507 w_508 w_41 w_509
theorem gi_V_L_70 : GoodIn BIG (wsV RL 70 RX9 yX9_undo (WZ yX9_undo cX9_undo 4 (some .int))) := gi_V w_877 w_878 w_879 w_51 w_880
theorem gi_V_L_71 : GoodIn BIG (wsV RL 71 RX8 yX8_bestAim (WZ yX8_bestAim cX8_bestAim 6 (some .int))) := gi_V w_515 w_516 w_517 w_41 w_518
theorem gi_V_L_74 : GoodIn BIG (wsV RL 74 RX9 yX9_bestAim (WZ yX9_bestAim cX9_bestAim 8 (some .int))) := gi_V w_881 w_882 w_883 w_51 w_884
theorem gi_V_L_75 : GoodIn BIG (wsV RL 75 RX8 yX8_bestDay (WZ yX8_bestDay cX8_bestDay 6 (some .int))) := gi_V w_519 w_520 w_521 w_41 w_522
theorem gi_V_L_78 : GoodIn BIG (wsV RL 78 RX9 yX9_bestDay (WZ yX9_bestDay cX9_bestDay 8 (some .int))) := gi_V w_885 w_886 w_887 w_51 w_888
theorem gi_V_L_79 : GoodIn BIG (wsV RL 79 RX8 yX8_net (WZ yX8_net cX8_net 7 (some .int))) := gi_V w_523 w_524 w_525 w_41 w_526
theorem gi_V_L_82 : GoodIn BIG (wsV RL 82 RX9 yX9_net (WZ yX9_net cX9_net 8 (some .int))) := gi_V w_889 w_890 w_891 w_51 w_892
theorem gi_V_L_83 : GoodIn BIG (wsV RL 83 RX8 yX8_clear (WZ yX8_clear cX8_clear 5 (some .int))) := gi_V w_532 w_533 w_534 w_41 w_535
theorem gi_V_L_86 : GoodIn BIG (wsV RL 86 RX9 yX9_clear (WZ yX9_clear cX9_clear 5 (some .int))) := gi_V w_893 w_894 w_895 w_51 w_896
theorem gi_V_L_87 : GoodIn BIG (wsV RL 87 RX8 yX8_stray (WZ yX8_stray cX8_stray 6 (some .int))) := gi_V w_542 w_543 w_544 w_41 w_545
theorem gi_V_L_91 : GoodIn BIG (wsV RL 91 RX9 yX9_stray (WZ yX9_stray cX9_stray 7 (some .int))) := gi_V w_900 w_901 w_902 w_51 w_903
theorem gi_V_L_92 : GoodIn BIG (wsV RL 92 RX8 yX8_meeters (WZ yX8_meeters cX8_meeters 8 (some .int))) := gi_V w_546 w_547 w_548 w_41 w_549
theorem gi_V_L_95 : GoodIn BIG (wsV RL 95 RX9 yX9_meeters (WZ yX9_meeters cX9_meeters 7 (some .int))) := gi_V w_904 w_905 w_906 w_51 w_907
theorem gi_V_L_96 : GoodIn BIG (wsV RL 96 RX8 yX8_stand (WZ yX8_stand cX8_stand 5 (some .int))) := gi_V w_551 w_552 w_553 w_41 w_554
theorem gi_V_L_99 : GoodIn BIG (wsV RL 99 RX9 yX9_stand (WZ yX9_stand cX9_stand 8 (some .int))) := gi_V w_912 w_913 w_914 w_51 w_915
theorem gi_V_L_100 : GoodIn BIG (wsV RL 100 RX8 yX8_odds (WZ yX8_odds cX8_odds 12 (some .long))) := gi_V w_577 w_578 w_579 w_41 w_580
theorem gi_V_L_104 : GoodIn BIG (wsV RL 104 RX9 yX9_odds (WZ yX9_odds cX9_odds 14 (some .long))) := gi_V w_917 w_918 w_919 w_51 w_920
theorem gi_V_L_105 : GoodIn BIG (wsV RL 105 RX8 yX8_year (WZ yX8_year cX8_year 6 (some .int))) := gi_V w_592 w_593 w_594 w_41 w_595
theorem gi_V_L_108 : GoodIn BIG (wsV RL 108 RX9 yX9_year (WZ yX9_year cX9_year 6 (some .int))) := gi_V w_924 w_925 w_926 w_51 w_927
theorem gi_V_L_109 : GoodIn BIG (wsV RL 109 RX8 yX8_keep (WZ yX8_keep cX8_keep 1 (some .int))) := gi_V w_600 w_601 w_602 w_41 w_603
theorem gi_V_L_112 : GoodIn BIG (wsV RL 112 RX9 yX9_keep (WZ yX9_keep cX9_keep 1 (some .int))) := gi_V w_933 w_934 w_935 w_51 w_936
theorem gi_V_L_113 : GoodIn BIG (wsV RL 113 RX8 yX8_back (WZ yX8_back cX8_back 1 (some .int))) := gi_V w_609 w_610 w_611 w_41 w_612
theorem gi_V_L_116 : GoodIn BIG (wsV RL 116 RX9 yX9_back (WZ yX9_back cX9_back 1 (some .int))) := gi_V w_937 w_938 w_939 w_51 w_940
theorem gi_V_L_117 : GoodIn BIG (wsV RL 117 RX8 yX8_count (WZ yX8_count cX8_count 2 (some .int))) := gi_V w_617 w_618 w_619 w_41 w_620
theorem gi_V_L_120 : GoodIn BIG (wsV RL 120 RX9 yX9_count (WZ yX9_count cX9_count 2 (some .int))) := gi_V w_941 w_942 w_943 w_51 w_944
theorem gi_N_yX8_init : GoodIn BIG (WZ yX8_init cX8_init 1 none) := gi_N w_58
theorem gi_N_yX9_init : GoodIn BIG (WZ yX9_init cX9_init 1 none) := gi_N w_625
theorem hd_S_yX8_at : yX8_at.cls ≠ "java/lang/invoke/MethodHandle" ∧ yX8_at.cls ≠ "java/lang/invoke/VarHandle" ∧ (parseMethodDescriptor yX8_at.desc).map (fun d => d.parameters.length) = some 2 := by decide +kernel
theorem hd_S_yX8_put : yX8_put.cls ≠ "java/lang/invoke/MethodHandle" ∧ yX8_put.cls ≠ "java/lang/invoke/VarHandle" ∧ (parseMethodDescriptor yX8_put.desc).map (fun d => d.parameters.length) = some 3 := by decide +kernel
theorem hd_V_yX0_dropOldest : yX0_dropOldest.cls = RX0 ∧ yX0_dropOldest.cls ≠ "java/lang/invoke/MethodHandle" ∧ yX0_dropOldest.cls ≠ "java/lang/invoke/VarHandle" ∧ (parseMethodDescriptor yX0_dropOldest.desc).map (fun d => d.parameters.length) = some 0 := by decide +kernel
theorem hd_V_yX5_set : yX5_set.cls = RX5 ∧ yX5_set.cls ≠ "java/lang/invoke/MethodHandle" ∧ yX5_set.cls ≠ "java/lang/invoke/VarHandle" ∧ (parseMethodDescriptor yX5_set.desc).map (fun d => d.parameters.length) = some 3 := by decide +kernel
theorem hd_V_yX5_get : yX5_get.cls = RX5 ∧ yX5_get.cls ≠ "java/lang/invoke/MethodHandle" ∧ yX5_get.cls ≠ "java/lang/invoke/VarHandle" ∧ (parseMethodDescriptor yX5_get.desc).map (fun d => d.parameters.length) = some 2 := by decide +kernel
theorem hd_V_yX1_turnBy : yX1_turnBy.cls = RX1 ∧ yX1_turnBy.cls ≠ "java/lang/invoke/MethodHandle" ∧ yX1_turnBy.cls ≠ "java/lang/invoke/VarHandle" ∧ (parseMethodDescriptor yX1_turnBy.desc).map (fun d => d.parameters.length) = some 1 := by decide +kernel
theorem hd_S_yJ9_floorMod_7cf53 : yJ9_floorMod_7cf53.cls ≠ "java/lang/invoke/MethodHandle" ∧ yJ9_floorMod_7cf53.cls ≠ "java/lang/invoke/VarHandle" ∧ (parseMethodDescriptor yJ9_floorMod_7cf53.desc).map (fun d => d.parameters.length) = some 2 := by decide +kernel
theorem hd_S_yX8_meetingDay : yX8_meetingDay.cls ≠ "java/lang/invoke/MethodHandle" ∧ yX8_meetingDay.cls ≠ "java/lang/invoke/VarHandle" ∧ (parseMethodDescriptor yX8_meetingDay.desc).map (fun d => d.parameters.length) = some 5 := by decide +kernel
theorem hd_V_yX1_meetingOf : yX1_meetingOf.cls = RX1 ∧ yX1_meetingOf.cls ≠ "java/lang/invoke/MethodHandle" ∧ yX1_meetingOf.cls ≠ "java/lang/invoke/VarHandle" ∧ (parseMethodDescriptor yX1_meetingOf.desc).map (fun d => d.parameters.length) = some 3 := by decide +kernel
theorem hd_V_yX1_nextMeeting : yX1_nextMeeting.cls = RX1 ∧ yX1_nextMeeting.cls ≠ "java/lang/invoke/MethodHandle" ∧ yX1_nextMeeting.cls ≠ "java/lang/invoke/VarHandle" ∧ (parseMethodDescriptor yX1_nextMeeting.desc).map (fun d => d.parameters.length) = some 1 := by decide +kernel
theorem hd_V_yX1_loseOn : yX1_loseOn.cls = RX1 ∧ yX1_loseOn.cls ≠ "java/lang/invoke/MethodHandle" ∧ yX1_loseOn.cls ≠ "java/lang/invoke/VarHandle" ∧ (parseMethodDescriptor yX1_loseOn.desc).map (fun d => d.parameters.length) = some 2 := by decide +kernel
theorem hd_V_yX5_rows : yX5_rows.cls = RX5 ∧ yX5_rows.cls ≠ "java/lang/invoke/MethodHandle" ∧ yX5_rows.cls ≠ "java/lang/invoke/VarHandle" ∧ (parseMethodDescriptor yX5_rows.desc).map (fun d => d.parameters.length) = some 0 := by decide +kernel
theorem hd_S_yX8_apart : yX8_apart.cls ≠ "java/lang/invoke/MethodHandle" ∧ yX8_apart.cls ≠ "java/lang/invoke/VarHandle" ∧ (parseMethodDescriptor yX8_apart.desc).map (fun d => d.parameters.length) = some 2 := by decide +kernel
theorem hd_V_yX3_catches : yX3_catches.cls = RX3 ∧ yX3_catches.cls ≠ "java/lang/invoke/MethodHandle" ∧ yX3_catches.cls ≠ "java/lang/invoke/VarHandle" ∧ (parseMethodDescriptor yX3_catches.desc).map (fun d => d.parameters.length) = some 2 := by decide +kernel
theorem hd_V_yX3_priceOn : yX3_priceOn.cls = RX3 ∧ yX3_priceOn.cls ≠ "java/lang/invoke/MethodHandle" ∧ yX3_priceOn.cls ≠ "java/lang/invoke/VarHandle" ∧ (parseMethodDescriptor yX3_priceOn.desc).map (fun d => d.parameters.length) = some 1 := by decide +kernel
theorem hd_V_yX1_come : yX1_come.cls = RX1 ∧ yX1_come.cls ≠ "java/lang/invoke/MethodHandle" ∧ yX1_come.cls ≠ "java/lang/invoke/VarHandle" ∧ (parseMethodDescriptor yX1_come.desc).map (fun d => d.parameters.length) = some 2 := by decide +kernel
theorem hd_V_yX1_lineUp : yX1_lineUp.cls = RX1 ∧ yX1_lineUp.cls ≠ "java/lang/invoke/MethodHandle" ∧ yX1_lineUp.cls ≠ "java/lang/invoke/VarHandle" ∧ (parseMethodDescriptor yX1_lineUp.desc).map (fun d => d.parameters.length) = some 1 := by decide +kernel
theorem hd_V_yX1_throwAll : yX1_throwAll.cls = RX1 ∧ yX1_throwAll.cls ≠ "java/lang/invoke/MethodHandle" ∧ yX1_throwAll.cls ≠ "java/lang/invoke/VarHandle" ∧ (parseMethodDescriptor yX1_throwAll.desc).map (fun d => d.parameters.length) = some 1 := by decide +kernel
theorem hd_V_yX1_meetAll : yX1_meetAll.cls = RX1 ∧ yX1_meetAll.cls ≠ "java/lang/invoke/MethodHandle" ∧ yX1_meetAll.cls ≠ "java/lang/invoke/VarHandle" ∧ (parseMethodDescriptor yX1_meetAll.desc).map (fun d => d.parameters.length) = some 1 := by decide +kernel
theorem hd_V_yX1_bringHome : yX1_bringHome.cls = RX1 ∧ yX1_bringHome.cls ≠ "java/lang/invoke/MethodHandle" ∧ yX1_bringHome.cls ≠ "java/lang/invoke/VarHandle" ∧ (parseMethodDescriptor yX1_bringHome.desc).map (fun d => d.parameters.length) = some 1 := by decide +kernel
theorem hd_V_yX5_takeOver : yX5_takeOver.cls = RX5 ∧ yX5_takeOver.cls ≠ "java/lang/invoke/MethodHandle" ∧ yX5_takeOver.cls ≠ "java/lang/invoke/VarHandle" ∧ (parseMethodDescriptor yX5_takeOver.desc).map (fun d => d.parameters.length) = some 1 := by decide +kernel
theorem hd_V_yX5_empty : yX5_empty.cls = RX5 ∧ yX5_empty.cls ≠ "java/lang/invoke/MethodHandle" ∧ yX5_empty.cls ≠ "java/lang/invoke/VarHandle" ∧ (parseMethodDescriptor yX5_empty.desc).map (fun d => d.parameters.length) = some 0 := by decide +kernel
theorem hd_S_yX8_within : yX8_within.cls ≠ "java/lang/invoke/MethodHandle" ∧ yX8_within.cls ≠ "java/lang/invoke/VarHandle" ∧ (parseMethodDescriptor yX8_within.desc).map (fun d => d.parameters.length) = some 3 := by decide +kernel
theorem hd_V_yX5_add : yX5_add.cls = RX5 ∧ yX5_add.cls ≠ "java/lang/invoke/MethodHandle" ∧ yX5_add.cls ≠ "java/lang/invoke/VarHandle" ∧ (parseMethodDescriptor yX5_add.desc).map (fun d => d.parameters.length) = some 4 := by decide +kernel
theorem hd_V_yX3_tellNet : yX3_tellNet.cls = RX3 ∧ yX3_tellNet.cls ≠ "java/lang/invoke/MethodHandle" ∧ yX3_tellNet.cls ≠ "java/lang/invoke/VarHandle" ∧ (parseMethodDescriptor yX3_tellNet.desc).map (fun d => d.parameters.length) = some 4 := by decide +kernel
theorem hd_V_yX3_tellPrice : yX3_tellPrice.cls = RX3 ∧ yX3_tellPrice.cls ≠ "java/lang/invoke/MethodHandle" ∧ yX3_tellPrice.cls ≠ "java/lang/invoke/VarHandle" ∧ (parseMethodDescriptor yX3_tellPrice.desc).map (fun d => d.parameters.length) = some 2 := by decide +kernel
theorem hd_V_yX3_tellRock : yX3_tellRock.cls = RX3 ∧ yX3_tellRock.cls ≠ "java/lang/invoke/MethodHandle" ∧ yX3_tellRock.cls ≠ "java/lang/invoke/VarHandle" ∧ (parseMethodDescriptor yX3_tellRock.desc).map (fun d => d.parameters.length) = some 2 := by decide +kernel
theorem hd_V_yX3_tellThrow : yX3_tellThrow.cls = RX3 ∧ yX3_tellThrow.cls ≠ "java/lang/invoke/MethodHandle" ∧ yX3_tellThrow.cls ≠ "java/lang/invoke/VarHandle" ∧ (parseMethodDescriptor yX3_tellThrow.desc).map (fun d => d.parameters.length) = some 4 := by decide +kernel
theorem hd_V_yX6_signAt : yX6_signAt.cls = RX6 ∧ yX6_signAt.cls ≠ "java/lang/invoke/MethodHandle" ∧ yX6_signAt.cls ≠ "java/lang/invoke/VarHandle" ∧ (parseMethodDescriptor yX6_signAt.desc).map (fun d => d.parameters.length) = some 1 := by decide +kernel
theorem hd_S_yX4_isFigure : yX4_isFigure.cls ≠ "java/lang/invoke/MethodHandle" ∧ yX4_isFigure.cls ≠ "java/lang/invoke/VarHandle" ∧ (parseMethodDescriptor yX4_isFigure.desc).map (fun d => d.parameters.length) = some 1 := by decide +kernel
theorem hd_S_yX4_numbersBehind : yX4_numbersBehind.cls ≠ "java/lang/invoke/MethodHandle" ∧ yX4_numbersBehind.cls ≠ "java/lang/invoke/VarHandle" ∧ (parseMethodDescriptor yX4_numbersBehind.desc).map (fun d => d.parameters.length) = some 1 := by decide +kernel
theorem hd_V_yX4_readNumber : yX4_readNumber.cls = RX4 ∧ yX4_readNumber.cls ≠ "java/lang/invoke/MethodHandle" ∧ yX4_readNumber.cls ≠ "java/lang/invoke/VarHandle" ∧ (parseMethodDescriptor yX4_readNumber.desc).map (fun d => d.parameters.length) = some 2 := by decide +kernel
theorem hd_V_yX3_tell : yX3_tell.cls = RX3 ∧ yX3_tell.cls ≠ "java/lang/invoke/MethodHandle" ∧ yX3_tell.cls ≠ "java/lang/invoke/VarHandle" ∧ (parseMethodDescriptor yX3_tell.desc).map (fun d => d.parameters.length) = some 5 := by decide +kernel
theorem hd_V_yX3_makeBare : yX3_makeBare.cls = RX3 ∧ yX3_makeBare.cls ≠ "java/lang/invoke/MethodHandle" ∧ yX3_makeBare.cls ≠ "java/lang/invoke/VarHandle" ∧ (parseMethodDescriptor yX3_makeBare.desc).map (fun d => d.parameters.length) = some 0 := by decide +kernel
theorem hd_V_yX4_readItem : yX4_readItem.cls = RX4 ∧ yX4_readItem.cls ≠ "java/lang/invoke/MethodHandle" ∧ yX4_readItem.cls ≠ "java/lang/invoke/VarHandle" ∧ (parseMethodDescriptor yX4_readItem.desc).map (fun d => d.parameters.length) = some 2 := by decide +kernel
theorem hd_S_yX7_isIn : yX7_isIn.cls ≠ "java/lang/invoke/MethodHandle" ∧ yX7_isIn.cls ≠ "java/lang/invoke/VarHandle" ∧ (parseMethodDescriptor yX7_isIn.desc).map (fun d => d.parameters.length) = some 2 := by decide +kernel
theorem hd_V_yX7_goOn : yX7_goOn.cls = RX7 ∧ yX7_goOn.cls ≠ "java/lang/invoke/MethodHandle" ∧ yX7_goOn.cls ≠ "java/lang/invoke/VarHandle" ∧ (parseMethodDescriptor yX7_goOn.desc).map (fun d => d.parameters.length) = some 3 := by decide +kernel
theorem hd_V_yX6_append : yX6_append.cls = RX6 ∧ yX6_append.cls ≠ "java/lang/invoke/MethodHandle" ∧ yX6_append.cls ≠ "java/lang/invoke/VarHandle" ∧ (parseMethodDescriptor yX6_append.desc).map (fun d => d.parameters.length) = some 1 := by decide +kernel
theorem hd_V_yX4_firstFault : yX4_firstFault.cls = RX4 ∧ yX4_firstFault.cls ≠ "java/lang/invoke/MethodHandle" ∧ yX4_firstFault.cls ≠ "java/lang/invoke/VarHandle" ∧ (parseMethodDescriptor yX4_firstFault.desc).map (fun d => d.parameters.length) = some 2 := by decide +kernel
theorem hd_V_yX3_takeOver : yX3_takeOver.cls = RX3 ∧ yX3_takeOver.cls ≠ "java/lang/invoke/MethodHandle" ∧ yX3_takeOver.cls ≠ "java/lang/invoke/VarHandle" ∧ (parseMethodDescriptor yX3_takeOver.desc).map (fun d => d.parameters.length) = some 1 := by decide +kernel
theorem hd_V_yX0_forget : yX0_forget.cls = RX0 ∧ yX0_forget.cls ≠ "java/lang/invoke/MethodHandle" ∧ yX0_forget.cls ≠ "java/lang/invoke/VarHandle" ∧ (parseMethodDescriptor yX0_forget.desc).map (fun d => d.parameters.length) = some 0 := by decide +kernel
theorem hd_V_yX2_forget : yX2_forget.cls = RX2 ∧ yX2_forget.cls ≠ "java/lang/invoke/MethodHandle" ∧ yX2_forget.cls ≠ "java/lang/invoke/VarHandle" ∧ (parseMethodDescriptor yX2_forget.desc).map (fun d => d.parameters.length) = some 0 := by decide +kernel
theorem hd_V_yX5_has : yX5_has.cls = RX5 ∧ yX5_has.cls ≠ "java/lang/invoke/MethodHandle" ∧ yX5_has.cls ≠ "java/lang/invoke/VarHandle" ∧ (parseMethodDescriptor yX5_has.desc).map (fun d => d.parameters.length) = some 1 := by decide +kernel
theorem hd_V_yX1_fly : yX1_fly.cls = RX1 ∧ yX1_fly.cls ≠ "java/lang/invoke/MethodHandle" ∧ yX1_fly.cls ≠ "java/lang/invoke/VarHandle" ∧ (parseMethodDescriptor yX1_fly.desc).map (fun d => d.parameters.length) = some 2 := by decide +kernel
theorem hd_V_yX1_known : yX1_known.cls = RX1 ∧ yX1_known.cls ≠ "java/lang/invoke/MethodHandle" ∧ yX1_known.cls ≠ "java/lang/invoke/VarHandle" ∧ (parseMethodDescriptor yX1_known.desc).map (fun d => d.parameters.length) = some 2 := by decide +kernel
theorem hd_V_yX1_farOn : yX1_farOn.cls = RX1 ∧ yX1_farOn.cls ≠ "java/lang/invoke/MethodHandle" ∧ yX1_farOn.cls ≠ "java/lang/invoke/VarHandle" ∧ (parseMethodDescriptor yX1_farOn.desc).map (fun d => d.parameters.length) = some 2 := by decide +kernel
theorem hd_V_yX1_standBehind : yX1_standBehind.cls = RX1 ∧ yX1_standBehind.cls ≠ "java/lang/invoke/MethodHandle" ∧ yX1_standBehind.cls ≠ "java/lang/invoke/VarHandle" ∧ (parseMethodDescriptor yX1_standBehind.desc).map (fun d => d.parameters.length) = some 1 := by decide +kernel
theorem hd_V_yX1_howMany : yX1_howMany.cls = RX1 ∧ yX1_howMany.cls ≠ "java/lang/invoke/MethodHandle" ∧ yX1_howMany.cls ≠ "java/lang/invoke/VarHandle" ∧ (parseMethodDescriptor yX1_howMany.desc).map (fun d => d.parameters.length) = some 1 := by decide +kernel
theorem hd_V_yX1_paidInAll : yX1_paidInAll.cls = RX1 ∧ yX1_paidInAll.cls ≠ "java/lang/invoke/MethodHandle" ∧ yX1_paidInAll.cls ≠ "java/lang/invoke/VarHandle" ∧ (parseMethodDescriptor yX1_paidInAll.desc).map (fun d => d.parameters.length) = some 0 := by decide +kernel
theorem hd_V_yX0_note : yX0_note.cls = RX0 ∧ yX0_note.cls ≠ "java/lang/invoke/MethodHandle" ∧ yX0_note.cls ≠ "java/lang/invoke/VarHandle" ∧ (parseMethodDescriptor yX0_note.desc).map (fun d => d.parameters.length) = some 3 := by decide +kernel
theorem hd_V_yX8_change : yX8_change.cls = RX8 ∧ yX8_change.cls ≠ "java/lang/invoke/MethodHandle" ∧ yX8_change.cls ≠ "java/lang/invoke/VarHandle" ∧ (parseMethodDescriptor yX8_change.desc).map (fun d => d.parameters.length) = some 4 := by decide +kernel
theorem hd_V_yX0_takeBack : yX0_takeBack.cls = RX0 ∧ yX0_takeBack.cls ≠ "java/lang/invoke/MethodHandle" ∧ yX0_takeBack.cls ≠ "java/lang/invoke/VarHandle" ∧ (parseMethodDescriptor yX0_takeBack.desc).map (fun d => d.parameters.length) = some 1 := by decide +kernel
theorem hd_V_yX1_caughtWith : yX1_caughtWith.cls = RX1 ∧ yX1_caughtWith.cls ≠ "java/lang/invoke/MethodHandle" ∧ yX1_caughtWith.cls ≠ "java/lang/invoke/VarHandle" ∧ (parseMethodDescriptor yX1_caughtWith.desc).map (fun d => d.parameters.length) = some 2 := by decide +kernel
theorem hd_S_yJ6_bitCount_0f7a4 : yJ6_bitCount_0f7a4.cls ≠ "java/lang/invoke/MethodHandle" ∧ yJ6_bitCount_0f7a4.cls ≠ "java/lang/invoke/VarHandle" ∧ (parseMethodDescriptor yJ6_bitCount_0f7a4.desc).map (fun d => d.parameters.length) = some 1 := by decide +kernel
theorem hd_V_yX7_reach : yX7_reach.cls = RX7 ∧ yX7_reach.cls ≠ "java/lang/invoke/MethodHandle" ∧ yX7_reach.cls ≠ "java/lang/invoke/VarHandle" ∧ (parseMethodDescriptor yX7_reach.desc).map (fun d => d.parameters.length) = some 1 := by decide +kernel
theorem hd_V_yX7_firstSpeed : yX7_firstSpeed.cls = RX7 ∧ yX7_firstSpeed.cls ≠ "java/lang/invoke/MethodHandle" ∧ yX7_firstSpeed.cls ≠ "java/lang/invoke/VarHandle" ∧ (parseMethodDescriptor yX7_firstSpeed.desc).map (fun d => d.parameters.length) = some 2 := by decide +kernel
theorem hd_V_yX7_fewest : yX7_fewest.cls = RX7 ∧ yX7_fewest.cls ≠ "java/lang/invoke/MethodHandle" ∧ yX7_fewest.cls ≠ "java/lang/invoke/VarHandle" ∧ (parseMethodDescriptor yX7_fewest.desc).map (fun d => d.parameters.length) = some 1 := by decide +kernel
theorem hd_S_yX8_power : yX8_power.cls ≠ "java/lang/invoke/MethodHandle" ∧ yX8_power.cls ≠ "java/lang/invoke/VarHandle" ∧ (parseMethodDescriptor yX8_power.desc).map (fun d => d.parameters.length) = some 2 := by decide +kernel
theorem hd_S_yX8_ways : yX8_ways.cls ≠ "java/lang/invoke/MethodHandle" ∧ yX8_ways.cls ≠ "java/lang/invoke/VarHandle" ∧ (parseMethodDescriptor yX8_ways.desc).map (fun d => d.parameters.length) = some 2 := by decide +kernel
theorem hd_S_yX8_commonDivisor : yX8_commonDivisor.cls ≠ "java/lang/invoke/MethodHandle" ∧ yX8_commonDivisor.cls ≠ "java/lang/invoke/VarHandle" ∧ (parseMethodDescriptor yX8_commonDivisor.desc).map (fun d => d.parameters.length) = some 2 := by decide +kernel
theorem hd_V_yX2_take : yX2_take.cls = RX2 ∧ yX2_take.cls ≠ "java/lang/invoke/MethodHandle" ∧ yX2_take.cls ≠ "java/lang/invoke/VarHandle" ∧ (parseMethodDescriptor yX2_take.desc).map (fun d => d.parameters.length) = some 1 := by decide +kernel
theorem hd_V_yX2_giveBack : yX2_giveBack.cls = RX2 ∧ yX2_giveBack.cls ≠ "java/lang/invoke/MethodHandle" ∧ yX2_giveBack.cls ≠ "java/lang/invoke/VarHandle" ∧ (parseMethodDescriptor yX2_giveBack.desc).map (fun d => d.parameters.length) = some 1 := by decide +kernel
theorem hd_S_yX9_in : yX9_in.cls ≠ "java/lang/invoke/MethodHandle" ∧ yX9_in.cls ≠ "java/lang/invoke/VarHandle" ∧ (parseMethodDescriptor yX9_in.desc).map (fun d => d.parameters.length) = some 3 := by decide +kernel
theorem hd_V_yX9_byteAt : yX9_byteAt.cls = RX9 ∧ yX9_byteAt.cls ≠ "java/lang/invoke/MethodHandle" ∧ yX9_byteAt.cls ≠ "java/lang/invoke/VarHandle" ∧ (parseMethodDescriptor yX9_byteAt.desc).map (fun d => d.parameters.length) = some 1 := by decide +kernel
theorem hd_V_yX9_figures : yX9_figures.cls = RX9 ∧ yX9_figures.cls ≠ "java/lang/invoke/MethodHandle" ∧ yX9_figures.cls ≠ "java/lang/invoke/VarHandle" ∧ (parseMethodDescriptor yX9_figures.desc).map (fun d => d.parameters.length) = some 1 := by decide +kernel
theorem hd_V_yX9_noRock : yX9_noRock.cls = RX9 ∧ yX9_noRock.cls ≠ "java/lang/invoke/MethodHandle" ∧ yX9_noRock.cls ≠ "java/lang/invoke/VarHandle" ∧ (parseMethodDescriptor yX9_noRock.desc).map (fun d => d.parameters.length) = some 1 := by decide +kernel
theorem hd_V_yX9_item : yX9_item.cls = RX9 ∧ yX9_item.cls ≠ "java/lang/invoke/MethodHandle" ∧ yX9_item.cls ≠ "java/lang/invoke/VarHandle" ∧ (parseMethodDescriptor yX9_item.desc).map (fun d => d.parameters.length) = some 0 := by decide +kernel
theorem hd_V_yX9_readAll : yX9_readAll.cls = RX9 ∧ yX9_readAll.cls ≠ "java/lang/invoke/MethodHandle" ∧ yX9_readAll.cls ≠ "java/lang/invoke/VarHandle" ∧ (parseMethodDescriptor yX9_readAll.desc).map (fun d => d.parameters.length) = some 0 := by decide +kernel
theorem hd_V_yX9_copy : yX9_copy.cls = RX9 ∧ yX9_copy.cls ≠ "java/lang/invoke/MethodHandle" ∧ yX9_copy.cls ≠ "java/lang/invoke/VarHandle" ∧ (parseMethodDescriptor yX9_copy.desc).map (fun d => d.parameters.length) = some 2 := by decide +kernel
theorem hd_S_yX9_has : yX9_has.cls ≠ "java/lang/invoke/MethodHandle" ∧ yX9_has.cls ≠ "java/lang/invoke/VarHandle" ∧ (parseMethodDescriptor yX9_has.desc).map (fun d => d.parameters.length) = some 2 := by decide +kernel
theorem hd_S_yX9_around : yX9_around.cls ≠ "java/lang/invoke/MethodHandle" ∧ yX9_around.cls ≠ "java/lang/invoke/VarHandle" ∧ (parseMethodDescriptor yX9_around.desc).map (fun d => d.parameters.length) = some 1 := by decide +kernel
theorem hd_V_yX9_isOnWay : yX9_isOnWay.cls = RX9 ∧ yX9_isOnWay.cls ≠ "java/lang/invoke/MethodHandle" ∧ yX9_isOnWay.cls ≠ "java/lang/invoke/VarHandle" ∧ (parseMethodDescriptor yX9_isOnWay.desc).map (fun d => d.parameters.length) = some 2 := by decide +kernel
theorem hd_V_yX9_farOf : yX9_farOf.cls = RX9 ∧ yX9_farOf.cls ≠ "java/lang/invoke/MethodHandle" ∧ yX9_farOf.cls ≠ "java/lang/invoke/VarHandle" ∧ (parseMethodDescriptor yX9_farOf.desc).map (fun d => d.parameters.length) = some 2 := by decide +kernel
theorem hd_V_yX9_turnTo : yX9_turnTo.cls = RX9 ∧ yX9_turnTo.cls ≠ "java/lang/invoke/MethodHandle" ∧ yX9_turnTo.cls ≠ "java/lang/invoke/VarHandle" ∧ (parseMethodDescriptor yX9_turnTo.desc).map (fun d => d.parameters.length) = some 1 := by decide +kernel
theorem hd_V_yX9_homeDay : yX9_homeDay.cls = RX9 ∧ yX9_homeDay.cls ≠ "java/lang/invoke/MethodHandle" ∧ yX9_homeDay.cls ≠ "java/lang/invoke/VarHandle" ∧ (parseMethodDescriptor yX9_homeDay.desc).map (fun d => d.parameters.length) = some 2 := by decide +kernel
theorem hd_V_yX9_meetOn : yX9_meetOn.cls = RX9 ∧ yX9_meetOn.cls ≠ "java/lang/invoke/MethodHandle" ∧ yX9_meetOn.cls ≠ "java/lang/invoke/VarHandle" ∧ (parseMethodDescriptor yX9_meetOn.desc).map (fun d => d.parameters.length) = some 1 := by decide +kernel
theorem hd_V_yX9_placeOf : yX9_placeOf.cls = RX9 ∧ yX9_placeOf.cls ≠ "java/lang/invoke/MethodHandle" ∧ yX9_placeOf.cls ≠ "java/lang/invoke/VarHandle" ∧ (parseMethodDescriptor yX9_placeOf.desc).map (fun d => d.parameters.length) = some 1 := by decide +kernel
theorem hd_S_yX9_apart : yX9_apart.cls ≠ "java/lang/invoke/MethodHandle" ∧ yX9_apart.cls ≠ "java/lang/invoke/VarHandle" ∧ (parseMethodDescriptor yX9_apart.desc).map (fun d => d.parameters.length) = some 2 := by decide +kernel
theorem hd_V_yX9_isCaught : yX9_isCaught.cls = RX9 ∧ yX9_isCaught.cls ≠ "java/lang/invoke/MethodHandle" ∧ yX9_isCaught.cls ≠ "java/lang/invoke/VarHandle" ∧ (parseMethodDescriptor yX9_isCaught.desc).map (fun d => d.parameters.length) = some 1 := by decide +kernel
theorem hd_V_yX9_howOf : yX9_howOf.cls = RX9 ∧ yX9_howOf.cls ≠ "java/lang/invoke/MethodHandle" ∧ yX9_howOf.cls ≠ "java/lang/invoke/VarHandle" ∧ (parseMethodDescriptor yX9_howOf.desc).map (fun d => d.parameters.length) = some 1 := by decide +kernel
theorem hd_V_yX9_priceOf : yX9_priceOf.cls = RX9 ∧ yX9_priceOf.cls ≠ "java/lang/invoke/MethodHandle" ∧ yX9_priceOf.cls ≠ "java/lang/invoke/VarHandle" ∧ (parseMethodDescriptor yX9_priceOf.desc).map (fun d => d.parameters.length) = some 1 := by decide +kernel
theorem hd_V_yX9_isThrow : yX9_isThrow.cls = RX9 ∧ yX9_isThrow.cls ≠ "java/lang/invoke/MethodHandle" ∧ yX9_isThrow.cls ≠ "java/lang/invoke/VarHandle" ∧ (parseMethodDescriptor yX9_isThrow.desc).map (fun d => d.parameters.length) = some 1 := by decide +kernel
theorem hd_V_yX9_go : yX9_go.cls = RX9 ∧ yX9_go.cls ≠ "java/lang/invoke/MethodHandle" ∧ yX9_go.cls ≠ "java/lang/invoke/VarHandle" ∧ (parseMethodDescriptor yX9_go.desc).map (fun d => d.parameters.length) = some 1 := by decide +kernel
theorem hd_V_yX9_paidOf : yX9_paidOf.cls = RX9 ∧ yX9_paidOf.cls ≠ "java/lang/invoke/MethodHandle" ∧ yX9_paidOf.cls ≠ "java/lang/invoke/VarHandle" ∧ (parseMethodDescriptor yX9_paidOf.desc).map (fun d => d.parameters.length) = some 1 := by decide +kernel
theorem hd_S_yX9_isDay : yX9_isDay.cls ≠ "java/lang/invoke/MethodHandle" ∧ yX9_isDay.cls ≠ "java/lang/invoke/VarHandle" ∧ (parseMethodDescriptor yX9_isDay.desc).map (fun d => d.parameters.length) = some 1 := by decide +kernel
theorem hd_V_yX9_paidAll : yX9_paidAll.cls = RX9 ∧ yX9_paidAll.cls ≠ "java/lang/invoke/MethodHandle" ∧ yX9_paidAll.cls ≠ "java/lang/invoke/VarHandle" ∧ (parseMethodDescriptor yX9_paidAll.desc).map (fun d => d.parameters.length) = some 0 := by decide +kernel
theorem hd_V_yX9_howMany : yX9_howMany.cls = RX9 ∧ yX9_howMany.cls ≠ "java/lang/invoke/MethodHandle" ∧ yX9_howMany.cls ≠ "java/lang/invoke/VarHandle" ∧ (parseMethodDescriptor yX9_howMany.desc).map (fun d => d.parameters.length) = some 1 := by decide +kernel
theorem hd_V_yX9_note : yX9_note.cls = RX9 ∧ yX9_note.cls ≠ "java/lang/invoke/MethodHandle" ∧ yX9_note.cls ≠ "java/lang/invoke/VarHandle" ∧ (parseMethodDescriptor yX9_note.desc).map (fun d => d.parameters.length) = some 3 := by decide +kernel
theorem hd_S_yX9_bits : yX9_bits.cls ≠ "java/lang/invoke/MethodHandle" ∧ yX9_bits.cls ≠ "java/lang/invoke/VarHandle" ∧ (parseMethodDescriptor yX9_bits.desc).map (fun d => d.parameters.length) = some 1 := by decide +kernel
theorem hd_V_yX9_isMeeter : yX9_isMeeter.cls = RX9 ∧ yX9_isMeeter.cls ≠ "java/lang/invoke/MethodHandle" ∧ yX9_isMeeter.cls ≠ "java/lang/invoke/VarHandle" ∧ (parseMethodDescriptor yX9_isMeeter.desc).map (fun d => d.parameters.length) = some 3 := by decide +kernel
theorem hd_S_yX6_init : yX6_init.cls ≠ "java/lang/invoke/MethodHandle" ∧ yX6_init.cls ≠ "java/lang/invoke/VarHandle" ∧ (parseMethodDescriptor yX6_init.desc).map (fun d => d.parameters.length) = some 0 := by decide +kernel
theorem hd_S_yX4_init : yX4_init.cls ≠ "java/lang/invoke/MethodHandle" ∧ yX4_init.cls ≠ "java/lang/invoke/VarHandle" ∧ (parseMethodDescriptor yX4_init.desc).map (fun d => d.parameters.length) = some 0 := by decide +kernel
theorem hd_S_yX5_init : yX5_init.cls ≠ "java/lang/invoke/MethodHandle" ∧ yX5_init.cls ≠ "java/lang/invoke/VarHandle" ∧ (parseMethodDescriptor yX5_init.desc).map (fun d => d.parameters.length) = some 2 := by decide +kernel
theorem hd_S_yX3_init : yX3_init.cls ≠ "java/lang/invoke/MethodHandle" ∧ yX3_init.cls ≠ "java/lang/invoke/VarHandle" ∧ (parseMethodDescriptor yX3_init.desc).map (fun d => d.parameters.length) = some 0 := by decide +kernel
theorem hd_S_yX1_init : yX1_init.cls ≠ "java/lang/invoke/MethodHandle" ∧ yX1_init.cls ≠ "java/lang/invoke/VarHandle" ∧ (parseMethodDescriptor yX1_init.desc).map (fun d => d.parameters.length) = some 0 := by decide +kernel
theorem hd_S_yX0_init : yX0_init.cls ≠ "java/lang/invoke/MethodHandle" ∧ yX0_init.cls ≠ "java/lang/invoke/VarHandle" ∧ (parseMethodDescriptor yX0_init.desc).map (fun d => d.parameters.length) = some 0 := by decide +kernel
theorem hd_S_yX2_init : yX2_init.cls ≠ "java/lang/invoke/MethodHandle" ∧ yX2_init.cls ≠ "java/lang/invoke/VarHandle" ∧ (parseMethodDescriptor yX2_init.desc).map (fun d => d.parameters.length) = some 0 := by decide +kernel
theorem hd_S_yX7_init : yX7_init.cls ≠ "java/lang/invoke/MethodHandle" ∧ yX7_init.cls ≠ "java/lang/invoke/VarHandle" ∧ (parseMethodDescriptor yX7_init.desc).map (fun d => d.parameters.length) = some 0 := by decide +kernel
theorem hd_V_yX8_write : yX8_write.cls = RX8 ∧ yX8_write.cls ≠ "java/lang/invoke/MethodHandle" ∧ yX8_write.cls ≠ "java/lang/invoke/VarHandle" ∧ (parseMethodDescriptor yX8_write.desc).map (fun d => d.parameters.length) = some 2 := by decide +kernel
theorem hd_V_yX9_write : yX9_write.cls = RX9 ∧ yX9_write.cls ≠ "java/lang/invoke/MethodHandle" ∧ yX9_write.cls ≠ "java/lang/invoke/VarHandle" ∧ (parseMethodDescriptor yX9_write.desc).map (fun d => d.parameters.length) = some 2 := by decide +kernel
theorem hd_V_yX8_wipe : yX8_wipe.cls = RX8 ∧ yX8_wipe.cls ≠ "java/lang/invoke/MethodHandle" ∧ yX8_wipe.cls ≠ "java/lang/invoke/VarHandle" ∧ (parseMethodDescriptor yX8_wipe.desc).map (fun d => d.parameters.length) = some 0 := by decide +kernel
theorem hd_V_yX9_wipe : yX9_wipe.cls = RX9 ∧ yX9_wipe.cls ≠ "java/lang/invoke/MethodHandle" ∧ yX9_wipe.cls ≠ "java/lang/invoke/VarHandle" ∧ (parseMethodDescriptor yX9_wipe.desc).map (fun d => d.parameters.length) = some 0 := by decide +kernel
theorem hd_V_yX8_fault : yX8_fault.cls = RX8 ∧ yX8_fault.cls ≠ "java/lang/invoke/MethodHandle" ∧ yX8_fault.cls ≠ "java/lang/invoke/VarHandle" ∧ (parseMethodDescriptor yX8_fault.desc).map (fun d => d.parameters.length) = some 0 := by decide +kernel
theorem hd_V_yX9_fault : yX9_fault.cls = RX9 ∧ yX9_fault.cls ≠ "java/lang/invoke/MethodHandle" ∧ yX9_fault.cls ≠ "java/lang/invoke/VarHandle" ∧ (parseMethodDescriptor yX9_fault.desc).map (fun d => d.parameters.length) = some 0 := by decide +kernel
theorem hd_V_yX8_lay : yX8_lay.cls = RX8 ∧ yX8_lay.cls ≠ "java/lang/invoke/MethodHandle" ∧ yX8_lay.cls ≠ "java/lang/invoke/VarHandle" ∧ (parseMethodDescriptor yX8_lay.desc).map (fun d => d.parameters.length) = some 0 := by decide +kernel
theorem hd_V_yX9_lay : yX9_lay.cls = RX9 ∧ yX9_lay.cls ≠ "java/lang/invoke/MethodHandle" ∧ yX9_lay.cls ≠ "java/lang/invoke/VarHandle" ∧ (parseMethodDescriptor yX9_lay.desc).map (fun d => d.parameters.length) = some 0 := by decide +kernel
theorem hd_V_yX8_load : yX8_load.cls = RX8 ∧ yX8_load.cls ≠ "java/lang/invoke/MethodHandle" ∧ yX8_load.cls ≠ "java/lang/invoke/VarHandle" ∧ (parseMethodDescriptor yX8_load.desc).map (fun d => d.parameters.length) = some 2 := by decide +kernel
theorem hd_V_yX9_load : yX9_load.cls = RX9 ∧ yX9_load.cls ≠ "java/lang/invoke/MethodHandle" ∧ yX9_load.cls ≠ "java/lang/invoke/VarHandle" ∧ (parseMethodDescriptor yX9_load.desc).map (fun d => d.parameters.length) = some 2 := by decide +kernel
theorem hd_V_yX8_far : yX8_far.cls = RX8 ∧ yX8_far.cls ≠ "java/lang/invoke/MethodHandle" ∧ yX8_far.cls ≠ "java/lang/invoke/VarHandle" ∧ (parseMethodDescriptor yX8_far.desc).map (fun d => d.parameters.length) = some 2 := by decide +kernel
theorem hd_V_yX9_far : yX9_far.cls = RX9 ∧ yX9_far.cls ≠ "java/lang/invoke/MethodHandle" ∧ yX9_far.cls ≠ "java/lang/invoke/VarHandle" ∧ (parseMethodDescriptor yX9_far.desc).map (fun d => d.parameters.length) = some 2 := by decide +kernel
theorem hd_V_yX8_rock : yX8_rock.cls = RX8 ∧ yX8_rock.cls ≠ "java/lang/invoke/MethodHandle" ∧ yX8_rock.cls ≠ "java/lang/invoke/VarHandle" ∧ (parseMethodDescriptor yX8_rock.desc).map (fun d => d.parameters.length) = some 1 := by decide +kernel
theorem hd_V_yX9_rock : yX9_rock.cls = RX9 ∧ yX9_rock.cls ≠ "java/lang/invoke/MethodHandle" ∧ yX9_rock.cls ≠ "java/lang/invoke/VarHandle" ∧ (parseMethodDescriptor yX9_rock.desc).map (fun d => d.parameters.length) = some 1 := by decide +kernel
theorem hd_V_yX8_price : yX8_price.cls = RX8 ∧ yX8_price.cls ≠ "java/lang/invoke/MethodHandle" ∧ yX8_price.cls ≠ "java/lang/invoke/VarHandle" ∧ (parseMethodDescriptor yX8_price.desc).map (fun d => d.parameters.length) = some 1 := by decide +kernel
theorem hd_V_yX9_price : yX9_price.cls = RX9 ∧ yX9_price.cls ≠ "java/lang/invoke/MethodHandle" ∧ yX9_price.cls ≠ "java/lang/invoke/VarHandle" ∧ (parseMethodDescriptor yX9_price.desc).map (fun d => d.parameters.length) = some 1 := by decide +kernel
theorem hd_V_yX8_all : yX8_all.cls = RX8 ∧ yX8_all.cls ≠ "java/lang/invoke/MethodHandle" ∧ yX8_all.cls ≠ "java/lang/invoke/VarHandle" ∧ (parseMethodDescriptor yX8_all.desc).map (fun d => d.parameters.length) = some 1 := by decide +kernel
theorem hd_V_yX9_all : yX9_all.cls = RX9 ∧ yX9_all.cls ≠ "java/lang/invoke/MethodHandle" ∧ yX9_all.cls ≠ "java/lang/invoke/VarHandle" ∧ (parseMethodDescriptor yX9_all.desc).map (fun d => d.parameters.length) = some 1 := by decide +kernel
theorem hd_V_yX8_aim : yX8_aim.cls = RX8 ∧ yX8_aim.cls ≠ "java/lang/invoke/MethodHandle" ∧ yX8_aim.cls ≠ "java/lang/invoke/VarHandle" ∧ (parseMethodDescriptor yX8_aim.desc).map (fun d => d.parameters.length) = some 2 := by decide +kernel
theorem hd_V_yX9_aim : yX9_aim.cls = RX9 ∧ yX9_aim.cls ≠ "java/lang/invoke/MethodHandle" ∧ yX9_aim.cls ≠ "java/lang/invoke/VarHandle" ∧ (parseMethodDescriptor yX9_aim.desc).map (fun d => d.parameters.length) = some 2 := by decide +kernel
theorem hd_V_yX8_move : yX8_move.cls = RX8 ∧ yX8_move.cls ≠ "java/lang/invoke/MethodHandle" ∧ yX8_move.cls ≠ "java/lang/invoke/VarHandle" ∧ (parseMethodDescriptor yX8_move.desc).map (fun d => d.parameters.length) = some 2 := by decide +kernel
theorem hd_V_yX9_move : yX9_move.cls = RX9 ∧ yX9_move.cls ≠ "java/lang/invoke/MethodHandle" ∧ yX9_move.cls ≠ "java/lang/invoke/VarHandle" ∧ (parseMethodDescriptor yX9_move.desc).map (fun d => d.parameters.length) = some 2 := by decide +kernel
theorem hd_V_yX8_speed : yX8_speed.cls = RX8 ∧ yX8_speed.cls ≠ "java/lang/invoke/MethodHandle" ∧ yX8_speed.cls ≠ "java/lang/invoke/VarHandle" ∧ (parseMethodDescriptor yX8_speed.desc).map (fun d => d.parameters.length) = some 2 := by decide +kernel
theorem hd_V_yX9_speed : yX9_speed.cls = RX9 ∧ yX9_speed.cls ≠ "java/lang/invoke/MethodHandle" ∧ yX9_speed.cls ≠ "java/lang/invoke/VarHandle" ∧ (parseMethodDescriptor yX9_speed.desc).map (fun d => d.parameters.length) = some 2 := by decide +kernel
theorem hd_V_yX8_undo : yX8_undo.cls = RX8 ∧ yX8_undo.cls ≠ "java/lang/invoke/MethodHandle" ∧ yX8_undo.cls ≠ "java/lang/invoke/VarHandle" ∧ (parseMethodDescriptor yX8_undo.desc).map (fun d => d.parameters.length) = some 0 := by decide +kernel
theorem hd_V_yX9_undo : yX9_undo.cls = RX9 ∧ yX9_undo.cls ≠ "java/lang/invoke/MethodHandle" ∧ yX9_undo.cls ≠ "java/lang/invoke/VarHandle" ∧ (parseMethodDescriptor yX9_undo.desc).map (fun d => d.parameters.length) = some 0 := by decide +kernel
theorem hd_V_yX8_bestAim : yX8_bestAim.cls = RX8 ∧ yX8_bestAim.cls ≠ "java/lang/invoke/MethodHandle" ∧ yX8_bestAim.cls ≠ "java/lang/invoke/VarHandle" ∧ (parseMethodDescriptor yX8_bestAim.desc).map (fun d => d.parameters.length) = some 2 := by decide +kernel
theorem hd_V_yX9_bestAim : yX9_bestAim.cls = RX9 ∧ yX9_bestAim.cls ≠ "java/lang/invoke/MethodHandle" ∧ yX9_bestAim.cls ≠ "java/lang/invoke/VarHandle" ∧ (parseMethodDescriptor yX9_bestAim.desc).map (fun d => d.parameters.length) = some 2 := by decide +kernel
theorem hd_V_yX8_bestDay : yX8_bestDay.cls = RX8 ∧ yX8_bestDay.cls ≠ "java/lang/invoke/MethodHandle" ∧ yX8_bestDay.cls ≠ "java/lang/invoke/VarHandle" ∧ (parseMethodDescriptor yX8_bestDay.desc).map (fun d => d.parameters.length) = some 2 := by decide +kernel
theorem hd_V_yX9_bestDay : yX9_bestDay.cls = RX9 ∧ yX9_bestDay.cls ≠ "java/lang/invoke/MethodHandle" ∧ yX9_bestDay.cls ≠ "java/lang/invoke/VarHandle" ∧ (parseMethodDescriptor yX9_bestDay.desc).map (fun d => d.parameters.length) = some 2 := by decide +kernel
theorem hd_V_yX8_net : yX8_net.cls = RX8 ∧ yX8_net.cls ≠ "java/lang/invoke/MethodHandle" ∧ yX8_net.cls ≠ "java/lang/invoke/VarHandle" ∧ (parseMethodDescriptor yX8_net.desc).map (fun d => d.parameters.length) = some 2 := by decide +kernel
theorem hd_V_yX9_net : yX9_net.cls = RX9 ∧ yX9_net.cls ≠ "java/lang/invoke/MethodHandle" ∧ yX9_net.cls ≠ "java/lang/invoke/VarHandle" ∧ (parseMethodDescriptor yX9_net.desc).map (fun d => d.parameters.length) = some 2 := by decide +kernel
theorem hd_V_yX8_clear : yX8_clear.cls = RX8 ∧ yX8_clear.cls ≠ "java/lang/invoke/MethodHandle" ∧ yX8_clear.cls ≠ "java/lang/invoke/VarHandle" ∧ (parseMethodDescriptor yX8_clear.desc).map (fun d => d.parameters.length) = some 0 := by decide +kernel
theorem hd_V_yX9_clear : yX9_clear.cls = RX9 ∧ yX9_clear.cls ≠ "java/lang/invoke/MethodHandle" ∧ yX9_clear.cls ≠ "java/lang/invoke/VarHandle" ∧ (parseMethodDescriptor yX9_clear.desc).map (fun d => d.parameters.length) = some 0 := by decide +kernel
theorem hd_V_yX8_stray : yX8_stray.cls = RX8 ∧ yX8_stray.cls ≠ "java/lang/invoke/MethodHandle" ∧ yX8_stray.cls ≠ "java/lang/invoke/VarHandle" ∧ (parseMethodDescriptor yX8_stray.desc).map (fun d => d.parameters.length) = some 3 := by decide +kernel
theorem hd_V_yX9_stray : yX9_stray.cls = RX9 ∧ yX9_stray.cls ≠ "java/lang/invoke/MethodHandle" ∧ yX9_stray.cls ≠ "java/lang/invoke/VarHandle" ∧ (parseMethodDescriptor yX9_stray.desc).map (fun d => d.parameters.length) = some 3 := by decide +kernel
theorem hd_V_yX8_meeters : yX8_meeters.cls = RX8 ∧ yX8_meeters.cls ≠ "java/lang/invoke/MethodHandle" ∧ yX8_meeters.cls ≠ "java/lang/invoke/VarHandle" ∧ (parseMethodDescriptor yX8_meeters.desc).map (fun d => d.parameters.length) = some 2 := by decide +kernel
theorem hd_V_yX9_meeters : yX9_meeters.cls = RX9 ∧ yX9_meeters.cls ≠ "java/lang/invoke/MethodHandle" ∧ yX9_meeters.cls ≠ "java/lang/invoke/VarHandle" ∧ (parseMethodDescriptor yX9_meeters.desc).map (fun d => d.parameters.length) = some 2 := by decide +kernel
theorem hd_V_yX8_stand : yX8_stand.cls = RX8 ∧ yX8_stand.cls ≠ "java/lang/invoke/MethodHandle" ∧ yX8_stand.cls ≠ "java/lang/invoke/VarHandle" ∧ (parseMethodDescriptor yX8_stand.desc).map (fun d => d.parameters.length) = some 3 := by decide +kernel
theorem hd_V_yX9_stand : yX9_stand.cls = RX9 ∧ yX9_stand.cls ≠ "java/lang/invoke/MethodHandle" ∧ yX9_stand.cls ≠ "java/lang/invoke/VarHandle" ∧ (parseMethodDescriptor yX9_stand.desc).map (fun d => d.parameters.length) = some 3 := by decide +kernel
theorem hd_V_yX8_odds : yX8_odds.cls = RX8 ∧ yX8_odds.cls ≠ "java/lang/invoke/MethodHandle" ∧ yX8_odds.cls ≠ "java/lang/invoke/VarHandle" ∧ (parseMethodDescriptor yX8_odds.desc).map (fun d => d.parameters.length) = some 3 := by decide +kernel
theorem hd_V_yX9_odds : yX9_odds.cls = RX9 ∧ yX9_odds.cls ≠ "java/lang/invoke/MethodHandle" ∧ yX9_odds.cls ≠ "java/lang/invoke/VarHandle" ∧ (parseMethodDescriptor yX9_odds.desc).map (fun d => d.parameters.length) = some 3 := by decide +kernel
theorem hd_V_yX8_year : yX8_year.cls = RX8 ∧ yX8_year.cls ≠ "java/lang/invoke/MethodHandle" ∧ yX8_year.cls ≠ "java/lang/invoke/VarHandle" ∧ (parseMethodDescriptor yX8_year.desc).map (fun d => d.parameters.length) = some 2 := by decide +kernel
theorem hd_V_yX9_year : yX9_year.cls = RX9 ∧ yX9_year.cls ≠ "java/lang/invoke/MethodHandle" ∧ yX9_year.cls ≠ "java/lang/invoke/VarHandle" ∧ (parseMethodDescriptor yX9_year.desc).map (fun d => d.parameters.length) = some 2 := by decide +kernel
theorem hd_V_yX8_keep : yX8_keep.cls = RX8 ∧ yX8_keep.cls ≠ "java/lang/invoke/MethodHandle" ∧ yX8_keep.cls ≠ "java/lang/invoke/VarHandle" ∧ (parseMethodDescriptor yX8_keep.desc).map (fun d => d.parameters.length) = some 0 := by decide +kernel
theorem hd_V_yX9_keep : yX9_keep.cls = RX9 ∧ yX9_keep.cls ≠ "java/lang/invoke/MethodHandle" ∧ yX9_keep.cls ≠ "java/lang/invoke/VarHandle" ∧ (parseMethodDescriptor yX9_keep.desc).map (fun d => d.parameters.length) = some 0 := by decide +kernel
theorem hd_V_yX8_back : yX8_back.cls = RX8 ∧ yX8_back.cls ≠ "java/lang/invoke/MethodHandle" ∧ yX8_back.cls ≠ "java/lang/invoke/VarHandle" ∧ (parseMethodDescriptor yX8_back.desc).map (fun d => d.parameters.length) = some 0 := by decide +kernel
theorem hd_V_yX9_back : yX9_back.cls = RX9 ∧ yX9_back.cls ≠ "java/lang/invoke/MethodHandle" ∧ yX9_back.cls ≠ "java/lang/invoke/VarHandle" ∧ (parseMethodDescriptor yX9_back.desc).map (fun d => d.parameters.length) = some 0 := by decide +kernel
theorem hd_V_yX8_count : yX8_count.cls = RX8 ∧ yX8_count.cls ≠ "java/lang/invoke/MethodHandle" ∧ yX8_count.cls ≠ "java/lang/invoke/VarHandle" ∧ (parseMethodDescriptor yX8_count.desc).map (fun d => d.parameters.length) = some 1 := by decide +kernel
theorem hd_V_yX9_count : yX9_count.cls = RX9 ∧ yX9_count.cls ≠ "java/lang/invoke/MethodHandle" ∧ yX9_count.cls ≠ "java/lang/invoke/VarHandle" ∧ (parseMethodDescriptor yX9_count.desc).map (fun d => d.parameters.length) = some 1 := by decide +kernel
theorem hd_S_yX8_init : yX8_init.cls ≠ "java/lang/invoke/MethodHandle" ∧ yX8_init.cls ≠ "java/lang/invoke/VarHandle" ∧ (parseMethodDescriptor yX8_init.desc).map (fun d => d.parameters.length) = some 0 := by decide +kernel
theorem hd_S_yX9_init : yX9_init.cls ≠ "java/lang/invoke/MethodHandle" ∧ yX9_init.cls ≠ "java/lang/invoke/VarHandle" ∧ (parseMethodDescriptor yX9_init.desc).map (fun d => d.parameters.length) = some 0 := by decide +kernel
