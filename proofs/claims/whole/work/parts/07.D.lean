/-! the methods as functions, decompiled. Laid by wip/gen/lay.py -/
def DX0_forget  : Option (Int32) :=
  some (0 : Int32)
def DX8_put (x1 : Int32) (x2 : Int32) (pn : Nat) (c_row : Nat → Int32) : Option ((Nat → Int32)) :=
  if x1 < 0 then
  (some c_row)
  else
  (if (Int32.ofNat pn) ≤ x1 then
  (some c_row)
  else
  (if x1 < 0 ∨ pn ≤ x1.toNatClampNeg then none else
  some (upd c_row x1.toNatClampNeg x2)))
def DX8_at (x1 : Int32) (pn : Nat) (c_row : Nat → Int32) : Option (Int32) :=
  if x1 < 0 then
  (some (0 : Int32))
  else
  (if (Int32.ofNat pn) ≤ x1 then
  (some (0 : Int32))
  else
  (if x1 < 0 ∨ pn ≤ x1.toNatClampNeg then none else
  some (c_row x1.toNatClampNeg)))
def DX0_dropOldest_L2s (c_held : Int32) (x1 : Int32) (c_who : Nat → Int32) (c_column : Nat → Int32) (c_was : Nat → Int32) : Option ((Int32 × (Nat → Int32) × (Nat → Int32) × (Nat → Int32)) ⊕ ((Nat → Int32) × (Nat → Int32) × (Nat → Int32))) :=
  if c_held ≤ x1 then
  (some (.inr (c_who, c_column, c_was)))
  else
  (bd1 (DX8_at x1 8 c_who) fun r_2 =>
  bd1 (DX8_put (x1 - (1 : Int32)) r_2 8 c_who) fun k_who_4 =>
  bd1 (DX8_at x1 8 c_column) fun r_6 =>
  bd1 (DX8_put (x1 - (1 : Int32)) r_6 8 c_column) fun k_column_8 =>
  bd1 (DX8_at x1 8 c_was) fun r_10 =>
  bd1 (DX8_put (x1 - (1 : Int32)) r_10 8 c_was) fun k_was_12 =>
  some (.inl ((x1 + (1 : Int32)), k_who_4, k_column_8, k_was_12)))
def DX0_dropOldest_L2 (c_held : Int32) (n : Nat) (x1 : Int32) (c_who : Nat → Int32) (c_column : Nat → Int32) (c_was : Nat → Int32) : Option ((Nat → Int32) × (Nat → Int32) × (Nat → Int32)) := it (fun (st : Int32 × (Nat → Int32) × (Nat → Int32) × (Nat → Int32)) => DX0_dropOldest_L2s c_held (st.1) (st.2.1) (st.2.2.1) (st.2.2.2)) n (x1, c_who, c_column, c_was)
def DX0_dropOldest (c_who : Nat → Int32) (c_column : Nat → Int32) (c_was : Nat → Int32) (c_held : Int32) : Option ((Nat → Int32) × (Nat → Int32) × (Nat → Int32) × Int32) :=
  bd3 (DX0_dropOldest_L2 c_held FU (1 : Int32) c_who c_column c_was) fun k_who_14 k_column_15 k_was_16 =>
  some (k_who_14, k_column_15, k_was_16, (c_held - (1 : Int32)))
def DX0_note_J13 (x1 : Int32) (x2 : Int32) (x3 : Int32) (c_who : Nat → Int32) (c_column : Nat → Int32) (c_was : Nat → Int32) (c_held : Int32) : Option ((Nat → Int32) × (Nat → Int32) × (Nat → Int32) × Int32) :=
  bd1 (DX8_put c_held x1 8 c_who) fun k_who_2 =>
  bd1 (DX8_put c_held x2 8 c_column) fun k_column_4 =>
  bd1 (DX8_put c_held x3 8 c_was) fun k_was_6 =>
  some (k_who_2, k_column_4, k_was_6, (c_held + (1 : Int32)))
def DX0_note (x1 : Int32) (x2 : Int32) (x3 : Int32) (c_who : Nat → Int32) (c_column : Nat → Int32) (c_was : Nat → Int32) (c_held : Int32) : Option ((Nat → Int32) × (Nat → Int32) × (Nat → Int32) × Int32) :=
  if c_held = (8 : Int32) then
  (bd4 (DX0_dropOldest c_who c_column c_was c_held) fun k_who_8 k_column_9 k_was_10 k_held_11 =>
  DX0_note_J13 x1 x2 x3 k_who_8 k_column_9 k_was_10 k_held_11)
  else
  (DX0_note_J13 x1 x2 x3 c_who c_column c_was c_held)
def DX5_set (x1 : Int32) (x2 : Int32) (x3 : Int32) (pm : Int32) (pw : Int32) (pn : Nat) (c_cells : Nat → Int32) : Option ((Nat → Int32)) :=
  if x1 < 0 then
  (some c_cells)
  else
  (if pm ≤ x1 then
  (some c_cells)
  else
  (if x2 < 0 then
  (some c_cells)
  else
  (if pw ≤ x2 then
  (some c_cells)
  else
  (if ((x1 * pw) + x2) < 0 ∨ pn ≤ ((x1 * pw) + x2).toNatClampNeg then none else
  some (upd c_cells ((x1 * pw) + x2).toNatClampNeg x3)))))
def DX0_takeBack (c_who : Nat → Int32) (c_column : Nat → Int32) (c_was : Nat → Int32) (c_held : Int32) (o_cells : Nat → Int32) : Option (Int32 × Int32 × (Nat → Int32)) :=
  if c_held = 0 then
  (some ((0 : Int32), c_held, o_cells))
  else
  (bd1 (DX8_at (c_held - (1 : Int32)) 8 c_who) fun r_2 =>
  bd1 (DX8_at (c_held - (1 : Int32)) 8 c_column) fun r_4 =>
  bd1 (DX8_at (c_held - (1 : Int32)) 8 c_was) fun r_6 =>
  bd1 (DX5_set r_2 r_4 r_6 (7 : Int32) (4 : Int32) 28 o_cells) fun k_cells_8 =>
  some ((1 : Int32), (c_held - (1 : Int32)), k_cells_8))
def DX5_rows (c_filled : Int32) : Option (Int32) :=
  some c_filled
def DX5_get_J29 (pw : Int32) (pn : Nat) (x1 : Int32) (x2 : Int32) (c_cells : Nat → Int32) (y0 : Int32) : Option (Int32) :=
  if y0 = 0 then
  (some (0 : Int32))
  else
  (if ((x1 * pw) + x2) < 0 ∨ pn ≤ ((x1 * pw) + x2).toNatClampNeg then none else
  some (c_cells ((x1 * pw) + x2).toNatClampNeg))
def DX5_get (x1 : Int32) (x2 : Int32) (pm : Int32) (pw : Int32) (pn : Nat) (c_cells : Nat → Int32) : Option (Int32) :=
  if x1 < 0 then
  (DX5_get_J29 pw pn x1 x2 c_cells (0 : Int32))
  else
  (if pm ≤ x1 then
  (DX5_get_J29 pw pn x1 x2 c_cells (0 : Int32))
  else
  (if x2 < 0 then
  (DX5_get_J29 pw pn x1 x2 c_cells (0 : Int32))
  else
  (if pw ≤ x2 then
  (DX5_get_J29 pw pn x1 x2 c_cells (0 : Int32))
  else
  (DX5_get_J29 pw pn x1 x2 c_cells (1 : Int32)))))
def DX1_turnBy (x1 : Int32) (c_loads_cells : Nat → Int32) : Option (Int32) :=
  bd1 (DX5_get x1 (3 : Int32) (7 : Int32) (10 : Int32) 70 c_loads_cells) fun r_1 =>
  if r_1 = (1 : Int32) then
  (bd1 (DX5_get x1 (2 : Int32) (7 : Int32) (10 : Int32) 70 c_loads_cells) fun r_4 =>
  some ((2 : Int32) * r_4))
  else
  if r_1 = (2 : Int32) then
  (some (0 : Int32))
  else
  (bd1 (DX5_get x1 (2 : Int32) (7 : Int32) (10 : Int32) 70 c_loads_cells) fun r_7 =>
  some r_7)
def DJ9_floorMod_7cf53 (x0 : Int32) (x1 : Int32) : Option (Int32) :=
  if x1 = 0 then none else
  if 0 ≤ (x0 ^^^ x1) then
  (some (x0 - x0 / x1 * x1))
  else
  (if (x0 - x0 / x1 * x1) = 0 then
  (some (x0 - x0 / x1 * x1))
  else
  (some ((x0 - x0 / x1 * x1) + x1)))
def DX1_throwAll_L12s (c_order : Nat → Int32) (c_done : Int32) (x2 : Int32) (c_loads_cells : Nat → Int32) (c_end : Int32) : Option ((Int32 × (Nat → Int32) × Int32) ⊕ ((Nat → Int32) × Int32)) :=
  if c_done ≤ x2 then
  (some (.inr (c_loads_cells, c_end)))
  else
  (bd1 (DX8_at x2 7 c_order) fun r_2 =>
  bd1 (DX5_get r_2 (1 : Int32) (7 : Int32) (10 : Int32) 70 c_loads_cells) fun r_4 =>
  bd1 (DX5_set r_2 (4 : Int32) ((c_end + r_4) - (c_end + r_4) / (24 : Int32) * (24 : Int32)) (7 : Int32) (10 : Int32) 70 c_loads_cells) fun k_loads_cells_6 =>
  bd1 (DX1_turnBy r_2 k_loads_cells_6) fun r_8 =>
  bd1 (DJ9_floorMod_7cf53 (c_end - r_8) (24 : Int32)) fun r_10 =>
  bd1 (DX5_set r_2 (5 : Int32) r_10 (7 : Int32) (10 : Int32) 70 k_loads_cells_6) fun k_loads_cells_12 =>
  bd1 (DX5_set r_2 (7 : Int32) (1000 : Int32) (7 : Int32) (10 : Int32) 70 k_loads_cells_12) fun k_loads_cells_14 =>
  some (.inl ((x2 + (1 : Int32)), k_loads_cells_14, r_10)))
def DX1_throwAll_L12 (c_order : Nat → Int32) (c_done : Int32) (n : Nat) (x2 : Int32) (c_loads_cells : Nat → Int32) (c_end : Int32) : Option ((Nat → Int32) × Int32) := it (fun (st : Int32 × (Nat → Int32) × Int32) => DX1_throwAll_L12s c_order c_done (st.1) (st.2.1) (st.2.2)) n (x2, c_loads_cells, c_end)
def DX1_throwAll (x1 : Int32) (c_loads_cells : Nat → Int32) (c_order : Nat → Int32) (c_done : Int32) : Option ((Nat → Int32) × Int32 × Int32) :=
  bd2 (DX1_throwAll_L12 c_order c_done FU (0 : Int32) c_loads_cells x1) fun k_loads_cells_16 k_end_17 =>
  some (k_loads_cells_16, x1, k_end_17)
def DX8_meetingDay_J68 (x0 : Int32) (x1 : Int32) (x4 : Int32) (y0 : Int32) (x7 : Int32) : Option (Int32) :=
  if y0 = 0 then
  (some (1000 : Int32))
  else
  (if x4 ≤ (x1 * (x7 - x0)) then
  (some (1000 : Int32))
  else
  (some x7))
def DX8_meetingDay (x0 : Int32) (x1 : Int32) (x2 : Int32) (x3 : Int32) (x4 : Int32) : Option (Int32) :=
  if (x1 - x3) = 0 then
  (if x0 = x2 then
  (some x0)
  else
  (some (1000 : Int32)))
  else
  (if (x1 - x3) = 0 then none else
  if (((x1 * x0) - (x3 * x2)) - ((x1 * x0) - (x3 * x2)) / (x1 - x3) * (x1 - x3)) = 0 then
  (if (x1 - x3) = 0 then none else
  if (((x1 * x0) - (x3 * x2)) / (x1 - x3)) < x0 then
  (DX8_meetingDay_J68 x0 x1 x4 (0 : Int32) (((x1 * x0) - (x3 * x2)) / (x1 - x3)))
  else
  (if (((x1 * x0) - (x3 * x2)) / (x1 - x3)) < x2 then
  (DX8_meetingDay_J68 x0 x1 x4 (0 : Int32) (((x1 * x0) - (x3 * x2)) / (x1 - x3)))
  else
  (DX8_meetingDay_J68 x0 x1 x4 (1 : Int32) (((x1 * x0) - (x3 * x2)) / (x1 - x3)))))
  else
  (some (1000 : Int32)))
def DX1_meetingOf (x1 : Int32) (x2 : Int32) (x3 : Int32) (c_loads_cells : Nat → Int32) : Option (Int32) :=
  bd1 (DX5_get x1 (4 : Int32) (7 : Int32) (10 : Int32) 70 c_loads_cells) fun r_1 =>
  bd1 (DX5_get x2 (4 : Int32) (7 : Int32) (10 : Int32) 70 c_loads_cells) fun r_3 =>
  if r_1 = r_3 then
  (bd1 (DX5_get x1 (0 : Int32) (7 : Int32) (10 : Int32) 70 c_loads_cells) fun r_6 =>
  bd1 (DX5_get x1 (2 : Int32) (7 : Int32) (10 : Int32) 70 c_loads_cells) fun r_8 =>
  bd1 (DX5_get x2 (0 : Int32) (7 : Int32) (10 : Int32) 70 c_loads_cells) fun r_10 =>
  bd1 (DX5_get x2 (2 : Int32) (7 : Int32) (10 : Int32) 70 c_loads_cells) fun r_12 =>
  bd1 (DX8_meetingDay r_6 r_8 r_10 r_12 x3) fun r_14 =>
  some r_14)
  else
  (some (1000 : Int32))
def DX1_nextMeeting_L19s (x1 : Int32) (c_loads_cells : Nat → Int32) (c_order : Nat → Int32) (c_done : Int32) (x3 : Int32) (x2 : Int32) (x4 : Int32) : Option ((Int32 × Int32) ⊕ (Int32)) :=
  if c_done ≤ x4 then
  (some (.inr x2))
  else
  (bd1 (DX8_at x3 7 c_order) fun r_3 =>
  bd1 (DX8_at x4 7 c_order) fun r_5 =>
  bd1 (DX5_get r_3 (7 : Int32) (7 : Int32) (10 : Int32) 70 c_loads_cells) fun r_7 =>
  if r_7 = (1000 : Int32) then
  (bd1 (DX5_get r_5 (7 : Int32) (7 : Int32) (10 : Int32) 70 c_loads_cells) fun r_10 =>
  if r_10 = (1000 : Int32) then
  (bd1 (DX1_meetingOf r_3 r_5 x1 c_loads_cells) fun r_13 =>
  some (.inl ((if r_13 < x2 then r_13 else x2), (x4 + (1 : Int32)))))
  else
  (some (.inl (x2, (x4 + (1 : Int32))))))
  else
  (some (.inl (x2, (x4 + (1 : Int32))))))
def DX1_nextMeeting_L19 (x1 : Int32) (c_loads_cells : Nat → Int32) (c_order : Nat → Int32) (c_done : Int32) (x3 : Int32) (n : Nat) (x2 : Int32) (x4 : Int32) : Option (Int32) := it (fun (st : Int32 × Int32) => DX1_nextMeeting_L19s x1 c_loads_cells c_order c_done x3 (st.1) (st.2)) n (x2, x4)
def DX1_nextMeeting_L6s (x1 : Int32) (c_loads_cells : Nat → Int32) (c_order : Nat → Int32) (c_done : Int32) (x2 : Int32) (x3 : Int32) : Option ((Int32 × Int32) ⊕ (Int32)) :=
  if c_done ≤ x3 then
  (some (.inr x2))
  else
  (bd1 (DX1_nextMeeting_L19 x1 c_loads_cells c_order c_done x3 FU x2 (x3 + (1 : Int32))) fun z2_15 =>
  some (.inl (z2_15, (x3 + (1 : Int32)))))
def DX1_nextMeeting_L6 (x1 : Int32) (c_loads_cells : Nat → Int32) (c_order : Nat → Int32) (c_done : Int32) (n : Nat) (x2 : Int32) (x3 : Int32) : Option (Int32) := it (fun (st : Int32 × Int32) => DX1_nextMeeting_L6s x1 c_loads_cells c_order c_done (st.1) (st.2)) n (x2, x3)
def DX1_nextMeeting (x1 : Int32) (c_loads_cells : Nat → Int32) (c_order : Nat → Int32) (c_done : Int32) : Option (Int32) :=
  bd1 (DX1_nextMeeting_L6 x1 c_loads_cells c_order c_done FU (1000 : Int32) (0 : Int32)) fun z2_16 =>
  some z2_16
def DX1_loseOn_J80 (x1 : Int32) (x2 : Int32) (c_loads_cells : Nat → Int32) (y0 : Int32) (x4 : Int32) (x5 : Int32) (x6 : Int32) : Option ((Int32 × (Nat → Int32)) ⊕ ((Nat → Int32))) :=
  if y0 = 0 then
  (some (.inl ((x4 + (1 : Int32)), c_loads_cells)))
  else
  (bd1 (DX1_meetingOf x5 x6 x2 c_loads_cells) fun r_11 =>
  if r_11 = x1 then
  (bd1 (DX5_set x5 (7 : Int32) x1 (7 : Int32) (10 : Int32) 70 c_loads_cells) fun k_loads_cells_14 =>
  bd1 (DX5_set x6 (7 : Int32) x1 (7 : Int32) (10 : Int32) 70 k_loads_cells_14) fun k_loads_cells_16 =>
  some (.inl ((x4 + (1 : Int32)), k_loads_cells_16)))
  else
  (some (.inl ((x4 + (1 : Int32)), c_loads_cells))))
def DX1_loseOn_L15s (x1 : Int32) (x2 : Int32) (c_order : Nat → Int32) (c_done : Int32) (x3 : Int32) (x4 : Int32) (c_loads_cells : Nat → Int32) : Option ((Int32 × (Nat → Int32)) ⊕ ((Nat → Int32))) :=
  if c_done ≤ x4 then
  (some (.inr c_loads_cells))
  else
  (bd1 (DX8_at x3 7 c_order) fun r_3 =>
  bd1 (DX8_at x4 7 c_order) fun r_5 =>
  bd1 (DX5_get r_3 (7 : Int32) (7 : Int32) (10 : Int32) 70 c_loads_cells) fun r_7 =>
  if r_7 < x1 then
  (DX1_loseOn_J80 x1 x2 c_loads_cells (0 : Int32) x4 r_3 r_5)
  else
  (bd1 (DX5_get r_5 (7 : Int32) (7 : Int32) (10 : Int32) 70 c_loads_cells) fun r_18 =>
  if r_18 < x1 then
  (DX1_loseOn_J80 x1 x2 c_loads_cells (0 : Int32) x4 r_3 r_5)
  else
  (DX1_loseOn_J80 x1 x2 c_loads_cells (1 : Int32) x4 r_3 r_5)))
def DX1_loseOn_L15 (x1 : Int32) (x2 : Int32) (c_order : Nat → Int32) (c_done : Int32) (x3 : Int32) (n : Nat) (x4 : Int32) (c_loads_cells : Nat → Int32) : Option ((Nat → Int32)) := it (fun (st : Int32 × (Nat → Int32)) => DX1_loseOn_L15s x1 x2 c_order c_done x3 (st.1) (st.2)) n (x4, c_loads_cells)
def DX1_loseOn_L2s (x1 : Int32) (x2 : Int32) (c_order : Nat → Int32) (c_done : Int32) (x3 : Int32) (c_loads_cells : Nat → Int32) : Option ((Int32 × (Nat → Int32)) ⊕ ((Nat → Int32))) :=
  if c_done ≤ x3 then
  (some (.inr c_loads_cells))
  else
  (bd1 (DX1_loseOn_L15 x1 x2 c_order c_done x3 FU (x3 + (1 : Int32)) c_loads_cells) fun k_loads_cells_21 =>
  some (.inl ((x3 + (1 : Int32)), k_loads_cells_21)))
def DX1_loseOn_L2 (x1 : Int32) (x2 : Int32) (c_order : Nat → Int32) (c_done : Int32) (n : Nat) (x3 : Int32) (c_loads_cells : Nat → Int32) : Option ((Nat → Int32)) := it (fun (st : Int32 × (Nat → Int32)) => DX1_loseOn_L2s x1 x2 c_order c_done (st.1) (st.2)) n (x3, c_loads_cells)
def DX1_loseOn (x1 : Int32) (x2 : Int32) (c_loads_cells : Nat → Int32) (c_order : Nat → Int32) (c_done : Int32) : Option ((Nat → Int32)) :=
  bd1 (DX1_loseOn_L2 x1 x2 c_order c_done FU (0 : Int32) c_loads_cells) fun k_loads_cells_22 =>
  some k_loads_cells_22
def DX1_meetAll_L2s (x1 : Int32) (c_order : Nat → Int32) (c_done : Int32) (x2 : Int32) (c_loads_cells : Nat → Int32) : Option ((Int32 × (Nat → Int32)) ⊕ (((Nat → Int32)) ⊕ ((Nat → Int32)))) :=
  if (7 : Int32) ≤ x2 then
  (some (.inr (.inl c_loads_cells)))
  else
  (bd1 (DX1_nextMeeting x1 c_loads_cells c_order c_done) fun r_2 =>
  if r_2 = (1000 : Int32) then
  (some (.inr (.inr c_loads_cells)))
  else
  (bd1 (DX1_loseOn r_2 x1 c_loads_cells c_order c_done) fun k_loads_cells_5 =>
  some (.inl ((x2 + (1 : Int32)), k_loads_cells_5))))
def DX1_meetAll_L2 (x1 : Int32) (c_order : Nat → Int32) (c_done : Int32) (n : Nat) (x2 : Int32) (c_loads_cells : Nat → Int32) : Option (((Nat → Int32)) ⊕ ((Nat → Int32))) := it (fun (st : Int32 × (Nat → Int32)) => DX1_meetAll_L2s x1 c_order c_done (st.1) (st.2)) n (x2, c_loads_cells)
def DX1_meetAll (x1 : Int32) (c_loads_cells : Nat → Int32) (c_order : Nat → Int32) (c_done : Int32) : Option ((Nat → Int32)) :=
  el1 (DX1_meetAll_L2 x1 c_order c_done FU (0 : Int32) c_loads_cells) (fun k_loads_cells_7 =>
  some k_loads_cells_7) (fun r => some r)
def DX8_apart (x0 : Int32) (x1 : Int32) : Option (Int32) :=
  bd1 (DJ9_floorMod_7cf53 (x0 - x1) (24 : Int32)) fun r_1 =>
  some (if ((24 : Int32) - r_1) < r_1 then ((24 : Int32) - r_1) else r_1)
def DX3_catches_J44 (x1 : Int32) (c_nets_cells : Nat → Int32) (y0 : Int32) (x3 : Int32) : Option ((Int32) ⊕ ((Unit) ⊕ (Int32))) :=
  if y0 = 0 then
  (some (.inl (x3 + (1 : Int32))))
  else
  (bd1 (DX5_get x3 (0 : Int32) (5 : Int32) (4 : Int32) 20 c_nets_cells) fun r_8 =>
  bd1 (DX8_apart x1 r_8) fun r_10 =>
  bd1 (DX5_get x3 (1 : Int32) (5 : Int32) (4 : Int32) 20 c_nets_cells) fun r_12 =>
  if r_12 < r_10 then
  (some (.inl (x3 + (1 : Int32))))
  else
  (some (.inr (.inr (1 : Int32)))))
def DX3_catches_L2s (x1 : Int32) (x2 : Int32) (c_nets_cells : Nat → Int32) (c_nets_filled : Int32) (x3 : Int32) : Option ((Int32) ⊕ ((Unit) ⊕ (Int32))) :=
  bd1 (DX5_rows c_nets_filled) fun r_1 =>
  if r_1 ≤ x3 then
  (some (.inr (.inl ())))
  else
  (bd1 (DX5_get x3 (2 : Int32) (5 : Int32) (4 : Int32) 20 c_nets_cells) fun r_4 =>
  if x2 < r_4 then
  (DX3_catches_J44 x1 c_nets_cells (0 : Int32) x3)
  else
  (bd1 (DX5_get x3 (3 : Int32) (5 : Int32) (4 : Int32) 20 c_nets_cells) fun r_15 =>
  if r_15 < x2 then
  (DX3_catches_J44 x1 c_nets_cells (0 : Int32) x3)
  else
  (DX3_catches_J44 x1 c_nets_cells (1 : Int32) x3)))
def DX3_catches_L2 (x1 : Int32) (x2 : Int32) (c_nets_cells : Nat → Int32) (c_nets_filled : Int32) (n : Nat) (x3 : Int32) : Option ((Unit) ⊕ (Int32)) := it (fun (st : Int32) => DX3_catches_L2s x1 x2 c_nets_cells c_nets_filled st) n x3
def DX3_catches (x1 : Int32) (x2 : Int32) (c_nets_cells : Nat → Int32) (c_nets_filled : Int32) : Option (Int32) :=
  el0 (DX3_catches_L2 x1 x2 c_nets_cells c_nets_filled FU (0 : Int32)) (
  some (0 : Int32)) (fun r => some r)
def DX3_priceOn (x1 : Int32) (c_priceStart : Int32) (c_priceStep : Int32) : Option (Int32) :=
  some (((c_priceStart + (c_priceStep * x1)) - (c_priceStart + (c_priceStep * x1)) / (50 : Int32) * (50 : Int32)) + (1 : Int32))
def DX1_come_J131 (x1 : Int32) (c_loads_cells : Nat → Int32) (o_priceStart : Int32) (o_priceStep : Int32) (y0 : Int32) (y1 : Int32) (y2 : Int32) (x7 : Int32) (x8 : Int32) : Option ((Nat → Int32)) :=
  bd1 (DX5_set y2 y1 y0 (7 : Int32) (10 : Int32) 70 c_loads_cells) fun k_loads_cells_18 =>
  if x8 = 0 then
  (bd1 (DX5_set x1 (8 : Int32) (0 : Int32) (7 : Int32) (10 : Int32) 70 k_loads_cells_18) fun k_loads_cells_21 =>
  some k_loads_cells_21)
  else
  (bd1 (DX3_priceOn x7 o_priceStart o_priceStep) fun r_23 =>
  bd1 (DX5_set x1 (8 : Int32) r_23 (7 : Int32) (10 : Int32) 70 k_loads_cells_18) fun k_loads_cells_25 =>
  some k_loads_cells_25)
def DX1_come_J47 (x1 : Int32) (c_loads_cells : Nat → Int32) (o_priceStart : Int32) (o_priceStep : Int32) (o_nets_cells : Nat → Int32) (o_nets_filled : Int32) (y0 : Int32) (x4 : Int32) : Option ((Nat → Int32)) :=
  bd1 (DX5_get x1 (4 : Int32) (7 : Int32) (10 : Int32) 70 c_loads_cells) fun r_7 =>
  bd1 (DX5_get x1 (0 : Int32) (7 : Int32) (10 : Int32) 70 c_loads_cells) fun r_9 =>
  bd1 (DX3_catches ((r_7 + y0) - (r_7 + y0) / (24 : Int32) * (24 : Int32)) (r_9 + x4) o_nets_cells o_nets_filled) fun r_11 =>
  bd1 (DX5_set x1 (9 : Int32) ((r_7 + y0) - (r_7 + y0) / (24 : Int32) * (24 : Int32)) (7 : Int32) (10 : Int32) 70 c_loads_cells) fun k_loads_cells_13 =>
  bd1 (DX5_set x1 (7 : Int32) (r_9 + x4) (7 : Int32) (10 : Int32) 70 k_loads_cells_13) fun k_loads_cells_15 =>
  if r_11 = 0 then
  (DX1_come_J131 x1 k_loads_cells_15 o_priceStart o_priceStep (1 : Int32) (6 : Int32) x1 (r_9 + x4) r_11)
  else
  (DX1_come_J131 x1 k_loads_cells_15 o_priceStart o_priceStep (0 : Int32) (6 : Int32) x1 (r_9 + x4) r_11)
def DX1_come (x1 : Int32) (c_loads_cells : Nat → Int32) (o_home : Int32) (o_priceStart : Int32) (o_priceStep : Int32) (o_nets_cells : Nat → Int32) (o_nets_filled : Int32) : Option ((Nat → Int32)) :=
  bd1 (DX5_get x1 (2 : Int32) (7 : Int32) (10 : Int32) 70 c_loads_cells) fun r_1 =>
  if (if (1 : Int32) < r_1 then r_1 else (1 : Int32)) = 0 then none else
  bd1 (DX5_get x1 (3 : Int32) (7 : Int32) (10 : Int32) 70 c_loads_cells) fun r_4 =>
  if r_4 = (3 : Int32) then
  (DX1_come_J47 x1 c_loads_cells o_priceStart o_priceStep o_nets_cells o_nets_filled ((((o_home + (if (1 : Int32) < r_1 then r_1 else (1 : Int32))) - (1 : Int32)) / (if (1 : Int32) < r_1 then r_1 else (1 : Int32))) / (4 : Int32)) (((o_home + (if (1 : Int32) < r_1 then r_1 else (1 : Int32))) - (1 : Int32)) / (if (1 : Int32) < r_1 then r_1 else (1 : Int32))))
  else
  (DX1_come_J47 x1 c_loads_cells o_priceStart o_priceStep o_nets_cells o_nets_filled (0 : Int32) (((o_home + (if (1 : Int32) < r_1 then r_1 else (1 : Int32))) - (1 : Int32)) / (if (1 : Int32) < r_1 then r_1 else (1 : Int32))))
def DX1_bringHome_L2s (c_order : Nat → Int32) (c_done : Int32) (o_home : Int32) (o_priceStart : Int32) (o_priceStep : Int32) (o_nets_cells : Nat → Int32) (o_nets_filled : Int32) (x2 : Int32) (c_loads_cells : Nat → Int32) : Option ((Int32 × (Nat → Int32)) ⊕ ((Nat → Int32))) :=
  if c_done ≤ x2 then
  (some (.inr c_loads_cells))
  else
  (bd1 (DX8_at x2 7 c_order) fun r_2 =>
  bd1 (DX5_set r_2 (6 : Int32) (2 : Int32) (7 : Int32) (10 : Int32) 70 c_loads_cells) fun k_loads_cells_4 =>
  bd1 (DX5_set r_2 (8 : Int32) (0 : Int32) (7 : Int32) (10 : Int32) 70 k_loads_cells_4) fun k_loads_cells_6 =>
  bd1 (DX5_get r_2 (7 : Int32) (7 : Int32) (10 : Int32) 70 k_loads_cells_6) fun r_8 =>
  if r_8 = (1000 : Int32) then
  (bd1 (DX1_come r_2 k_loads_cells_6 o_home o_priceStart o_priceStep o_nets_cells o_nets_filled) fun k_loads_cells_11 =>
  some (.inl ((x2 + (1 : Int32)), k_loads_cells_11)))
  else
  (some (.inl ((x2 + (1 : Int32)), k_loads_cells_6))))
def DX1_bringHome_L2 (c_order : Nat → Int32) (c_done : Int32) (o_home : Int32) (o_priceStart : Int32) (o_priceStep : Int32) (o_nets_cells : Nat → Int32) (o_nets_filled : Int32) (n : Nat) (x2 : Int32) (c_loads_cells : Nat → Int32) : Option ((Nat → Int32)) := it (fun (st : Int32 × (Nat → Int32)) => DX1_bringHome_L2s c_order c_done o_home o_priceStart o_priceStep o_nets_cells o_nets_filled (st.1) (st.2)) n (x2, c_loads_cells)
def DX1_bringHome (c_loads_cells : Nat → Int32) (c_order : Nat → Int32) (c_done : Int32) (o_home : Int32) (o_priceStart : Int32) (o_priceStep : Int32) (o_nets_cells : Nat → Int32) (o_nets_filled : Int32) : Option ((Nat → Int32)) :=
  bd1 (DX1_bringHome_L2 c_order c_done o_home o_priceStart o_priceStep o_nets_cells o_nets_filled FU (0 : Int32) c_loads_cells) fun k_loads_cells_13 =>
  some k_loads_cells_13
def DX1_lineUp_L5s (x1 : Int32) (c_loads_cells : Nat → Int32) (x2 : Int32) (c_order : Nat → Int32) : Option ((Int32 × (Nat → Int32)) ⊕ (Int32 × (Nat → Int32))) :=
  if x2 ≤ 0 then
  (some (.inr (x2, c_order)))
  else
  (bd1 (DX8_at (x2 - (1 : Int32)) 7 c_order) fun r_2 =>
  bd1 (DX5_get r_2 (0 : Int32) (7 : Int32) (10 : Int32) 70 c_loads_cells) fun r_4 =>
  bd1 (DX5_get x1 (0 : Int32) (7 : Int32) (10 : Int32) 70 c_loads_cells) fun r_6 =>
  if r_4 ≤ r_6 then
  (some (.inr (x2, c_order)))
  else
  (bd1 (DX8_at (x2 - (1 : Int32)) 7 c_order) fun r_9 =>
  bd1 (DX8_put x2 r_9 7 c_order) fun k_order_11 =>
  some (.inl ((x2 + (-1 : Int32)), k_order_11))))
def DX1_lineUp_L5 (x1 : Int32) (c_loads_cells : Nat → Int32) (n : Nat) (x2 : Int32) (c_order : Nat → Int32) : Option (Int32 × (Nat → Int32)) := it (fun (st : Int32 × (Nat → Int32)) => DX1_lineUp_L5s x1 c_loads_cells (st.1) (st.2)) n (x2, c_order)
def DX1_lineUp_J63 (x1 : Int32) (c_order : Nat → Int32) (c_done : Int32) (x2 : Int32) : Option ((Nat → Int32) × Int32) :=
  bd1 (DX8_put x2 x1 7 c_order) fun k_order_15 =>
  some (k_order_15, (c_done + (1 : Int32)))
def DX1_lineUp (x1 : Int32) (c_loads_cells : Nat → Int32) (c_order : Nat → Int32) (c_done : Int32) : Option ((Nat → Int32) × Int32) :=
  bd2 (DX1_lineUp_L5 x1 c_loads_cells FU c_done c_order) fun z2_13 k_order_14 =>
  DX1_lineUp_J63 x1 k_order_14 c_done z2_13
def DX1_fly_L21s (o_thrown_cells : Nat → Int32) (x3 : Int32) (x4 : Int32) (c_loads_cells : Nat → Int32) : Option ((Int32 × (Nat → Int32)) ⊕ ((Nat → Int32))) :=
  if (4 : Int32) ≤ x4 then
  (some (.inr c_loads_cells))
  else
  (bd1 (DX5_get x3 x4 (7 : Int32) (4 : Int32) 28 o_thrown_cells) fun r_5 =>
  bd1 (DX5_set x3 x4 r_5 (7 : Int32) (10 : Int32) 70 c_loads_cells) fun k_loads_cells_7 =>
  some (.inl ((x4 + (1 : Int32)), k_loads_cells_7)))
def DX1_fly_L21 (o_thrown_cells : Nat → Int32) (x3 : Int32) (n : Nat) (x4 : Int32) (c_loads_cells : Nat → Int32) : Option ((Nat → Int32)) := it (fun (st : Int32 × (Nat → Int32)) => DX1_fly_L21s o_thrown_cells x3 (st.1) (st.2)) n (x4, c_loads_cells)
def DX1_fly_L7s (x2 : Int32) (o_thrown_cells : Nat → Int32) (o_thrown_filled : Int32) (x3 : Int32) (c_loads_cells : Nat → Int32) (c_order : Nat → Int32) (c_done : Int32) : Option ((Int32 × (Nat → Int32) × (Nat → Int32) × Int32) ⊕ ((Nat → Int32) × (Nat → Int32) × Int32)) :=
  bd1 (DX5_rows o_thrown_filled) fun r_1 =>
  if r_1 ≤ x3 then
  (some (.inr (c_loads_cells, c_order, c_done)))
  else
  (bd1 (DX1_fly_L21 o_thrown_cells x3 FU (0 : Int32) c_loads_cells) fun k_loads_cells_9 =>
  if ((x2 >>> (x3 &&& 31)) &&& (1 : Int32)) = 0 then
  (bd2 (DX1_lineUp x3 k_loads_cells_9 c_order c_done) fun k_order_11 k_done_12 =>
  some (.inl ((x3 + (1 : Int32)), k_loads_cells_9, k_order_11, k_done_12)))
  else
  (some (.inl ((x3 + (1 : Int32)), k_loads_cells_9, c_order, c_done))))
def DX1_fly_L7 (x2 : Int32) (o_thrown_cells : Nat → Int32) (o_thrown_filled : Int32) (n : Nat) (x3 : Int32) (c_loads_cells : Nat → Int32) (c_order : Nat → Int32) (c_done : Int32) : Option ((Nat → Int32) × (Nat → Int32) × Int32) := it (fun (st : Int32 × (Nat → Int32) × (Nat → Int32) × Int32) => DX1_fly_L7s x2 o_thrown_cells o_thrown_filled (st.1) (st.2.1) (st.2.2.1) (st.2.2.2)) n (x3, c_loads_cells, c_order, c_done)
def DX1_fly (x2 : Int32) (c_loads_cells : Nat → Int32) (c_order : Nat → Int32) (o_stand : Int32) (o_home : Int32) (o_priceStart : Int32) (o_priceStep : Int32) (o_thrown_cells : Nat → Int32) (o_thrown_filled : Int32) (o_nets_cells : Nat → Int32) (o_nets_filled : Int32) : Option ((Nat → Int32) × (Nat → Int32) × Int32 × Int32 × Int32) :=
  bd3 (DX1_fly_L7 x2 o_thrown_cells o_thrown_filled FU (0 : Int32) c_loads_cells c_order (0 : Int32)) fun k_loads_cells_14 k_order_15 k_done_16 =>
  bd3 (DX1_throwAll o_stand k_loads_cells_14 k_order_15 k_done_16) fun k_loads_cells_17 k_start_18 k_end_19 =>
  bd1 (DX1_meetAll o_home k_loads_cells_17 k_order_15 k_done_16) fun k_loads_cells_21 =>
  bd1 (DX1_bringHome k_loads_cells_21 k_order_15 k_done_16 o_home o_priceStart o_priceStep o_nets_cells o_nets_filled) fun k_loads_cells_23 =>
  some (k_loads_cells_23, k_order_15, k_done_16, k_start_18, k_end_19)
def DX1_known (x1 : Int32) (x2 : Int32) (c_loads_cells : Nat → Int32) : Option (Int32) :=
  bd1 (DX5_get x1 x2 (7 : Int32) (10 : Int32) 70 c_loads_cells) fun r_1 =>
  some r_1
def DX1_farOn_J35 (x1 : Int32) (c_loads_cells : Nat → Int32) (y0 : Int32) (x3 : Int32) : Option (Int32) :=
  if y0 = 0 then
  (some (-4 : Int32))
  else
  (bd1 (DX5_get x1 (2 : Int32) (7 : Int32) (10 : Int32) 70 c_loads_cells) fun r_5 =>
  some (x3 * r_5))
def DX1_farOn (x1 : Int32) (x2 : Int32) (c_loads_cells : Nat → Int32) : Option (Int32) :=
  bd1 (DX5_get x1 (0 : Int32) (7 : Int32) (10 : Int32) 70 c_loads_cells) fun r_1 =>
  if (x2 - r_1) < 0 then
  (DX1_farOn_J35 x1 c_loads_cells (0 : Int32) (x2 - r_1))
  else
  (bd1 (DX5_get x1 (7 : Int32) (7 : Int32) (10 : Int32) 70 c_loads_cells) fun r_7 =>
  if r_7 ≤ x2 then
  (DX1_farOn_J35 x1 c_loads_cells (0 : Int32) (x2 - r_1))
  else
  (DX1_farOn_J35 x1 c_loads_cells (1 : Int32) (x2 - r_1)))
def DX1_standBehind_L7s (x1 : Int32) (c_loads_cells : Nat → Int32) (c_order : Nat → Int32) (c_done : Int32) (x2 : Int32) (x3 : Int32) : Option ((Int32 × Int32) ⊕ (Int32)) :=
  if c_done ≤ x3 then
  (some (.inr x2))
  else
  (bd1 (DX8_at x3 7 c_order) fun r_2 =>
  bd1 (DX5_get r_2 (0 : Int32) (7 : Int32) (10 : Int32) 70 c_loads_cells) fun r_4 =>
  if x1 < r_4 then
  (some (.inl (x2, (x3 + (1 : Int32)))))
  else
  (bd1 (DX5_get r_2 (5 : Int32) (7 : Int32) (10 : Int32) 70 c_loads_cells) fun r_7 =>
  some (.inl (r_7, (x3 + (1 : Int32))))))
def DX1_standBehind_L7 (x1 : Int32) (c_loads_cells : Nat → Int32) (c_order : Nat → Int32) (c_done : Int32) (n : Nat) (x2 : Int32) (x3 : Int32) : Option (Int32) := it (fun (st : Int32 × Int32) => DX1_standBehind_L7s x1 c_loads_cells c_order c_done (st.1) (st.2)) n (x2, x3)
def DX1_standBehind (x1 : Int32) (c_loads_cells : Nat → Int32) (c_order : Nat → Int32) (c_done : Int32) (c_start : Int32) : Option (Int32) :=
  bd1 (DX1_standBehind_L7 x1 c_loads_cells c_order c_done FU c_start (0 : Int32)) fun z2_9 =>
  some z2_9
def DX1_howMany_L4s (x1 : Int32) (c_loads_cells : Nat → Int32) (c_order : Nat → Int32) (c_done : Int32) (x2 : Int32) (x3 : Int32) : Option ((Int32 × Int32) ⊕ (Int32)) :=
  if c_done ≤ x3 then
  (some (.inr x2))
  else
  (bd1 (DX8_at x3 7 c_order) fun r_2 =>
  bd1 (DX5_get r_2 (6 : Int32) (7 : Int32) (10 : Int32) 70 c_loads_cells) fun r_4 =>
  if r_4 = x1 then
  (some (.inl ((x2 + (1 : Int32)), (x3 + (1 : Int32)))))
  else
  (some (.inl (x2, (x3 + (1 : Int32))))))
def DX1_howMany_L4 (x1 : Int32) (c_loads_cells : Nat → Int32) (c_order : Nat → Int32) (c_done : Int32) (n : Nat) (x2 : Int32) (x3 : Int32) : Option (Int32) := it (fun (st : Int32 × Int32) => DX1_howMany_L4s x1 c_loads_cells c_order c_done (st.1) (st.2)) n (x2, x3)
def DX1_howMany (x1 : Int32) (c_loads_cells : Nat → Int32) (c_order : Nat → Int32) (c_done : Int32) : Option (Int32) :=
  bd1 (DX1_howMany_L4 x1 c_loads_cells c_order c_done FU (0 : Int32) (0 : Int32)) fun z2_7 =>
  some z2_7
def DX1_paidInAll_L4s (c_loads_cells : Nat → Int32) (c_order : Nat → Int32) (c_done : Int32) (x1 : Int32) (x2 : Int32) : Option ((Int32 × Int32) ⊕ (Int32)) :=
  if c_done ≤ x2 then
  (some (.inr x1))
  else
  (bd1 (DX8_at x2 7 c_order) fun r_2 =>
  bd1 (DX5_get r_2 (8 : Int32) (7 : Int32) (10 : Int32) 70 c_loads_cells) fun r_4 =>
  some (.inl ((x1 + r_4), (x2 + (1 : Int32)))))
def DX1_paidInAll_L4 (c_loads_cells : Nat → Int32) (c_order : Nat → Int32) (c_done : Int32) (n : Nat) (x1 : Int32) (x2 : Int32) : Option (Int32) := it (fun (st : Int32 × Int32) => DX1_paidInAll_L4s c_loads_cells c_order c_done (st.1) (st.2)) n (x1, x2)
def DX1_paidInAll (c_loads_cells : Nat → Int32) (c_order : Nat → Int32) (c_done : Int32) : Option (Int32) :=
  bd1 (DX1_paidInAll_L4 c_loads_cells c_order c_done FU (0 : Int32) (0 : Int32)) fun z1_6 =>
  some z1_6
def DX1_caughtWith_J64 (c_loads_cells : Nat → Int32) (y0 : Int32) (x3 : Int32) (x4 : Int32) (x5 : Int32) : Option ((Int32 × Int32) ⊕ (Int32)) :=
  if y0 = 0 then
  (bd1 (DX5_get x5 (6 : Int32) (7 : Int32) (10 : Int32) 70 c_loads_cells) fun r_8 =>
  if r_8 = 0 then
  (some (.inl ((x3 + (1 : Int32)), (x4 + (1 : Int32)))))
  else
  (some (.inl (x3, (x4 + (1 : Int32))))))
  else
  (some (.inl ((x3 + (1 : Int32)), (x4 + (1 : Int32)))))
def DX1_caughtWith_L5s (x1 : Int32) (x2 : Int32) (c_loads_cells : Nat → Int32) (c_order : Nat → Int32) (c_done : Int32) (x3 : Int32) (x4 : Int32) : Option ((Int32 × Int32) ⊕ (Int32)) :=
  if c_done ≤ x4 then
  (some (.inr x3))
  else
  (bd1 (DX8_at x4 7 c_order) fun r_2 =>
  bd1 (DX5_get r_2 (6 : Int32) (7 : Int32) (10 : Int32) 70 c_loads_cells) fun r_4 =>
  if r_4 = (1 : Int32) then
  (bd1 (DX5_get r_2 (9 : Int32) (7 : Int32) (10 : Int32) 70 c_loads_cells) fun r_11 =>
  bd1 (DX8_apart r_11 x1) fun r_13 =>
  if x2 < r_13 then
  (DX1_caughtWith_J64 c_loads_cells (0 : Int32) x3 x4 r_2)
  else
  (DX1_caughtWith_J64 c_loads_cells (1 : Int32) x3 x4 r_2))
  else
  (DX1_caughtWith_J64 c_loads_cells (0 : Int32) x3 x4 r_2))
def DX1_caughtWith_L5 (x1 : Int32) (x2 : Int32) (c_loads_cells : Nat → Int32) (c_order : Nat → Int32) (c_done : Int32) (n : Nat) (x3 : Int32) (x4 : Int32) : Option (Int32) := it (fun (st : Int32 × Int32) => DX1_caughtWith_L5s x1 x2 c_loads_cells c_order c_done (st.1) (st.2)) n (x3, x4)
def DX1_caughtWith (x1 : Int32) (x2 : Int32) (c_loads_cells : Nat → Int32) (c_order : Nat → Int32) (c_done : Int32) : Option (Int32) :=
  bd1 (DX1_caughtWith_L5 x1 x2 c_loads_cells c_order c_done FU (0 : Int32) (0 : Int32)) fun z3_16 =>
  some z3_16
def DX2_forget  : Option (Int32) :=
  some (0 : Int32)
def DX5_takeOver (pm : Int32) (pn : Nat) (qn : Nat) (c_cells : Nat → Int32) (o_cells : Nat → Int32) (o_filled : Int32) : Option ((Nat → Int32) × Int32) :=
  if (if (Int32.ofNat qn) < (Int32.ofNat pn) then (Int32.ofNat qn) else (Int32.ofNat pn)) < 0 then none else
  if ¬ ((0 : Int32).toNatClampNeg + (if (Int32.ofNat qn) < (Int32.ofNat pn) then (Int32.ofNat qn) else (Int32.ofNat pn)).toNatClampNeg ≤ qn) then none else
  if ¬ ((0 : Int32).toNatClampNeg + (if (Int32.ofNat qn) < (Int32.ofNat pn) then (Int32.ofNat qn) else (Int32.ofNat pn)).toNatClampNeg ≤ pn) then none else
  some ((va_cpy o_cells c_cells (0 : Int32).toNatClampNeg (0 : Int32).toNatClampNeg (if (Int32.ofNat qn) < (Int32.ofNat pn) then (Int32.ofNat qn) else (Int32.ofNat pn)).toNatClampNeg), (if pm < o_filled then pm else o_filled))
def DX2_take (c_older_cells : Nat → Int32) (c_older_filled : Int32) (c_newer_cells : Nat → Int32) (c_newer_filled : Int32) (c_held : Int32) (o_cells : Nat → Int32) (o_filled : Int32) : Option (Int32 × (Nat → Int32) × Int32 × (Nat → Int32) × Int32 × Int32) :=
  if c_held = (2 : Int32) then
  (some ((0 : Int32), c_older_cells, c_older_filled, c_newer_cells, c_newer_filled, c_held))
  else
  (if c_held = 0 then
  (bd2 (DX5_takeOver (7 : Int32) 28 28 c_older_cells o_cells o_filled) fun k_older_cells_6 k_older_filled_7 =>
  some ((1 : Int32), k_older_cells_6, k_older_filled_7, c_newer_cells, c_newer_filled, (c_held + (1 : Int32))))
  else
  (bd2 (DX5_takeOver (7 : Int32) 28 28 c_newer_cells o_cells o_filled) fun k_newer_cells_3 k_newer_filled_4 =>
  some ((1 : Int32), c_older_cells, c_older_filled, k_newer_cells_3, k_newer_filled_4, (c_held + (1 : Int32)))))
def DX2_giveBack (c_older_cells : Nat → Int32) (c_older_filled : Int32) (c_newer_cells : Nat → Int32) (c_newer_filled : Int32) (c_held : Int32) (o_cells : Nat → Int32) (o_filled : Int32) : Option (Int32 × Int32 × (Nat → Int32) × Int32) :=
  if c_held = 0 then
  (some ((0 : Int32), c_held, o_cells, o_filled))
  else
  (if (c_held - (1 : Int32)) = 0 then
  (bd2 (DX5_takeOver (7 : Int32) 28 28 o_cells c_older_cells c_older_filled) fun k_cells_6 k_filled_7 =>
  some ((1 : Int32), (c_held - (1 : Int32)), k_cells_6, k_filled_7))
  else
  (bd2 (DX5_takeOver (7 : Int32) 28 28 o_cells c_newer_cells c_newer_filled) fun k_cells_3 k_filled_4 =>
  some ((1 : Int32), (c_held - (1 : Int32)), k_cells_3, k_filled_4)))
def DX5_empty  : Option (Int32) :=
  some (0 : Int32)
def DX3_makeBare  : Option (Int32 × Int32 × Int32 × Int32 × Int32 × Int32) :=
  bd1 (DX5_empty) fun k_thrown_filled_1 =>
  bd1 (DX5_empty) fun k_nets_filled_3 =>
  some ((0 : Int32), (12 : Int32), (0 : Int32), (7 : Int32), k_thrown_filled_1, k_nets_filled_3)
def DX3_takeOver (c_thrown_cells : Nat → Int32) (c_nets_cells : Nat → Int32) (o_stand : Int32) (o_home : Int32) (o_priceStart : Int32) (o_priceStep : Int32) (o_thrown_cells : Nat → Int32) (o_thrown_filled : Int32) (o_nets_cells : Nat → Int32) (o_nets_filled : Int32) : Option (Int32 × Int32 × Int32 × Int32 × (Nat → Int32) × Int32 × (Nat → Int32) × Int32) :=
  bd2 (DX5_takeOver (7 : Int32) 28 28 c_thrown_cells o_thrown_cells o_thrown_filled) fun k_thrown_cells_1 k_thrown_filled_2 =>
  bd2 (DX5_takeOver (5 : Int32) 20 20 c_nets_cells o_nets_cells o_nets_filled) fun k_nets_cells_4 k_nets_filled_5 =>
  some (o_stand, o_home, o_priceStart, o_priceStep, k_thrown_cells_1, k_thrown_filled_2, k_nets_cells_4, k_nets_filled_5)
def DX8_within (x0 : Int32) (x1 : Int32) (x2 : Int32) : Option (Int32) :=
  if x0 < x1 then
  (some (0 : Int32))
  else
  (if x2 < x0 then
  (some (0 : Int32))
  else
  (some (1 : Int32)))
def DX5_add (x1 : Int32) (x2 : Int32) (x3 : Int32) (x4 : Int32) (pm : Int32) (pw : Int32) (pn : Nat) (c_cells : Nat → Int32) (c_filled : Int32) : Option (Int32 × (Nat → Int32) × Int32) :=
  if c_filled < pm then
  (bd1 (DX5_set c_filled (0 : Int32) x1 pm pw pn c_cells) fun k_cells_2 =>
  bd1 (DX5_set c_filled (1 : Int32) x2 pm pw pn k_cells_2) fun k_cells_4 =>
  bd1 (DX5_set c_filled (2 : Int32) x3 pm pw pn k_cells_4) fun k_cells_6 =>
  bd1 (DX5_set c_filled (3 : Int32) x4 pm pw pn k_cells_6) fun k_cells_8 =>
  some ((1 : Int32), k_cells_8, (c_filled + (1 : Int32))))
  else
  (some ((0 : Int32), c_cells, c_filled))
def DX3_tellThrow (x1 : Int32) (x2 : Int32) (x3 : Int32) (x4 : Int32) (c_thrown_cells : Nat → Int32) (c_thrown_filled : Int32) : Option (Int32 × (Nat → Int32) × Int32) :=
  bd1 (DX8_within x1 (0 : Int32) (40 : Int32)) fun r_1 =>
  if r_1 = 0 then
  (some ((0 : Int32), c_thrown_cells, c_thrown_filled))
  else
  (bd1 (DX8_within x2 (0 : Int32) (23 : Int32)) fun r_4 =>
  if r_4 = 0 then
  (some ((0 : Int32), c_thrown_cells, c_thrown_filled))
  else
  (bd1 (DX8_within x3 (1 : Int32) (6 : Int32)) fun r_7 =>
  if r_7 = 0 then
  (some ((0 : Int32), c_thrown_cells, c_thrown_filled))
  else
  (bd1 (DX8_within x4 (0 : Int32) (3 : Int32)) fun r_10 =>
  if r_10 = 0 then
  (some ((0 : Int32), c_thrown_cells, c_thrown_filled))
  else
  (bd3 (DX5_add x1 x2 x3 x4 (7 : Int32) (4 : Int32) 28 c_thrown_cells c_thrown_filled) fun r_13 k_thrown_cells_14 k_thrown_filled_15 =>
  if r_13 = 0 then
  (some ((0 : Int32), k_thrown_cells_14, k_thrown_filled_15))
  else
  (some ((1 : Int32), k_thrown_cells_14, k_thrown_filled_15))))))
def DX3_tellRock (x1 : Int32) (x2 : Int32) (c_stand : Int32) (c_home : Int32) : Option (Int32 × Int32 × Int32) :=
  bd1 (DX8_within x1 (0 : Int32) (23 : Int32)) fun r_1 =>
  if r_1 = 0 then
  (some ((0 : Int32), c_stand, c_home))
  else
  (bd1 (DX8_within x2 (1 : Int32) (60 : Int32)) fun r_4 =>
  if r_4 = 0 then
  (some ((0 : Int32), c_stand, c_home))
  else
  (some ((1 : Int32), x1, x2)))
def DX3_tellPrice (x1 : Int32) (x2 : Int32) (c_priceStart : Int32) (c_priceStep : Int32) : Option (Int32 × Int32 × Int32) :=
  bd1 (DX8_within x1 (0 : Int32) (49 : Int32)) fun r_1 =>
  if r_1 = 0 then
  (some ((0 : Int32), c_priceStart, c_priceStep))
  else
  (bd1 (DX8_within x2 (0 : Int32) (49 : Int32)) fun r_4 =>
  if r_4 = 0 then
  (some ((0 : Int32), c_priceStart, c_priceStep))
  else
  (some ((1 : Int32), x1, x2)))
def DX3_tellNet (x1 : Int32) (x2 : Int32) (x3 : Int32) (x4 : Int32) (c_nets_cells : Nat → Int32) (c_nets_filled : Int32) : Option (Int32 × (Nat → Int32) × Int32) :=
  bd1 (DX8_within x1 (0 : Int32) (23 : Int32)) fun r_1 =>
  if r_1 = 0 then
  (some ((0 : Int32), c_nets_cells, c_nets_filled))
  else
  (bd1 (DX8_within x2 (0 : Int32) (3 : Int32)) fun r_4 =>
  if r_4 = 0 then
  (some ((0 : Int32), c_nets_cells, c_nets_filled))
  else
  (bd1 (DX8_within x3 (0 : Int32) (99 : Int32)) fun r_7 =>
  if r_7 = 0 then
  (some ((0 : Int32), c_nets_cells, c_nets_filled))
  else
  (bd1 (DX8_within x4 (0 : Int32) (99 : Int32)) fun r_10 =>
  if r_10 = 0 then
  (some ((0 : Int32), c_nets_cells, c_nets_filled))
  else
  (bd3 (DX5_add x1 x2 x3 x4 (5 : Int32) (4 : Int32) 20 c_nets_cells c_nets_filled) fun r_13 k_nets_cells_14 k_nets_filled_15 =>
  if r_13 = 0 then
  (some ((0 : Int32), k_nets_cells_14, k_nets_filled_15))
  else
  (some ((1 : Int32), k_nets_cells_14, k_nets_filled_15))))))
def DX3_tell (x1 : Int32) (x2 : Int32) (x3 : Int32) (x4 : Int32) (x5 : Int32) (c_stand : Int32) (c_home : Int32) (c_priceStart : Int32) (c_priceStep : Int32) (c_thrown_cells : Nat → Int32) (c_thrown_filled : Int32) (c_nets_cells : Nat → Int32) (c_nets_filled : Int32) : Option (Int32 × Int32 × Int32 × Int32 × Int32 × (Nat → Int32) × Int32 × (Nat → Int32) × Int32) :=
  if x1 = (110 : Int32) then
  (bd3 (DX3_tellNet x2 x3 x4 x5 c_nets_cells c_nets_filled) fun r_2 k_nets_cells_3 k_nets_filled_4 =>
  if ¬ (r_2 = 0 ∨ r_2 = 1) then none else
  some (r_2, c_stand, c_home, c_priceStart, c_priceStep, c_thrown_cells, c_thrown_filled, k_nets_cells_3, k_nets_filled_4))
  else
  if x1 = (111 : Int32) then
  (some ((0 : Int32), c_stand, c_home, c_priceStart, c_priceStep, c_thrown_cells, c_thrown_filled, c_nets_cells, c_nets_filled))
  else
  if x1 = (112 : Int32) then
  (bd3 (DX3_tellPrice x2 x3 c_priceStart c_priceStep) fun r_9 k_priceStart_10 k_priceStep_11 =>
  if ¬ (r_9 = 0 ∨ r_9 = 1) then none else
  some (r_9, c_stand, c_home, k_priceStart_10, k_priceStep_11, c_thrown_cells, c_thrown_filled, c_nets_cells, c_nets_filled))
  else
  if x1 = (113 : Int32) then
  (some ((0 : Int32), c_stand, c_home, c_priceStart, c_priceStep, c_thrown_cells, c_thrown_filled, c_nets_cells, c_nets_filled))
  else
  if x1 = (114 : Int32) then
  (bd3 (DX3_tellRock x2 x3 c_stand c_home) fun r_16 k_stand_17 k_home_18 =>
  if ¬ (r_16 = 0 ∨ r_16 = 1) then none else
  some (r_16, k_stand_17, k_home_18, c_priceStart, c_priceStep, c_thrown_cells, c_thrown_filled, c_nets_cells, c_nets_filled))
  else
  if x1 = (115 : Int32) then
  (some ((0 : Int32), c_stand, c_home, c_priceStart, c_priceStep, c_thrown_cells, c_thrown_filled, c_nets_cells, c_nets_filled))
  else
  if x1 = (116 : Int32) then
  (bd3 (DX3_tellThrow x2 x3 x4 x5 c_thrown_cells c_thrown_filled) fun r_23 k_thrown_cells_24 k_thrown_filled_25 =>
  if ¬ (r_23 = 0 ∨ r_23 = 1) then none else
  some (r_23, c_stand, c_home, c_priceStart, c_priceStep, k_thrown_cells_24, k_thrown_filled_25, c_nets_cells, c_nets_filled))
  else
  (some ((0 : Int32), c_stand, c_home, c_priceStart, c_priceStep, c_thrown_cells, c_thrown_filled, c_nets_cells, c_nets_filled))
def DX6_signAt (x1 : Int32) (c_bytes : Nat → Int32) (c_length : Int32) : Option (Int32) :=
  if x1 < 0 then
  (some (-1 : Int32))
  else
  (if c_length ≤ x1 then
  (some (-1 : Int32))
  else
  (bd1 (DX8_at x1 300 c_bytes) fun r_3 =>
  some r_3))
def DX4_numbersBehind (x0 : Int32) : Option (Int32) :=
  if x0 = (110 : Int32) then
  (some (4 : Int32))
  else
  if x0 = (111 : Int32) then
  (some (0 : Int32))
  else
  if x0 = (112 : Int32) then
  (some (2 : Int32))
  else
  if x0 = (113 : Int32) then
  (some (0 : Int32))
  else
  if x0 = (114 : Int32) then
  (some (2 : Int32))
  else
  if x0 = (115 : Int32) then
  (some (0 : Int32))
  else
  if x0 = (116 : Int32) then
  (some (4 : Int32))
  else
  (some (0 : Int32))
def DX4_isFigure (x0 : Int32) : Option (Int32) :=
  if x0 < (48 : Int32) then
  (some (0 : Int32))
  else
  (if (57 : Int32) < x0 then
  (some (0 : Int32))
  else
  (some (1 : Int32)))
def DX4_readNumber (x2 : Int32) (c_numbers : Nat → Int32) (c_next : Int32) (o_bytes : Nat → Int32) (o_length : Int32) : Option (Int32 × (Nat → Int32) × Int32) :=
  bd1 (DX6_signAt c_next o_bytes o_length) fun r_1 =>
  bd1 (DX4_isFigure r_1) fun r_3 =>
  if r_3 = 0 then
  (some ((0 : Int32), c_numbers, c_next))
  else
  (bd1 (DX6_signAt c_next o_bytes o_length) fun r_6 =>
  bd1 (DX6_signAt (c_next + (1 : Int32)) o_bytes o_length) fun r_8 =>
  bd1 (DX4_isFigure r_8) fun r_10 =>
  if r_10 = 0 then
  (bd1 (DX8_put x2 (r_6 - (48 : Int32)) 4 c_numbers) fun k_numbers_13 =>
  some ((1 : Int32), k_numbers_13, (c_next + (1 : Int32))))
  else
  (bd1 (DX6_signAt (c_next + (1 : Int32)) o_bytes o_length) fun r_15 =>
  bd1 (DX8_put x2 ((((10 : Int32) * (r_6 - (48 : Int32))) + r_15) - (48 : Int32)) 4 c_numbers) fun k_numbers_17 =>
  some ((1 : Int32), k_numbers_17, ((c_next + (1 : Int32)) + (1 : Int32)))))
def DX4_readItem_J51 (c_numbers : Nat → Int32) (c_next : Int32) (o_bytes : Nat → Int32) (o_length : Int32) (o_stand : Int32) (o_home : Int32) (o_priceStart : Int32) (o_priceStep : Int32) (o_thrown_cells : Nat → Int32) (o_thrown_filled : Int32) (o_nets_cells : Nat → Int32) (o_nets_filled : Int32) (y0 : Int32) (x5 : Int32) : Option ((Int32 × (Nat → Int32) × Int32) ⊕ (((Nat → Int32) × Int32) ⊕ (Int32 × (Nat → Int32) × Int32 × Int32 × Int32 × Int32 × Int32 × (Nat → Int32) × Int32 × (Nat → Int32) × Int32))) :=
  bd3 (DX4_readNumber x5 c_numbers c_next o_bytes o_length) fun r_7 k_numbers_8 k_next_9 =>
  if r_7 = 0 then
  (some (.inr (.inr ((0 : Int32), k_numbers_8, k_next_9, o_stand, o_home, o_priceStart, o_priceStep, o_thrown_cells, o_thrown_filled, o_nets_cells, o_nets_filled))))
  else
  (bd1 (DX6_signAt k_next_9 o_bytes o_length) fun r_12 =>
  if r_12 = y0 then
  (some (.inl ((x5 + (1 : Int32)), k_numbers_8, (k_next_9 + (1 : Int32)))))
  else
  (some (.inr (.inr ((0 : Int32), k_numbers_8, k_next_9, o_stand, o_home, o_priceStart, o_priceStep, o_thrown_cells, o_thrown_filled, o_nets_cells, o_nets_filled)))))
def DX4_readItem_L28s (o_bytes : Nat → Int32) (o_length : Int32) (o_stand : Int32) (o_home : Int32) (o_priceStart : Int32) (o_priceStep : Int32) (o_thrown_cells : Nat → Int32) (o_thrown_filled : Int32) (o_nets_cells : Nat → Int32) (o_nets_filled : Int32) (x4 : Int32) (x5 : Int32) (c_numbers : Nat → Int32) (c_next : Int32) : Option ((Int32 × (Nat → Int32) × Int32) ⊕ (((Nat → Int32) × Int32) ⊕ (Int32 × (Nat → Int32) × Int32 × Int32 × Int32 × Int32 × Int32 × (Nat → Int32) × Int32 × (Nat → Int32) × Int32))) :=
  if x4 ≤ x5 then
  (some (.inr (.inl (c_numbers, c_next))))
  else
  (if x5 = (x4 - (1 : Int32)) then
  (DX4_readItem_J51 c_numbers c_next o_bytes o_length o_stand o_home o_priceStart o_priceStep o_thrown_cells o_thrown_filled o_nets_cells o_nets_filled (59 : Int32) x5)
  else
  (DX4_readItem_J51 c_numbers c_next o_bytes o_length o_stand o_home o_priceStart o_priceStep o_thrown_cells o_thrown_filled o_nets_cells o_nets_filled (44 : Int32) x5))
def DX4_readItem_L28 (o_bytes : Nat → Int32) (o_length : Int32) (o_stand : Int32) (o_home : Int32) (o_priceStart : Int32) (o_priceStep : Int32) (o_thrown_cells : Nat → Int32) (o_thrown_filled : Int32) (o_nets_cells : Nat → Int32) (o_nets_filled : Int32) (x4 : Int32) (n : Nat) (x5 : Int32) (c_numbers : Nat → Int32) (c_next : Int32) : Option (((Nat → Int32) × Int32) ⊕ (Int32 × (Nat → Int32) × Int32 × Int32 × Int32 × Int32 × Int32 × (Nat → Int32) × Int32 × (Nat → Int32) × Int32)) := it (fun (st : Int32 × (Nat → Int32) × Int32) => DX4_readItem_L28s o_bytes o_length o_stand o_home o_priceStart o_priceStep o_thrown_cells o_thrown_filled o_nets_cells o_nets_filled x4 (st.1) (st.2.1) (st.2.2)) n (x5, c_numbers, c_next)
def DX4_readItem (c_numbers : Nat → Int32) (c_next : Int32) (o_bytes : Nat → Int32) (o_length : Int32) (o_stand : Int32) (o_home : Int32) (o_priceStart : Int32) (o_priceStep : Int32) (o_thrown_cells : Nat → Int32) (o_thrown_filled : Int32) (o_nets_cells : Nat → Int32) (o_nets_filled : Int32) : Option (Int32 × (Nat → Int32) × Int32 × Int32 × Int32 × Int32 × Int32 × (Nat → Int32) × Int32 × (Nat → Int32) × Int32) :=
  bd1 (DX6_signAt c_next o_bytes o_length) fun r_1 =>
  bd1 (DX4_numbersBehind r_1) fun r_3 =>
  el2 (DX4_readItem_L28 o_bytes o_length o_stand o_home o_priceStart o_priceStep o_thrown_cells o_thrown_filled o_nets_cells o_nets_filled r_3 FU (0 : Int32) c_numbers (c_next + (1 : Int32))) (fun k_numbers_15 k_next_16 =>
  bd1 (DX8_at (0 : Int32) 4 k_numbers_15) fun r_17 =>
  bd1 (DX8_at (1 : Int32) 4 k_numbers_15) fun r_19 =>
  bd1 (DX8_at (2 : Int32) 4 k_numbers_15) fun r_21 =>
  bd1 (DX8_at (3 : Int32) 4 k_numbers_15) fun r_23 =>
  bd9 (DX3_tell r_1 r_17 r_19 r_21 r_23 o_stand o_home o_priceStart o_priceStep o_thrown_cells o_thrown_filled o_nets_cells o_nets_filled) fun r_25 k_stand_26 k_home_27 k_priceStart_28 k_priceStep_29 k_thrown_cells_30 k_thrown_filled_31 k_nets_cells_32 k_nets_filled_33 =>
  if ¬ (r_25 = 0 ∨ r_25 = 1) then none else
  some (r_25, k_numbers_15, k_next_16, k_stand_26, k_home_27, k_priceStart_28, k_priceStep_29, k_thrown_cells_30, k_thrown_filled_31, k_nets_cells_32, k_nets_filled_33)) (fun r => some r)
def DX4_firstFault_L11s (o_bytes : Nat → Int32) (o_length : Int32) (x3 : Int32) (c_numbers : Nat → Int32) (c_next : Int32) (o_stand : Int32) (o_home : Int32) (o_priceStart : Int32) (o_priceStep : Int32) (o_thrown_cells : Nat → Int32) (o_thrown_filled : Int32) (o_nets_cells : Nat → Int32) (o_nets_filled : Int32) : Option ((Int32 × (Nat → Int32) × Int32 × Int32 × Int32 × Int32 × Int32 × (Nat → Int32) × Int32 × (Nat → Int32) × Int32) ⊕ (((Nat → Int32) × Int32 × Int32 × Int32 × Int32 × Int32 × (Nat → Int32) × Int32 × (Nat → Int32) × Int32) ⊕ (Int32 × (Nat → Int32) × Int32 × Int32 × Int32 × Int32 × Int32 × (Nat → Int32) × Int32 × (Nat → Int32) × Int32))) :=
  if (300 : Int32) ≤ x3 then
  (some (.inr (.inl (c_numbers, c_next, o_stand, o_home, o_priceStart, o_priceStep, o_thrown_cells, o_thrown_filled, o_nets_cells, o_nets_filled))))
  else
  (if o_length ≤ c_next then
  (some (.inr (.inl (c_numbers, c_next, o_stand, o_home, o_priceStart, o_priceStep, o_thrown_cells, o_thrown_filled, o_nets_cells, o_nets_filled))))
  else
  (bd11 (DX4_readItem c_numbers c_next o_bytes o_length o_stand o_home o_priceStart o_priceStep o_thrown_cells o_thrown_filled o_nets_cells o_nets_filled) fun r_10 k_numbers_11 k_next_12 k_stand_13 k_home_14 k_priceStart_15 k_priceStep_16 k_thrown_cells_17 k_thrown_filled_18 k_nets_cells_19 k_nets_filled_20 =>
  if r_10 = 0 then
  (some (.inr (.inr (c_next, k_numbers_11, k_next_12, k_stand_13, k_home_14, k_priceStart_15, k_priceStep_16, k_thrown_cells_17, k_thrown_filled_18, k_nets_cells_19, k_nets_filled_20))))
  else
  (some (.inl ((x3 + (1 : Int32)), k_numbers_11, k_next_12, k_stand_13, k_home_14, k_priceStart_15, k_priceStep_16, k_thrown_cells_17, k_thrown_filled_18, k_nets_cells_19, k_nets_filled_20)))))
def DX4_firstFault_L11 (o_bytes : Nat → Int32) (o_length : Int32) (n : Nat) (x3 : Int32) (c_numbers : Nat → Int32) (c_next : Int32) (o_stand : Int32) (o_home : Int32) (o_priceStart : Int32) (o_priceStep : Int32) (o_thrown_cells : Nat → Int32) (o_thrown_filled : Int32) (o_nets_cells : Nat → Int32) (o_nets_filled : Int32) : Option (((Nat → Int32) × Int32 × Int32 × Int32 × Int32 × Int32 × (Nat → Int32) × Int32 × (Nat → Int32) × Int32) ⊕ (Int32 × (Nat → Int32) × Int32 × Int32 × Int32 × Int32 × Int32 × (Nat → Int32) × Int32 × (Nat → Int32) × Int32)) := it (fun (st : Int32 × (Nat → Int32) × Int32 × Int32 × Int32 × Int32 × Int32 × (Nat → Int32) × Int32 × (Nat → Int32) × Int32) => DX4_firstFault_L11s o_bytes o_length (st.1) (st.2.1) (st.2.2.1) (st.2.2.2.1) (st.2.2.2.2.1) (st.2.2.2.2.2.1) (st.2.2.2.2.2.2.1) (st.2.2.2.2.2.2.2.1) (st.2.2.2.2.2.2.2.2.1) (st.2.2.2.2.2.2.2.2.2.1) (st.2.2.2.2.2.2.2.2.2.2)) n (x3, c_numbers, c_next, o_stand, o_home, o_priceStart, o_priceStep, o_thrown_cells, o_thrown_filled, o_nets_cells, o_nets_filled)
def DX4_firstFault (c_numbers : Nat → Int32) (o_bytes : Nat → Int32) (o_length : Int32) (o_thrown_cells : Nat → Int32) (o_nets_cells : Nat → Int32) : Option (Int32 × (Nat → Int32) × Int32 × Int32 × Int32 × Int32 × Int32 × (Nat → Int32) × Int32 × (Nat → Int32) × Int32) :=
  bd6 (DX3_makeBare) fun k_stand_1 k_home_2 k_priceStart_3 k_priceStep_4 k_thrown_filled_5 k_nets_filled_6 =>
  el10 (DX4_firstFault_L11 o_bytes o_length FU (0 : Int32) c_numbers (0 : Int32) k_stand_1 k_home_2 k_priceStart_3 k_priceStep_4 o_thrown_cells k_thrown_filled_5 o_nets_cells k_nets_filled_6) (fun k_numbers_23 k_next_24 k_stand_25 k_home_26 k_priceStart_27 k_priceStep_28 k_thrown_cells_29 k_thrown_filled_30 k_nets_cells_31 k_nets_filled_32 =>
  some ((-4 : Int32), k_numbers_23, k_next_24, k_stand_25, k_home_26, k_priceStart_27, k_priceStep_28, k_thrown_cells_29, k_thrown_filled_30, k_nets_cells_31, k_nets_filled_32)) (fun r => some r)
def DX5_has (x1 : Int32) (c_filled : Int32) : Option (Int32) :=
  if x1 < 0 then
  (some (0 : Int32))
  else
  (if c_filled ≤ x1 then
  (some (0 : Int32))
  else
  (some (1 : Int32)))
def DX6_append (x1 : Int32) (c_bytes : Nat → Int32) (c_length : Int32) : Option ((Nat → Int32) × Int32) :=
  if (300 : Int32) ≤ c_length then
  (some (c_bytes, c_length))
  else
  (bd1 (DX8_put c_length x1 300 c_bytes) fun k_bytes_2 =>
  some (k_bytes_2, (c_length + (1 : Int32))))
def DX7_isIn (x0 : Int32) (x1 : Int32) : Option (Int32) :=
  if ((x1 >>> ((x0 - (1 : Int32)) &&& 31)) &&& (1 : Int32)) = (1 : Int32) then
  (some (1 : Int32))
  else
  (some (0 : Int32))
def DX7_goOn_L3s (x1 : Int32) (x2 : Int32) (x3 : Int32) (x4 : Int32) (c_need : Nat → Int32) : Option ((Int32 × (Nat → Int32)) ⊕ ((Nat → Int32))) :=
  if (6 : Int32) < x4 then
  (some (.inr c_need))
  else
  (bd1 (DX7_isIn x4 x2) fun r_2 =>
  if r_2 = 0 then
  (some (.inl ((x4 + (1 : Int32)), c_need)))
  else
  (bd1 (DX8_at ((x1 + x4) - (x1 + x4) / (24 : Int32) * (24 : Int32)) 24 c_need) fun r_5 =>
  if r_5 = (1000 : Int32) then
  (bd1 (DX8_put ((x1 + x4) - (x1 + x4) / (24 : Int32) * (24 : Int32)) x3 24 c_need) fun k_need_8 =>
  some (.inl ((x4 + (1 : Int32)), k_need_8)))
  else
  (some (.inl ((x4 + (1 : Int32)), c_need)))))
def DX7_goOn_L3 (x1 : Int32) (x2 : Int32) (x3 : Int32) (n : Nat) (x4 : Int32) (c_need : Nat → Int32) : Option ((Nat → Int32)) := it (fun (st : Int32 × (Nat → Int32)) => DX7_goOn_L3s x1 x2 x3 (st.1) (st.2)) n (x4, c_need)
def DX7_goOn (x1 : Int32) (x2 : Int32) (x3 : Int32) (c_need : Nat → Int32) : Option ((Nat → Int32)) :=
  bd1 (DX7_goOn_L3 x1 x2 x3 FU (1 : Int32) c_need) fun k_need_10 =>
  some k_need_10
def DX7_reach_L2s  (x2 : Int32) (c_need : Nat → Int32) : Option ((Int32 × (Nat → Int32)) ⊕ ((Nat → Int32))) :=
  if (24 : Int32) ≤ x2 then
  (some (.inr c_need))
  else
  (if x2 = 0 then
  (bd1 (DX8_put x2 (0 : Int32) 24 c_need) fun k_need_5 =>
  some (.inl ((x2 + (1 : Int32)), k_need_5)))
  else
  (bd1 (DX8_put x2 (1000 : Int32) 24 c_need) fun k_need_3 =>
  some (.inl ((x2 + (1 : Int32)), k_need_3))))
def DX7_reach_L2  (n : Nat) (x2 : Int32) (c_need : Nat → Int32) : Option ((Nat → Int32)) := it (fun (st : Int32 × (Nat → Int32)) => DX7_reach_L2s (st.1) (st.2)) n (x2, c_need)
def DX7_reach_L43s (x1 : Int32) (x2 : Int32) (x3 : Int32) (c_need : Nat → Int32) : Option ((Int32 × (Nat → Int32)) ⊕ ((Nat → Int32))) :=
  if (24 : Int32) ≤ x3 then
  (some (.inr c_need))
  else
  (bd1 (DX8_at x3 24 c_need) fun r_10 =>
  if r_10 = x2 then
  (bd1 (DX7_goOn x3 x1 (x2 + (1 : Int32)) c_need) fun k_need_13 =>
  some (.inl ((x3 + (1 : Int32)), k_need_13)))
  else
  (some (.inl ((x3 + (1 : Int32)), c_need))))
def DX7_reach_L43 (x1 : Int32) (x2 : Int32) (n : Nat) (x3 : Int32) (c_need : Nat → Int32) : Option ((Nat → Int32)) := it (fun (st : Int32 × (Nat → Int32)) => DX7_reach_L43s x1 x2 (st.1) (st.2)) n (x3, c_need)
def DX7_reach_L35s (x1 : Int32) (x2 : Int32) (c_need : Nat → Int32) : Option ((Int32 × (Nat → Int32)) ⊕ ((Nat → Int32))) :=
  if (24 : Int32) ≤ x2 then
  (some (.inr c_need))
  else
  (bd1 (DX7_reach_L43 x1 x2 FU (0 : Int32) c_need) fun k_need_15 =>
  some (.inl ((x2 + (1 : Int32)), k_need_15)))
def DX7_reach_L35 (x1 : Int32) (n : Nat) (x2 : Int32) (c_need : Nat → Int32) : Option ((Nat → Int32)) := it (fun (st : Int32 × (Nat → Int32)) => DX7_reach_L35s x1 (st.1) (st.2)) n (x2, c_need)
def DX7_reach (x1 : Int32) (c_need : Nat → Int32) : Option ((Nat → Int32)) :=
  bd1 (DX7_reach_L2 FU (0 : Int32) c_need) fun k_need_7 =>
  bd1 (DX7_reach_L35 x1 FU (0 : Int32) k_need_7) fun k_need_16 =>
  some k_need_16
def DX7_fewest (x1 : Int32) (c_need : Nat → Int32) : Option (Int32) :=
  bd1 (DX8_at x1 24 c_need) fun r_1 =>
  if r_1 = (1000 : Int32) then
  (some (-4 : Int32))
  else
  (bd1 (DX8_at x1 24 c_need) fun r_4 =>
  some r_4)
def DX7_firstSpeed_L19s (x1 : Int32) (x2 : Int32) (c_need : Nat → Int32) (x3 : Int32) : Option ((Int32) ⊕ ((Unit) ⊕ (Int32))) :=
  if (6 : Int32) < x3 then
  (some (.inr (.inl ())))
  else
  (bd1 (DJ9_floorMod_7cf53 (x1 - x3) (24 : Int32)) fun r_5 =>
  bd1 (DX7_isIn x3 x2) fun r_7 =>
  if r_7 = 0 then
  (some (.inl (x3 + (1 : Int32))))
  else
  (bd1 (DX8_at r_5 24 c_need) fun r_10 =>
  bd1 (DX8_at x1 24 c_need) fun r_12 =>
  if r_10 = (r_12 - (1 : Int32)) then
  (some (.inr (.inr x3)))
  else
  (some (.inl (x3 + (1 : Int32))))))
def DX7_firstSpeed_L19 (x1 : Int32) (x2 : Int32) (c_need : Nat → Int32) (n : Nat) (x3 : Int32) : Option ((Unit) ⊕ (Int32)) := it (fun (st : Int32) => DX7_firstSpeed_L19s x1 x2 c_need st) n x3
def DX7_firstSpeed (x1 : Int32) (x2 : Int32) (c_need : Nat → Int32) : Option (Int32) :=
  bd1 (DX8_at x1 24 c_need) fun r_1 =>
  if r_1 = (1000 : Int32) then
  (some (-4 : Int32))
  else
  (el0 (DX7_firstSpeed_L19 x1 x2 c_need FU (1 : Int32)) (
  some (-4 : Int32)) (fun r => some r))
def DX8_write_L35s (x2 : Int64) (x4 : Int32) (c_text_bytes : Nat → Int32) (c_text_length : Int32) : Option ((Int32 × (Nat → Int32) × Int32) ⊕ ((Nat → Int32) × Int32)) :=
  if x4 < 0 then
  (some (.inr (c_text_bytes, c_text_length)))
  else
  (bd2 (DX6_append ((((x2.toUInt64 >>> (((8 : Int32) * x4).toInt64.toUInt64 &&& Int64.toUInt64 63)).toInt64).toInt32) &&& (255 : Int32)) c_text_bytes c_text_length) fun k_text_bytes_6 k_text_length_7 =>
  some (.inl ((x4 + (-1 : Int32)), k_text_bytes_6, k_text_length_7)))
def DX8_write_L35 (x2 : Int64) (n : Nat) (x4 : Int32) (c_text_bytes : Nat → Int32) (c_text_length : Int32) : Option ((Nat → Int32) × Int32) := it (fun (st : Int32 × (Nat → Int32) × Int32) => DX8_write_L35s x2 (st.1) (st.2.1) (st.2.2)) n (x4, c_text_bytes, c_text_length)
def DX8_write (x1 : Int32) (x2 : Int64) (c_text_bytes : Nat → Int32) (c_text_length : Int32) : Option (Int32 × (Nat → Int32) × Int32) :=
  bd1 (DX8_within x1 (1 : Int32) (8 : Int32)) fun r_1 =>
  if r_1 = 0 then
  (some ((-1 : Int32), c_text_bytes, c_text_length))
  else
  (if (c_text_length + x1) ≤ (300 : Int32) then
  (bd2 (DX8_write_L35 x2 FU (x1 - (1 : Int32)) c_text_bytes c_text_length) fun k_text_bytes_9 k_text_length_10 =>
  some (k_text_length_10, k_text_bytes_9, k_text_length_10))
  else
  (some ((-3 : Int32), c_text_bytes, c_text_length)))
def DX8_wipe (c_text_length : Int32) : Option (Int32 × Int32) :=
  some (c_text_length, (0 : Int32))
def DX8_fault (c_text_bytes : Nat → Int32) (c_text_length : Int32) (c_reader_numbers : Nat → Int32) (c_trial_thrown_cells : Nat → Int32) (c_trial_nets_cells : Nat → Int32) : Option (Int32 × (Nat → Int32) × Int32 × Int32 × Int32 × Int32 × Int32 × (Nat → Int32) × Int32 × (Nat → Int32) × Int32) :=
  bd11 (DX4_firstFault c_reader_numbers c_text_bytes c_text_length c_trial_thrown_cells c_trial_nets_cells) fun r_1 k_reader_numbers_2 k_reader_next_3 k_trial_stand_4 k_trial_home_5 k_trial_priceStart_6 k_trial_priceStep_7 k_trial_thrown_cells_8 k_trial_thrown_filled_9 k_trial_nets_cells_10 k_trial_nets_filled_11 =>
  some (r_1, k_reader_numbers_2, k_reader_next_3, k_trial_stand_4, k_trial_home_5, k_trial_priceStart_6, k_trial_priceStep_7, k_trial_thrown_cells_8, k_trial_thrown_filled_9, k_trial_nets_cells_10, k_trial_nets_filled_11)
def DX8_lay (c_text_bytes : Nat → Int32) (c_text_length : Int32) (c_reader_numbers : Nat → Int32) (c_laid_stand : Int32) (c_laid_home : Int32) (c_laid_priceStart : Int32) (c_laid_priceStep : Int32) (c_laid_thrown_cells : Nat → Int32) (c_laid_thrown_filled : Int32) (c_laid_nets_cells : Nat → Int32) (c_laid_nets_filled : Int32) (c_trial_thrown_cells : Nat → Int32) (c_trial_nets_cells : Nat → Int32) (c_changes_held : Int32) (c_kept_held : Int32) : Option (Int32 × (Nat → Int32) × Int32 × Int32 × Int32 × Int32 × Int32 × (Nat → Int32) × Int32 × (Nat → Int32) × Int32 × Int32 × Int32 × Int32 × Int32 × (Nat → Int32) × Int32 × (Nat → Int32) × Int32 × Int32 × Int32) :=
  bd11 (DX4_firstFault c_reader_numbers c_text_bytes c_text_length c_trial_thrown_cells c_trial_nets_cells) fun r_1 k_reader_numbers_2 k_reader_next_3 k_trial_stand_4 k_trial_home_5 k_trial_priceStart_6 k_trial_priceStep_7 k_trial_thrown_cells_8 k_trial_thrown_filled_9 k_trial_nets_cells_10 k_trial_nets_filled_11 =>
  if r_1 = (-4 : Int32) then
  (bd1 (DX5_rows k_trial_thrown_filled_9) fun r_14 =>
  if r_14 = 0 then
  (some ((-2 : Int32), k_reader_numbers_2, k_reader_next_3, c_laid_stand, c_laid_home, c_laid_priceStart, c_laid_priceStep, c_laid_thrown_cells, c_laid_thrown_filled, c_laid_nets_cells, c_laid_nets_filled, k_trial_stand_4, k_trial_home_5, k_trial_priceStart_6, k_trial_priceStep_7, k_trial_thrown_cells_8, k_trial_thrown_filled_9, k_trial_nets_cells_10, k_trial_nets_filled_11, c_changes_held, c_kept_held))
  else
  (bd8 (DX3_takeOver c_laid_thrown_cells c_laid_nets_cells k_trial_stand_4 k_trial_home_5 k_trial_priceStart_6 k_trial_priceStep_7 k_trial_thrown_cells_8 k_trial_thrown_filled_9 k_trial_nets_cells_10 k_trial_nets_filled_11) fun k_laid_stand_17 k_laid_home_18 k_laid_priceStart_19 k_laid_priceStep_20 k_laid_thrown_cells_21 k_laid_thrown_filled_22 k_laid_nets_cells_23 k_laid_nets_filled_24 =>
  bd1 (DX0_forget) fun k_changes_held_26 =>
  bd1 (DX2_forget) fun k_kept_held_28 =>
  bd1 (DX5_rows k_laid_thrown_filled_22) fun r_30 =>
  some (r_30, k_reader_numbers_2, k_reader_next_3, k_laid_stand_17, k_laid_home_18, k_laid_priceStart_19, k_laid_priceStep_20, k_laid_thrown_cells_21, k_laid_thrown_filled_22, k_laid_nets_cells_23, k_laid_nets_filled_24, k_trial_stand_4, k_trial_home_5, k_trial_priceStart_6, k_trial_priceStep_7, k_trial_thrown_cells_8, k_trial_thrown_filled_9, k_trial_nets_cells_10, k_trial_nets_filled_11, k_changes_held_26, k_kept_held_28)))
  else
  (some ((-2 : Int32), k_reader_numbers_2, k_reader_next_3, c_laid_stand, c_laid_home, c_laid_priceStart, c_laid_priceStep, c_laid_thrown_cells, c_laid_thrown_filled, c_laid_nets_cells, c_laid_nets_filled, k_trial_stand_4, k_trial_home_5, k_trial_priceStart_6, k_trial_priceStep_7, k_trial_thrown_cells_8, k_trial_thrown_filled_9, k_trial_nets_cells_10, k_trial_nets_filled_11, c_changes_held, c_kept_held))
def DX8_load (x1 : Int32) (x2 : Int32) (c_laid_stand : Int32) (c_laid_home : Int32) (c_laid_priceStart : Int32) (c_laid_priceStep : Int32) (c_laid_thrown_cells : Nat → Int32) (c_laid_thrown_filled : Int32) (c_laid_nets_cells : Nat → Int32) (c_laid_nets_filled : Int32) (c_flight_loads_cells : Nat → Int32) (c_flight_order : Nat → Int32) (c_flight_done : Int32) (c_flight_start : Int32) (c_flight_end : Int32) : Option (Int32 × (Nat → Int32) × (Nat → Int32) × Int32 × Int32 × Int32) :=
  bd1 (DX5_has x1 c_laid_thrown_filled) fun r_1 =>
  if r_1 = 0 then
  (some ((-1 : Int32), c_flight_loads_cells, c_flight_order, c_flight_done, c_flight_start, c_flight_end))
  else
  (bd1 (DX8_within x2 (0 : Int32) (8 : Int32)) fun r_4 =>
  if r_4 = 0 then
  (some ((-1 : Int32), c_flight_loads_cells, c_flight_order, c_flight_done, c_flight_start, c_flight_end))
  else
  (bd5 (DX1_fly (0 : Int32) c_flight_loads_cells c_flight_order c_laid_stand c_laid_home c_laid_priceStart c_laid_priceStep c_laid_thrown_cells c_laid_thrown_filled c_laid_nets_cells c_laid_nets_filled) fun k_flight_loads_cells_7 k_flight_order_8 k_flight_done_9 k_flight_start_10 k_flight_end_11 =>
  bd1 (DX1_known x1 x2 k_flight_loads_cells_7) fun r_13 =>
  some (r_13, k_flight_loads_cells_7, k_flight_order_8, k_flight_done_9, k_flight_start_10, k_flight_end_11)))
def DX8_far (x1 : Int32) (x2 : Int32) (c_laid_stand : Int32) (c_laid_home : Int32) (c_laid_priceStart : Int32) (c_laid_priceStep : Int32) (c_laid_thrown_cells : Nat → Int32) (c_laid_thrown_filled : Int32) (c_laid_nets_cells : Nat → Int32) (c_laid_nets_filled : Int32) (c_flight_loads_cells : Nat → Int32) (c_flight_order : Nat → Int32) (c_flight_done : Int32) (c_flight_start : Int32) (c_flight_end : Int32) : Option (Int32 × (Nat → Int32) × (Nat → Int32) × Int32 × Int32 × Int32) :=
  bd1 (DX5_has x1 c_laid_thrown_filled) fun r_1 =>
  if r_1 = 0 then
  (some ((-1 : Int32), c_flight_loads_cells, c_flight_order, c_flight_done, c_flight_start, c_flight_end))
  else
  (bd1 (DX8_within x2 (0 : Int32) (99 : Int32)) fun r_4 =>
  if r_4 = 0 then
  (some ((-1 : Int32), c_flight_loads_cells, c_flight_order, c_flight_done, c_flight_start, c_flight_end))
  else
  (bd5 (DX1_fly (0 : Int32) c_flight_loads_cells c_flight_order c_laid_stand c_laid_home c_laid_priceStart c_laid_priceStep c_laid_thrown_cells c_laid_thrown_filled c_laid_nets_cells c_laid_nets_filled) fun k_flight_loads_cells_7 k_flight_order_8 k_flight_done_9 k_flight_start_10 k_flight_end_11 =>
  bd1 (DX1_farOn x1 x2 k_flight_loads_cells_7) fun r_13 =>
  some (r_13, k_flight_loads_cells_7, k_flight_order_8, k_flight_done_9, k_flight_start_10, k_flight_end_11)))
def DX8_rock (x1 : Int32) (c_laid_stand : Int32) (c_laid_home : Int32) (c_laid_priceStart : Int32) (c_laid_priceStep : Int32) (c_laid_thrown_cells : Nat → Int32) (c_laid_thrown_filled : Int32) (c_laid_nets_cells : Nat → Int32) (c_laid_nets_filled : Int32) (c_flight_loads_cells : Nat → Int32) (c_flight_order : Nat → Int32) (c_flight_done : Int32) (c_flight_start : Int32) (c_flight_end : Int32) : Option (Int32 × (Nat → Int32) × (Nat → Int32) × Int32 × Int32 × Int32) :=
  bd1 (DX8_within x1 (0 : Int32) (99 : Int32)) fun r_1 =>
  if r_1 = 0 then
  (some ((-1 : Int32), c_flight_loads_cells, c_flight_order, c_flight_done, c_flight_start, c_flight_end))
  else
  (bd5 (DX1_fly (0 : Int32) c_flight_loads_cells c_flight_order c_laid_stand c_laid_home c_laid_priceStart c_laid_priceStep c_laid_thrown_cells c_laid_thrown_filled c_laid_nets_cells c_laid_nets_filled) fun k_flight_loads_cells_4 k_flight_order_5 k_flight_done_6 k_flight_start_7 k_flight_end_8 =>
  bd1 (DX1_standBehind x1 k_flight_loads_cells_4 k_flight_order_5 k_flight_done_6 k_flight_start_7) fun r_10 =>
  some (r_10, k_flight_loads_cells_4, k_flight_order_5, k_flight_done_6, k_flight_start_7, k_flight_end_8))
def DX8_price (x1 : Int32) (c_laid_priceStart : Int32) (c_laid_priceStep : Int32) : Option (Int32) :=
  bd1 (DX8_within x1 (0 : Int32) (99 : Int32)) fun r_1 =>
  if r_1 = 0 then
  (some (-1 : Int32))
  else
  (bd1 (DX3_priceOn x1 c_laid_priceStart c_laid_priceStep) fun r_4 =>
  some r_4)
def DX8_all (x1 : Int32) (c_laid_stand : Int32) (c_laid_home : Int32) (c_laid_priceStart : Int32) (c_laid_priceStep : Int32) (c_laid_thrown_cells : Nat → Int32) (c_laid_thrown_filled : Int32) (c_laid_nets_cells : Nat → Int32) (c_laid_nets_filled : Int32) (c_flight_loads_cells : Nat → Int32) (c_flight_order : Nat → Int32) (c_flight_done : Int32) (c_flight_start : Int32) (c_flight_end : Int32) : Option (Int32 × (Nat → Int32) × (Nat → Int32) × Int32 × Int32 × Int32) :=
  bd1 (DX8_within x1 (0 : Int32) (3 : Int32)) fun r_1 =>
  if r_1 = 0 then
  (some ((-1 : Int32), c_flight_loads_cells, c_flight_order, c_flight_done, c_flight_start, c_flight_end))
  else
  (bd5 (DX1_fly (0 : Int32) c_flight_loads_cells c_flight_order c_laid_stand c_laid_home c_laid_priceStart c_laid_priceStep c_laid_thrown_cells c_laid_thrown_filled c_laid_nets_cells c_laid_nets_filled) fun k_flight_loads_cells_4 k_flight_order_5 k_flight_done_6 k_flight_start_7 k_flight_end_8 =>
  if x1 = (3 : Int32) then
  (bd1 (DX1_paidInAll k_flight_loads_cells_4 k_flight_order_5 k_flight_done_6) fun r_13 =>
  some (r_13, k_flight_loads_cells_4, k_flight_order_5, k_flight_done_6, k_flight_start_7, k_flight_end_8))
  else
  (bd1 (DX1_howMany x1 k_flight_loads_cells_4 k_flight_order_5 k_flight_done_6) fun r_11 =>
  some (r_11, k_flight_loads_cells_4, k_flight_order_5, k_flight_done_6, k_flight_start_7, k_flight_end_8)))
def DX8_change (x1 : Int32) (x2 : Int32) (x3 : Int32) (x4 : Int32) (c_laid_thrown_cells : Nat → Int32) (c_laid_thrown_filled : Int32) (c_changes_who : Nat → Int32) (c_changes_column : Nat → Int32) (c_changes_was : Nat → Int32) (c_changes_held : Int32) : Option (Int32 × (Nat → Int32) × (Nat → Int32) × (Nat → Int32) × (Nat → Int32) × Int32) :=
  bd1 (DX5_has x1 c_laid_thrown_filled) fun r_1 =>
  if r_1 = 0 then
  (some ((-1 : Int32), c_laid_thrown_cells, c_changes_who, c_changes_column, c_changes_was, c_changes_held))
  else
  (if x4 = 0 then
  (some ((-1 : Int32), c_laid_thrown_cells, c_changes_who, c_changes_column, c_changes_was, c_changes_held))
  else
  (bd1 (DX5_get x1 x2 (7 : Int32) (4 : Int32) 28 c_laid_thrown_cells) fun r_5 =>
  bd4 (DX0_note x1 x2 r_5 c_changes_who c_changes_column c_changes_was c_changes_held) fun k_changes_who_7 k_changes_column_8 k_changes_was_9 k_changes_held_10 =>
  bd1 (DX5_set x1 x2 x3 (7 : Int32) (4 : Int32) 28 c_laid_thrown_cells) fun k_laid_thrown_cells_12 =>
  some (r_5, k_laid_thrown_cells_12, k_changes_who_7, k_changes_column_8, k_changes_was_9, k_changes_held_10)))
def DX8_aim (x1 : Int32) (x2 : Int32) (c_laid_thrown_cells : Nat → Int32) (c_laid_thrown_filled : Int32) (c_changes_who : Nat → Int32) (c_changes_column : Nat → Int32) (c_changes_was : Nat → Int32) (c_changes_held : Int32) : Option (Int32 × (Nat → Int32) × (Nat → Int32) × (Nat → Int32) × (Nat → Int32) × Int32) :=
  bd1 (DX8_within x2 (0 : Int32) (23 : Int32)) fun r_1 =>
  bd6 (DX8_change x1 (1 : Int32) x2 r_1 c_laid_thrown_cells c_laid_thrown_filled c_changes_who c_changes_column c_changes_was c_changes_held) fun r_3 k_laid_thrown_cells_4 k_changes_who_5 k_changes_column_6 k_changes_was_7 k_changes_held_8 =>
  some (r_3, k_laid_thrown_cells_4, k_changes_who_5, k_changes_column_6, k_changes_was_7, k_changes_held_8)
def DX8_move (x1 : Int32) (x2 : Int32) (c_laid_thrown_cells : Nat → Int32) (c_laid_thrown_filled : Int32) (c_changes_who : Nat → Int32) (c_changes_column : Nat → Int32) (c_changes_was : Nat → Int32) (c_changes_held : Int32) : Option (Int32 × (Nat → Int32) × (Nat → Int32) × (Nat → Int32) × (Nat → Int32) × Int32) :=
  bd1 (DX8_within x2 (0 : Int32) (40 : Int32)) fun r_1 =>
  bd6 (DX8_change x1 (0 : Int32) x2 r_1 c_laid_thrown_cells c_laid_thrown_filled c_changes_who c_changes_column c_changes_was c_changes_held) fun r_3 k_laid_thrown_cells_4 k_changes_who_5 k_changes_column_6 k_changes_was_7 k_changes_held_8 =>
  some (r_3, k_laid_thrown_cells_4, k_changes_who_5, k_changes_column_6, k_changes_was_7, k_changes_held_8)
def DX8_speed (x1 : Int32) (x2 : Int32) (c_laid_thrown_cells : Nat → Int32) (c_laid_thrown_filled : Int32) (c_changes_who : Nat → Int32) (c_changes_column : Nat → Int32) (c_changes_was : Nat → Int32) (c_changes_held : Int32) : Option (Int32 × (Nat → Int32) × (Nat → Int32) × (Nat → Int32) × (Nat → Int32) × Int32) :=
  bd1 (DX8_within x2 (1 : Int32) (6 : Int32)) fun r_1 =>
  bd6 (DX8_change x1 (2 : Int32) x2 r_1 c_laid_thrown_cells c_laid_thrown_filled c_changes_who c_changes_column c_changes_was c_changes_held) fun r_3 k_laid_thrown_cells_4 k_changes_who_5 k_changes_column_6 k_changes_was_7 k_changes_held_8 =>
  some (r_3, k_laid_thrown_cells_4, k_changes_who_5, k_changes_column_6, k_changes_was_7, k_changes_held_8)
def DX8_undo (c_laid_thrown_cells : Nat → Int32) (c_changes_who : Nat → Int32) (c_changes_column : Nat → Int32) (c_changes_was : Nat → Int32) (c_changes_held : Int32) : Option (Int32 × (Nat → Int32) × Int32) :=
  bd3 (DX0_takeBack c_changes_who c_changes_column c_changes_was c_changes_held c_laid_thrown_cells) fun r_1 k_changes_held_2 k_laid_thrown_cells_3 =>
  if r_1 = 0 then
  (some ((-2 : Int32), k_laid_thrown_cells_3, k_changes_held_2))
  else
  (some (k_changes_held_2, k_laid_thrown_cells_3, k_changes_held_2))
def DX8_bestAim_L44s (x1 : Int32) (c_trial_stand : Int32) (c_trial_home : Int32) (c_trial_priceStart : Int32) (c_trial_priceStep : Int32) (c_trial_thrown_filled : Int32) (c_trial_nets_cells : Nat → Int32) (c_trial_nets_filled : Int32) (x3 : Int32) (x4 : Int32) (x5 : Int32) (c_trial_thrown_cells : Nat → Int32) (c_flight_loads_cells : Nat → Int32) (c_flight_order : Nat → Int32) (c_flight_done : Int32) (c_flight_start : Int32) (c_flight_end : Int32) : Option ((Int32 × Int32 × Int32 × (Nat → Int32) × (Nat → Int32) × (Nat → Int32) × Int32 × Int32 × Int32) ⊕ (Int32 × Int32 × (Nat → Int32) × (Nat → Int32) × (Nat → Int32) × Int32 × Int32 × Int32)) :=
  if (24 : Int32) ≤ x5 then
  (some (.inr (x3, x4, c_trial_thrown_cells, c_flight_loads_cells, c_flight_order, c_flight_done, c_flight_start, c_flight_end)))
  else
  (bd1 (DX5_set x1 (1 : Int32) x5 (7 : Int32) (4 : Int32) 28 c_trial_thrown_cells) fun k_trial_thrown_cells_17 =>
  bd5 (DX1_fly (0 : Int32) c_flight_loads_cells c_flight_order c_trial_stand c_trial_home c_trial_priceStart c_trial_priceStep k_trial_thrown_cells_17 c_trial_thrown_filled c_trial_nets_cells c_trial_nets_filled) fun k_flight_loads_cells_19 k_flight_order_20 k_flight_done_21 k_flight_start_22 k_flight_end_23 =>
  bd1 (DX1_howMany (0 : Int32) k_flight_loads_cells_19 k_flight_order_20 k_flight_done_21) fun r_25 =>
  if r_25 ≤ x4 then
  (some (.inl (x3, x4, (x5 + (1 : Int32)), k_trial_thrown_cells_17, k_flight_loads_cells_19, k_flight_order_20, k_flight_done_21, k_flight_start_22, k_flight_end_23)))
  else
  (bd1 (DX1_howMany (0 : Int32) k_flight_loads_cells_19 k_flight_order_20 k_flight_done_21) fun r_28 =>
  some (.inl (x5, r_28, (x5 + (1 : Int32)), k_trial_thrown_cells_17, k_flight_loads_cells_19, k_flight_order_20, k_flight_done_21, k_flight_start_22, k_flight_end_23))))
def DX8_bestAim_L44 (x1 : Int32) (c_trial_stand : Int32) (c_trial_home : Int32) (c_trial_priceStart : Int32) (c_trial_priceStep : Int32) (c_trial_thrown_filled : Int32) (c_trial_nets_cells : Nat → Int32) (c_trial_nets_filled : Int32) (n : Nat) (x3 : Int32) (x4 : Int32) (x5 : Int32) (c_trial_thrown_cells : Nat → Int32) (c_flight_loads_cells : Nat → Int32) (c_flight_order : Nat → Int32) (c_flight_done : Int32) (c_flight_start : Int32) (c_flight_end : Int32) : Option (Int32 × Int32 × (Nat → Int32) × (Nat → Int32) × (Nat → Int32) × Int32 × Int32 × Int32) := it (fun (st : Int32 × Int32 × Int32 × (Nat → Int32) × (Nat → Int32) × (Nat → Int32) × Int32 × Int32 × Int32) => DX8_bestAim_L44s x1 c_trial_stand c_trial_home c_trial_priceStart c_trial_priceStep c_trial_thrown_filled c_trial_nets_cells c_trial_nets_filled (st.1) (st.2.1) (st.2.2.1) (st.2.2.2.1) (st.2.2.2.2.1) (st.2.2.2.2.2.1) (st.2.2.2.2.2.2.1) (st.2.2.2.2.2.2.2.1) (st.2.2.2.2.2.2.2.2)) n (x3, x4, x5, c_trial_thrown_cells, c_flight_loads_cells, c_flight_order, c_flight_done, c_flight_start, c_flight_end)
def DX8_bestAim (x1 : Int32) (x2 : Int32) (c_laid_stand : Int32) (c_laid_home : Int32) (c_laid_priceStart : Int32) (c_laid_priceStep : Int32) (c_laid_thrown_cells : Nat → Int32) (c_laid_thrown_filled : Int32) (c_laid_nets_cells : Nat → Int32) (c_laid_nets_filled : Int32) (c_trial_stand : Int32) (c_trial_home : Int32) (c_trial_priceStart : Int32) (c_trial_priceStep : Int32) (c_trial_thrown_cells : Nat → Int32) (c_trial_thrown_filled : Int32) (c_trial_nets_cells : Nat → Int32) (c_trial_nets_filled : Int32) (c_flight_loads_cells : Nat → Int32) (c_flight_order : Nat → Int32) (c_flight_done : Int32) (c_flight_start : Int32) (c_flight_end : Int32) : Option (Int32 × Int32 × Int32 × Int32 × Int32 × (Nat → Int32) × Int32 × (Nat → Int32) × Int32 × (Nat → Int32) × (Nat → Int32) × Int32 × Int32 × Int32) :=
  bd1 (DX5_has x1 c_laid_thrown_filled) fun r_1 =>
  if r_1 = 0 then
  (some ((-1 : Int32), c_trial_stand, c_trial_home, c_trial_priceStart, c_trial_priceStep, c_trial_thrown_cells, c_trial_thrown_filled, c_trial_nets_cells, c_trial_nets_filled, c_flight_loads_cells, c_flight_order, c_flight_done, c_flight_start, c_flight_end))
  else
  (bd1 (DX8_within x2 (0 : Int32) (1 : Int32)) fun r_4 =>
  if r_4 = 0 then
  (some ((-1 : Int32), c_trial_stand, c_trial_home, c_trial_priceStart, c_trial_priceStep, c_trial_thrown_cells, c_trial_thrown_filled, c_trial_nets_cells, c_trial_nets_filled, c_flight_loads_cells, c_flight_order, c_flight_done, c_flight_start, c_flight_end))
  else
  (bd8 (DX3_takeOver c_trial_thrown_cells c_trial_nets_cells c_laid_stand c_laid_home c_laid_priceStart c_laid_priceStep c_laid_thrown_cells c_laid_thrown_filled c_laid_nets_cells c_laid_nets_filled) fun k_trial_stand_7 k_trial_home_8 k_trial_priceStart_9 k_trial_priceStep_10 k_trial_thrown_cells_11 k_trial_thrown_filled_12 k_trial_nets_cells_13 k_trial_nets_filled_14 =>
  bd8 (DX8_bestAim_L44 x1 k_trial_stand_7 k_trial_home_8 k_trial_priceStart_9 k_trial_priceStep_10 k_trial_thrown_filled_12 k_trial_nets_cells_13 k_trial_nets_filled_14 FU (0 : Int32) (-1 : Int32) (0 : Int32) k_trial_thrown_cells_11 c_flight_loads_cells c_flight_order c_flight_done c_flight_start c_flight_end) fun z3_30 z4_31 k_trial_thrown_cells_32 k_flight_loads_cells_33 k_flight_order_34 k_flight_done_35 k_flight_start_36 k_flight_end_37 =>
  if x2 = 0 then
  (some (z3_30, k_trial_stand_7, k_trial_home_8, k_trial_priceStart_9, k_trial_priceStep_10, k_trial_thrown_cells_32, k_trial_thrown_filled_12, k_trial_nets_cells_13, k_trial_nets_filled_14, k_flight_loads_cells_33, k_flight_order_34, k_flight_done_35, k_flight_start_36, k_flight_end_37))
  else
  (some (z4_31, k_trial_stand_7, k_trial_home_8, k_trial_priceStart_9, k_trial_priceStep_10, k_trial_thrown_cells_32, k_trial_thrown_filled_12, k_trial_nets_cells_13, k_trial_nets_filled_14, k_flight_loads_cells_33, k_flight_order_34, k_flight_done_35, k_flight_start_36, k_flight_end_37))))
def DX8_bestDay_L45s (x1 : Int32) (c_trial_stand : Int32) (c_trial_home : Int32) (c_trial_priceStart : Int32) (c_trial_priceStep : Int32) (c_trial_thrown_filled : Int32) (c_trial_nets_cells : Nat → Int32) (c_trial_nets_filled : Int32) (x3 : Int32) (x4 : Int32) (x5 : Int32) (c_trial_thrown_cells : Nat → Int32) (c_flight_loads_cells : Nat → Int32) (c_flight_order : Nat → Int32) (c_flight_done : Int32) (c_flight_start : Int32) (c_flight_end : Int32) : Option ((Int32 × Int32 × Int32 × (Nat → Int32) × (Nat → Int32) × (Nat → Int32) × Int32 × Int32 × Int32) ⊕ (Int32 × Int32 × (Nat → Int32) × (Nat → Int32) × (Nat → Int32) × Int32 × Int32 × Int32)) :=
  if (40 : Int32) < x5 then
  (some (.inr (x3, x4, c_trial_thrown_cells, c_flight_loads_cells, c_flight_order, c_flight_done, c_flight_start, c_flight_end)))
  else
  (bd1 (DX5_set x1 (0 : Int32) x5 (7 : Int32) (4 : Int32) 28 c_trial_thrown_cells) fun k_trial_thrown_cells_17 =>
  bd5 (DX1_fly (0 : Int32) c_flight_loads_cells c_flight_order c_trial_stand c_trial_home c_trial_priceStart c_trial_priceStep k_trial_thrown_cells_17 c_trial_thrown_filled c_trial_nets_cells c_trial_nets_filled) fun k_flight_loads_cells_19 k_flight_order_20 k_flight_done_21 k_flight_start_22 k_flight_end_23 =>
  bd1 (DX1_known x1 (8 : Int32) k_flight_loads_cells_19) fun r_25 =>
  if r_25 ≤ x4 then
  (some (.inl (x3, x4, (x5 + (1 : Int32)), k_trial_thrown_cells_17, k_flight_loads_cells_19, k_flight_order_20, k_flight_done_21, k_flight_start_22, k_flight_end_23)))
  else
  (bd1 (DX1_known x1 (8 : Int32) k_flight_loads_cells_19) fun r_28 =>
  some (.inl (x5, r_28, (x5 + (1 : Int32)), k_trial_thrown_cells_17, k_flight_loads_cells_19, k_flight_order_20, k_flight_done_21, k_flight_start_22, k_flight_end_23))))
def DX8_bestDay_L45 (x1 : Int32) (c_trial_stand : Int32) (c_trial_home : Int32) (c_trial_priceStart : Int32) (c_trial_priceStep : Int32) (c_trial_thrown_filled : Int32) (c_trial_nets_cells : Nat → Int32) (c_trial_nets_filled : Int32) (n : Nat) (x3 : Int32) (x4 : Int32) (x5 : Int32) (c_trial_thrown_cells : Nat → Int32) (c_flight_loads_cells : Nat → Int32) (c_flight_order : Nat → Int32) (c_flight_done : Int32) (c_flight_start : Int32) (c_flight_end : Int32) : Option (Int32 × Int32 × (Nat → Int32) × (Nat → Int32) × (Nat → Int32) × Int32 × Int32 × Int32) := it (fun (st : Int32 × Int32 × Int32 × (Nat → Int32) × (Nat → Int32) × (Nat → Int32) × Int32 × Int32 × Int32) => DX8_bestDay_L45s x1 c_trial_stand c_trial_home c_trial_priceStart c_trial_priceStep c_trial_thrown_filled c_trial_nets_cells c_trial_nets_filled (st.1) (st.2.1) (st.2.2.1) (st.2.2.2.1) (st.2.2.2.2.1) (st.2.2.2.2.2.1) (st.2.2.2.2.2.2.1) (st.2.2.2.2.2.2.2.1) (st.2.2.2.2.2.2.2.2)) n (x3, x4, x5, c_trial_thrown_cells, c_flight_loads_cells, c_flight_order, c_flight_done, c_flight_start, c_flight_end)
def DX8_bestDay (x1 : Int32) (x2 : Int32) (c_laid_stand : Int32) (c_laid_home : Int32) (c_laid_priceStart : Int32) (c_laid_priceStep : Int32) (c_laid_thrown_cells : Nat → Int32) (c_laid_thrown_filled : Int32) (c_laid_nets_cells : Nat → Int32) (c_laid_nets_filled : Int32) (c_trial_stand : Int32) (c_trial_home : Int32) (c_trial_priceStart : Int32) (c_trial_priceStep : Int32) (c_trial_thrown_cells : Nat → Int32) (c_trial_thrown_filled : Int32) (c_trial_nets_cells : Nat → Int32) (c_trial_nets_filled : Int32) (c_flight_loads_cells : Nat → Int32) (c_flight_order : Nat → Int32) (c_flight_done : Int32) (c_flight_start : Int32) (c_flight_end : Int32) : Option (Int32 × Int32 × Int32 × Int32 × Int32 × (Nat → Int32) × Int32 × (Nat → Int32) × Int32 × (Nat → Int32) × (Nat → Int32) × Int32 × Int32 × Int32) :=
  bd1 (DX5_has x1 c_laid_thrown_filled) fun r_1 =>
  if r_1 = 0 then
  (some ((-1 : Int32), c_trial_stand, c_trial_home, c_trial_priceStart, c_trial_priceStep, c_trial_thrown_cells, c_trial_thrown_filled, c_trial_nets_cells, c_trial_nets_filled, c_flight_loads_cells, c_flight_order, c_flight_done, c_flight_start, c_flight_end))
  else
  (bd1 (DX8_within x2 (0 : Int32) (1 : Int32)) fun r_4 =>
  if r_4 = 0 then
  (some ((-1 : Int32), c_trial_stand, c_trial_home, c_trial_priceStart, c_trial_priceStep, c_trial_thrown_cells, c_trial_thrown_filled, c_trial_nets_cells, c_trial_nets_filled, c_flight_loads_cells, c_flight_order, c_flight_done, c_flight_start, c_flight_end))
  else
  (bd8 (DX3_takeOver c_trial_thrown_cells c_trial_nets_cells c_laid_stand c_laid_home c_laid_priceStart c_laid_priceStep c_laid_thrown_cells c_laid_thrown_filled c_laid_nets_cells c_laid_nets_filled) fun k_trial_stand_7 k_trial_home_8 k_trial_priceStart_9 k_trial_priceStep_10 k_trial_thrown_cells_11 k_trial_thrown_filled_12 k_trial_nets_cells_13 k_trial_nets_filled_14 =>
  bd8 (DX8_bestDay_L45 x1 k_trial_stand_7 k_trial_home_8 k_trial_priceStart_9 k_trial_priceStep_10 k_trial_thrown_filled_12 k_trial_nets_cells_13 k_trial_nets_filled_14 FU (-4 : Int32) (0 : Int32) (0 : Int32) k_trial_thrown_cells_11 c_flight_loads_cells c_flight_order c_flight_done c_flight_start c_flight_end) fun z3_30 z4_31 k_trial_thrown_cells_32 k_flight_loads_cells_33 k_flight_order_34 k_flight_done_35 k_flight_start_36 k_flight_end_37 =>
  if x2 = 0 then
  (some (z3_30, k_trial_stand_7, k_trial_home_8, k_trial_priceStart_9, k_trial_priceStep_10, k_trial_thrown_cells_32, k_trial_thrown_filled_12, k_trial_nets_cells_13, k_trial_nets_filled_14, k_flight_loads_cells_33, k_flight_order_34, k_flight_done_35, k_flight_start_36, k_flight_end_37))
  else
  (if z3_30 = (-4 : Int32) then
  (some (z3_30, k_trial_stand_7, k_trial_home_8, k_trial_priceStart_9, k_trial_priceStep_10, k_trial_thrown_cells_32, k_trial_thrown_filled_12, k_trial_nets_cells_13, k_trial_nets_filled_14, k_flight_loads_cells_33, k_flight_order_34, k_flight_done_35, k_flight_start_36, k_flight_end_37))
  else
  (some (z4_31, k_trial_stand_7, k_trial_home_8, k_trial_priceStart_9, k_trial_priceStep_10, k_trial_thrown_cells_32, k_trial_thrown_filled_12, k_trial_nets_cells_13, k_trial_nets_filled_14, k_flight_loads_cells_33, k_flight_order_34, k_flight_done_35, k_flight_start_36, k_flight_end_37)))))
def DX8_net_L40s (x1 : Int32) (c_flight_loads_cells : Nat → Int32) (c_flight_order : Nat → Int32) (c_flight_done : Int32) (x3 : Int32) (x4 : Int32) (x5 : Int32) : Option ((Int32 × Int32 × Int32) ⊕ (Int32 × Int32)) :=
  if (24 : Int32) ≤ x5 then
  (some (.inr (x3, x4)))
  else
  (bd1 (DX1_caughtWith x5 x1 c_flight_loads_cells c_flight_order c_flight_done) fun r_14 =>
  if r_14 ≤ x4 then
  (some (.inl (x3, x4, (x5 + (1 : Int32)))))
  else
  (some (.inl (x5, r_14, (x5 + (1 : Int32))))))
def DX8_net_L40 (x1 : Int32) (c_flight_loads_cells : Nat → Int32) (c_flight_order : Nat → Int32) (c_flight_done : Int32) (n : Nat) (x3 : Int32) (x4 : Int32) (x5 : Int32) : Option (Int32 × Int32) := it (fun (st : Int32 × Int32 × Int32) => DX8_net_L40s x1 c_flight_loads_cells c_flight_order c_flight_done (st.1) (st.2.1) (st.2.2)) n (x3, x4, x5)
def DX8_net (x1 : Int32) (x2 : Int32) (c_laid_stand : Int32) (c_laid_home : Int32) (c_laid_priceStart : Int32) (c_laid_priceStep : Int32) (c_laid_thrown_cells : Nat → Int32) (c_laid_thrown_filled : Int32) (c_laid_nets_cells : Nat → Int32) (c_laid_nets_filled : Int32) (c_flight_loads_cells : Nat → Int32) (c_flight_order : Nat → Int32) (c_flight_done : Int32) (c_flight_start : Int32) (c_flight_end : Int32) : Option (Int32 × (Nat → Int32) × (Nat → Int32) × Int32 × Int32 × Int32) :=
  bd1 (DX8_within x1 (0 : Int32) (3 : Int32)) fun r_1 =>
  if r_1 = 0 then
  (some ((-1 : Int32), c_flight_loads_cells, c_flight_order, c_flight_done, c_flight_start, c_flight_end))
  else
  (bd1 (DX8_within x2 (0 : Int32) (1 : Int32)) fun r_4 =>
  if r_4 = 0 then
  (some ((-1 : Int32), c_flight_loads_cells, c_flight_order, c_flight_done, c_flight_start, c_flight_end))
  else
  (bd5 (DX1_fly (0 : Int32) c_flight_loads_cells c_flight_order c_laid_stand c_laid_home c_laid_priceStart c_laid_priceStep c_laid_thrown_cells c_laid_thrown_filled c_laid_nets_cells c_laid_nets_filled) fun k_flight_loads_cells_7 k_flight_order_8 k_flight_done_9 k_flight_start_10 k_flight_end_11 =>
  bd2 (DX8_net_L40 x1 k_flight_loads_cells_7 k_flight_order_8 k_flight_done_9 FU (0 : Int32) (-1 : Int32) (0 : Int32)) fun z3_17 z4_18 =>
  if x2 = 0 then
  (some (z3_17, k_flight_loads_cells_7, k_flight_order_8, k_flight_done_9, k_flight_start_10, k_flight_end_11))
  else
  (some (z4_18, k_flight_loads_cells_7, k_flight_order_8, k_flight_done_9, k_flight_start_10, k_flight_end_11))))
def DJ6_bitCount_0f7a4 (x0 : Int32) : Option (Int32) :=
  some ((((((((x0 - (((x0.toUInt32 >>> ((1 : Int32).toUInt32 &&& Int32.toUInt32 31)).toInt32) &&& (1431655765 : Int32))) &&& (858993459 : Int32)) + ((((x0 - (((x0.toUInt32 >>> ((1 : Int32).toUInt32 &&& Int32.toUInt32 31)).toInt32) &&& (1431655765 : Int32))).toUInt32 >>> ((2 : Int32).toUInt32 &&& Int32.toUInt32 31)).toInt32) &&& (858993459 : Int32))) + (((((x0 - (((x0.toUInt32 >>> ((1 : Int32).toUInt32 &&& Int32.toUInt32 31)).toInt32) &&& (1431655765 : Int32))) &&& (858993459 : Int32)) + ((((x0 - (((x0.toUInt32 >>> ((1 : Int32).toUInt32 &&& Int32.toUInt32 31)).toInt32) &&& (1431655765 : Int32))).toUInt32 >>> ((2 : Int32).toUInt32 &&& Int32.toUInt32 31)).toInt32) &&& (858993459 : Int32))).toUInt32 >>> ((4 : Int32).toUInt32 &&& Int32.toUInt32 31)).toInt32)) &&& (252645135 : Int32)) + (((((((x0 - (((x0.toUInt32 >>> ((1 : Int32).toUInt32 &&& Int32.toUInt32 31)).toInt32) &&& (1431655765 : Int32))) &&& (858993459 : Int32)) + ((((x0 - (((x0.toUInt32 >>> ((1 : Int32).toUInt32 &&& Int32.toUInt32 31)).toInt32) &&& (1431655765 : Int32))).toUInt32 >>> ((2 : Int32).toUInt32 &&& Int32.toUInt32 31)).toInt32) &&& (858993459 : Int32))) + (((((x0 - (((x0.toUInt32 >>> ((1 : Int32).toUInt32 &&& Int32.toUInt32 31)).toInt32) &&& (1431655765 : Int32))) &&& (858993459 : Int32)) + ((((x0 - (((x0.toUInt32 >>> ((1 : Int32).toUInt32 &&& Int32.toUInt32 31)).toInt32) &&& (1431655765 : Int32))).toUInt32 >>> ((2 : Int32).toUInt32 &&& Int32.toUInt32 31)).toInt32) &&& (858993459 : Int32))).toUInt32 >>> ((4 : Int32).toUInt32 &&& Int32.toUInt32 31)).toInt32)) &&& (252645135 : Int32)).toUInt32 >>> ((8 : Int32).toUInt32 &&& Int32.toUInt32 31)).toInt32)) + ((((((((x0 - (((x0.toUInt32 >>> ((1 : Int32).toUInt32 &&& Int32.toUInt32 31)).toInt32) &&& (1431655765 : Int32))) &&& (858993459 : Int32)) + ((((x0 - (((x0.toUInt32 >>> ((1 : Int32).toUInt32 &&& Int32.toUInt32 31)).toInt32) &&& (1431655765 : Int32))).toUInt32 >>> ((2 : Int32).toUInt32 &&& Int32.toUInt32 31)).toInt32) &&& (858993459 : Int32))) + (((((x0 - (((x0.toUInt32 >>> ((1 : Int32).toUInt32 &&& Int32.toUInt32 31)).toInt32) &&& (1431655765 : Int32))) &&& (858993459 : Int32)) + ((((x0 - (((x0.toUInt32 >>> ((1 : Int32).toUInt32 &&& Int32.toUInt32 31)).toInt32) &&& (1431655765 : Int32))).toUInt32 >>> ((2 : Int32).toUInt32 &&& Int32.toUInt32 31)).toInt32) &&& (858993459 : Int32))).toUInt32 >>> ((4 : Int32).toUInt32 &&& Int32.toUInt32 31)).toInt32)) &&& (252645135 : Int32)) + (((((((x0 - (((x0.toUInt32 >>> ((1 : Int32).toUInt32 &&& Int32.toUInt32 31)).toInt32) &&& (1431655765 : Int32))) &&& (858993459 : Int32)) + ((((x0 - (((x0.toUInt32 >>> ((1 : Int32).toUInt32 &&& Int32.toUInt32 31)).toInt32) &&& (1431655765 : Int32))).toUInt32 >>> ((2 : Int32).toUInt32 &&& Int32.toUInt32 31)).toInt32) &&& (858993459 : Int32))) + (((((x0 - (((x0.toUInt32 >>> ((1 : Int32).toUInt32 &&& Int32.toUInt32 31)).toInt32) &&& (1431655765 : Int32))) &&& (858993459 : Int32)) + ((((x0 - (((x0.toUInt32 >>> ((1 : Int32).toUInt32 &&& Int32.toUInt32 31)).toInt32) &&& (1431655765 : Int32))).toUInt32 >>> ((2 : Int32).toUInt32 &&& Int32.toUInt32 31)).toInt32) &&& (858993459 : Int32))).toUInt32 >>> ((4 : Int32).toUInt32 &&& Int32.toUInt32 31)).toInt32)) &&& (252645135 : Int32)).toUInt32 >>> ((8 : Int32).toUInt32 &&& Int32.toUInt32 31)).toInt32)).toUInt32 >>> ((16 : Int32).toUInt32 &&& Int32.toUInt32 31)).toInt32)) &&& (63 : Int32))
def DX8_clear_L26s (c_laid_stand : Int32) (c_laid_home : Int32) (c_laid_priceStart : Int32) (c_laid_priceStep : Int32) (c_laid_thrown_cells : Nat → Int32) (c_laid_thrown_filled : Int32) (c_laid_nets_cells : Nat → Int32) (c_laid_nets_filled : Int32) (x3 : Int32) (x1 : Int32) (x2 : Int32) (x4 : Int32) (c_flight_loads_cells : Nat → Int32) (c_flight_order : Nat → Int32) (c_flight_done : Int32) (c_flight_start : Int32) (c_flight_end : Int32) : Option ((Int32 × Int32 × Int32 × (Nat → Int32) × (Nat → Int32) × Int32 × Int32 × Int32) ⊕ (Int32 × (Nat → Int32) × (Nat → Int32) × Int32 × Int32 × Int32)) :=
  if x3 ≤ x4 then
  (some (.inr (x1, c_flight_loads_cells, c_flight_order, c_flight_done, c_flight_start, c_flight_end)))
  else
  (bd1 (DJ6_bitCount_0f7a4 x4) fun r_4 =>
  if x2 ≤ r_4 then
  (some (.inl (x1, x2, (x4 + (1 : Int32)), c_flight_loads_cells, c_flight_order, c_flight_done, c_flight_start, c_flight_end)))
  else
  (bd5 (DX1_fly x4 c_flight_loads_cells c_flight_order c_laid_stand c_laid_home c_laid_priceStart c_laid_priceStep c_laid_thrown_cells c_laid_thrown_filled c_laid_nets_cells c_laid_nets_filled) fun k_flight_loads_cells_7 k_flight_order_8 k_flight_done_9 k_flight_start_10 k_flight_end_11 =>
  bd1 (DX1_howMany (2 : Int32) k_flight_loads_cells_7 k_flight_order_8 k_flight_done_9) fun r_13 =>
  if r_13 = 0 then
  (bd1 (DJ6_bitCount_0f7a4 x4) fun r_16 =>
  some (.inl (x4, r_16, (x4 + (1 : Int32)), k_flight_loads_cells_7, k_flight_order_8, k_flight_done_9, k_flight_start_10, k_flight_end_11)))
  else
  (some (.inl (x1, x2, (x4 + (1 : Int32)), k_flight_loads_cells_7, k_flight_order_8, k_flight_done_9, k_flight_start_10, k_flight_end_11)))))
def DX8_clear_L26 (c_laid_stand : Int32) (c_laid_home : Int32) (c_laid_priceStart : Int32) (c_laid_priceStep : Int32) (c_laid_thrown_cells : Nat → Int32) (c_laid_thrown_filled : Int32) (c_laid_nets_cells : Nat → Int32) (c_laid_nets_filled : Int32) (x3 : Int32) (n : Nat) (x1 : Int32) (x2 : Int32) (x4 : Int32) (c_flight_loads_cells : Nat → Int32) (c_flight_order : Nat → Int32) (c_flight_done : Int32) (c_flight_start : Int32) (c_flight_end : Int32) : Option (Int32 × (Nat → Int32) × (Nat → Int32) × Int32 × Int32 × Int32) := it (fun (st : Int32 × Int32 × Int32 × (Nat → Int32) × (Nat → Int32) × Int32 × Int32 × Int32) => DX8_clear_L26s c_laid_stand c_laid_home c_laid_priceStart c_laid_priceStep c_laid_thrown_cells c_laid_thrown_filled c_laid_nets_cells c_laid_nets_filled x3 (st.1) (st.2.1) (st.2.2.1) (st.2.2.2.1) (st.2.2.2.2.1) (st.2.2.2.2.2.1) (st.2.2.2.2.2.2.1) (st.2.2.2.2.2.2.2)) n (x1, x2, x4, c_flight_loads_cells, c_flight_order, c_flight_done, c_flight_start, c_flight_end)
def DX8_clear (c_laid_stand : Int32) (c_laid_home : Int32) (c_laid_priceStart : Int32) (c_laid_priceStep : Int32) (c_laid_thrown_cells : Nat → Int32) (c_laid_thrown_filled : Int32) (c_laid_nets_cells : Nat → Int32) (c_laid_nets_filled : Int32) (c_flight_loads_cells : Nat → Int32) (c_flight_order : Nat → Int32) (c_flight_done : Int32) (c_flight_start : Int32) (c_flight_end : Int32) : Option (Int32 × (Nat → Int32) × (Nat → Int32) × Int32 × Int32 × Int32) :=
  bd1 (DX5_rows c_laid_thrown_filled) fun r_1 =>
  bd6 (DX8_clear_L26 c_laid_stand c_laid_home c_laid_priceStart c_laid_priceStep c_laid_thrown_cells c_laid_thrown_filled c_laid_nets_cells c_laid_nets_filled ((1 : Int32) <<< ((if (7 : Int32) < r_1 then (7 : Int32) else r_1) &&& 31)) FU (0 : Int32) (8 : Int32) (0 : Int32) c_flight_loads_cells c_flight_order c_flight_done c_flight_start c_flight_end) fun z1_18 k_flight_loads_cells_19 k_flight_order_20 k_flight_done_21 k_flight_start_22 k_flight_end_23 =>
  some (z1_18, k_flight_loads_cells_19, k_flight_order_20, k_flight_done_21, k_flight_start_22, k_flight_end_23)
def DX8_stray_L50s (x1 : Int32) (x2 : Int32) (x3 : Int32) (c_laid_thrown_filled : Int32) (c_flight_loads_cells : Nat → Int32) (x4 : Int32) (x5 : Int32) : Option ((Int32 × Int32) ⊕ (Int32)) :=
  bd1 (DX5_rows c_laid_thrown_filled) fun r_16 =>
  if r_16 ≤ x5 then
  (some (.inr x4))
  else
  (bd1 (DX1_farOn x5 x3 c_flight_loads_cells) fun r_19 =>
  if r_19 = x1 then
  (bd1 (DX1_known x5 (4 : Int32) c_flight_loads_cells) fun r_22 =>
  if r_22 = x2 then
  (some (.inl ((x4 ||| ((1 : Int32) <<< (x5 &&& 31))), (x5 + (1 : Int32)))))
  else
  (some (.inl (x4, (x5 + (1 : Int32))))))
  else
  (some (.inl (x4, (x5 + (1 : Int32))))))
def DX8_stray_L50 (x1 : Int32) (x2 : Int32) (x3 : Int32) (c_laid_thrown_filled : Int32) (c_flight_loads_cells : Nat → Int32) (n : Nat) (x4 : Int32) (x5 : Int32) : Option (Int32) := it (fun (st : Int32 × Int32) => DX8_stray_L50s x1 x2 x3 c_laid_thrown_filled c_flight_loads_cells (st.1) (st.2)) n (x4, x5)
def DX8_stray (x1 : Int32) (x2 : Int32) (x3 : Int32) (c_laid_stand : Int32) (c_laid_home : Int32) (c_laid_priceStart : Int32) (c_laid_priceStep : Int32) (c_laid_thrown_cells : Nat → Int32) (c_laid_thrown_filled : Int32) (c_laid_nets_cells : Nat → Int32) (c_laid_nets_filled : Int32) (c_flight_loads_cells : Nat → Int32) (c_flight_order : Nat → Int32) (c_flight_done : Int32) (c_flight_start : Int32) (c_flight_end : Int32) : Option (Int32 × (Nat → Int32) × (Nat → Int32) × Int32 × Int32 × Int32) :=
  bd1 (DX8_within x1 (0 : Int32) (60 : Int32)) fun r_1 =>
  if r_1 = 0 then
  (some ((-1 : Int32), c_flight_loads_cells, c_flight_order, c_flight_done, c_flight_start, c_flight_end))
  else
  (bd1 (DX8_within x2 (0 : Int32) (23 : Int32)) fun r_4 =>
  if r_4 = 0 then
  (some ((-1 : Int32), c_flight_loads_cells, c_flight_order, c_flight_done, c_flight_start, c_flight_end))
  else
  (bd1 (DX8_within x3 (0 : Int32) (99 : Int32)) fun r_7 =>
  if r_7 = 0 then
  (some ((-1 : Int32), c_flight_loads_cells, c_flight_order, c_flight_done, c_flight_start, c_flight_end))
  else
  (bd5 (DX1_fly (0 : Int32) c_flight_loads_cells c_flight_order c_laid_stand c_laid_home c_laid_priceStart c_laid_priceStep c_laid_thrown_cells c_laid_thrown_filled c_laid_nets_cells c_laid_nets_filled) fun k_flight_loads_cells_10 k_flight_order_11 k_flight_done_12 k_flight_start_13 k_flight_end_14 =>
  bd1 (DX8_stray_L50 x1 x2 x3 c_laid_thrown_filled k_flight_loads_cells_10 FU (0 : Int32) (0 : Int32)) fun z4_25 =>
  some (z4_25, k_flight_loads_cells_10, k_flight_order_11, k_flight_done_12, k_flight_start_13, k_flight_end_14))))
def DX8_meeters_L44s (x1 : Int32) (c_laid_home : Int32) (c_laid_thrown_cells : Nat → Int32) (x5 : Int32) (x3 : Int32) (x4 : Int32) (x6 : Int32) : Option ((Int32 × Int32 × Int32) ⊕ (Int32 × Int32)) :=
  if (6 : Int32) < x6 then
  (some (.inr (x3, x4)))
  else
  (bd1 (DX5_get x1 (0 : Int32) (7 : Int32) (4 : Int32) 28 c_laid_thrown_cells) fun r_9 =>
  bd1 (DX5_get x1 (2 : Int32) (7 : Int32) (4 : Int32) 28 c_laid_thrown_cells) fun r_11 =>
  bd1 (DX8_meetingDay r_9 r_11 x5 x6 c_laid_home) fun r_13 =>
  if r_13 = (1000 : Int32) then
  (some (.inl (x3, x4, (x6 + (1 : Int32)))))
  else
  (if x4 = (-4 : Int32) then
  (some (.inl ((x3 + (1 : Int32)), (((10 : Int32) * x5) + x6), (x6 + (1 : Int32)))))
  else
  (some (.inl ((x3 + (1 : Int32)), x4, (x6 + (1 : Int32)))))))
def DX8_meeters_L44 (x1 : Int32) (c_laid_home : Int32) (c_laid_thrown_cells : Nat → Int32) (x5 : Int32) (n : Nat) (x3 : Int32) (x4 : Int32) (x6 : Int32) : Option (Int32 × Int32) := it (fun (st : Int32 × Int32 × Int32) => DX8_meeters_L44s x1 c_laid_home c_laid_thrown_cells x5 (st.1) (st.2.1) (st.2.2)) n (x3, x4, x6)
def DX8_meeters_L34s (x1 : Int32) (c_laid_home : Int32) (c_laid_thrown_cells : Nat → Int32) (x3 : Int32) (x4 : Int32) (x5 : Int32) : Option ((Int32 × Int32 × Int32) ⊕ (Int32 × Int32)) :=
  if (40 : Int32) < x5 then
  (some (.inr (x3, x4)))
  else
  (bd2 (DX8_meeters_L44 x1 c_laid_home c_laid_thrown_cells x5 FU x3 x4 (1 : Int32)) fun z3_17 z4_18 =>
  some (.inl (z3_17, z4_18, (x5 + (1 : Int32)))))
def DX8_meeters_L34 (x1 : Int32) (c_laid_home : Int32) (c_laid_thrown_cells : Nat → Int32) (n : Nat) (x3 : Int32) (x4 : Int32) (x5 : Int32) : Option (Int32 × Int32) := it (fun (st : Int32 × Int32 × Int32) => DX8_meeters_L34s x1 c_laid_home c_laid_thrown_cells (st.1) (st.2.1) (st.2.2)) n (x3, x4, x5)
def DX8_meeters (x1 : Int32) (x2 : Int32) (c_laid_home : Int32) (c_laid_thrown_cells : Nat → Int32) (c_laid_thrown_filled : Int32) : Option (Int32) :=
  bd1 (DX5_has x1 c_laid_thrown_filled) fun r_1 =>
  if r_1 = 0 then
  (some (-1 : Int32))
  else
  (bd1 (DX8_within x2 (0 : Int32) (1 : Int32)) fun r_4 =>
  if r_4 = 0 then
  (some (-1 : Int32))
  else
  (bd2 (DX8_meeters_L34 x1 c_laid_home c_laid_thrown_cells FU (0 : Int32) (-4 : Int32) (0 : Int32)) fun z3_19 z4_20 =>
  if x2 = 0 then
  (some z3_19)
  else
  (some z4_20)))
def DX8_stand (x1 : Int32) (x2 : Int32) (x3 : Int32) (c_laid_stand : Int32) (c_laid_home : Int32) (c_laid_priceStart : Int32) (c_laid_priceStep : Int32) (c_laid_thrown_cells : Nat → Int32) (c_laid_thrown_filled : Int32) (c_laid_nets_cells : Nat → Int32) (c_laid_nets_filled : Int32) (c_flight_loads_cells : Nat → Int32) (c_flight_order : Nat → Int32) (c_flight_done : Int32) (c_flight_start : Int32) (c_flight_end : Int32) (c_turns_need : Nat → Int32) : Option (Int32 × (Nat → Int32) × (Nat → Int32) × Int32 × Int32 × Int32 × (Nat → Int32)) :=
  bd1 (DX8_within x1 (0 : Int32) (23 : Int32)) fun r_1 =>
  if r_1 = 0 then
  (some ((-1 : Int32), c_flight_loads_cells, c_flight_order, c_flight_done, c_flight_start, c_flight_end, c_turns_need))
  else
  (bd1 (DX8_within x2 (1 : Int32) (63 : Int32)) fun r_4 =>
  if r_4 = 0 then
  (some ((-1 : Int32), c_flight_loads_cells, c_flight_order, c_flight_done, c_flight_start, c_flight_end, c_turns_need))
  else
  (bd1 (DX8_within x3 (0 : Int32) (1 : Int32)) fun r_7 =>
  if r_7 = 0 then
  (some ((-1 : Int32), c_flight_loads_cells, c_flight_order, c_flight_done, c_flight_start, c_flight_end, c_turns_need))
  else
  (bd5 (DX1_fly (0 : Int32) c_flight_loads_cells c_flight_order c_laid_stand c_laid_home c_laid_priceStart c_laid_priceStep c_laid_thrown_cells c_laid_thrown_filled c_laid_nets_cells c_laid_nets_filled) fun k_flight_loads_cells_10 k_flight_order_11 k_flight_done_12 k_flight_start_13 k_flight_end_14 =>
  bd1 (DX7_reach x2 c_turns_need) fun k_turns_need_16 =>
  bd1 (DJ9_floorMod_7cf53 (k_flight_end_14 - x1) (24 : Int32)) fun r_18 =>
  if x3 = 0 then
  (bd1 (DX7_fewest r_18 k_turns_need_16) fun r_23 =>
  some (r_23, k_flight_loads_cells_10, k_flight_order_11, k_flight_done_12, k_flight_start_13, k_flight_end_14, k_turns_need_16))
  else
  (bd1 (DX7_firstSpeed r_18 x2 k_turns_need_16) fun r_21 =>
  some (r_21, k_flight_loads_cells_10, k_flight_order_11, k_flight_done_12, k_flight_start_13, k_flight_end_14, k_turns_need_16)))))
def DX8_power_L5s (x0 : Int64) (x2 : Int32) (x3 : Int64) (x5 : Int32) : Option ((Int64 × Int32) ⊕ (Int64)) :=
  if x2 ≤ x5 then
  (some (.inr x3))
  else
  (some (.inl ((x3 * x0), (x5 + (1 : Int32)))))
def DX8_power_L5 (x0 : Int64) (x2 : Int32) (n : Nat) (x3 : Int64) (x5 : Int32) : Option (Int64) := it (fun (st : Int64 × Int32) => DX8_power_L5s x0 x2 (st.1) (st.2)) n (x3, x5)
def DX8_power (x0 : Int64) (x2 : Int32) : Option (Int64) :=
  bd1 (DX8_power_L5 x0 x2 FU (1 : Int64) (0 : Int32)) fun z3_2 =>
  some z3_2
def DX8_commonDivisor_L9s  (x4 : Int64) (x6 : Int64) (x8 : Int32) : Option ((Int64 × Int64 × Int32) ⊕ (Int64)) :=
  if (64 : Int32) ≤ x8 then
  (some (.inr x4))
  else
  (if (lg_cmp x6 (0 : Int64)) = 0 then
  (some (.inr x4))
  else
  (if x6 = 0 then none else
  some (.inl (x6, (x4 - x4 / x6 * x6), (x8 + (1 : Int32))))))
def DX8_commonDivisor_L9  (n : Nat) (x4 : Int64) (x6 : Int64) (x8 : Int32) : Option (Int64) := it (fun (st : Int64 × Int64 × Int32) => DX8_commonDivisor_L9s (st.1) (st.2.1) (st.2.2)) n (x4, x6, x8)
def DX8_commonDivisor (x0 : Int64) (x2 : Int64) : Option (Int64) :=
  bd1 (DX8_commonDivisor_L9 FU x0 x2 (0 : Int32)) fun z4_4 =>
  some z4_4
def DX8_ways_L5s (x0 : Int32) (x1 : Int32) (x2 : Int64) (x4 : Int32) : Option ((Int64 × Int32) ⊕ (Int64)) :=
  if x1 < x4 then
  (some (.inr x2))
  else
  (if (x4.toInt64) = 0 then none else
  some (.inl (((x2 * (((x0 - x4) + (1 : Int32)).toInt64)) / (x4.toInt64)), (x4 + (1 : Int32)))))
def DX8_ways_L5 (x0 : Int32) (x1 : Int32) (n : Nat) (x2 : Int64) (x4 : Int32) : Option (Int64) := it (fun (st : Int64 × Int32) => DX8_ways_L5s x0 x1 (st.1) (st.2)) n (x2, x4)
def DX8_ways (x0 : Int32) (x1 : Int32) : Option (Int64) :=
  bd1 (DX8_ways_L5 x0 x1 FU (1 : Int64) (1 : Int32)) fun z2_3 =>
  some z2_3
def DX8_odds_L48s (x1 : Int32) (x2 : Int32) (x6 : Int64) (x8 : Int32) : Option ((Int64 × Int32) ⊕ (Int64)) :=
  if x1 < x8 then
  (some (.inr x6))
  else
  (if ((2 : Int32) * x8) < x1 then
  (some (.inl (x6, (x8 + (1 : Int32)))))
  else
  (bd1 (DX8_ways x1 x8) fun r_14 =>
  bd1 (DX8_power (x2.toInt64) x8) fun r_16 =>
  bd1 (DX8_power (((10 : Int32) - x2).toInt64) (x1 - x8)) fun r_18 =>
  some (.inl ((x6 + ((r_14 * r_16) * r_18)), (x8 + (1 : Int32))))))
def DX8_odds_L48 (x1 : Int32) (x2 : Int32) (n : Nat) (x6 : Int64) (x8 : Int32) : Option (Int64) := it (fun (st : Int64 × Int32) => DX8_odds_L48s x1 x2 (st.1) (st.2)) n (x6, x8)
def DX8_odds_J120 (y0 : Int64) (x8 : Int64) : Option (Int64) :=
  if (lg_cmp x8 (0 : Int64)) ≤ 0 then
  (some y0)
  else
  (if x8 = 0 then none else
  some (y0 / x8))
def DX8_odds (x1 : Int32) (x2 : Int32) (x3 : Int32) : Option (Int64) :=
  bd1 (DX8_within x1 (0 : Int32) (9 : Int32)) fun r_1 =>
  if r_1 = 0 then
  (some (-1 : Int64))
  else
  (bd1 (DX8_within x2 (0 : Int32) (10 : Int32)) fun r_4 =>
  if r_4 = 0 then
  (some (-1 : Int64))
  else
  (bd1 (DX8_within x3 (0 : Int32) (1 : Int32)) fun r_7 =>
  if r_7 = 0 then
  (some (-1 : Int64))
  else
  (bd1 (DX8_power (10 : Int64) x1) fun r_10 =>
  bd1 (DX8_odds_L48 x1 x2 FU (0 : Int64) (0 : Int32)) fun z6_20 =>
  bd1 (DX8_commonDivisor z6_20 r_10) fun r_21 =>
  if x3 = 0 then
  (DX8_odds_J120 z6_20 r_21)
  else
  (DX8_odds_J120 r_10 r_21))))
def DX8_year_L35s (x1 : Int32) (c_trial_thrown_filled : Int32) (x3 : Int32) (c_trial_thrown_cells : Nat → Int32) : Option ((Int32 × (Nat → Int32)) ⊕ ((Nat → Int32))) :=
  bd1 (DX5_rows c_trial_thrown_filled) fun r_16 =>
  if r_16 ≤ x3 then
  (some (.inr c_trial_thrown_cells))
  else
  (bd1 (DX5_set x3 (1 : Int32) ((((((((7919 : Int64) * (x1.toInt64)) + ((6151 : Int64) * (x3.toInt64))) + (1 : Int64)) * ((((7919 : Int64) * (x1.toInt64)) + ((6151 : Int64) * (x3.toInt64))) + (1 : Int64))) - (((((7919 : Int64) * (x1.toInt64)) + ((6151 : Int64) * (x3.toInt64))) + (1 : Int64)) * ((((7919 : Int64) * (x1.toInt64)) + ((6151 : Int64) * (x3.toInt64))) + (1 : Int64))) / (65521 : Int64) * (65521 : Int64)) - ((((((7919 : Int64) * (x1.toInt64)) + ((6151 : Int64) * (x3.toInt64))) + (1 : Int64)) * ((((7919 : Int64) * (x1.toInt64)) + ((6151 : Int64) * (x3.toInt64))) + (1 : Int64))) - (((((7919 : Int64) * (x1.toInt64)) + ((6151 : Int64) * (x3.toInt64))) + (1 : Int64)) * ((((7919 : Int64) * (x1.toInt64)) + ((6151 : Int64) * (x3.toInt64))) + (1 : Int64))) / (65521 : Int64) * (65521 : Int64)) / (24 : Int64) * (24 : Int64)).toInt32) (7 : Int32) (4 : Int32) 28 c_trial_thrown_cells) fun k_trial_thrown_cells_19 =>
  some (.inl ((x3 + (1 : Int32)), k_trial_thrown_cells_19)))
def DX8_year_L35 (x1 : Int32) (c_trial_thrown_filled : Int32) (n : Nat) (x3 : Int32) (c_trial_thrown_cells : Nat → Int32) : Option ((Nat → Int32)) := it (fun (st : Int32 × (Nat → Int32)) => DX8_year_L35s x1 c_trial_thrown_filled (st.1) (st.2)) n (x3, c_trial_thrown_cells)
def DX8_year (x1 : Int32) (x2 : Int32) (c_laid_stand : Int32) (c_laid_home : Int32) (c_laid_priceStart : Int32) (c_laid_priceStep : Int32) (c_laid_thrown_cells : Nat → Int32) (c_laid_thrown_filled : Int32) (c_laid_nets_cells : Nat → Int32) (c_laid_nets_filled : Int32) (c_trial_stand : Int32) (c_trial_home : Int32) (c_trial_priceStart : Int32) (c_trial_priceStep : Int32) (c_trial_thrown_cells : Nat → Int32) (c_trial_thrown_filled : Int32) (c_trial_nets_cells : Nat → Int32) (c_trial_nets_filled : Int32) (c_flight_loads_cells : Nat → Int32) (c_flight_order : Nat → Int32) (c_flight_done : Int32) (c_flight_start : Int32) (c_flight_end : Int32) : Option (Int32 × Int32 × Int32 × Int32 × Int32 × (Nat → Int32) × Int32 × (Nat → Int32) × Int32 × (Nat → Int32) × (Nat → Int32) × Int32 × Int32 × Int32) :=
  bd1 (DX8_within x1 (0 : Int32) (9999 : Int32)) fun r_1 =>
  if r_1 = 0 then
  (some ((-1 : Int32), c_trial_stand, c_trial_home, c_trial_priceStart, c_trial_priceStep, c_trial_thrown_cells, c_trial_thrown_filled, c_trial_nets_cells, c_trial_nets_filled, c_flight_loads_cells, c_flight_order, c_flight_done, c_flight_start, c_flight_end))
  else
  (bd1 (DX8_within x2 (0 : Int32) (2 : Int32)) fun r_4 =>
  if r_4 = 0 then
  (some ((-1 : Int32), c_trial_stand, c_trial_home, c_trial_priceStart, c_trial_priceStep, c_trial_thrown_cells, c_trial_thrown_filled, c_trial_nets_cells, c_trial_nets_filled, c_flight_loads_cells, c_flight_order, c_flight_done, c_flight_start, c_flight_end))
  else
  (bd8 (DX3_takeOver c_trial_thrown_cells c_trial_nets_cells c_laid_stand c_laid_home c_laid_priceStart c_laid_priceStep c_laid_thrown_cells c_laid_thrown_filled c_laid_nets_cells c_laid_nets_filled) fun k_trial_stand_7 k_trial_home_8 k_trial_priceStart_9 k_trial_priceStep_10 k_trial_thrown_cells_11 k_trial_thrown_filled_12 k_trial_nets_cells_13 k_trial_nets_filled_14 =>
  bd1 (DX8_year_L35 x1 k_trial_thrown_filled_12 FU (0 : Int32) k_trial_thrown_cells_11) fun k_trial_thrown_cells_21 =>
  bd5 (DX1_fly (0 : Int32) c_flight_loads_cells c_flight_order k_trial_stand_7 k_trial_home_8 k_trial_priceStart_9 k_trial_priceStep_10 k_trial_thrown_cells_21 k_trial_thrown_filled_12 k_trial_nets_cells_13 k_trial_nets_filled_14) fun k_flight_loads_cells_22 k_flight_order_23 k_flight_done_24 k_flight_start_25 k_flight_end_26 =>
  if x2 = (0 : Int32) then
  (bd1 (DX1_howMany (0 : Int32) k_flight_loads_cells_22 k_flight_order_23 k_flight_done_24) fun r_29 =>
  some (r_29, k_trial_stand_7, k_trial_home_8, k_trial_priceStart_9, k_trial_priceStep_10, k_trial_thrown_cells_21, k_trial_thrown_filled_12, k_trial_nets_cells_13, k_trial_nets_filled_14, k_flight_loads_cells_22, k_flight_order_23, k_flight_done_24, k_flight_start_25, k_flight_end_26))
  else
  if x2 = (1 : Int32) then
  (bd1 (DX1_paidInAll k_flight_loads_cells_22 k_flight_order_23 k_flight_done_24) fun r_32 =>
  some (r_32, k_trial_stand_7, k_trial_home_8, k_trial_priceStart_9, k_trial_priceStep_10, k_trial_thrown_cells_21, k_trial_thrown_filled_12, k_trial_nets_cells_13, k_trial_nets_filled_14, k_flight_loads_cells_22, k_flight_order_23, k_flight_done_24, k_flight_start_25, k_flight_end_26))
  else
  (some (k_flight_end_26, k_trial_stand_7, k_trial_home_8, k_trial_priceStart_9, k_trial_priceStep_10, k_trial_thrown_cells_21, k_trial_thrown_filled_12, k_trial_nets_cells_13, k_trial_nets_filled_14, k_flight_loads_cells_22, k_flight_order_23, k_flight_done_24, k_flight_start_25, k_flight_end_26))))
def DX8_keep (c_laid_thrown_cells : Nat → Int32) (c_laid_thrown_filled : Int32) (c_kept_older_cells : Nat → Int32) (c_kept_older_filled : Int32) (c_kept_newer_cells : Nat → Int32) (c_kept_newer_filled : Int32) (c_kept_held : Int32) : Option (Int32 × (Nat → Int32) × Int32 × (Nat → Int32) × Int32 × Int32) :=
  bd6 (DX2_take c_kept_older_cells c_kept_older_filled c_kept_newer_cells c_kept_newer_filled c_kept_held c_laid_thrown_cells c_laid_thrown_filled) fun r_1 k_kept_older_cells_2 k_kept_older_filled_3 k_kept_newer_cells_4 k_kept_newer_filled_5 k_kept_held_6 =>
  if r_1 = 0 then
  (some ((-3 : Int32), k_kept_older_cells_2, k_kept_older_filled_3, k_kept_newer_cells_4, k_kept_newer_filled_5, k_kept_held_6))
  else
  (some (k_kept_held_6, k_kept_older_cells_2, k_kept_older_filled_3, k_kept_newer_cells_4, k_kept_newer_filled_5, k_kept_held_6))
def DX8_back (c_laid_thrown_cells : Nat → Int32) (c_laid_thrown_filled : Int32) (c_changes_held : Int32) (c_kept_older_cells : Nat → Int32) (c_kept_older_filled : Int32) (c_kept_newer_cells : Nat → Int32) (c_kept_newer_filled : Int32) (c_kept_held : Int32) : Option (Int32 × (Nat → Int32) × Int32 × Int32 × Int32) :=
  bd4 (DX2_giveBack c_kept_older_cells c_kept_older_filled c_kept_newer_cells c_kept_newer_filled c_kept_held c_laid_thrown_cells c_laid_thrown_filled) fun r_1 k_kept_held_2 k_laid_thrown_cells_3 k_laid_thrown_filled_4 =>
  if r_1 = 0 then
  (some ((-2 : Int32), k_laid_thrown_cells_3, k_laid_thrown_filled_4, c_changes_held, k_kept_held_2))
  else
  (bd1 (DX0_forget) fun k_changes_held_7 =>
  some (k_kept_held_2, k_laid_thrown_cells_3, k_laid_thrown_filled_4, k_changes_held_7, k_kept_held_2))
def DX8_count (x1 : Int32) (c_text_length : Int32) (c_laid_stand : Int32) (c_laid_home : Int32) (c_laid_thrown_filled : Int32) (c_laid_nets_filled : Int32) (c_changes_held : Int32) (c_kept_held : Int32) : Option (Int32) :=
  if x1 = (0 : Int32) then
  (bd1 (DX5_rows c_laid_thrown_filled) fun r_2 =>
  some r_2)
  else
  if x1 = (1 : Int32) then
  (bd1 (DX5_rows c_laid_nets_filled) fun r_5 =>
  some r_5)
  else
  if x1 = (2 : Int32) then
  (some c_laid_stand)
  else
  if x1 = (3 : Int32) then
  (some c_laid_home)
  else
  if x1 = (4 : Int32) then
  (some c_changes_held)
  else
  if x1 = (5 : Int32) then
  (some c_kept_held)
  else
  if x1 = (6 : Int32) then
  (some c_text_length)
  else
  (some (-1 : Int32))
def DX9_in (x0 : Int64) (x2 : Int64) (x4 : Int64) : Option (Int32) :=
  if (lg_cmp x0 x2) < 0 then
  (some (0 : Int32))
  else
  (if 0 < (lg_cmp x0 x4) then
  (some (0 : Int32))
  else
  (some (1 : Int32)))
def DX9_has (x0 : Int32) (x1 : Int32) : Option (Int32) :=
  if ((x0 >>> (x1 &&& 31)) &&& (1 : Int32)) = (1 : Int32) then
  (some (1 : Int32))
  else
  (some (0 : Int32))
def DX9_noRock (x1 : Int32) (c_stands : Nat → Int32) (c_homeFar : Nat → Int32) (c_nets : Nat → Int32) (c_priceX : Nat → Int32) (c_priceY : Nat → Int32) (c_many : Nat → Int32) : Option ((Nat → Int32) × (Nat → Int32) × (Nat → Int32) × (Nat → Int32) × (Nat → Int32) × (Nat → Int32)) :=
  if x1 < 0 ∨ 2 ≤ x1.toNatClampNeg then none else
  if x1 < 0 ∨ 2 ≤ x1.toNatClampNeg then none else
  if x1 < 0 ∨ 2 ≤ x1.toNatClampNeg then none else
  if x1 < 0 ∨ 2 ≤ x1.toNatClampNeg then none else
  if x1 < 0 ∨ 2 ≤ x1.toNatClampNeg then none else
  if x1 < 0 ∨ 4 ≤ x1.toNatClampNeg then none else
  some ((upd c_stands x1.toNatClampNeg (0 : Int32)), (upd c_homeFar x1.toNatClampNeg (12 : Int32)), (upd c_nets x1.toNatClampNeg (0 : Int32)), (upd c_priceX x1.toNatClampNeg (0 : Int32)), (upd c_priceY x1.toNatClampNeg (7 : Int32)), (upd c_many x1.toNatClampNeg (0 : Int32)))
def DX9_write_L34s (x2 : Int64) (x4 : Int32) (c_length : Int32) (c_text : Nat → Int32) : Option ((Int32 × Int32 × (Nat → Int32)) ⊕ (Int32 × (Nat → Int32))) :=
  if x4 < 0 then
  (some (.inr (c_length, c_text)))
  else
  (if c_length < 0 ∨ 300 ≤ c_length.toNatClampNeg then none else
  some (.inl ((x4 + (-1 : Int32)), (c_length + (1 : Int32)), (upd c_text c_length.toNatClampNeg ((((x2 >>> (((8 : Int32) * x4).toInt64 &&& 63))) &&& (255 : Int64)).toInt32)))))
def DX9_write_L34 (x2 : Int64) (n : Nat) (x4 : Int32) (c_length : Int32) (c_text : Nat → Int32) : Option (Int32 × (Nat → Int32)) := it (fun (st : Int32 × Int32 × (Nat → Int32)) => DX9_write_L34s x2 (st.1) (st.2.1) (st.2.2)) n (x4, c_length, c_text)
def DX9_write (x1 : Int32) (x2 : Int64) (c_length : Int32) (c_text : Nat → Int32) : Option (Int32 × Int32 × (Nat → Int32)) :=
  bd1 (DX9_in (x1.toInt64) (1 : Int64) (8 : Int64)) fun r_1 =>
  if r_1 = 0 then
  (some ((-1 : Int32), c_length, c_text))
  else
  (if (c_length + x1) ≤ (300 : Int32) then
  (bd2 (DX9_write_L34 x2 FU (x1 - (1 : Int32)) c_length c_text) fun k_length_7 k_text_8 =>
  some (k_length_7, k_length_7, k_text_8))
  else
  (some ((-3 : Int32), c_length, c_text)))
def DX9_wipe (c_length : Int32) : Option (Int32 × Int32) :=
  some (c_length, (0 : Int32))
def DX9_byteAt (x1 : Int32) (c_length : Int32) (c_text : Nat → Int32) : Option (Int32) :=
  if c_length ≤ x1 then
  (some (0 : Int32))
  else
  (if x1 < 0 ∨ 300 ≤ x1.toNatClampNeg then none else
  some (c_text x1.toNatClampNeg))
def DX9_figures_L12s (c_length : Int32) (c_text : Nat → Int32) (x3 : Int32) (x4 : Int32) (c_spot : Int32) : Option ((Int32 × Int32 × Int32) ⊕ (Int32 × Int32 × Int32)) :=
  bd1 (DX9_byteAt c_spot c_length c_text) fun r_2 =>
  bd1 (DX9_in (r_2.toInt64) (48 : Int64) (57 : Int64)) fun r_4 =>
  if r_4 = 0 then
  (some (.inr (x3, x4, c_spot)))
  else
  (if (3 : Int32) ≤ x3 then
  (some (.inr (x3, x4, c_spot)))
  else
  (bd1 (DX9_byteAt c_spot c_length c_text) fun r_8 =>
  some (.inl ((x3 + (1 : Int32)), ((((10 : Int32) * x4) + r_8) - (48 : Int32)), (c_spot + (1 : Int32))))))
def DX9_figures_L12 (c_length : Int32) (c_text : Nat → Int32) (n : Nat) (x3 : Int32) (x4 : Int32) (c_spot : Int32) : Option (Int32 × Int32 × Int32) := it (fun (st : Int32 × Int32 × Int32) => DX9_figures_L12s c_length c_text (st.1) (st.2.1) (st.2.2)) n (x3, x4, c_spot)
def DX9_figures_J107 (c_spot : Int32) (c_told : Nat → Int32) (y0 : Int32) (y1 : Int32) (x2 : Int32) (x4 : Int32) : Option ((Int32 × Int32 × (Nat → Int32)) ⊕ ((Int32 × (Nat → Int32)) ⊕ (Int32 × Int32 × (Nat → Int32)))) :=
  if y1 = y0 then
  (if x2 < 0 ∨ 4 ≤ x2.toNatClampNeg then none else
  some (.inl ((x2 + (1 : Int32)), (c_spot + (1 : Int32)), (upd c_told x2.toNatClampNeg x4))))
  else
  (some (.inr (.inr ((0 : Int32), c_spot, c_told))))
def DX9_figures_J73 (x1 : Int32) (c_length : Int32) (c_text : Nat → Int32) (c_spot : Int32) (c_told : Nat → Int32) (x2 : Int32) (x3 : Int32) (x4 : Int32) : Option ((Int32 × Int32 × (Nat → Int32)) ⊕ ((Int32 × (Nat → Int32)) ⊕ (Int32 × Int32 × (Nat → Int32)))) :=
  bd1 (DX9_in (x3.toInt64) (1 : Int64) (2 : Int64)) fun r_13 =>
  if r_13 = 0 then
  (some (.inr (.inr ((0 : Int32), c_spot, c_told))))
  else
  (bd1 (DX9_byteAt c_spot c_length c_text) fun r_16 =>
  if (x1 - (1 : Int32)) ≤ x2 then
  (DX9_figures_J107 c_spot c_told (59 : Int32) r_16 x2 x4)
  else
  (DX9_figures_J107 c_spot c_told (44 : Int32) r_16 x2 x4))
def DX9_figures_L2s (x1 : Int32) (c_length : Int32) (c_text : Nat → Int32) (x2 : Int32) (c_spot : Int32) (c_told : Nat → Int32) : Option ((Int32 × Int32 × (Nat → Int32)) ⊕ ((Int32 × (Nat → Int32)) ⊕ (Int32 × Int32 × (Nat → Int32)))) :=
  if x1 ≤ x2 then
  (some (.inr (.inl (c_spot, c_told))))
  else
  (bd3 (DX9_figures_L12 c_length c_text FU (0 : Int32) (0 : Int32) c_spot) fun z3_10 z4_11 k_spot_12 =>
  DX9_figures_J73 x1 c_length c_text k_spot_12 c_told x2 z3_10 z4_11)
def DX9_figures_L2 (x1 : Int32) (c_length : Int32) (c_text : Nat → Int32) (n : Nat) (x2 : Int32) (c_spot : Int32) (c_told : Nat → Int32) : Option ((Int32 × (Nat → Int32)) ⊕ (Int32 × Int32 × (Nat → Int32))) := it (fun (st : Int32 × Int32 × (Nat → Int32)) => DX9_figures_L2s x1 c_length c_text (st.1) (st.2.1) (st.2.2)) n (x2, c_spot, c_told)
def DX9_figures (x1 : Int32) (c_length : Int32) (c_text : Nat → Int32) (c_spot : Int32) (c_told : Nat → Int32) : Option (Int32 × Int32 × (Nat → Int32)) :=
  el2 (DX9_figures_L2 x1 c_length c_text FU (0 : Int32) c_spot c_told) (fun k_spot_21 k_told_22 =>
  some ((1 : Int32), k_spot_21, k_told_22)) (fun r => some r)
def DX9_item (c_length : Int32) (c_text : Nat → Int32) (c_stands : Nat → Int32) (c_homeFar : Nat → Int32) (c_nets : Nat → Int32) (c_netAt : Nat → Int32) (c_netWide : Nat → Int32) (c_netFrom : Nat → Int32) (c_netTo : Nat → Int32) (c_priceX : Nat → Int32) (c_priceY : Nat → Int32) (c_many : Nat → Int32) (c_days : Nat → Int32) (c_aims : Nat → Int32) (c_speeds : Nat → Int32) (c_kinds : Nat → Int32) (c_spot : Int32) (c_told : Nat → Int32) : Option (Int32 × (Nat → Int32) × (Nat → Int32) × (Nat → Int32) × (Nat → Int32) × (Nat → Int32) × (Nat → Int32) × (Nat → Int32) × (Nat → Int32) × (Nat → Int32) × (Nat → Int32) × (Nat → Int32) × (Nat → Int32) × (Nat → Int32) × (Nat → Int32) × Int32 × (Nat → Int32)) :=
  bd1 (DX9_byteAt c_spot c_length c_text) fun r_1 =>
  if r_1 = (110 : Int32) then
  (bd3 (DX9_figures (4 : Int32) c_length c_text (c_spot + (1 : Int32)) c_told) fun r_4 k_spot_5 k_told_6 =>
  if r_4 = 0 then
  (some ((0 : Int32), c_stands, c_homeFar, c_nets, c_netAt, c_netWide, c_netFrom, c_netTo, c_priceX, c_priceY, c_many, c_days, c_aims, c_speeds, c_kinds, k_spot_5, k_told_6))
  else
  (if (c_nets (1 : Int32).toNatClampNeg) = (5 : Int32) then
  (some ((0 : Int32), c_stands, c_homeFar, c_nets, c_netAt, c_netWide, c_netFrom, c_netTo, c_priceX, c_priceY, c_many, c_days, c_aims, c_speeds, c_kinds, k_spot_5, k_told_6))
  else
  (if (23 : Int32) < (k_told_6 (0 : Int32).toNatClampNeg) then
  (some ((0 : Int32), c_stands, c_homeFar, c_nets, c_netAt, c_netWide, c_netFrom, c_netTo, c_priceX, c_priceY, c_many, c_days, c_aims, c_speeds, c_kinds, k_spot_5, k_told_6))
  else
  (if (k_told_6 (1 : Int32).toNatClampNeg) ≤ (3 : Int32) then
  (if ((6 : Int32) + (c_nets (1 : Int32).toNatClampNeg)) < 0 ∨ 12 ≤ ((6 : Int32) + (c_nets (1 : Int32).toNatClampNeg)).toNatClampNeg then none else
  if ((6 : Int32) + (c_nets (1 : Int32).toNatClampNeg)) < 0 ∨ 12 ≤ ((6 : Int32) + (c_nets (1 : Int32).toNatClampNeg)).toNatClampNeg then none else
  if ((6 : Int32) + (c_nets (1 : Int32).toNatClampNeg)) < 0 ∨ 12 ≤ ((6 : Int32) + (c_nets (1 : Int32).toNatClampNeg)).toNatClampNeg then none else
  if ((6 : Int32) + (c_nets (1 : Int32).toNatClampNeg)) < 0 ∨ 12 ≤ ((6 : Int32) + (c_nets (1 : Int32).toNatClampNeg)).toNatClampNeg then none else
  some ((1 : Int32), c_stands, c_homeFar, (upd c_nets (1 : Int32).toNatClampNeg ((c_nets (1 : Int32).toNatClampNeg) + (1 : Int32))), (upd c_netAt ((6 : Int32) + (c_nets (1 : Int32).toNatClampNeg)).toNatClampNeg (k_told_6 (0 : Int32).toNatClampNeg)), (upd c_netWide ((6 : Int32) + (c_nets (1 : Int32).toNatClampNeg)).toNatClampNeg (k_told_6 (1 : Int32).toNatClampNeg)), (upd c_netFrom ((6 : Int32) + (c_nets (1 : Int32).toNatClampNeg)).toNatClampNeg (k_told_6 (2 : Int32).toNatClampNeg)), (upd c_netTo ((6 : Int32) + (c_nets (1 : Int32).toNatClampNeg)).toNatClampNeg (k_told_6 (3 : Int32).toNatClampNeg)), c_priceX, c_priceY, c_many, c_days, c_aims, c_speeds, c_kinds, k_spot_5, k_told_6))
  else
  (some ((0 : Int32), c_stands, c_homeFar, c_nets, c_netAt, c_netWide, c_netFrom, c_netTo, c_priceX, c_priceY, c_many, c_days, c_aims, c_speeds, c_kinds, k_spot_5, k_told_6))))))
  else
  if r_1 = (111 : Int32) then
  (some ((0 : Int32), c_stands, c_homeFar, c_nets, c_netAt, c_netWide, c_netFrom, c_netTo, c_priceX, c_priceY, c_many, c_days, c_aims, c_speeds, c_kinds, (c_spot + (1 : Int32)), c_told))
  else
  if r_1 = (112 : Int32) then
  (bd3 (DX9_figures (2 : Int32) c_length c_text (c_spot + (1 : Int32)) c_told) fun r_18 k_spot_19 k_told_20 =>
  if r_18 = 0 then
  (some ((0 : Int32), c_stands, c_homeFar, c_nets, c_netAt, c_netWide, c_netFrom, c_netTo, c_priceX, c_priceY, c_many, c_days, c_aims, c_speeds, c_kinds, k_spot_19, k_told_20))
  else
  (if (49 : Int32) < (k_told_20 (0 : Int32).toNatClampNeg) then
  (some ((0 : Int32), c_stands, c_homeFar, c_nets, c_netAt, c_netWide, c_netFrom, c_netTo, c_priceX, c_priceY, c_many, c_days, c_aims, c_speeds, c_kinds, k_spot_19, k_told_20))
  else
  (if (k_told_20 (1 : Int32).toNatClampNeg) ≤ (49 : Int32) then
  (some ((1 : Int32), c_stands, c_homeFar, c_nets, c_netAt, c_netWide, c_netFrom, c_netTo, (upd c_priceX (1 : Int32).toNatClampNeg (k_told_20 (0 : Int32).toNatClampNeg)), (upd c_priceY (1 : Int32).toNatClampNeg (k_told_20 (1 : Int32).toNatClampNeg)), c_many, c_days, c_aims, c_speeds, c_kinds, k_spot_19, k_told_20))
  else
  (some ((0 : Int32), c_stands, c_homeFar, c_nets, c_netAt, c_netWide, c_netFrom, c_netTo, c_priceX, c_priceY, c_many, c_days, c_aims, c_speeds, c_kinds, k_spot_19, k_told_20)))))
  else
  if r_1 = (113 : Int32) then
  (some ((0 : Int32), c_stands, c_homeFar, c_nets, c_netAt, c_netWide, c_netFrom, c_netTo, c_priceX, c_priceY, c_many, c_days, c_aims, c_speeds, c_kinds, (c_spot + (1 : Int32)), c_told))
  else
  if r_1 = (114 : Int32) then
  (bd3 (DX9_figures (2 : Int32) c_length c_text (c_spot + (1 : Int32)) c_told) fun r_27 k_spot_28 k_told_29 =>
  if r_27 = 0 then
  (some ((0 : Int32), c_stands, c_homeFar, c_nets, c_netAt, c_netWide, c_netFrom, c_netTo, c_priceX, c_priceY, c_many, c_days, c_aims, c_speeds, c_kinds, k_spot_28, k_told_29))
  else
  (if (23 : Int32) < (k_told_29 (0 : Int32).toNatClampNeg) then
  (some ((0 : Int32), c_stands, c_homeFar, c_nets, c_netAt, c_netWide, c_netFrom, c_netTo, c_priceX, c_priceY, c_many, c_days, c_aims, c_speeds, c_kinds, k_spot_28, k_told_29))
  else
  (bd1 (DX9_in ((k_told_29 (1 : Int32).toNatClampNeg).toInt64) (1 : Int64) (60 : Int64)) fun r_33 =>
  if r_33 = 0 then
  (some ((0 : Int32), c_stands, c_homeFar, c_nets, c_netAt, c_netWide, c_netFrom, c_netTo, c_priceX, c_priceY, c_many, c_days, c_aims, c_speeds, c_kinds, k_spot_28, k_told_29))
  else
  (some ((1 : Int32), (upd c_stands (1 : Int32).toNatClampNeg (k_told_29 (0 : Int32).toNatClampNeg)), (upd c_homeFar (1 : Int32).toNatClampNeg (k_told_29 (1 : Int32).toNatClampNeg)), c_nets, c_netAt, c_netWide, c_netFrom, c_netTo, c_priceX, c_priceY, c_many, c_days, c_aims, c_speeds, c_kinds, k_spot_28, k_told_29)))))
  else
  if r_1 = (115 : Int32) then
  (some ((0 : Int32), c_stands, c_homeFar, c_nets, c_netAt, c_netWide, c_netFrom, c_netTo, c_priceX, c_priceY, c_many, c_days, c_aims, c_speeds, c_kinds, (c_spot + (1 : Int32)), c_told))
  else
  if r_1 = (116 : Int32) then
  (bd3 (DX9_figures (4 : Int32) c_length c_text (c_spot + (1 : Int32)) c_told) fun r_38 k_spot_39 k_told_40 =>
  if r_38 = 0 then
  (some ((0 : Int32), c_stands, c_homeFar, c_nets, c_netAt, c_netWide, c_netFrom, c_netTo, c_priceX, c_priceY, c_many, c_days, c_aims, c_speeds, c_kinds, k_spot_39, k_told_40))
  else
  (if (c_many (1 : Int32).toNatClampNeg) = (7 : Int32) then
  (some ((0 : Int32), c_stands, c_homeFar, c_nets, c_netAt, c_netWide, c_netFrom, c_netTo, c_priceX, c_priceY, c_many, c_days, c_aims, c_speeds, c_kinds, k_spot_39, k_told_40))
  else
  (if (40 : Int32) < (k_told_40 (0 : Int32).toNatClampNeg) then
  (some ((0 : Int32), c_stands, c_homeFar, c_nets, c_netAt, c_netWide, c_netFrom, c_netTo, c_priceX, c_priceY, c_many, c_days, c_aims, c_speeds, c_kinds, k_spot_39, k_told_40))
  else
  (if (23 : Int32) < (k_told_40 (1 : Int32).toNatClampNeg) then
  (some ((0 : Int32), c_stands, c_homeFar, c_nets, c_netAt, c_netWide, c_netFrom, c_netTo, c_priceX, c_priceY, c_many, c_days, c_aims, c_speeds, c_kinds, k_spot_39, k_told_40))
  else
  (bd1 (DX9_in ((k_told_40 (2 : Int32).toNatClampNeg).toInt64) (1 : Int64) (6 : Int64)) fun r_46 =>
  if r_46 = 0 then
  (some ((0 : Int32), c_stands, c_homeFar, c_nets, c_netAt, c_netWide, c_netFrom, c_netTo, c_priceX, c_priceY, c_many, c_days, c_aims, c_speeds, c_kinds, k_spot_39, k_told_40))
  else
  (if (k_told_40 (3 : Int32).toNatClampNeg) ≤ (3 : Int32) then
  (if ((7 : Int32) + (c_many (1 : Int32).toNatClampNeg)) < 0 ∨ 28 ≤ ((7 : Int32) + (c_many (1 : Int32).toNatClampNeg)).toNatClampNeg then none else
  if ((7 : Int32) + (c_many (1 : Int32).toNatClampNeg)) < 0 ∨ 28 ≤ ((7 : Int32) + (c_many (1 : Int32).toNatClampNeg)).toNatClampNeg then none else
  if ((7 : Int32) + (c_many (1 : Int32).toNatClampNeg)) < 0 ∨ 28 ≤ ((7 : Int32) + (c_many (1 : Int32).toNatClampNeg)).toNatClampNeg then none else
  if ((7 : Int32) + (c_many (1 : Int32).toNatClampNeg)) < 0 ∨ 28 ≤ ((7 : Int32) + (c_many (1 : Int32).toNatClampNeg)).toNatClampNeg then none else
  some ((1 : Int32), c_stands, c_homeFar, c_nets, c_netAt, c_netWide, c_netFrom, c_netTo, c_priceX, c_priceY, (upd c_many (1 : Int32).toNatClampNeg ((c_many (1 : Int32).toNatClampNeg) + (1 : Int32))), (upd c_days ((7 : Int32) + (c_many (1 : Int32).toNatClampNeg)).toNatClampNeg (k_told_40 (0 : Int32).toNatClampNeg)), (upd c_aims ((7 : Int32) + (c_many (1 : Int32).toNatClampNeg)).toNatClampNeg (k_told_40 (1 : Int32).toNatClampNeg)), (upd c_speeds ((7 : Int32) + (c_many (1 : Int32).toNatClampNeg)).toNatClampNeg (k_told_40 (2 : Int32).toNatClampNeg)), (upd c_kinds ((7 : Int32) + (c_many (1 : Int32).toNatClampNeg)).toNatClampNeg (k_told_40 (3 : Int32).toNatClampNeg)), k_spot_39, k_told_40))
  else
  (some ((0 : Int32), c_stands, c_homeFar, c_nets, c_netAt, c_netWide, c_netFrom, c_netTo, c_priceX, c_priceY, c_many, c_days, c_aims, c_speeds, c_kinds, k_spot_39, k_told_40))))))))
  else
  (some ((0 : Int32), c_stands, c_homeFar, c_nets, c_netAt, c_netWide, c_netFrom, c_netTo, c_priceX, c_priceY, c_many, c_days, c_aims, c_speeds, c_kinds, (c_spot + (1 : Int32)), c_told))
def DX9_readAll_L10s (c_length : Int32) (c_text : Nat → Int32) (c_stands : Nat → Int32) (c_homeFar : Nat → Int32) (c_nets : Nat → Int32) (c_netAt : Nat → Int32) (c_netWide : Nat → Int32) (c_netFrom : Nat → Int32) (c_netTo : Nat → Int32) (c_priceX : Nat → Int32) (c_priceY : Nat → Int32) (c_many : Nat → Int32) (c_days : Nat → Int32) (c_aims : Nat → Int32) (c_speeds : Nat → Int32) (c_kinds : Nat → Int32) (c_spot : Int32) (c_told : Nat → Int32) : Option (((Nat → Int32) × (Nat → Int32) × (Nat → Int32) × (Nat → Int32) × (Nat → Int32) × (Nat → Int32) × (Nat → Int32) × (Nat → Int32) × (Nat → Int32) × (Nat → Int32) × (Nat → Int32) × (Nat → Int32) × (Nat → Int32) × (Nat → Int32) × Int32 × (Nat → Int32)) ⊕ (((Nat → Int32) × (Nat → Int32) × (Nat → Int32) × (Nat → Int32) × (Nat → Int32) × (Nat → Int32) × (Nat → Int32) × (Nat → Int32) × (Nat → Int32) × (Nat → Int32) × (Nat → Int32) × (Nat → Int32) × (Nat → Int32) × (Nat → Int32) × Int32 × (Nat → Int32)) ⊕ (Int32 × (Nat → Int32) × (Nat → Int32) × (Nat → Int32) × (Nat → Int32) × (Nat → Int32) × (Nat → Int32) × (Nat → Int32) × (Nat → Int32) × (Nat → Int32) × (Nat → Int32) × (Nat → Int32) × (Nat → Int32) × (Nat → Int32) × (Nat → Int32) × Int32 × (Nat → Int32)))) :=
  if c_length ≤ c_spot then
  (some (.inr (.inl (c_stands, c_homeFar, c_nets, c_netAt, c_netWide, c_netFrom, c_netTo, c_priceX, c_priceY, c_many, c_days, c_aims, c_speeds, c_kinds, c_spot, c_told))))
  else
  (bd17 (DX9_item c_length c_text c_stands c_homeFar c_nets c_netAt c_netWide c_netFrom c_netTo c_priceX c_priceY c_many c_days c_aims c_speeds c_kinds c_spot c_told) fun r_9 k_stands_10 k_homeFar_11 k_nets_12 k_netAt_13 k_netWide_14 k_netFrom_15 k_netTo_16 k_priceX_17 k_priceY_18 k_many_19 k_days_20 k_aims_21 k_speeds_22 k_kinds_23 k_spot_24 k_told_25 =>
  if r_9 = 0 then
  (some (.inr (.inr (c_spot, k_stands_10, k_homeFar_11, k_nets_12, k_netAt_13, k_netWide_14, k_netFrom_15, k_netTo_16, k_priceX_17, k_priceY_18, k_many_19, k_days_20, k_aims_21, k_speeds_22, k_kinds_23, k_spot_24, k_told_25))))
  else
  (some (.inl (k_stands_10, k_homeFar_11, k_nets_12, k_netAt_13, k_netWide_14, k_netFrom_15, k_netTo_16, k_priceX_17, k_priceY_18, k_many_19, k_days_20, k_aims_21, k_speeds_22, k_kinds_23, k_spot_24, k_told_25))))
def DX9_readAll_L10 (c_length : Int32) (c_text : Nat → Int32) (n : Nat) (c_stands : Nat → Int32) (c_homeFar : Nat → Int32) (c_nets : Nat → Int32) (c_netAt : Nat → Int32) (c_netWide : Nat → Int32) (c_netFrom : Nat → Int32) (c_netTo : Nat → Int32) (c_priceX : Nat → Int32) (c_priceY : Nat → Int32) (c_many : Nat → Int32) (c_days : Nat → Int32) (c_aims : Nat → Int32) (c_speeds : Nat → Int32) (c_kinds : Nat → Int32) (c_spot : Int32) (c_told : Nat → Int32) : Option (((Nat → Int32) × (Nat → Int32) × (Nat → Int32) × (Nat → Int32) × (Nat → Int32) × (Nat → Int32) × (Nat → Int32) × (Nat → Int32) × (Nat → Int32) × (Nat → Int32) × (Nat → Int32) × (Nat → Int32) × (Nat → Int32) × (Nat → Int32) × Int32 × (Nat → Int32)) ⊕ (Int32 × (Nat → Int32) × (Nat → Int32) × (Nat → Int32) × (Nat → Int32) × (Nat → Int32) × (Nat → Int32) × (Nat → Int32) × (Nat → Int32) × (Nat → Int32) × (Nat → Int32) × (Nat → Int32) × (Nat → Int32) × (Nat → Int32) × (Nat → Int32) × Int32 × (Nat → Int32))) := it (fun (st : (Nat → Int32) × (Nat → Int32) × (Nat → Int32) × (Nat → Int32) × (Nat → Int32) × (Nat → Int32) × (Nat → Int32) × (Nat → Int32) × (Nat → Int32) × (Nat → Int32) × (Nat → Int32) × (Nat → Int32) × (Nat → Int32) × (Nat → Int32) × Int32 × (Nat → Int32)) => DX9_readAll_L10s c_length c_text (st.1) (st.2.1) (st.2.2.1) (st.2.2.2.1) (st.2.2.2.2.1) (st.2.2.2.2.2.1) (st.2.2.2.2.2.2.1) (st.2.2.2.2.2.2.2.1) (st.2.2.2.2.2.2.2.2.1) (st.2.2.2.2.2.2.2.2.2.1) (st.2.2.2.2.2.2.2.2.2.2.1) (st.2.2.2.2.2.2.2.2.2.2.2.1) (st.2.2.2.2.2.2.2.2.2.2.2.2.1) (st.2.2.2.2.2.2.2.2.2.2.2.2.2.1) (st.2.2.2.2.2.2.2.2.2.2.2.2.2.2.1) (st.2.2.2.2.2.2.2.2.2.2.2.2.2.2.2)) n (c_stands, c_homeFar, c_nets, c_netAt, c_netWide, c_netFrom, c_netTo, c_priceX, c_priceY, c_many, c_days, c_aims, c_speeds, c_kinds, c_spot, c_told)
def DX9_readAll (c_length : Int32) (c_text : Nat → Int32) (c_stands : Nat → Int32) (c_homeFar : Nat → Int32) (c_nets : Nat → Int32) (c_netAt : Nat → Int32) (c_netWide : Nat → Int32) (c_netFrom : Nat → Int32) (c_netTo : Nat → Int32) (c_priceX : Nat → Int32) (c_priceY : Nat → Int32) (c_many : Nat → Int32) (c_days : Nat → Int32) (c_aims : Nat → Int32) (c_speeds : Nat → Int32) (c_kinds : Nat → Int32) (c_told : Nat → Int32) : Option (Int32 × (Nat → Int32) × (Nat → Int32) × (Nat → Int32) × (Nat → Int32) × (Nat → Int32) × (Nat → Int32) × (Nat → Int32) × (Nat → Int32) × (Nat → Int32) × (Nat → Int32) × (Nat → Int32) × (Nat → Int32) × (Nat → Int32) × (Nat → Int32) × Int32 × (Nat → Int32)) :=
  bd6 (DX9_noRock (1 : Int32) c_stands c_homeFar c_nets c_priceX c_priceY c_many) fun k_stands_1 k_homeFar_2 k_nets_3 k_priceX_4 k_priceY_5 k_many_6 =>
  el16 (DX9_readAll_L10 c_length c_text FU k_stands_1 k_homeFar_2 k_nets_3 c_netAt c_netWide c_netFrom c_netTo k_priceX_4 k_priceY_5 k_many_6 c_days c_aims c_speeds c_kinds (0 : Int32) c_told) (fun k_stands_28 k_homeFar_29 k_nets_30 k_netAt_31 k_netWide_32 k_netFrom_33 k_netTo_34 k_priceX_35 k_priceY_36 k_many_37 k_days_38 k_aims_39 k_speeds_40 k_kinds_41 k_spot_42 k_told_43 =>
  some ((-4 : Int32), k_stands_28, k_homeFar_29, k_nets_30, k_netAt_31, k_netWide_32, k_netFrom_33, k_netTo_34, k_priceX_35, k_priceY_36, k_many_37, k_days_38, k_aims_39, k_speeds_40, k_kinds_41, k_spot_42, k_told_43)) (fun r => some r)
def DX9_fault (c_length : Int32) (c_text : Nat → Int32) (c_stands : Nat → Int32) (c_homeFar : Nat → Int32) (c_nets : Nat → Int32) (c_netAt : Nat → Int32) (c_netWide : Nat → Int32) (c_netFrom : Nat → Int32) (c_netTo : Nat → Int32) (c_priceX : Nat → Int32) (c_priceY : Nat → Int32) (c_many : Nat → Int32) (c_days : Nat → Int32) (c_aims : Nat → Int32) (c_speeds : Nat → Int32) (c_kinds : Nat → Int32) (c_told : Nat → Int32) : Option (Int32 × (Nat → Int32) × (Nat → Int32) × (Nat → Int32) × (Nat → Int32) × (Nat → Int32) × (Nat → Int32) × (Nat → Int32) × (Nat → Int32) × (Nat → Int32) × (Nat → Int32) × (Nat → Int32) × (Nat → Int32) × (Nat → Int32) × (Nat → Int32) × Int32 × (Nat → Int32)) :=
  bd17 (DX9_readAll c_length c_text c_stands c_homeFar c_nets c_netAt c_netWide c_netFrom c_netTo c_priceX c_priceY c_many c_days c_aims c_speeds c_kinds c_told) fun r_1 k_stands_2 k_homeFar_3 k_nets_4 k_netAt_5 k_netWide_6 k_netFrom_7 k_netTo_8 k_priceX_9 k_priceY_10 k_many_11 k_days_12 k_aims_13 k_speeds_14 k_kinds_15 k_spot_16 k_told_17 =>
  some (r_1, k_stands_2, k_homeFar_3, k_nets_4, k_netAt_5, k_netWide_6, k_netFrom_7, k_netTo_8, k_priceX_9, k_priceY_10, k_many_11, k_days_12, k_aims_13, k_speeds_14, k_kinds_15, k_spot_16, k_told_17)
def DX9_copy_L14s (x1 : Int32) (x2 : Int32) (x3 : Int32) (c_days : Nat → Int32) (c_aims : Nat → Int32) (c_speeds : Nat → Int32) (c_kinds : Nat → Int32) : Option ((Int32 × (Nat → Int32) × (Nat → Int32) × (Nat → Int32) × (Nat → Int32)) ⊕ ((Nat → Int32) × (Nat → Int32) × (Nat → Int32) × (Nat → Int32))) :=
  if (7 : Int32) ≤ x3 then
  (some (.inr (c_days, c_aims, c_speeds, c_kinds)))
  else
  (if (((7 : Int32) * x1) + x3) < 0 ∨ 28 ≤ (((7 : Int32) * x1) + x3).toNatClampNeg then none else
  if (((7 : Int32) * x2) + x3) < 0 ∨ 28 ≤ (((7 : Int32) * x2) + x3).toNatClampNeg then none else
  if (((7 : Int32) * x1) + x3) < 0 ∨ 28 ≤ (((7 : Int32) * x1) + x3).toNatClampNeg then none else
  if (((7 : Int32) * x2) + x3) < 0 ∨ 28 ≤ (((7 : Int32) * x2) + x3).toNatClampNeg then none else
  if (((7 : Int32) * x1) + x3) < 0 ∨ 28 ≤ (((7 : Int32) * x1) + x3).toNatClampNeg then none else
  if (((7 : Int32) * x2) + x3) < 0 ∨ 28 ≤ (((7 : Int32) * x2) + x3).toNatClampNeg then none else
  if (((7 : Int32) * x1) + x3) < 0 ∨ 28 ≤ (((7 : Int32) * x1) + x3).toNatClampNeg then none else
  if (((7 : Int32) * x2) + x3) < 0 ∨ 28 ≤ (((7 : Int32) * x2) + x3).toNatClampNeg then none else
  some (.inl ((x3 + (1 : Int32)), (upd c_days (((7 : Int32) * x2) + x3).toNatClampNeg (c_days (((7 : Int32) * x1) + x3).toNatClampNeg)), (upd c_aims (((7 : Int32) * x2) + x3).toNatClampNeg (c_aims (((7 : Int32) * x1) + x3).toNatClampNeg)), (upd c_speeds (((7 : Int32) * x2) + x3).toNatClampNeg (c_speeds (((7 : Int32) * x1) + x3).toNatClampNeg)), (upd c_kinds (((7 : Int32) * x2) + x3).toNatClampNeg (c_kinds (((7 : Int32) * x1) + x3).toNatClampNeg)))))
def DX9_copy_L14 (x1 : Int32) (x2 : Int32) (n : Nat) (x3 : Int32) (c_days : Nat → Int32) (c_aims : Nat → Int32) (c_speeds : Nat → Int32) (c_kinds : Nat → Int32) : Option ((Nat → Int32) × (Nat → Int32) × (Nat → Int32) × (Nat → Int32)) := it (fun (st : Int32 × (Nat → Int32) × (Nat → Int32) × (Nat → Int32) × (Nat → Int32)) => DX9_copy_L14s x1 x2 (st.1) (st.2.1) (st.2.2.1) (st.2.2.2.1) (st.2.2.2.2)) n (x3, c_days, c_aims, c_speeds, c_kinds)
def DX9_copy (x1 : Int32) (x2 : Int32) (c_many : Nat → Int32) (c_days : Nat → Int32) (c_aims : Nat → Int32) (c_speeds : Nat → Int32) (c_kinds : Nat → Int32) : Option ((Nat → Int32) × (Nat → Int32) × (Nat → Int32) × (Nat → Int32) × (Nat → Int32)) :=
  if x1 < 0 ∨ 4 ≤ x1.toNatClampNeg then none else
  if x2 < 0 ∨ 4 ≤ x2.toNatClampNeg then none else
  bd4 (DX9_copy_L14 x1 x2 FU (0 : Int32) c_days c_aims c_speeds c_kinds) fun k_days_12 k_aims_13 k_speeds_14 k_kinds_15 =>
  some ((upd c_many x2.toNatClampNeg (c_many x1.toNatClampNeg)), k_days_12, k_aims_13, k_speeds_14, k_kinds_15)
def DX9_lay_L83s  (x1 : Int32) (c_netAt : Nat → Int32) (c_netWide : Nat → Int32) (c_netFrom : Nat → Int32) (c_netTo : Nat → Int32) : Option ((Int32 × (Nat → Int32) × (Nat → Int32) × (Nat → Int32) × (Nat → Int32)) ⊕ ((Nat → Int32) × (Nat → Int32) × (Nat → Int32) × (Nat → Int32))) :=
  if (5 : Int32) ≤ x1 then
  (some (.inr (c_netAt, c_netWide, c_netFrom, c_netTo)))
  else
  (if ((6 : Int32) + x1) < 0 ∨ 12 ≤ ((6 : Int32) + x1).toNatClampNeg then none else
  if x1 < 0 ∨ 12 ≤ x1.toNatClampNeg then none else
  if ((6 : Int32) + x1) < 0 ∨ 12 ≤ ((6 : Int32) + x1).toNatClampNeg then none else
  if x1 < 0 ∨ 12 ≤ x1.toNatClampNeg then none else
  if ((6 : Int32) + x1) < 0 ∨ 12 ≤ ((6 : Int32) + x1).toNatClampNeg then none else
  if x1 < 0 ∨ 12 ≤ x1.toNatClampNeg then none else
  if ((6 : Int32) + x1) < 0 ∨ 12 ≤ ((6 : Int32) + x1).toNatClampNeg then none else
  if x1 < 0 ∨ 12 ≤ x1.toNatClampNeg then none else
  some (.inl ((x1 + (1 : Int32)), (upd c_netAt x1.toNatClampNeg (c_netAt ((6 : Int32) + x1).toNatClampNeg)), (upd c_netWide x1.toNatClampNeg (c_netWide ((6 : Int32) + x1).toNatClampNeg)), (upd c_netFrom x1.toNatClampNeg (c_netFrom ((6 : Int32) + x1).toNatClampNeg)), (upd c_netTo x1.toNatClampNeg (c_netTo ((6 : Int32) + x1).toNatClampNeg)))))
def DX9_lay_L83  (n : Nat) (x1 : Int32) (c_netAt : Nat → Int32) (c_netWide : Nat → Int32) (c_netFrom : Nat → Int32) (c_netTo : Nat → Int32) : Option ((Nat → Int32) × (Nat → Int32) × (Nat → Int32) × (Nat → Int32)) := it (fun (st : Int32 × (Nat → Int32) × (Nat → Int32) × (Nat → Int32) × (Nat → Int32)) => DX9_lay_L83s (st.1) (st.2.1) (st.2.2.1) (st.2.2.2.1) (st.2.2.2.2)) n (x1, c_netAt, c_netWide, c_netFrom, c_netTo)
def DX9_lay (c_length : Int32) (c_text : Nat → Int32) (c_stands : Nat → Int32) (c_homeFar : Nat → Int32) (c_nets : Nat → Int32) (c_netAt : Nat → Int32) (c_netWide : Nat → Int32) (c_netFrom : Nat → Int32) (c_netTo : Nat → Int32) (c_priceX : Nat → Int32) (c_priceY : Nat → Int32) (c_many : Nat → Int32) (c_days : Nat → Int32) (c_aims : Nat → Int32) (c_speeds : Nat → Int32) (c_kinds : Nat → Int32) (c_keptMany : Int32) (c_undoMany : Int32) (c_told : Nat → Int32) : Option (Int32 × (Nat → Int32) × (Nat → Int32) × (Nat → Int32) × (Nat → Int32) × (Nat → Int32) × (Nat → Int32) × (Nat → Int32) × (Nat → Int32) × (Nat → Int32) × (Nat → Int32) × (Nat → Int32) × (Nat → Int32) × (Nat → Int32) × (Nat → Int32) × Int32 × Int32 × Int32 × (Nat → Int32)) :=
  bd17 (DX9_readAll c_length c_text c_stands c_homeFar c_nets c_netAt c_netWide c_netFrom c_netTo c_priceX c_priceY c_many c_days c_aims c_speeds c_kinds c_told) fun r_1 k_stands_2 k_homeFar_3 k_nets_4 k_netAt_5 k_netWide_6 k_netFrom_7 k_netTo_8 k_priceX_9 k_priceY_10 k_many_11 k_days_12 k_aims_13 k_speeds_14 k_kinds_15 k_spot_16 k_told_17 =>
  if r_1 = (-4 : Int32) then
  (if (k_many_11 (1 : Int32).toNatClampNeg) = 0 then
  (some ((-2 : Int32), k_stands_2, k_homeFar_3, k_nets_4, k_netAt_5, k_netWide_6, k_netFrom_7, k_netTo_8, k_priceX_9, k_priceY_10, k_many_11, k_days_12, k_aims_13, k_speeds_14, k_kinds_15, c_keptMany, c_undoMany, k_spot_16, k_told_17))
  else
  (bd4 (DX9_lay_L83 FU (0 : Int32) k_netAt_5 k_netWide_6 k_netFrom_7 k_netTo_8) fun k_netAt_30 k_netWide_31 k_netFrom_32 k_netTo_33 =>
  bd5 (DX9_copy (1 : Int32) (0 : Int32) k_many_11 k_days_12 k_aims_13 k_speeds_14 k_kinds_15) fun k_many_34 k_days_35 k_aims_36 k_speeds_37 k_kinds_38 =>
  some ((k_many_34 (0 : Int32).toNatClampNeg), (upd k_stands_2 (0 : Int32).toNatClampNeg (k_stands_2 (1 : Int32).toNatClampNeg)), (upd k_homeFar_3 (0 : Int32).toNatClampNeg (k_homeFar_3 (1 : Int32).toNatClampNeg)), (upd k_nets_4 (0 : Int32).toNatClampNeg (k_nets_4 (1 : Int32).toNatClampNeg)), k_netAt_30, k_netWide_31, k_netFrom_32, k_netTo_33, (upd k_priceX_9 (0 : Int32).toNatClampNeg (k_priceX_9 (1 : Int32).toNatClampNeg)), (upd k_priceY_10 (0 : Int32).toNatClampNeg (k_priceY_10 (1 : Int32).toNatClampNeg)), k_many_34, k_days_35, k_aims_36, k_speeds_37, k_kinds_38, (0 : Int32), (0 : Int32), k_spot_16, k_told_17)))
  else
  (some ((-2 : Int32), k_stands_2, k_homeFar_3, k_nets_4, k_netAt_5, k_netWide_6, k_netFrom_7, k_netTo_8, k_priceX_9, k_priceY_10, k_many_11, k_days_12, k_aims_13, k_speeds_14, k_kinds_15, c_keptMany, c_undoMany, k_spot_16, k_told_17))
def DX9_isThrow (x1 : Int32) (c_many : Nat → Int32) : Option (Int32) :=
  bd1 (DX9_in (x1.toInt64) (0 : Int64) (((c_many (0 : Int32).toNatClampNeg) - (1 : Int32)).toInt64)) fun r_1 =>
  if ¬ (r_1 = 0 ∨ r_1 = 1) then none else
  some r_1
def DX9_homeDay (x1 : Int32) (x2 : Int32) (c_homeFar : Nat → Int32) : Option (Int32) :=
  if x2 = 0 then none else
  some (x1 + ((((c_homeFar (0 : Int32).toNatClampNeg) + x2) - (1 : Int32)) / x2))
def DX9_around (x0 : Int32) : Option (Int32) :=
  some (((x0 - x0 / (24 : Int32) * (24 : Int32)) + (24 : Int32)) - ((x0 - x0 / (24 : Int32) * (24 : Int32)) + (24 : Int32)) / (24 : Int32) * (24 : Int32))
def DX9_turnTo_J109 (c_to : Nat → Int32) (c_stood : Nat → Int32) (y0 : Int32) (y1 : Int32) (y2 : Int32) (x4 : Int32) : Option ((Int32 × Int32 × (Nat → Int32) × (Nat → Int32)) ⊕ (Int32 × (Nat → Int32) × (Nat → Int32))) :=
  bd1 (DX9_around (y2 - (y1 * y0))) fun r_17 =>
  if x4 < 0 ∨ 7 ≤ x4.toNatClampNeg then none else
  some (.inl (r_17, (x4 + (1 : Int32)), c_to, (upd c_stood x4.toNatClampNeg r_17)))
def DX9_turnTo_L17s (c_many : Nat → Int32) (c_days : Nat → Int32) (c_aims : Nat → Int32) (c_speeds : Nat → Int32) (c_kinds : Nat → Int32) (c_out : Int32) (x3 : Int32) (x2 : Int32) (x4 : Int32) (c_to : Nat → Int32) (c_stood : Nat → Int32) : Option ((Int32 × Int32 × (Nat → Int32) × (Nat → Int32)) ⊕ (Int32 × (Nat → Int32) × (Nat → Int32))) :=
  if (c_many (0 : Int32).toNatClampNeg) ≤ x4 then
  (some (.inr (x2, c_to, c_stood)))
  else
  (if x4 < 0 ∨ 28 ≤ x4.toNatClampNeg then none else
  if (c_days x4.toNatClampNeg) = x3 then
  (bd1 (DX9_has c_out x4) fun r_5 =>
  if r_5 = 0 then
  (if x4 < 0 ∨ 28 ≤ x4.toNatClampNeg then none else
  bd1 (DX9_around (x2 + (c_aims x4.toNatClampNeg))) fun r_9 =>
  if x4 < 0 ∨ 7 ≤ x4.toNatClampNeg then none else
  if x4 < 0 ∨ 28 ≤ x4.toNatClampNeg then none else
  if x4 < 0 ∨ 28 ≤ x4.toNatClampNeg then none else
  if (c_kinds x4.toNatClampNeg) = (1 : Int32) then
  (DX9_turnTo_J109 (upd c_to x4.toNatClampNeg r_9) c_stood (2 : Int32) (c_speeds x4.toNatClampNeg) x2 x4)
  else
  (if x4 < 0 ∨ 28 ≤ x4.toNatClampNeg then none else
  if (c_kinds x4.toNatClampNeg) = (2 : Int32) then
  (DX9_turnTo_J109 (upd c_to x4.toNatClampNeg r_9) c_stood (0 : Int32) (c_speeds x4.toNatClampNeg) x2 x4)
  else
  (DX9_turnTo_J109 (upd c_to x4.toNatClampNeg r_9) c_stood (1 : Int32) (c_speeds x4.toNatClampNeg) x2 x4)))
  else
  (some (.inl (x2, (x4 + (1 : Int32)), c_to, c_stood))))
  else
  (some (.inl (x2, (x4 + (1 : Int32)), c_to, c_stood))))
def DX9_turnTo_L17 (c_many : Nat → Int32) (c_days : Nat → Int32) (c_aims : Nat → Int32) (c_speeds : Nat → Int32) (c_kinds : Nat → Int32) (c_out : Int32) (x3 : Int32) (n : Nat) (x2 : Int32) (x4 : Int32) (c_to : Nat → Int32) (c_stood : Nat → Int32) : Option (Int32 × (Nat → Int32) × (Nat → Int32)) := it (fun (st : Int32 × Int32 × (Nat → Int32) × (Nat → Int32)) => DX9_turnTo_L17s c_many c_days c_aims c_speeds c_kinds c_out x3 (st.1) (st.2.1) (st.2.2.1) (st.2.2.2)) n (x2, x4, c_to, c_stood)
def DX9_turnTo_L9s (x1 : Int32) (c_many : Nat → Int32) (c_days : Nat → Int32) (c_aims : Nat → Int32) (c_speeds : Nat → Int32) (c_kinds : Nat → Int32) (c_out : Int32) (x2 : Int32) (x3 : Int32) (c_to : Nat → Int32) (c_stood : Nat → Int32) : Option ((Int32 × Int32 × (Nat → Int32) × (Nat → Int32)) ⊕ (Int32 × (Nat → Int32) × (Nat → Int32))) :=
  if x1 < x3 then
  (some (.inr (x2, c_to, c_stood)))
  else
  (bd3 (DX9_turnTo_L17 c_many c_days c_aims c_speeds c_kinds c_out x3 FU x2 (0 : Int32) c_to c_stood) fun z2_20 k_to_21 k_stood_22 =>
  some (.inl (z2_20, (x3 + (1 : Int32)), k_to_21, k_stood_22)))
def DX9_turnTo_L9 (x1 : Int32) (c_many : Nat → Int32) (c_days : Nat → Int32) (c_aims : Nat → Int32) (c_speeds : Nat → Int32) (c_kinds : Nat → Int32) (c_out : Int32) (n : Nat) (x2 : Int32) (x3 : Int32) (c_to : Nat → Int32) (c_stood : Nat → Int32) : Option (Int32 × (Nat → Int32) × (Nat → Int32)) := it (fun (st : Int32 × Int32 × (Nat → Int32) × (Nat → Int32)) => DX9_turnTo_L9s x1 c_many c_days c_aims c_speeds c_kinds c_out (st.1) (st.2.1) (st.2.2.1) (st.2.2.2)) n (x2, x3, c_to, c_stood)
def DX9_turnTo (x1 : Int32) (c_stands : Nat → Int32) (c_many : Nat → Int32) (c_days : Nat → Int32) (c_aims : Nat → Int32) (c_speeds : Nat → Int32) (c_kinds : Nat → Int32) (c_to : Nat → Int32) (c_stood : Nat → Int32) (c_out : Int32) : Option (Int32 × (Nat → Int32) × (Nat → Int32)) :=
  bd3 (DX9_turnTo_L9 x1 c_many c_days c_aims c_speeds c_kinds c_out FU (c_stands (0 : Int32).toNatClampNeg) (0 : Int32) c_to c_stood) fun z2_23 k_to_24 k_stood_25 =>
  some (z2_23, k_to_24, k_stood_25)
def DX9_isOnWay (x1 : Int32) (x2 : Int32) (c_days : Nat → Int32) (c_home : Nat → Int32) (c_lost : Nat → Int32) (c_out : Int32) : Option (Int32) :=
  bd1 (DX9_has c_out x1) fun r_1 =>
  if r_1 = 0 then
  (if x1 < 0 ∨ 28 ≤ x1.toNatClampNeg then none else
  if x2 < (c_days x1.toNatClampNeg) then
  (some (0 : Int32))
  else
  (if x1 < 0 ∨ 7 ≤ x1.toNatClampNeg then none else
  if (c_home x1.toNatClampNeg) ≤ x2 then
  (some (0 : Int32))
  else
  (if x1 < 0 ∨ 7 ≤ x1.toNatClampNeg then none else
  if (c_lost x1.toNatClampNeg) < x2 then
  (some (0 : Int32))
  else
  (some (1 : Int32)))))
  else
  (some (0 : Int32))
def DX9_farOf (x1 : Int32) (x2 : Int32) (c_days : Nat → Int32) (c_speeds : Nat → Int32) : Option (Int32) :=
  if x1 < 0 ∨ 28 ≤ x1.toNatClampNeg then none else
  if x1 < 0 ∨ 28 ≤ x1.toNatClampNeg then none else
  some ((c_speeds x1.toNatClampNeg) * (x2 - (c_days x1.toNatClampNeg)))
def DX9_meetOn_J79 (y0 : Int32) (x2 : Int32) (x3 : Int32) (x4 : Int32) : Option ((Int32 × Int32) ⊕ (Int32)) :=
  if y0 = 0 then
  (some (.inl ((x2 ||| (0 : Int32)), (x4 + (1 : Int32)))))
  else
  (some (.inl ((x2 ||| (((1 : Int32) <<< (x3 &&& 31)) ||| ((1 : Int32) <<< (x4 &&& 31)))), (x4 + (1 : Int32)))))
def DX9_meetOn_L17s (x1 : Int32) (c_days : Nat → Int32) (c_speeds : Nat → Int32) (c_to : Nat → Int32) (c_home : Nat → Int32) (c_lost : Nat → Int32) (c_out : Int32) (x3 : Int32) (x2 : Int32) (x4 : Int32) : Option ((Int32 × Int32) ⊕ (Int32)) :=
  if x3 ≤ x4 then
  (some (.inr x2))
  else
  (bd1 (DX9_isOnWay x3 x1 c_days c_home c_lost c_out) fun r_3 =>
  if r_3 = 0 then
  (DX9_meetOn_J79 (0 : Int32) x2 x3 x4)
  else
  (bd1 (DX9_isOnWay x4 x1 c_days c_home c_lost c_out) fun r_7 =>
  if r_7 = 0 then
  (DX9_meetOn_J79 (0 : Int32) x2 x3 x4)
  else
  (if x3 < 0 ∨ 7 ≤ x3.toNatClampNeg then none else
  if x4 < 0 ∨ 7 ≤ x4.toNatClampNeg then none else
  if (c_to x3.toNatClampNeg) = (c_to x4.toNatClampNeg) then
  (bd1 (DX9_farOf x3 x1 c_days c_speeds) fun r_13 =>
  bd1 (DX9_farOf x4 x1 c_days c_speeds) fun r_15 =>
  if r_13 = r_15 then
  (DX9_meetOn_J79 (1 : Int32) x2 x3 x4)
  else
  (DX9_meetOn_J79 (0 : Int32) x2 x3 x4))
  else
  (DX9_meetOn_J79 (0 : Int32) x2 x3 x4))))
def DX9_meetOn_L17 (x1 : Int32) (c_days : Nat → Int32) (c_speeds : Nat → Int32) (c_to : Nat → Int32) (c_home : Nat → Int32) (c_lost : Nat → Int32) (c_out : Int32) (x3 : Int32) (n : Nat) (x2 : Int32) (x4 : Int32) : Option (Int32) := it (fun (st : Int32 × Int32) => DX9_meetOn_L17s x1 c_days c_speeds c_to c_home c_lost c_out x3 (st.1) (st.2)) n (x2, x4)
def DX9_meetOn_L4s (x1 : Int32) (c_many : Nat → Int32) (c_days : Nat → Int32) (c_speeds : Nat → Int32) (c_to : Nat → Int32) (c_home : Nat → Int32) (c_lost : Nat → Int32) (c_out : Int32) (x2 : Int32) (x3 : Int32) : Option ((Int32 × Int32) ⊕ (Int32)) :=
  if (c_many (0 : Int32).toNatClampNeg) ≤ x3 then
  (some (.inr x2))
  else
  (bd1 (DX9_meetOn_L17 x1 c_days c_speeds c_to c_home c_lost c_out x3 FU x2 (0 : Int32)) fun z2_18 =>
  some (.inl (z2_18, (x3 + (1 : Int32)))))
def DX9_meetOn_L4 (x1 : Int32) (c_many : Nat → Int32) (c_days : Nat → Int32) (c_speeds : Nat → Int32) (c_to : Nat → Int32) (c_home : Nat → Int32) (c_lost : Nat → Int32) (c_out : Int32) (n : Nat) (x2 : Int32) (x3 : Int32) : Option (Int32) := it (fun (st : Int32 × Int32) => DX9_meetOn_L4s x1 c_many c_days c_speeds c_to c_home c_lost c_out (st.1) (st.2)) n (x2, x3)
def DX9_meetOn_L115s (x1 : Int32) (c_many : Nat → Int32) (x2 : Int32) (x3 : Int32) (c_lost : Nat → Int32) : Option ((Int32 × (Nat → Int32)) ⊕ ((Nat → Int32))) :=
  if (c_many (0 : Int32).toNatClampNeg) ≤ x3 then
  (some (.inr c_lost))
  else
  (bd1 (DX9_has x2 x3) fun r_21 =>
  if r_21 = 0 then
  (if x3 < 0 ∨ 7 ≤ x3.toNatClampNeg then none else
  if x3 < 0 ∨ 7 ≤ x3.toNatClampNeg then none else
  some (.inl ((x3 + (1 : Int32)), (upd c_lost x3.toNatClampNeg (c_lost x3.toNatClampNeg)))))
  else
  (if x3 < 0 ∨ 7 ≤ x3.toNatClampNeg then none else
  some (.inl ((x3 + (1 : Int32)), (upd c_lost x3.toNatClampNeg x1)))))
def DX9_meetOn_L115 (x1 : Int32) (c_many : Nat → Int32) (x2 : Int32) (n : Nat) (x3 : Int32) (c_lost : Nat → Int32) : Option ((Nat → Int32)) := it (fun (st : Int32 × (Nat → Int32)) => DX9_meetOn_L115s x1 c_many x2 (st.1) (st.2)) n (x3, c_lost)
def DX9_meetOn (x1 : Int32) (c_many : Nat → Int32) (c_days : Nat → Int32) (c_speeds : Nat → Int32) (c_to : Nat → Int32) (c_home : Nat → Int32) (c_lost : Nat → Int32) (c_out : Int32) : Option ((Nat → Int32)) :=
  bd1 (DX9_meetOn_L4 x1 c_many c_days c_speeds c_to c_home c_lost c_out FU (0 : Int32) (0 : Int32)) fun z2_19 =>
  bd1 (DX9_meetOn_L115 x1 c_many z2_19 FU (0 : Int32) c_lost) fun k_lost_27 =>
  some k_lost_27
def DX9_go_L14s (c_homeFar : Nat → Int32) (c_many : Nat → Int32) (c_days : Nat → Int32) (c_speeds : Nat → Int32) (x2 : Int32) (c_home : Nat → Int32) (c_lost : Nat → Int32) : Option ((Int32 × (Nat → Int32) × (Nat → Int32)) ⊕ ((Nat → Int32) × (Nat → Int32))) :=
  if (c_many (0 : Int32).toNatClampNeg) ≤ x2 then
  (some (.inr (c_home, c_lost)))
  else
  (if x2 < 0 ∨ 28 ≤ x2.toNatClampNeg then none else
  if x2 < 0 ∨ 28 ≤ x2.toNatClampNeg then none else
  bd1 (DX9_homeDay (c_days x2.toNatClampNeg) (c_speeds x2.toNatClampNeg) c_homeFar) fun r_8 =>
  if x2 < 0 ∨ 7 ≤ x2.toNatClampNeg then none else
  if x2 < 0 ∨ 7 ≤ x2.toNatClampNeg then none else
  some (.inl ((x2 + (1 : Int32)), (upd c_home x2.toNatClampNeg r_8), (upd c_lost x2.toNatClampNeg (10000 : Int32)))))
def DX9_go_L14 (c_homeFar : Nat → Int32) (c_many : Nat → Int32) (c_days : Nat → Int32) (c_speeds : Nat → Int32) (n : Nat) (x2 : Int32) (c_home : Nat → Int32) (c_lost : Nat → Int32) : Option ((Nat → Int32) × (Nat → Int32)) := it (fun (st : Int32 × (Nat → Int32) × (Nat → Int32)) => DX9_go_L14s c_homeFar c_many c_days c_speeds (st.1) (st.2.1) (st.2.2)) n (x2, c_home, c_lost)
def DX9_go_L76s (c_many : Nat → Int32) (c_lost : Nat → Int32) (x2 : Int32) (x3 : Int32) (c_home : Nat → Int32) : Option ((Int32 × (Nat → Int32)) ⊕ ((Nat → Int32))) :=
  if (c_many (0 : Int32).toNatClampNeg) ≤ x3 then
  (some (.inr c_home))
  else
  (if x3 < 0 ∨ 7 ≤ x3.toNatClampNeg then none else
  if (c_lost x3.toNatClampNeg) = x2 then
  (if x3 < 0 ∨ 7 ≤ x3.toNatClampNeg then none else
  some (.inl ((x3 + (1 : Int32)), (upd c_home x3.toNatClampNeg x2))))
  else
  (if x3 < 0 ∨ 7 ≤ x3.toNatClampNeg then none else
  if x3 < 0 ∨ 7 ≤ x3.toNatClampNeg then none else
  some (.inl ((x3 + (1 : Int32)), (upd c_home x3.toNatClampNeg (c_home x3.toNatClampNeg))))))
def DX9_go_L76 (c_many : Nat → Int32) (c_lost : Nat → Int32) (x2 : Int32) (n : Nat) (x3 : Int32) (c_home : Nat → Int32) : Option ((Nat → Int32)) := it (fun (st : Int32 × (Nat → Int32)) => DX9_go_L76s c_many c_lost x2 (st.1) (st.2)) n (x3, c_home)
def DX9_go_L63s (c_many : Nat → Int32) (c_days : Nat → Int32) (c_speeds : Nat → Int32) (c_to : Nat → Int32) (c_out : Int32) (x2 : Int32) (c_home : Nat → Int32) (c_lost : Nat → Int32) : Option ((Int32 × (Nat → Int32) × (Nat → Int32)) ⊕ ((Nat → Int32) × (Nat → Int32))) :=
  if (100 : Int32) < x2 then
  (some (.inr (c_home, c_lost)))
  else
  (bd1 (DX9_meetOn x2 c_many c_days c_speeds c_to c_home c_lost c_out) fun k_lost_15 =>
  bd1 (DX9_go_L76 c_many k_lost_15 x2 FU (0 : Int32) c_home) fun k_home_23 =>
  some (.inl ((x2 + (1 : Int32)), k_home_23, k_lost_15)))
def DX9_go_L63 (c_many : Nat → Int32) (c_days : Nat → Int32) (c_speeds : Nat → Int32) (c_to : Nat → Int32) (c_out : Int32) (n : Nat) (x2 : Int32) (c_home : Nat → Int32) (c_lost : Nat → Int32) : Option ((Nat → Int32) × (Nat → Int32)) := it (fun (st : Int32 × (Nat → Int32) × (Nat → Int32)) => DX9_go_L63s c_many c_days c_speeds c_to c_out (st.1) (st.2.1) (st.2.2)) n (x2, c_home, c_lost)
def DX9_go (x1 : Int32) (c_stands : Nat → Int32) (c_homeFar : Nat → Int32) (c_many : Nat → Int32) (c_days : Nat → Int32) (c_aims : Nat → Int32) (c_speeds : Nat → Int32) (c_kinds : Nat → Int32) (c_to : Nat → Int32) (c_stood : Nat → Int32) (c_home : Nat → Int32) (c_lost : Nat → Int32) : Option ((Nat → Int32) × (Nat → Int32) × (Nat → Int32) × (Nat → Int32) × Int32) :=
  bd3 (DX9_turnTo (40 : Int32) c_stands c_many c_days c_aims c_speeds c_kinds c_to c_stood x1) fun r_1 k_to_2 k_stood_3 =>
  bd2 (DX9_go_L14 c_homeFar c_many c_days c_speeds FU (0 : Int32) c_home c_lost) fun k_home_12 k_lost_13 =>
  bd2 (DX9_go_L63 c_many c_days c_speeds k_to_2 x1 FU (0 : Int32) k_home_12 k_lost_13) fun k_home_24 k_lost_25 =>
  some (k_to_2, k_stood_3, k_home_24, k_lost_25, x1)
def DX9_apart (x0 : Int32) (x1 : Int32) : Option (Int32) :=
  bd1 (DX9_around (x0 - x1)) fun r_1 =>
  if r_1 ≤ (12 : Int32) then
  (some r_1)
  else
  (some ((24 : Int32) - r_1))
def DX9_placeOf (x1 : Int32) (c_days : Nat → Int32) (c_kinds : Nat → Int32) (c_to : Nat → Int32) (c_home : Nat → Int32) : Option (Int32) :=
  if x1 < 0 ∨ 7 ≤ x1.toNatClampNeg then none else
  if x1 < 0 ∨ 28 ≤ x1.toNatClampNeg then none else
  if (c_kinds x1.toNatClampNeg) = (3 : Int32) then
  (if x1 < 0 ∨ 7 ≤ x1.toNatClampNeg then none else
  if x1 < 0 ∨ 28 ≤ x1.toNatClampNeg then none else
  bd1 (DX9_around ((c_to x1.toNatClampNeg) + (((c_home x1.toNatClampNeg) - (c_days x1.toNatClampNeg)) / (4 : Int32)))) fun r_8 =>
  some r_8)
  else
  (bd1 (DX9_around ((c_to x1.toNatClampNeg) + (0 : Int32))) fun r_4 =>
  some r_4)
def DX9_isCaught_L4s (x1 : Int32) (c_nets : Nat → Int32) (c_netAt : Nat → Int32) (c_netWide : Nat → Int32) (c_netFrom : Nat → Int32) (c_netTo : Nat → Int32) (c_days : Nat → Int32) (c_kinds : Nat → Int32) (c_to : Nat → Int32) (c_home : Nat → Int32) (x2 : Int32) (x3 : Int32) : Option ((Int32 × Int32) ⊕ (Int32)) :=
  if (c_nets (0 : Int32).toNatClampNeg) ≤ x3 then
  (some (.inr x2))
  else
  (if x2 = 0 then
  (if x1 < 0 ∨ 7 ≤ x1.toNatClampNeg then none else
  if x3 < 0 ∨ 12 ≤ x3.toNatClampNeg then none else
  if x3 < 0 ∨ 12 ≤ x3.toNatClampNeg then none else
  bd1 (DX9_in ((c_home x1.toNatClampNeg).toInt64) ((c_netFrom x3.toNatClampNeg).toInt64) ((c_netTo x3.toNatClampNeg).toInt64)) fun r_6 =>
  if r_6 = 0 then
  (some (.inl ((0 : Int32), (x3 + (1 : Int32)))))
  else
  (bd1 (DX9_placeOf x1 c_days c_kinds c_to c_home) fun r_9 =>
  if x3 < 0 ∨ 12 ≤ x3.toNatClampNeg then none else
  bd1 (DX9_apart r_9 (c_netAt x3.toNatClampNeg)) fun r_12 =>
  if x3 < 0 ∨ 12 ≤ x3.toNatClampNeg then none else
  if (c_netWide x3.toNatClampNeg) < r_12 then
  (some (.inl ((0 : Int32), (x3 + (1 : Int32)))))
  else
  (some (.inl ((1 : Int32), (x3 + (1 : Int32)))))))
  else
  (some (.inl ((1 : Int32), (x3 + (1 : Int32))))))
def DX9_isCaught_L4 (x1 : Int32) (c_nets : Nat → Int32) (c_netAt : Nat → Int32) (c_netWide : Nat → Int32) (c_netFrom : Nat → Int32) (c_netTo : Nat → Int32) (c_days : Nat → Int32) (c_kinds : Nat → Int32) (c_to : Nat → Int32) (c_home : Nat → Int32) (n : Nat) (x2 : Int32) (x3 : Int32) : Option (Int32) := it (fun (st : Int32 × Int32) => DX9_isCaught_L4s x1 c_nets c_netAt c_netWide c_netFrom c_netTo c_days c_kinds c_to c_home (st.1) (st.2)) n (x2, x3)
def DX9_isCaught (x1 : Int32) (c_nets : Nat → Int32) (c_netAt : Nat → Int32) (c_netWide : Nat → Int32) (c_netFrom : Nat → Int32) (c_netTo : Nat → Int32) (c_days : Nat → Int32) (c_kinds : Nat → Int32) (c_to : Nat → Int32) (c_home : Nat → Int32) : Option (Int32) :=
  bd1 (DX9_isCaught_L4 x1 c_nets c_netAt c_netWide c_netFrom c_netTo c_days c_kinds c_to c_home FU (0 : Int32) (0 : Int32)) fun z2_16 =>
  if ¬ (z2_16 = 0 ∨ z2_16 = 1) then none else
  some z2_16
def DX9_howOf (x1 : Int32) (c_nets : Nat → Int32) (c_netAt : Nat → Int32) (c_netWide : Nat → Int32) (c_netFrom : Nat → Int32) (c_netTo : Nat → Int32) (c_days : Nat → Int32) (c_kinds : Nat → Int32) (c_to : Nat → Int32) (c_home : Nat → Int32) (c_lost : Nat → Int32) : Option (Int32) :=
  if x1 < 0 ∨ 7 ≤ x1.toNatClampNeg then none else
  if (10000 : Int32) ≤ (c_lost x1.toNatClampNeg) then
  (bd1 (DX9_isCaught x1 c_nets c_netAt c_netWide c_netFrom c_netTo c_days c_kinds c_to c_home) fun r_3 =>
  if r_3 = 0 then
  (some (1 : Int32))
  else
  (some (0 : Int32)))
  else
  (some (2 : Int32))
def DX9_priceOf (x1 : Int32) (c_priceX : Nat → Int32) (c_priceY : Nat → Int32) : Option (Int32) :=
  some ((((c_priceX (0 : Int32).toNatClampNeg) + ((c_priceY (0 : Int32).toNatClampNeg) * x1)) - ((c_priceX (0 : Int32).toNatClampNeg) + ((c_priceY (0 : Int32).toNatClampNeg) * x1)) / (50 : Int32) * (50 : Int32)) + (1 : Int32))
def DX9_paidOf (x1 : Int32) (c_nets : Nat → Int32) (c_netAt : Nat → Int32) (c_netWide : Nat → Int32) (c_netFrom : Nat → Int32) (c_netTo : Nat → Int32) (c_priceX : Nat → Int32) (c_priceY : Nat → Int32) (c_days : Nat → Int32) (c_kinds : Nat → Int32) (c_to : Nat → Int32) (c_home : Nat → Int32) (c_lost : Nat → Int32) : Option (Int32) :=
  bd1 (DX9_howOf x1 c_nets c_netAt c_netWide c_netFrom c_netTo c_days c_kinds c_to c_home c_lost) fun r_1 =>
  if r_1 = 0 then
  (if x1 < 0 ∨ 7 ≤ x1.toNatClampNeg then none else
  bd1 (DX9_priceOf (c_home x1.toNatClampNeg) c_priceX c_priceY) fun r_5 =>
  some r_5)
  else
  (some (0 : Int32))
def DX9_load (x1 : Int32) (x2 : Int32) (c_stands : Nat → Int32) (c_homeFar : Nat → Int32) (c_nets : Nat → Int32) (c_netAt : Nat → Int32) (c_netWide : Nat → Int32) (c_netFrom : Nat → Int32) (c_netTo : Nat → Int32) (c_priceX : Nat → Int32) (c_priceY : Nat → Int32) (c_many : Nat → Int32) (c_days : Nat → Int32) (c_aims : Nat → Int32) (c_speeds : Nat → Int32) (c_kinds : Nat → Int32) (c_to : Nat → Int32) (c_stood : Nat → Int32) (c_home : Nat → Int32) (c_lost : Nat → Int32) (c_out : Int32) : Option (Int32 × (Nat → Int32) × (Nat → Int32) × (Nat → Int32) × (Nat → Int32) × Int32) :=
  bd1 (DX9_isThrow x1 c_many) fun r_1 =>
  if r_1 = 0 then
  (some ((-1 : Int32), c_to, c_stood, c_home, c_lost, c_out))
  else
  (bd1 (DX9_in (x2.toInt64) (0 : Int64) (8 : Int64)) fun r_4 =>
  if r_4 = 0 then
  (some ((-1 : Int32), c_to, c_stood, c_home, c_lost, c_out))
  else
  (bd5 (DX9_go (0 : Int32) c_stands c_homeFar c_many c_days c_aims c_speeds c_kinds c_to c_stood c_home c_lost) fun k_to_7 k_stood_8 k_home_9 k_lost_10 k_out_11 =>
  if x2 = (0 : Int32) then
  (if x1 < 0 ∨ 28 ≤ x1.toNatClampNeg then none else
  some ((c_days x1.toNatClampNeg), k_to_7, k_stood_8, k_home_9, k_lost_10, k_out_11))
  else
  if x2 = (1 : Int32) then
  (if x1 < 0 ∨ 28 ≤ x1.toNatClampNeg then none else
  some ((c_aims x1.toNatClampNeg), k_to_7, k_stood_8, k_home_9, k_lost_10, k_out_11))
  else
  if x2 = (2 : Int32) then
  (if x1 < 0 ∨ 28 ≤ x1.toNatClampNeg then none else
  some ((c_speeds x1.toNatClampNeg), k_to_7, k_stood_8, k_home_9, k_lost_10, k_out_11))
  else
  if x2 = (3 : Int32) then
  (if x1 < 0 ∨ 28 ≤ x1.toNatClampNeg then none else
  some ((c_kinds x1.toNatClampNeg), k_to_7, k_stood_8, k_home_9, k_lost_10, k_out_11))
  else
  if x2 = (4 : Int32) then
  (if x1 < 0 ∨ 7 ≤ x1.toNatClampNeg then none else
  some ((k_to_7 x1.toNatClampNeg), k_to_7, k_stood_8, k_home_9, k_lost_10, k_out_11))
  else
  if x2 = (5 : Int32) then
  (if x1 < 0 ∨ 7 ≤ x1.toNatClampNeg then none else
  some ((k_stood_8 x1.toNatClampNeg), k_to_7, k_stood_8, k_home_9, k_lost_10, k_out_11))
  else
  if x2 = (6 : Int32) then
  (bd1 (DX9_howOf x1 c_nets c_netAt c_netWide c_netFrom c_netTo c_days c_kinds k_to_7 k_home_9 k_lost_10) fun r_26 =>
  some (r_26, k_to_7, k_stood_8, k_home_9, k_lost_10, k_out_11))
  else
  if x2 = (7 : Int32) then
  (if x1 < 0 ∨ 7 ≤ x1.toNatClampNeg then none else
  some ((k_home_9 x1.toNatClampNeg), k_to_7, k_stood_8, k_home_9, k_lost_10, k_out_11))
  else
  (bd1 (DX9_paidOf x1 c_nets c_netAt c_netWide c_netFrom c_netTo c_priceX c_priceY c_days c_kinds k_to_7 k_home_9 k_lost_10) fun r_30 =>
  some (r_30, k_to_7, k_stood_8, k_home_9, k_lost_10, k_out_11))))
def DX9_isDay (x0 : Int32) : Option (Int32) :=
  bd1 (DX9_in (x0.toInt64) (0 : Int64) (99 : Int64)) fun r_1 =>
  if ¬ (r_1 = 0 ∨ r_1 = 1) then none else
  some r_1
def DX9_far (x1 : Int32) (x2 : Int32) (c_stands : Nat → Int32) (c_homeFar : Nat → Int32) (c_many : Nat → Int32) (c_days : Nat → Int32) (c_aims : Nat → Int32) (c_speeds : Nat → Int32) (c_kinds : Nat → Int32) (c_to : Nat → Int32) (c_stood : Nat → Int32) (c_home : Nat → Int32) (c_lost : Nat → Int32) (c_out : Int32) : Option (Int32 × (Nat → Int32) × (Nat → Int32) × (Nat → Int32) × (Nat → Int32) × Int32) :=
  bd1 (DX9_isThrow x1 c_many) fun r_1 =>
  if r_1 = 0 then
  (some ((-1 : Int32), c_to, c_stood, c_home, c_lost, c_out))
  else
  (bd1 (DX9_isDay x2) fun r_4 =>
  if r_4 = 0 then
  (some ((-1 : Int32), c_to, c_stood, c_home, c_lost, c_out))
  else
  (bd5 (DX9_go (0 : Int32) c_stands c_homeFar c_many c_days c_aims c_speeds c_kinds c_to c_stood c_home c_lost) fun k_to_7 k_stood_8 k_home_9 k_lost_10 k_out_11 =>
  if x1 < 0 ∨ 28 ≤ x1.toNatClampNeg then none else
  if x2 < (c_days x1.toNatClampNeg) then
  (some ((-4 : Int32), k_to_7, k_stood_8, k_home_9, k_lost_10, k_out_11))
  else
  (if x1 < 0 ∨ 7 ≤ x1.toNatClampNeg then none else
  if (k_home_9 x1.toNatClampNeg) ≤ x2 then
  (some ((-4 : Int32), k_to_7, k_stood_8, k_home_9, k_lost_10, k_out_11))
  else
  (bd1 (DX9_farOf x1 x2 c_days c_speeds) fun r_17 =>
  some (r_17, k_to_7, k_stood_8, k_home_9, k_lost_10, k_out_11)))))
def DX9_rock (x1 : Int32) (c_stands : Nat → Int32) (c_many : Nat → Int32) (c_days : Nat → Int32) (c_aims : Nat → Int32) (c_speeds : Nat → Int32) (c_kinds : Nat → Int32) (c_to : Nat → Int32) (c_stood : Nat → Int32) (c_out : Int32) : Option (Int32 × (Nat → Int32) × (Nat → Int32) × Int32) :=
  bd1 (DX9_isDay x1) fun r_1 =>
  if r_1 = 0 then
  (some ((-1 : Int32), c_to, c_stood, c_out))
  else
  (bd3 (DX9_turnTo x1 c_stands c_many c_days c_aims c_speeds c_kinds c_to c_stood (0 : Int32)) fun r_4 k_to_5 k_stood_6 =>
  some (r_4, k_to_5, k_stood_6, (0 : Int32)))
def DX9_price (x1 : Int32) (c_priceX : Nat → Int32) (c_priceY : Nat → Int32) : Option (Int32) :=
  bd1 (DX9_isDay x1) fun r_1 =>
  if r_1 = 0 then
  (some (-1 : Int32))
  else
  (bd1 (DX9_priceOf x1 c_priceX c_priceY) fun r_4 =>
  some r_4)
def DX9_howMany_L4s (x1 : Int32) (c_nets : Nat → Int32) (c_netAt : Nat → Int32) (c_netWide : Nat → Int32) (c_netFrom : Nat → Int32) (c_netTo : Nat → Int32) (c_many : Nat → Int32) (c_days : Nat → Int32) (c_kinds : Nat → Int32) (c_to : Nat → Int32) (c_home : Nat → Int32) (c_lost : Nat → Int32) (x2 : Int32) (x3 : Int32) : Option ((Int32 × Int32) ⊕ (Int32)) :=
  if (c_many (0 : Int32).toNatClampNeg) ≤ x3 then
  (some (.inr x2))
  else
  (bd1 (DX9_howOf x3 c_nets c_netAt c_netWide c_netFrom c_netTo c_days c_kinds c_to c_home c_lost) fun r_2 =>
  if r_2 = x1 then
  (some (.inl ((x2 + (1 : Int32)), (x3 + (1 : Int32)))))
  else
  (some (.inl ((x2 + (0 : Int32)), (x3 + (1 : Int32))))))
def DX9_howMany_L4 (x1 : Int32) (c_nets : Nat → Int32) (c_netAt : Nat → Int32) (c_netWide : Nat → Int32) (c_netFrom : Nat → Int32) (c_netTo : Nat → Int32) (c_many : Nat → Int32) (c_days : Nat → Int32) (c_kinds : Nat → Int32) (c_to : Nat → Int32) (c_home : Nat → Int32) (c_lost : Nat → Int32) (n : Nat) (x2 : Int32) (x3 : Int32) : Option (Int32) := it (fun (st : Int32 × Int32) => DX9_howMany_L4s x1 c_nets c_netAt c_netWide c_netFrom c_netTo c_many c_days c_kinds c_to c_home c_lost (st.1) (st.2)) n (x2, x3)
def DX9_howMany (x1 : Int32) (c_nets : Nat → Int32) (c_netAt : Nat → Int32) (c_netWide : Nat → Int32) (c_netFrom : Nat → Int32) (c_netTo : Nat → Int32) (c_many : Nat → Int32) (c_days : Nat → Int32) (c_kinds : Nat → Int32) (c_to : Nat → Int32) (c_home : Nat → Int32) (c_lost : Nat → Int32) : Option (Int32) :=
  bd1 (DX9_howMany_L4 x1 c_nets c_netAt c_netWide c_netFrom c_netTo c_many c_days c_kinds c_to c_home c_lost FU (0 : Int32) (0 : Int32)) fun z2_5 =>
  some z2_5
def DX9_paidAll_L4s (c_nets : Nat → Int32) (c_netAt : Nat → Int32) (c_netWide : Nat → Int32) (c_netFrom : Nat → Int32) (c_netTo : Nat → Int32) (c_priceX : Nat → Int32) (c_priceY : Nat → Int32) (c_many : Nat → Int32) (c_days : Nat → Int32) (c_kinds : Nat → Int32) (c_to : Nat → Int32) (c_home : Nat → Int32) (c_lost : Nat → Int32) (x1 : Int32) (x2 : Int32) : Option ((Int32 × Int32) ⊕ (Int32)) :=
  if (c_many (0 : Int32).toNatClampNeg) ≤ x2 then
  (some (.inr x1))
  else
  (bd1 (DX9_paidOf x2 c_nets c_netAt c_netWide c_netFrom c_netTo c_priceX c_priceY c_days c_kinds c_to c_home c_lost) fun r_2 =>
  some (.inl ((x1 + r_2), (x2 + (1 : Int32)))))
def DX9_paidAll_L4 (c_nets : Nat → Int32) (c_netAt : Nat → Int32) (c_netWide : Nat → Int32) (c_netFrom : Nat → Int32) (c_netTo : Nat → Int32) (c_priceX : Nat → Int32) (c_priceY : Nat → Int32) (c_many : Nat → Int32) (c_days : Nat → Int32) (c_kinds : Nat → Int32) (c_to : Nat → Int32) (c_home : Nat → Int32) (c_lost : Nat → Int32) (n : Nat) (x1 : Int32) (x2 : Int32) : Option (Int32) := it (fun (st : Int32 × Int32) => DX9_paidAll_L4s c_nets c_netAt c_netWide c_netFrom c_netTo c_priceX c_priceY c_many c_days c_kinds c_to c_home c_lost (st.1) (st.2)) n (x1, x2)
def DX9_paidAll (c_nets : Nat → Int32) (c_netAt : Nat → Int32) (c_netWide : Nat → Int32) (c_netFrom : Nat → Int32) (c_netTo : Nat → Int32) (c_priceX : Nat → Int32) (c_priceY : Nat → Int32) (c_many : Nat → Int32) (c_days : Nat → Int32) (c_kinds : Nat → Int32) (c_to : Nat → Int32) (c_home : Nat → Int32) (c_lost : Nat → Int32) : Option (Int32) :=
  bd1 (DX9_paidAll_L4 c_nets c_netAt c_netWide c_netFrom c_netTo c_priceX c_priceY c_many c_days c_kinds c_to c_home c_lost FU (0 : Int32) (0 : Int32)) fun z1_4 =>
  some z1_4
def DX9_all (x1 : Int32) (c_stands : Nat → Int32) (c_homeFar : Nat → Int32) (c_nets : Nat → Int32) (c_netAt : Nat → Int32) (c_netWide : Nat → Int32) (c_netFrom : Nat → Int32) (c_netTo : Nat → Int32) (c_priceX : Nat → Int32) (c_priceY : Nat → Int32) (c_many : Nat → Int32) (c_days : Nat → Int32) (c_aims : Nat → Int32) (c_speeds : Nat → Int32) (c_kinds : Nat → Int32) (c_to : Nat → Int32) (c_stood : Nat → Int32) (c_home : Nat → Int32) (c_lost : Nat → Int32) (c_out : Int32) : Option (Int32 × (Nat → Int32) × (Nat → Int32) × (Nat → Int32) × (Nat → Int32) × Int32) :=
  bd1 (DX9_in (x1.toInt64) (0 : Int64) (3 : Int64)) fun r_1 =>
  if r_1 = 0 then
  (some ((-1 : Int32), c_to, c_stood, c_home, c_lost, c_out))
  else
  (bd5 (DX9_go (0 : Int32) c_stands c_homeFar c_many c_days c_aims c_speeds c_kinds c_to c_stood c_home c_lost) fun k_to_4 k_stood_5 k_home_6 k_lost_7 k_out_8 =>
  if (3 : Int32) ≤ x1 then
  (bd1 (DX9_paidAll c_nets c_netAt c_netWide c_netFrom c_netTo c_priceX c_priceY c_many c_days c_kinds k_to_4 k_home_6 k_lost_7) fun r_11 =>
  some (r_11, k_to_4, k_stood_5, k_home_6, k_lost_7, k_out_8))
  else
  (bd1 (DX9_howMany x1 c_nets c_netAt c_netWide c_netFrom c_netTo c_many c_days c_kinds k_to_4 k_home_6 k_lost_7) fun r_13 =>
  some (r_13, k_to_4, k_stood_5, k_home_6, k_lost_7, k_out_8)))
def DX9_note_J51 (x1 : Int32) (x2 : Int32) (x3 : Int32) (c_undoMany : Int32) (c_undos : Nat → Int32) : Option (Int32 × Int32 × (Nat → Int32)) :=
  if ((3 : Int32) * c_undoMany) < 0 ∨ 24 ≤ ((3 : Int32) * c_undoMany).toNatClampNeg then none else
  if (((3 : Int32) * c_undoMany) + (1 : Int32)) < 0 ∨ 24 ≤ (((3 : Int32) * c_undoMany) + (1 : Int32)).toNatClampNeg then none else
  if (((3 : Int32) * c_undoMany) + (2 : Int32)) < 0 ∨ 24 ≤ (((3 : Int32) * c_undoMany) + (2 : Int32)).toNatClampNeg then none else
  some (x3, (c_undoMany + (1 : Int32)), (upd (upd (upd c_undos ((3 : Int32) * c_undoMany).toNatClampNeg x1) (((3 : Int32) * c_undoMany) + (1 : Int32)).toNatClampNeg x2) (((3 : Int32) * c_undoMany) + (2 : Int32)).toNatClampNeg x3))
def DX9_note_L12s  (x4 : Int32) (c_undos : Nat → Int32) : Option ((Int32 × (Nat → Int32)) ⊕ ((Nat → Int32))) :=
  if (21 : Int32) ≤ x4 then
  (some (.inr c_undos))
  else
  (if (x4 + (3 : Int32)) < 0 ∨ 24 ≤ (x4 + (3 : Int32)).toNatClampNeg then none else
  if x4 < 0 ∨ 24 ≤ x4.toNatClampNeg then none else
  some (.inl ((x4 + (1 : Int32)), (upd c_undos x4.toNatClampNeg (c_undos (x4 + (3 : Int32)).toNatClampNeg)))))
def DX9_note_L12  (n : Nat) (x4 : Int32) (c_undos : Nat → Int32) : Option ((Nat → Int32)) := it (fun (st : Int32 × (Nat → Int32)) => DX9_note_L12s (st.1) (st.2)) n (x4, c_undos)
def DX9_note (x1 : Int32) (x2 : Int32) (x3 : Int32) (c_undoMany : Int32) (c_undos : Nat → Int32) : Option (Int32 × Int32 × (Nat → Int32)) :=
  if c_undoMany = (8 : Int32) then
  (bd1 (DX9_note_L12 FU (0 : Int32) c_undos) fun k_undos_8 =>
  DX9_note_J51 x1 x2 x3 (c_undoMany - (1 : Int32)) k_undos_8)
  else
  (DX9_note_J51 x1 x2 x3 c_undoMany c_undos)
def DX9_aim (x1 : Int32) (x2 : Int32) (c_many : Nat → Int32) (c_aims : Nat → Int32) (c_undoMany : Int32) (c_undos : Nat → Int32) : Option (Int32 × (Nat → Int32) × Int32 × (Nat → Int32)) :=
  bd1 (DX9_isThrow x1 c_many) fun r_1 =>
  if r_1 = 0 then
  (some ((-1 : Int32), c_aims, c_undoMany, c_undos))
  else
  (bd1 (DX9_in (x2.toInt64) (0 : Int64) (23 : Int64)) fun r_4 =>
  if r_4 = 0 then
  (some ((-1 : Int32), c_aims, c_undoMany, c_undos))
  else
  (if x1 < 0 ∨ 28 ≤ x1.toNatClampNeg then none else
  bd3 (DX9_note (0 : Int32) x1 (c_aims x1.toNatClampNeg) c_undoMany c_undos) fun r_8 k_undoMany_9 k_undos_10 =>
  if x1 < 0 ∨ 28 ≤ x1.toNatClampNeg then none else
  some (r_8, (upd c_aims x1.toNatClampNeg x2), k_undoMany_9, k_undos_10)))
def DX9_move (x1 : Int32) (x2 : Int32) (c_many : Nat → Int32) (c_days : Nat → Int32) (c_undoMany : Int32) (c_undos : Nat → Int32) : Option (Int32 × (Nat → Int32) × Int32 × (Nat → Int32)) :=
  bd1 (DX9_isThrow x1 c_many) fun r_1 =>
  if r_1 = 0 then
  (some ((-1 : Int32), c_days, c_undoMany, c_undos))
  else
  (bd1 (DX9_in (x2.toInt64) (0 : Int64) (40 : Int64)) fun r_4 =>
  if r_4 = 0 then
  (some ((-1 : Int32), c_days, c_undoMany, c_undos))
  else
  (if x1 < 0 ∨ 28 ≤ x1.toNatClampNeg then none else
  bd3 (DX9_note (1 : Int32) x1 (c_days x1.toNatClampNeg) c_undoMany c_undos) fun r_8 k_undoMany_9 k_undos_10 =>
  if x1 < 0 ∨ 28 ≤ x1.toNatClampNeg then none else
  some (r_8, (upd c_days x1.toNatClampNeg x2), k_undoMany_9, k_undos_10)))
def DX9_speed (x1 : Int32) (x2 : Int32) (c_many : Nat → Int32) (c_speeds : Nat → Int32) (c_undoMany : Int32) (c_undos : Nat → Int32) : Option (Int32 × (Nat → Int32) × Int32 × (Nat → Int32)) :=
  bd1 (DX9_isThrow x1 c_many) fun r_1 =>
  if r_1 = 0 then
  (some ((-1 : Int32), c_speeds, c_undoMany, c_undos))
  else
  (bd1 (DX9_in (x2.toInt64) (1 : Int64) (6 : Int64)) fun r_4 =>
  if r_4 = 0 then
  (some ((-1 : Int32), c_speeds, c_undoMany, c_undos))
  else
  (if x1 < 0 ∨ 28 ≤ x1.toNatClampNeg then none else
  bd3 (DX9_note (2 : Int32) x1 (c_speeds x1.toNatClampNeg) c_undoMany c_undos) fun r_8 k_undoMany_9 k_undos_10 =>
  if x1 < 0 ∨ 28 ≤ x1.toNatClampNeg then none else
  some (r_8, (upd c_speeds x1.toNatClampNeg x2), k_undoMany_9, k_undos_10)))
def DX9_undo (c_days : Nat → Int32) (c_aims : Nat → Int32) (c_speeds : Nat → Int32) (c_undoMany : Int32) (c_undos : Nat → Int32) : Option (Int32 × (Nat → Int32) × (Nat → Int32) × (Nat → Int32) × Int32) :=
  if c_undoMany = 0 then
  (some ((-2 : Int32), c_days, c_aims, c_speeds, c_undoMany))
  else
  (if ((3 : Int32) * (c_undoMany - (1 : Int32))) < 0 ∨ 24 ≤ ((3 : Int32) * (c_undoMany - (1 : Int32))).toNatClampNeg then none else
  if (((3 : Int32) * (c_undoMany - (1 : Int32))) + (1 : Int32)) < 0 ∨ 24 ≤ (((3 : Int32) * (c_undoMany - (1 : Int32))) + (1 : Int32)).toNatClampNeg then none else
  if (((3 : Int32) * (c_undoMany - (1 : Int32))) + (2 : Int32)) < 0 ∨ 24 ≤ (((3 : Int32) * (c_undoMany - (1 : Int32))) + (2 : Int32)).toNatClampNeg then none else
  if (c_undos ((3 : Int32) * (c_undoMany - (1 : Int32))).toNatClampNeg) = 0 then
  (if (c_undos (((3 : Int32) * (c_undoMany - (1 : Int32))) + (1 : Int32)).toNatClampNeg) < 0 ∨ 28 ≤ (c_undos (((3 : Int32) * (c_undoMany - (1 : Int32))) + (1 : Int32)).toNatClampNeg).toNatClampNeg then none else
  some ((c_undoMany - (1 : Int32)), c_days, (upd c_aims (c_undos (((3 : Int32) * (c_undoMany - (1 : Int32))) + (1 : Int32)).toNatClampNeg).toNatClampNeg (c_undos (((3 : Int32) * (c_undoMany - (1 : Int32))) + (2 : Int32)).toNatClampNeg)), c_speeds, (c_undoMany - (1 : Int32))))
  else
  (if (c_undos ((3 : Int32) * (c_undoMany - (1 : Int32))).toNatClampNeg) = (1 : Int32) then
  (if (c_undos (((3 : Int32) * (c_undoMany - (1 : Int32))) + (1 : Int32)).toNatClampNeg) < 0 ∨ 28 ≤ (c_undos (((3 : Int32) * (c_undoMany - (1 : Int32))) + (1 : Int32)).toNatClampNeg).toNatClampNeg then none else
  some ((c_undoMany - (1 : Int32)), (upd c_days (c_undos (((3 : Int32) * (c_undoMany - (1 : Int32))) + (1 : Int32)).toNatClampNeg).toNatClampNeg (c_undos (((3 : Int32) * (c_undoMany - (1 : Int32))) + (2 : Int32)).toNatClampNeg)), c_aims, c_speeds, (c_undoMany - (1 : Int32))))
  else
  (if (c_undos (((3 : Int32) * (c_undoMany - (1 : Int32))) + (1 : Int32)).toNatClampNeg) < 0 ∨ 28 ≤ (c_undos (((3 : Int32) * (c_undoMany - (1 : Int32))) + (1 : Int32)).toNatClampNeg).toNatClampNeg then none else
  some ((c_undoMany - (1 : Int32)), c_days, c_aims, (upd c_speeds (c_undos (((3 : Int32) * (c_undoMany - (1 : Int32))) + (1 : Int32)).toNatClampNeg).toNatClampNeg (c_undos (((3 : Int32) * (c_undoMany - (1 : Int32))) + (2 : Int32)).toNatClampNeg)), (c_undoMany - (1 : Int32))))))
def DX9_bestAim_J78 (c_aims : Nat → Int32) (c_to : Nat → Int32) (c_stood : Nat → Int32) (c_home : Nat → Int32) (c_lost : Nat → Int32) (c_out : Int32) (y0 : Int32) (x5 : Int32) (x6 : Int32) (x7 : Int32) : Option ((Int32 × Int32 × Int32 × (Nat → Int32) × (Nat → Int32) × (Nat → Int32) × (Nat → Int32) × (Nat → Int32) × Int32) ⊕ (Int32 × Int32 × (Nat → Int32) × (Nat → Int32) × (Nat → Int32) × (Nat → Int32) × (Nat → Int32) × Int32)) :=
  if x7 ≤ x5 then
  (some (.inl (y0, x5, (x6 + (1 : Int32)), c_aims, c_to, c_stood, c_home, c_lost, c_out)))
  else
  (some (.inl (y0, x7, (x6 + (1 : Int32)), c_aims, c_to, c_stood, c_home, c_lost, c_out)))
def DX9_bestAim_L37s (x1 : Int32) (c_stands : Nat → Int32) (c_homeFar : Nat → Int32) (c_nets : Nat → Int32) (c_netAt : Nat → Int32) (c_netWide : Nat → Int32) (c_netFrom : Nat → Int32) (c_netTo : Nat → Int32) (c_many : Nat → Int32) (c_days : Nat → Int32) (c_speeds : Nat → Int32) (c_kinds : Nat → Int32) (x4 : Int32) (x5 : Int32) (x6 : Int32) (c_aims : Nat → Int32) (c_to : Nat → Int32) (c_stood : Nat → Int32) (c_home : Nat → Int32) (c_lost : Nat → Int32) (c_out : Int32) : Option ((Int32 × Int32 × Int32 × (Nat → Int32) × (Nat → Int32) × (Nat → Int32) × (Nat → Int32) × (Nat → Int32) × Int32) ⊕ (Int32 × Int32 × (Nat → Int32) × (Nat → Int32) × (Nat → Int32) × (Nat → Int32) × (Nat → Int32) × Int32)) :=
  if (24 : Int32) ≤ x6 then
  (some (.inr (x4, x5, c_aims, c_to, c_stood, c_home, c_lost, c_out)))
  else
  (if x1 < 0 ∨ 28 ≤ x1.toNatClampNeg then none else
  bd5 (DX9_go (0 : Int32) c_stands c_homeFar c_many c_days (upd c_aims x1.toNatClampNeg x6) c_speeds c_kinds c_to c_stood c_home c_lost) fun k_to_10 k_stood_11 k_home_12 k_lost_13 k_out_14 =>
  bd1 (DX9_howMany (0 : Int32) c_nets c_netAt c_netWide c_netFrom c_netTo c_many c_days c_kinds k_to_10 k_home_12 k_lost_13) fun r_16 =>
  if r_16 ≤ x5 then
  (DX9_bestAim_J78 (upd c_aims x1.toNatClampNeg x6) k_to_10 k_stood_11 k_home_12 k_lost_13 k_out_14 x4 x5 x6 r_16)
  else
  (DX9_bestAim_J78 (upd c_aims x1.toNatClampNeg x6) k_to_10 k_stood_11 k_home_12 k_lost_13 k_out_14 x6 x5 x6 r_16))
def DX9_bestAim_L37 (x1 : Int32) (c_stands : Nat → Int32) (c_homeFar : Nat → Int32) (c_nets : Nat → Int32) (c_netAt : Nat → Int32) (c_netWide : Nat → Int32) (c_netFrom : Nat → Int32) (c_netTo : Nat → Int32) (c_many : Nat → Int32) (c_days : Nat → Int32) (c_speeds : Nat → Int32) (c_kinds : Nat → Int32) (n : Nat) (x4 : Int32) (x5 : Int32) (x6 : Int32) (c_aims : Nat → Int32) (c_to : Nat → Int32) (c_stood : Nat → Int32) (c_home : Nat → Int32) (c_lost : Nat → Int32) (c_out : Int32) : Option (Int32 × Int32 × (Nat → Int32) × (Nat → Int32) × (Nat → Int32) × (Nat → Int32) × (Nat → Int32) × Int32) := it (fun (st : Int32 × Int32 × Int32 × (Nat → Int32) × (Nat → Int32) × (Nat → Int32) × (Nat → Int32) × (Nat → Int32) × Int32) => DX9_bestAim_L37s x1 c_stands c_homeFar c_nets c_netAt c_netWide c_netFrom c_netTo c_many c_days c_speeds c_kinds (st.1) (st.2.1) (st.2.2.1) (st.2.2.2.1) (st.2.2.2.2.1) (st.2.2.2.2.2.1) (st.2.2.2.2.2.2.1) (st.2.2.2.2.2.2.2.1) (st.2.2.2.2.2.2.2.2)) n (x4, x5, x6, c_aims, c_to, c_stood, c_home, c_lost, c_out)
def DX9_bestAim (x1 : Int32) (x2 : Int32) (c_stands : Nat → Int32) (c_homeFar : Nat → Int32) (c_nets : Nat → Int32) (c_netAt : Nat → Int32) (c_netWide : Nat → Int32) (c_netFrom : Nat → Int32) (c_netTo : Nat → Int32) (c_many : Nat → Int32) (c_days : Nat → Int32) (c_aims : Nat → Int32) (c_speeds : Nat → Int32) (c_kinds : Nat → Int32) (c_to : Nat → Int32) (c_stood : Nat → Int32) (c_home : Nat → Int32) (c_lost : Nat → Int32) (c_out : Int32) : Option (Int32 × (Nat → Int32) × (Nat → Int32) × (Nat → Int32) × (Nat → Int32) × (Nat → Int32) × Int32) :=
  bd1 (DX9_isThrow x1 c_many) fun r_1 =>
  if r_1 = 0 then
  (some ((-1 : Int32), c_aims, c_to, c_stood, c_home, c_lost, c_out))
  else
  (bd1 (DX9_in (x2.toInt64) (0 : Int64) (1 : Int64)) fun r_4 =>
  if r_4 = 0 then
  (some ((-1 : Int32), c_aims, c_to, c_stood, c_home, c_lost, c_out))
  else
  (if x1 < 0 ∨ 28 ≤ x1.toNatClampNeg then none else
  bd8 (DX9_bestAim_L37 x1 c_stands c_homeFar c_nets c_netAt c_netWide c_netFrom c_netTo c_many c_days c_speeds c_kinds FU (0 : Int32) (-4 : Int32) (0 : Int32) c_aims c_to c_stood c_home c_lost c_out) fun z4_20 z5_21 k_aims_22 k_to_23 k_stood_24 k_home_25 k_lost_26 k_out_27 =>
  if x1 < 0 ∨ 28 ≤ x1.toNatClampNeg then none else
  if x2 = 0 then
  (some (z4_20, (upd k_aims_22 x1.toNatClampNeg (c_aims x1.toNatClampNeg)), k_to_23, k_stood_24, k_home_25, k_lost_26, k_out_27))
  else
  (some (z5_21, (upd k_aims_22 x1.toNatClampNeg (c_aims x1.toNatClampNeg)), k_to_23, k_stood_24, k_home_25, k_lost_26, k_out_27))))
def DX9_bestDay_J78 (c_days : Nat → Int32) (c_to : Nat → Int32) (c_stood : Nat → Int32) (c_home : Nat → Int32) (c_lost : Nat → Int32) (c_out : Int32) (y0 : Int32) (x5 : Int32) (x6 : Int32) (x7 : Int32) : Option ((Int32 × Int32 × Int32 × (Nat → Int32) × (Nat → Int32) × (Nat → Int32) × (Nat → Int32) × (Nat → Int32) × Int32) ⊕ (Int32 × Int32 × (Nat → Int32) × (Nat → Int32) × (Nat → Int32) × (Nat → Int32) × (Nat → Int32) × Int32)) :=
  if x7 ≤ x5 then
  (some (.inl (y0, x5, (x6 + (1 : Int32)), c_days, c_to, c_stood, c_home, c_lost, c_out)))
  else
  (some (.inl (y0, x7, (x6 + (1 : Int32)), c_days, c_to, c_stood, c_home, c_lost, c_out)))
def DX9_bestDay_L37s (x1 : Int32) (c_stands : Nat → Int32) (c_homeFar : Nat → Int32) (c_nets : Nat → Int32) (c_netAt : Nat → Int32) (c_netWide : Nat → Int32) (c_netFrom : Nat → Int32) (c_netTo : Nat → Int32) (c_priceX : Nat → Int32) (c_priceY : Nat → Int32) (c_many : Nat → Int32) (c_aims : Nat → Int32) (c_speeds : Nat → Int32) (c_kinds : Nat → Int32) (x4 : Int32) (x5 : Int32) (x6 : Int32) (c_days : Nat → Int32) (c_to : Nat → Int32) (c_stood : Nat → Int32) (c_home : Nat → Int32) (c_lost : Nat → Int32) (c_out : Int32) : Option ((Int32 × Int32 × Int32 × (Nat → Int32) × (Nat → Int32) × (Nat → Int32) × (Nat → Int32) × (Nat → Int32) × Int32) ⊕ (Int32 × Int32 × (Nat → Int32) × (Nat → Int32) × (Nat → Int32) × (Nat → Int32) × (Nat → Int32) × Int32)) :=
  if (40 : Int32) < x6 then
  (some (.inr (x4, x5, c_days, c_to, c_stood, c_home, c_lost, c_out)))
  else
  (if x1 < 0 ∨ 28 ≤ x1.toNatClampNeg then none else
  bd5 (DX9_go (0 : Int32) c_stands c_homeFar c_many (upd c_days x1.toNatClampNeg x6) c_aims c_speeds c_kinds c_to c_stood c_home c_lost) fun k_to_10 k_stood_11 k_home_12 k_lost_13 k_out_14 =>
  bd1 (DX9_paidOf x1 c_nets c_netAt c_netWide c_netFrom c_netTo c_priceX c_priceY (upd c_days x1.toNatClampNeg x6) c_kinds k_to_10 k_home_12 k_lost_13) fun r_16 =>
  if r_16 ≤ x5 then
  (DX9_bestDay_J78 (upd c_days x1.toNatClampNeg x6) k_to_10 k_stood_11 k_home_12 k_lost_13 k_out_14 x4 x5 x6 r_16)
  else
  (DX9_bestDay_J78 (upd c_days x1.toNatClampNeg x6) k_to_10 k_stood_11 k_home_12 k_lost_13 k_out_14 x6 x5 x6 r_16))
def DX9_bestDay_L37 (x1 : Int32) (c_stands : Nat → Int32) (c_homeFar : Nat → Int32) (c_nets : Nat → Int32) (c_netAt : Nat → Int32) (c_netWide : Nat → Int32) (c_netFrom : Nat → Int32) (c_netTo : Nat → Int32) (c_priceX : Nat → Int32) (c_priceY : Nat → Int32) (c_many : Nat → Int32) (c_aims : Nat → Int32) (c_speeds : Nat → Int32) (c_kinds : Nat → Int32) (n : Nat) (x4 : Int32) (x5 : Int32) (x6 : Int32) (c_days : Nat → Int32) (c_to : Nat → Int32) (c_stood : Nat → Int32) (c_home : Nat → Int32) (c_lost : Nat → Int32) (c_out : Int32) : Option (Int32 × Int32 × (Nat → Int32) × (Nat → Int32) × (Nat → Int32) × (Nat → Int32) × (Nat → Int32) × Int32) := it (fun (st : Int32 × Int32 × Int32 × (Nat → Int32) × (Nat → Int32) × (Nat → Int32) × (Nat → Int32) × (Nat → Int32) × Int32) => DX9_bestDay_L37s x1 c_stands c_homeFar c_nets c_netAt c_netWide c_netFrom c_netTo c_priceX c_priceY c_many c_aims c_speeds c_kinds (st.1) (st.2.1) (st.2.2.1) (st.2.2.2.1) (st.2.2.2.2.1) (st.2.2.2.2.2.1) (st.2.2.2.2.2.2.1) (st.2.2.2.2.2.2.2.1) (st.2.2.2.2.2.2.2.2)) n (x4, x5, x6, c_days, c_to, c_stood, c_home, c_lost, c_out)
def DX9_bestDay (x1 : Int32) (x2 : Int32) (c_stands : Nat → Int32) (c_homeFar : Nat → Int32) (c_nets : Nat → Int32) (c_netAt : Nat → Int32) (c_netWide : Nat → Int32) (c_netFrom : Nat → Int32) (c_netTo : Nat → Int32) (c_priceX : Nat → Int32) (c_priceY : Nat → Int32) (c_many : Nat → Int32) (c_days : Nat → Int32) (c_aims : Nat → Int32) (c_speeds : Nat → Int32) (c_kinds : Nat → Int32) (c_to : Nat → Int32) (c_stood : Nat → Int32) (c_home : Nat → Int32) (c_lost : Nat → Int32) (c_out : Int32) : Option (Int32 × (Nat → Int32) × (Nat → Int32) × (Nat → Int32) × (Nat → Int32) × (Nat → Int32) × Int32) :=
  bd1 (DX9_isThrow x1 c_many) fun r_1 =>
  if r_1 = 0 then
  (some ((-1 : Int32), c_days, c_to, c_stood, c_home, c_lost, c_out))
  else
  (bd1 (DX9_in (x2.toInt64) (0 : Int64) (1 : Int64)) fun r_4 =>
  if r_4 = 0 then
  (some ((-1 : Int32), c_days, c_to, c_stood, c_home, c_lost, c_out))
  else
  (if x1 < 0 ∨ 28 ≤ x1.toNatClampNeg then none else
  bd8 (DX9_bestDay_L37 x1 c_stands c_homeFar c_nets c_netAt c_netWide c_netFrom c_netTo c_priceX c_priceY c_many c_aims c_speeds c_kinds FU (-4 : Int32) (0 : Int32) (0 : Int32) c_days c_to c_stood c_home c_lost c_out) fun z4_20 z5_21 k_days_22 k_to_23 k_stood_24 k_home_25 k_lost_26 k_out_27 =>
  if x1 < 0 ∨ 28 ≤ x1.toNatClampNeg then none else
  if 0 ≤ z4_20 then
  (if x2 = 0 then
  (some (z4_20, (upd k_days_22 x1.toNatClampNeg (c_days x1.toNatClampNeg)), k_to_23, k_stood_24, k_home_25, k_lost_26, k_out_27))
  else
  (some (z5_21, (upd k_days_22 x1.toNatClampNeg (c_days x1.toNatClampNeg)), k_to_23, k_stood_24, k_home_25, k_lost_26, k_out_27)))
  else
  (some ((-4 : Int32), (upd k_days_22 x1.toNatClampNeg (c_days x1.toNatClampNeg)), k_to_23, k_stood_24, k_home_25, k_lost_26, k_out_27))))
def DX9_net_J115 (c_netAt : Nat → Int32) (y0 : Int32) (x5 : Int32) (x6 : Int32) (x7 : Int32) : Option ((Int32 × Int32 × Int32 × (Nat → Int32)) ⊕ (Int32 × Int32 × (Nat → Int32))) :=
  if x7 ≤ x5 then
  (some (.inl (y0, x5, (x6 + (1 : Int32)), c_netAt)))
  else
  (some (.inl (y0, x7, (x6 + (1 : Int32)), c_netAt)))
def DX9_net_L79s (c_nets : Nat → Int32) (c_netWide : Nat → Int32) (c_netFrom : Nat → Int32) (c_netTo : Nat → Int32) (c_many : Nat → Int32) (c_days : Nat → Int32) (c_kinds : Nat → Int32) (c_to : Nat → Int32) (c_home : Nat → Int32) (c_lost : Nat → Int32) (x3 : Int32) (x4 : Int32) (x5 : Int32) (x6 : Int32) (c_netAt : Nat → Int32) : Option ((Int32 × Int32 × Int32 × (Nat → Int32)) ⊕ (Int32 × Int32 × (Nat → Int32))) :=
  if (24 : Int32) ≤ x6 then
  (some (.inr (x4, x5, c_netAt)))
  else
  (if x3 < 0 ∨ 12 ≤ x3.toNatClampNeg then none else
  bd1 (DX9_howMany (0 : Int32) c_nets (upd c_netAt x3.toNatClampNeg x6) c_netWide c_netFrom c_netTo c_many c_days c_kinds c_to c_home c_lost) fun r_18 =>
  if r_18 ≤ x5 then
  (DX9_net_J115 (upd c_netAt x3.toNatClampNeg x6) x4 x5 x6 r_18)
  else
  (DX9_net_J115 (upd c_netAt x3.toNatClampNeg x6) x6 x5 x6 r_18))
def DX9_net_L79 (c_nets : Nat → Int32) (c_netWide : Nat → Int32) (c_netFrom : Nat → Int32) (c_netTo : Nat → Int32) (c_many : Nat → Int32) (c_days : Nat → Int32) (c_kinds : Nat → Int32) (c_to : Nat → Int32) (c_home : Nat → Int32) (c_lost : Nat → Int32) (x3 : Int32) (n : Nat) (x4 : Int32) (x5 : Int32) (x6 : Int32) (c_netAt : Nat → Int32) : Option (Int32 × Int32 × (Nat → Int32)) := it (fun (st : Int32 × Int32 × Int32 × (Nat → Int32)) => DX9_net_L79s c_nets c_netWide c_netFrom c_netTo c_many c_days c_kinds c_to c_home c_lost x3 (st.1) (st.2.1) (st.2.2.1) (st.2.2.2)) n (x4, x5, x6, c_netAt)
def DX9_net (x1 : Int32) (x2 : Int32) (c_stands : Nat → Int32) (c_homeFar : Nat → Int32) (c_nets : Nat → Int32) (c_netAt : Nat → Int32) (c_netWide : Nat → Int32) (c_netFrom : Nat → Int32) (c_netTo : Nat → Int32) (c_many : Nat → Int32) (c_days : Nat → Int32) (c_aims : Nat → Int32) (c_speeds : Nat → Int32) (c_kinds : Nat → Int32) (c_to : Nat → Int32) (c_stood : Nat → Int32) (c_home : Nat → Int32) (c_lost : Nat → Int32) (c_out : Int32) : Option (Int32 × (Nat → Int32) × (Nat → Int32) × (Nat → Int32) × (Nat → Int32) × (Nat → Int32) × (Nat → Int32) × (Nat → Int32) × (Nat → Int32) × (Nat → Int32) × Int32) :=
  bd1 (DX9_in (x1.toInt64) (0 : Int64) (3 : Int64)) fun r_1 =>
  if r_1 = 0 then
  (some ((-1 : Int32), c_nets, c_netAt, c_netWide, c_netFrom, c_netTo, c_to, c_stood, c_home, c_lost, c_out))
  else
  (bd1 (DX9_in (x2.toInt64) (0 : Int64) (1 : Int64)) fun r_4 =>
  if r_4 = 0 then
  (some ((-1 : Int32), c_nets, c_netAt, c_netWide, c_netFrom, c_netTo, c_to, c_stood, c_home, c_lost, c_out))
  else
  (bd5 (DX9_go (0 : Int32) c_stands c_homeFar c_many c_days c_aims c_speeds c_kinds c_to c_stood c_home c_lost) fun k_to_7 k_stood_8 k_home_9 k_lost_10 k_out_11 =>
  if (c_nets (0 : Int32).toNatClampNeg) < 0 ∨ 12 ≤ (c_nets (0 : Int32).toNatClampNeg).toNatClampNeg then none else
  if (c_nets (0 : Int32).toNatClampNeg) < 0 ∨ 12 ≤ (c_nets (0 : Int32).toNatClampNeg).toNatClampNeg then none else
  if (c_nets (0 : Int32).toNatClampNeg) < 0 ∨ 12 ≤ (c_nets (0 : Int32).toNatClampNeg).toNatClampNeg then none else
  bd3 (DX9_net_L79 (upd c_nets (0 : Int32).toNatClampNeg ((c_nets (0 : Int32).toNatClampNeg) + (1 : Int32))) (upd c_netWide (c_nets (0 : Int32).toNatClampNeg).toNatClampNeg x1) (upd c_netFrom (c_nets (0 : Int32).toNatClampNeg).toNatClampNeg (0 : Int32)) (upd c_netTo (c_nets (0 : Int32).toNatClampNeg).toNatClampNeg (10000 : Int32)) c_many c_days c_kinds k_to_7 k_home_9 k_lost_10 (c_nets (0 : Int32).toNatClampNeg) FU (0 : Int32) (-4 : Int32) (0 : Int32) c_netAt) fun z4_22 z5_23 k_netAt_24 =>
  if x2 = 0 then
  (some (z4_22, (upd (upd c_nets (0 : Int32).toNatClampNeg ((c_nets (0 : Int32).toNatClampNeg) + (1 : Int32))) (0 : Int32).toNatClampNeg (((upd c_nets (0 : Int32).toNatClampNeg ((c_nets (0 : Int32).toNatClampNeg) + (1 : Int32))) (0 : Int32).toNatClampNeg) - (1 : Int32))), k_netAt_24, (upd c_netWide (c_nets (0 : Int32).toNatClampNeg).toNatClampNeg x1), (upd c_netFrom (c_nets (0 : Int32).toNatClampNeg).toNatClampNeg (0 : Int32)), (upd c_netTo (c_nets (0 : Int32).toNatClampNeg).toNatClampNeg (10000 : Int32)), k_to_7, k_stood_8, k_home_9, k_lost_10, k_out_11))
  else
  (some (z5_23, (upd (upd c_nets (0 : Int32).toNatClampNeg ((c_nets (0 : Int32).toNatClampNeg) + (1 : Int32))) (0 : Int32).toNatClampNeg (((upd c_nets (0 : Int32).toNatClampNeg ((c_nets (0 : Int32).toNatClampNeg) + (1 : Int32))) (0 : Int32).toNatClampNeg) - (1 : Int32))), k_netAt_24, (upd c_netWide (c_nets (0 : Int32).toNatClampNeg).toNatClampNeg x1), (upd c_netFrom (c_nets (0 : Int32).toNatClampNeg).toNatClampNeg (0 : Int32)), (upd c_netTo (c_nets (0 : Int32).toNatClampNeg).toNatClampNeg (10000 : Int32)), k_to_7, k_stood_8, k_home_9, k_lost_10, k_out_11))))
def DX9_bits_L4s  (x1 : Int32) (x2 : Int32) : Option ((Int32 × Int32) ⊕ (Int32)) :=
  if x2 = 0 then
  (some (.inr x1))
  else
  (some (.inl ((x1 + (1 : Int32)), (x2 &&& (x2 - (1 : Int32))))))
def DX9_bits_L4  (n : Nat) (x1 : Int32) (x2 : Int32) : Option (Int32) := it (fun (st : Int32 × Int32) => DX9_bits_L4s (st.1) (st.2)) n (x1, x2)
def DX9_bits (x0 : Int32) : Option (Int32) :=
  bd1 (DX9_bits_L4 FU (0 : Int32) x0) fun z1_2 =>
  some z1_2
def DX9_clear_L42s (c_many : Nat → Int32) (c_lost : Nat → Int32) (x3 : Int32) (x4 : Int32) : Option ((Int32 × Int32) ⊕ (Int32)) :=
  if (c_many (0 : Int32).toNatClampNeg) ≤ x4 then
  (some (.inr x3))
  else
  (if x3 = 0 then
  (some (.inl ((0 : Int32), (x4 + (1 : Int32)))))
  else
  (if x4 < 0 ∨ 7 ≤ x4.toNatClampNeg then none else
  if (c_lost x4.toNatClampNeg) = (10000 : Int32) then
  (some (.inl ((1 : Int32), (x4 + (1 : Int32)))))
  else
  (some (.inl ((0 : Int32), (x4 + (1 : Int32)))))))
def DX9_clear_L42 (c_many : Nat → Int32) (c_lost : Nat → Int32) (n : Nat) (x3 : Int32) (x4 : Int32) : Option (Int32) := it (fun (st : Int32 × Int32) => DX9_clear_L42s c_many c_lost (st.1) (st.2)) n (x3, x4)
def DX9_clear_L5s (c_stands : Nat → Int32) (c_homeFar : Nat → Int32) (c_many : Nat → Int32) (c_days : Nat → Int32) (c_aims : Nat → Int32) (c_speeds : Nat → Int32) (c_kinds : Nat → Int32) (x1 : Int32) (x2 : Int32) (c_to : Nat → Int32) (c_stood : Nat → Int32) (c_home : Nat → Int32) (c_lost : Nat → Int32) (c_out : Int32) : Option ((Int32 × Int32 × (Nat → Int32) × (Nat → Int32) × (Nat → Int32) × (Nat → Int32) × Int32) ⊕ (Int32 × (Nat → Int32) × (Nat → Int32) × (Nat → Int32) × (Nat → Int32) × Int32)) :=
  if ((1 : Int32) <<< ((c_many (0 : Int32).toNatClampNeg) &&& 31)) ≤ x2 then
  (some (.inr (x1, c_to, c_stood, c_home, c_lost, c_out)))
  else
  (if x1 < 0 then
  (bd5 (DX9_go x2 c_stands c_homeFar c_many c_days c_aims c_speeds c_kinds c_to c_stood c_home c_lost) fun k_to_3 k_stood_4 k_home_5 k_lost_6 k_out_7 =>
  bd1 (DX9_clear_L42 c_many k_lost_6 FU (1 : Int32) (0 : Int32)) fun z3_13 =>
  if z3_13 = 0 then
  (some (.inl (x1, (x2 + (1 : Int32)), k_to_3, k_stood_4, k_home_5, k_lost_6, k_out_7)))
  else
  (some (.inl (x2, (x2 + (1 : Int32)), k_to_3, k_stood_4, k_home_5, k_lost_6, k_out_7))))
  else
  (bd1 (DX9_bits x2) fun r_15 =>
  bd1 (DX9_bits x1) fun r_17 =>
  if r_17 ≤ r_15 then
  (some (.inl (x1, (x2 + (1 : Int32)), c_to, c_stood, c_home, c_lost, c_out)))
  else
  (bd5 (DX9_go x2 c_stands c_homeFar c_many c_days c_aims c_speeds c_kinds c_to c_stood c_home c_lost) fun k_to_20 k_stood_21 k_home_22 k_lost_23 k_out_24 =>
  bd1 (DX9_clear_L42 c_many k_lost_23 FU (1 : Int32) (0 : Int32)) fun z3_26 =>
  if z3_26 = 0 then
  (some (.inl (x1, (x2 + (1 : Int32)), k_to_20, k_stood_21, k_home_22, k_lost_23, k_out_24)))
  else
  (some (.inl (x2, (x2 + (1 : Int32)), k_to_20, k_stood_21, k_home_22, k_lost_23, k_out_24))))))
def DX9_clear_L5 (c_stands : Nat → Int32) (c_homeFar : Nat → Int32) (c_many : Nat → Int32) (c_days : Nat → Int32) (c_aims : Nat → Int32) (c_speeds : Nat → Int32) (c_kinds : Nat → Int32) (n : Nat) (x1 : Int32) (x2 : Int32) (c_to : Nat → Int32) (c_stood : Nat → Int32) (c_home : Nat → Int32) (c_lost : Nat → Int32) (c_out : Int32) : Option (Int32 × (Nat → Int32) × (Nat → Int32) × (Nat → Int32) × (Nat → Int32) × Int32) := it (fun (st : Int32 × Int32 × (Nat → Int32) × (Nat → Int32) × (Nat → Int32) × (Nat → Int32) × Int32) => DX9_clear_L5s c_stands c_homeFar c_many c_days c_aims c_speeds c_kinds (st.1) (st.2.1) (st.2.2.1) (st.2.2.2.1) (st.2.2.2.2.1) (st.2.2.2.2.2.1) (st.2.2.2.2.2.2)) n (x1, x2, c_to, c_stood, c_home, c_lost, c_out)
def DX9_clear (c_stands : Nat → Int32) (c_homeFar : Nat → Int32) (c_many : Nat → Int32) (c_days : Nat → Int32) (c_aims : Nat → Int32) (c_speeds : Nat → Int32) (c_kinds : Nat → Int32) (c_to : Nat → Int32) (c_stood : Nat → Int32) (c_home : Nat → Int32) (c_lost : Nat → Int32) (c_out : Int32) : Option (Int32 × (Nat → Int32) × (Nat → Int32) × (Nat → Int32) × (Nat → Int32) × Int32) :=
  bd6 (DX9_clear_L5 c_stands c_homeFar c_many c_days c_aims c_speeds c_kinds FU (-4 : Int32) (0 : Int32) c_to c_stood c_home c_lost c_out) fun z1_28 k_to_29 k_stood_30 k_home_31 k_lost_32 k_out_33 =>
  some (z1_28, k_to_29, k_stood_30, k_home_31, k_lost_32, k_out_33)
def DX9_stray_J104 (y0 : Int32) (x4 : Int32) (x5 : Int32) : Option ((Int32 × Int32) ⊕ (Int32)) :=
  if y0 = 0 then
  (some (.inl ((x4 ||| (0 : Int32)), (x5 + (1 : Int32)))))
  else
  (some (.inl ((x4 ||| ((1 : Int32) <<< (x5 &&& 31))), (x5 + (1 : Int32)))))
def DX9_stray_L44s (x1 : Int32) (x2 : Int32) (x3 : Int32) (c_many : Nat → Int32) (c_days : Nat → Int32) (c_speeds : Nat → Int32) (c_to : Nat → Int32) (c_home : Nat → Int32) (x4 : Int32) (x5 : Int32) : Option ((Int32 × Int32) ⊕ (Int32)) :=
  if (c_many (0 : Int32).toNatClampNeg) ≤ x5 then
  (some (.inr x4))
  else
  (if x5 < 0 ∨ 28 ≤ x5.toNatClampNeg then none else
  if x3 < (c_days x5.toNatClampNeg) then
  (DX9_stray_J104 (0 : Int32) x4 x5)
  else
  (if x5 < 0 ∨ 7 ≤ x5.toNatClampNeg then none else
  if (c_home x5.toNatClampNeg) ≤ x3 then
  (DX9_stray_J104 (0 : Int32) x4 x5)
  else
  (if x5 < 0 ∨ 7 ≤ x5.toNatClampNeg then none else
  if (c_to x5.toNatClampNeg) = x2 then
  (bd1 (DX9_farOf x5 x3 c_days c_speeds) fun r_24 =>
  if r_24 = x1 then
  (DX9_stray_J104 (1 : Int32) x4 x5)
  else
  (DX9_stray_J104 (0 : Int32) x4 x5))
  else
  (DX9_stray_J104 (0 : Int32) x4 x5))))
def DX9_stray_L44 (x1 : Int32) (x2 : Int32) (x3 : Int32) (c_many : Nat → Int32) (c_days : Nat → Int32) (c_speeds : Nat → Int32) (c_to : Nat → Int32) (c_home : Nat → Int32) (n : Nat) (x4 : Int32) (x5 : Int32) : Option (Int32) := it (fun (st : Int32 × Int32) => DX9_stray_L44s x1 x2 x3 c_many c_days c_speeds c_to c_home (st.1) (st.2)) n (x4, x5)
def DX9_stray (x1 : Int32) (x2 : Int32) (x3 : Int32) (c_stands : Nat → Int32) (c_homeFar : Nat → Int32) (c_many : Nat → Int32) (c_days : Nat → Int32) (c_aims : Nat → Int32) (c_speeds : Nat → Int32) (c_kinds : Nat → Int32) (c_to : Nat → Int32) (c_stood : Nat → Int32) (c_home : Nat → Int32) (c_lost : Nat → Int32) (c_out : Int32) : Option (Int32 × (Nat → Int32) × (Nat → Int32) × (Nat → Int32) × (Nat → Int32) × Int32) :=
  bd1 (DX9_in (x1.toInt64) (0 : Int64) (60 : Int64)) fun r_1 =>
  if r_1 = 0 then
  (some ((-1 : Int32), c_to, c_stood, c_home, c_lost, c_out))
  else
  (bd1 (DX9_in (x2.toInt64) (0 : Int64) (23 : Int64)) fun r_4 =>
  if r_4 = 0 then
  (some ((-1 : Int32), c_to, c_stood, c_home, c_lost, c_out))
  else
  (bd1 (DX9_isDay x3) fun r_7 =>
  if r_7 = 0 then
  (some ((-1 : Int32), c_to, c_stood, c_home, c_lost, c_out))
  else
  (bd5 (DX9_go (0 : Int32) c_stands c_homeFar c_many c_days c_aims c_speeds c_kinds c_to c_stood c_home c_lost) fun k_to_10 k_stood_11 k_home_12 k_lost_13 k_out_14 =>
  bd1 (DX9_stray_L44 x1 x2 x3 c_many c_days c_speeds k_to_10 k_home_12 FU (0 : Int32) (0 : Int32)) fun z4_27 =>
  some (z4_27, k_to_10, k_stood_11, k_home_12, k_lost_13, k_out_14))))
def DX9_isMeeter_L51s (x1 : Int32) (x2 : Int32) (x3 : Int32) (c_days : Nat → Int32) (c_speeds : Nat → Int32) (x4 : Int32) (x5 : Int32) (x6 : Int32) (x7 : Int32) : Option ((Int32 × Int32) ⊕ (Int32)) :=
  if x4 ≤ x7 then
  (some (.inr x6))
  else
  (if x5 ≤ x7 then
  (some (.inr x6))
  else
  (if x6 = 0 then
  (bd1 (DX9_farOf x1 x7 c_days c_speeds) fun r_13 =>
  if r_13 = (x3 * (x7 - x2)) then
  (some (.inl ((1 : Int32), (x7 + (1 : Int32)))))
  else
  (some (.inl ((0 : Int32), (x7 + (1 : Int32))))))
  else
  (some (.inl ((1 : Int32), (x7 + (1 : Int32)))))))
def DX9_isMeeter_L51 (x1 : Int32) (x2 : Int32) (x3 : Int32) (c_days : Nat → Int32) (c_speeds : Nat → Int32) (x4 : Int32) (x5 : Int32) (n : Nat) (x6 : Int32) (x7 : Int32) : Option (Int32) := it (fun (st : Int32 × Int32) => DX9_isMeeter_L51s x1 x2 x3 c_days c_speeds x4 x5 (st.1) (st.2)) n (x6, x7)
def DX9_isMeeter (x1 : Int32) (x2 : Int32) (x3 : Int32) (c_homeFar : Nat → Int32) (c_days : Nat → Int32) (c_speeds : Nat → Int32) : Option (Int32) :=
  if x1 < 0 ∨ 28 ≤ x1.toNatClampNeg then none else
  if x1 < 0 ∨ 28 ≤ x1.toNatClampNeg then none else
  bd1 (DX9_homeDay (c_days x1.toNatClampNeg) (c_speeds x1.toNatClampNeg) c_homeFar) fun r_3 =>
  bd1 (DX9_homeDay x2 x3 c_homeFar) fun r_5 =>
  if x1 < 0 ∨ 28 ≤ x1.toNatClampNeg then none else
  if x2 ≤ (c_days x1.toNatClampNeg) then
  (if x1 < 0 ∨ 28 ≤ x1.toNatClampNeg then none else
  bd1 (DX9_isMeeter_L51 x1 x2 x3 c_days c_speeds r_3 r_5 FU (0 : Int32) (c_days x1.toNatClampNeg)) fun z6_16 =>
  if ¬ (z6_16 = 0 ∨ z6_16 = 1) then none else
  some z6_16)
  else
  (bd1 (DX9_isMeeter_L51 x1 x2 x3 c_days c_speeds r_3 r_5 FU (0 : Int32) x2) fun z6_18 =>
  if ¬ (z6_18 = 0 ∨ z6_18 = 1) then none else
  some z6_18)
def DX9_meeters_L39s (x1 : Int32) (c_homeFar : Nat → Int32) (c_days : Nat → Int32) (c_speeds : Nat → Int32) (x5 : Int32) (x3 : Int32) (x4 : Int32) (x6 : Int32) : Option ((Int32 × Int32 × Int32) ⊕ (Int32 × Int32)) :=
  if (6 : Int32) < x6 then
  (some (.inr (x3, x4)))
  else
  (bd1 (DX9_isMeeter x1 x5 x6 c_homeFar c_days c_speeds) fun r_9 =>
  if r_9 = 0 then
  (some (.inl (x3, x4, (x6 + (1 : Int32)))))
  else
  (if x3 = 0 then
  (some (.inl ((x3 + (1 : Int32)), (((10 : Int32) * x5) + x6), (x6 + (1 : Int32)))))
  else
  (some (.inl ((x3 + (1 : Int32)), x4, (x6 + (1 : Int32)))))))
def DX9_meeters_L39 (x1 : Int32) (c_homeFar : Nat → Int32) (c_days : Nat → Int32) (c_speeds : Nat → Int32) (x5 : Int32) (n : Nat) (x3 : Int32) (x4 : Int32) (x6 : Int32) : Option (Int32 × Int32) := it (fun (st : Int32 × Int32 × Int32) => DX9_meeters_L39s x1 c_homeFar c_days c_speeds x5 (st.1) (st.2.1) (st.2.2)) n (x3, x4, x6)
def DX9_meeters_L29s (x1 : Int32) (c_homeFar : Nat → Int32) (c_days : Nat → Int32) (c_speeds : Nat → Int32) (x3 : Int32) (x4 : Int32) (x5 : Int32) : Option ((Int32 × Int32 × Int32) ⊕ (Int32 × Int32)) :=
  if (40 : Int32) < x5 then
  (some (.inr (x3, x4)))
  else
  (bd2 (DX9_meeters_L39 x1 c_homeFar c_days c_speeds x5 FU x3 x4 (1 : Int32)) fun z3_13 z4_14 =>
  some (.inl (z3_13, z4_14, (x5 + (1 : Int32)))))
def DX9_meeters_L29 (x1 : Int32) (c_homeFar : Nat → Int32) (c_days : Nat → Int32) (c_speeds : Nat → Int32) (n : Nat) (x3 : Int32) (x4 : Int32) (x5 : Int32) : Option (Int32 × Int32) := it (fun (st : Int32 × Int32 × Int32) => DX9_meeters_L29s x1 c_homeFar c_days c_speeds (st.1) (st.2.1) (st.2.2)) n (x3, x4, x5)
def DX9_meeters (x1 : Int32) (x2 : Int32) (c_homeFar : Nat → Int32) (c_many : Nat → Int32) (c_days : Nat → Int32) (c_speeds : Nat → Int32) : Option (Int32) :=
  bd1 (DX9_isThrow x1 c_many) fun r_1 =>
  if r_1 = 0 then
  (some (-1 : Int32))
  else
  (bd1 (DX9_in (x2.toInt64) (0 : Int64) (1 : Int64)) fun r_4 =>
  if r_4 = 0 then
  (some (-1 : Int32))
  else
  (bd2 (DX9_meeters_L29 x1 c_homeFar c_days c_speeds FU (0 : Int32) (-4 : Int32) (0 : Int32)) fun z3_15 z4_16 =>
  if x2 = 0 then
  (some z3_15)
  else
  (some z4_16)))
def DX9_stand_L39s (x1 : Int32) (x4 : Int32) (c_fewest : Nat → Int32) : Option ((Int32 × (Nat → Int32)) ⊕ ((Nat → Int32))) :=
  if (24 : Int32) ≤ x4 then
  (some (.inr c_fewest))
  else
  (if x4 = x1 then
  (if x4 < 0 ∨ 24 ≤ x4.toNatClampNeg then none else
  some (.inl ((x4 + (1 : Int32)), (upd c_fewest x4.toNatClampNeg (0 : Int32)))))
  else
  (if x4 < 0 ∨ 24 ≤ x4.toNatClampNeg then none else
  some (.inl ((x4 + (1 : Int32)), (upd c_fewest x4.toNatClampNeg (10000 : Int32))))))
def DX9_stand_L39 (x1 : Int32) (n : Nat) (x4 : Int32) (c_fewest : Nat → Int32) : Option ((Nat → Int32)) := it (fun (st : Int32 × (Nat → Int32)) => DX9_stand_L39s x1 (st.1) (st.2)) n (x4, c_fewest)
def DX9_stand_J134 (c_fewest : Nat → Int32) (y0 : Int32) (x5 : Int32) (x6 : Int32) : Option ((Int32 × (Nat → Int32)) ⊕ ((Nat → Int32))) :=
  if x5 < 0 ∨ 24 ≤ x5.toNatClampNeg then none else
  if (c_fewest x5.toNatClampNeg) ≤ y0 then
  (if x5 < 0 ∨ 24 ≤ x5.toNatClampNeg then none else
  if x5 < 0 ∨ 24 ≤ x5.toNatClampNeg then none else
  some (.inl ((x6 + (1 : Int32)), (upd c_fewest x5.toNatClampNeg (c_fewest x5.toNatClampNeg)))))
  else
  (if x5 < 0 ∨ 24 ≤ x5.toNatClampNeg then none else
  some (.inl ((x6 + (1 : Int32)), (upd c_fewest x5.toNatClampNeg y0))))
def DX9_stand_L95s (x2 : Int32) (x5 : Int32) (x6 : Int32) (c_fewest : Nat → Int32) : Option ((Int32 × (Nat → Int32)) ⊕ ((Nat → Int32))) :=
  if (6 : Int32) < x6 then
  (some (.inr c_fewest))
  else
  (bd1 (DX9_has x2 (x6 - (1 : Int32))) fun r_18 =>
  if r_18 = 0 then
  (DX9_stand_J134 c_fewest (10000 : Int32) x5 x6)
  else
  (bd1 (DX9_around (x5 - x6)) fun r_26 =>
  if r_26 < 0 ∨ 24 ≤ r_26.toNatClampNeg then none else
  DX9_stand_J134 c_fewest ((c_fewest r_26.toNatClampNeg) + (1 : Int32)) x5 x6))
def DX9_stand_L95 (x2 : Int32) (x5 : Int32) (n : Nat) (x6 : Int32) (c_fewest : Nat → Int32) : Option ((Nat → Int32)) := it (fun (st : Int32 × (Nat → Int32)) => DX9_stand_L95s x2 x5 (st.1) (st.2)) n (x6, c_fewest)
def DX9_stand_L85s (x2 : Int32) (x5 : Int32) (c_fewest : Nat → Int32) : Option ((Int32 × (Nat → Int32)) ⊕ ((Nat → Int32))) :=
  if (24 : Int32) ≤ x5 then
  (some (.inr c_fewest))
  else
  (bd1 (DX9_stand_L95 x2 x5 FU (1 : Int32) c_fewest) fun k_fewest_29 =>
  some (.inl ((x5 + (1 : Int32)), k_fewest_29)))
def DX9_stand_L85 (x2 : Int32) (n : Nat) (x5 : Int32) (c_fewest : Nat → Int32) : Option ((Nat → Int32)) := it (fun (st : Int32 × (Nat → Int32)) => DX9_stand_L85s x2 (st.1) (st.2)) n (x5, c_fewest)
def DX9_stand_L75s (x2 : Int32) (x4 : Int32) (c_fewest : Nat → Int32) : Option ((Int32 × (Nat → Int32)) ⊕ ((Nat → Int32))) :=
  if (24 : Int32) ≤ x4 then
  (some (.inr c_fewest))
  else
  (bd1 (DX9_stand_L85 x2 FU (0 : Int32) c_fewest) fun k_fewest_30 =>
  some (.inl ((x4 + (1 : Int32)), k_fewest_30)))
def DX9_stand_L75 (x2 : Int32) (n : Nat) (x4 : Int32) (c_fewest : Nat → Int32) : Option ((Nat → Int32)) := it (fun (st : Int32 × (Nat → Int32)) => DX9_stand_L75s x2 (st.1) (st.2)) n (x4, c_fewest)
def DX9_stand_L229s (x2 : Int32) (c_to : Nat → Int32) (c_stood : Nat → Int32) (c_out : Int32) (c_fewest : Nat → Int32) (x4 : Int32) (x5 : Int32) : Option ((Int32) ⊕ ((Unit) ⊕ (Int32 × (Nat → Int32) × (Nat → Int32) × Int32 × (Nat → Int32)))) :=
  if (6 : Int32) < x5 then
  (some (.inr (.inl ())))
  else
  (bd1 (DX9_has x2 (x5 - (1 : Int32))) fun r_40 =>
  if r_40 = 0 then
  (some (.inl (x5 + (1 : Int32))))
  else
  (if x4 < 0 ∨ 24 ≤ x4.toNatClampNeg then none else
  if (c_fewest x4.toNatClampNeg) ≤ 0 then
  (some (.inl (x5 + (1 : Int32))))
  else
  (bd1 (DX9_around (x4 - x5)) fun r_45 =>
  if r_45 < 0 ∨ 24 ≤ r_45.toNatClampNeg then none else
  if x4 < 0 ∨ 24 ≤ x4.toNatClampNeg then none else
  if (c_fewest r_45.toNatClampNeg) = ((c_fewest x4.toNatClampNeg) - (1 : Int32)) then
  (some (.inr (.inr (x5, c_to, c_stood, c_out, c_fewest))))
  else
  (some (.inl (x5 + (1 : Int32)))))))
def DX9_stand_L229 (x2 : Int32) (c_to : Nat → Int32) (c_stood : Nat → Int32) (c_out : Int32) (c_fewest : Nat → Int32) (x4 : Int32) (n : Nat) (x5 : Int32) : Option ((Unit) ⊕ (Int32 × (Nat → Int32) × (Nat → Int32) × Int32 × (Nat → Int32))) := it (fun (st : Int32) => DX9_stand_L229s x2 c_to c_stood c_out c_fewest x4 st) n x5
def DX9_stand (x1 : Int32) (x2 : Int32) (x3 : Int32) (c_stands : Nat → Int32) (c_many : Nat → Int32) (c_days : Nat → Int32) (c_aims : Nat → Int32) (c_speeds : Nat → Int32) (c_kinds : Nat → Int32) (c_to : Nat → Int32) (c_stood : Nat → Int32) (c_out : Int32) (c_fewest : Nat → Int32) : Option (Int32 × (Nat → Int32) × (Nat → Int32) × Int32 × (Nat → Int32)) :=
  bd1 (DX9_in (x1.toInt64) (0 : Int64) (23 : Int64)) fun r_1 =>
  if r_1 = 0 then
  (some ((-1 : Int32), c_to, c_stood, c_out, c_fewest))
  else
  (bd1 (DX9_in (x2.toInt64) (1 : Int64) (63 : Int64)) fun r_4 =>
  if r_4 = 0 then
  (some ((-1 : Int32), c_to, c_stood, c_out, c_fewest))
  else
  (bd1 (DX9_in (x3.toInt64) (0 : Int64) (1 : Int64)) fun r_7 =>
  if r_7 = 0 then
  (some ((-1 : Int32), c_to, c_stood, c_out, c_fewest))
  else
  (bd1 (DX9_stand_L39 x1 FU (0 : Int32) c_fewest) fun k_fewest_14 =>
  bd1 (DX9_stand_L75 x2 FU (0 : Int32) k_fewest_14) fun k_fewest_31 =>
  bd3 (DX9_turnTo (40 : Int32) c_stands c_many c_days c_aims c_speeds c_kinds c_to c_stood (0 : Int32)) fun r_32 k_to_33 k_stood_34 =>
  if r_32 < 0 ∨ 24 ≤ r_32.toNatClampNeg then none else
  if (k_fewest_31 r_32.toNatClampNeg) < (10000 : Int32) then
  (if x3 = 0 then
  (if r_32 < 0 ∨ 24 ≤ r_32.toNatClampNeg then none else
  some ((k_fewest_31 r_32.toNatClampNeg), k_to_33, k_stood_34, (0 : Int32), k_fewest_31))
  else
  (el0 (DX9_stand_L229 x2 k_to_33 k_stood_34 (0 : Int32) k_fewest_31 r_32 FU (1 : Int32)) (
  some ((-4 : Int32), k_to_33, k_stood_34, (0 : Int32), k_fewest_31)) (fun r => some r)))
  else
  (some ((-4 : Int32), k_to_33, k_stood_34, (0 : Int32), k_fewest_31)))))
def DX9_odds_L41s  (x4 : Int32) (c_ways : Nat → Int64) : Option ((Int32 × (Nat → Int64)) ⊕ ((Nat → Int64))) :=
  if (21 : Int32) ≤ x4 then
  (some (.inr c_ways))
  else
  (if x4 = (10 : Int32) then
  (if x4 < 0 ∨ 21 ≤ x4.toNatClampNeg then none else
  some (.inl ((x4 + (1 : Int32)), (vp_updL c_ways x4.toNatClampNeg (1 : Int64)))))
  else
  (if x4 < 0 ∨ 21 ≤ x4.toNatClampNeg then none else
  some (.inl ((x4 + (1 : Int32)), (vp_updL c_ways x4.toNatClampNeg (0 : Int64))))))
def DX9_odds_L41  (n : Nat) (x4 : Int32) (c_ways : Nat → Int64) : Option ((Nat → Int64)) := it (fun (st : Int32 × (Nat → Int64)) => DX9_odds_L41s (st.1) (st.2)) n (x4, c_ways)
def DX9_odds_L88s (x2 : Int32) (c_ways : Nat → Int64) (x7 : Int32) (c_next : Nat → Int64) : Option ((Int32 × (Nat → Int64)) ⊕ ((Nat → Int64))) :=
  if (20 : Int32) ≤ x7 then
  (some (.inr c_next))
  else
  (if (x7 - (1 : Int32)) < 0 ∨ 21 ≤ (x7 - (1 : Int32)).toNatClampNeg then none else
  if (x7 + (1 : Int32)) < 0 ∨ 21 ≤ (x7 + (1 : Int32)).toNatClampNeg then none else
  if x7 < 0 ∨ 21 ≤ x7.toNatClampNeg then none else
  some (.inl ((x7 + (1 : Int32)), (vp_updL c_next x7.toNatClampNeg (((c_ways (x7 - (1 : Int32)).toNatClampNeg) * (x2.toInt64)) + ((c_ways (x7 + (1 : Int32)).toNatClampNeg) * (((10 : Int32) - x2).toInt64)))))))
def DX9_odds_L88 (x2 : Int32) (c_ways : Nat → Int64) (n : Nat) (x7 : Int32) (c_next : Nat → Int64) : Option ((Nat → Int64)) := it (fun (st : Int32 × (Nat → Int64)) => DX9_odds_L88s x2 c_ways (st.1) (st.2)) n (x7, c_next)
def DX9_odds_L139s (c_next : Nat → Int64) (x7 : Int32) (c_ways : Nat → Int64) : Option ((Int32 × (Nat → Int64)) ⊕ ((Nat → Int64))) :=
  if (20 : Int32) ≤ x7 then
  (some (.inr c_ways))
  else
  (if x7 < 0 ∨ 21 ≤ x7.toNatClampNeg then none else
  if x7 < 0 ∨ 21 ≤ x7.toNatClampNeg then none else
  some (.inl ((x7 + (1 : Int32)), (vp_updL c_ways x7.toNatClampNeg (c_next x7.toNatClampNeg)))))
def DX9_odds_L139 (c_next : Nat → Int64) (n : Nat) (x7 : Int32) (c_ways : Nat → Int64) : Option ((Nat → Int64)) := it (fun (st : Int32 × (Nat → Int64)) => DX9_odds_L139s c_next (st.1) (st.2)) n (x7, c_ways)
def DX9_odds_L79s (x1 : Int32) (x2 : Int32) (x4 : Int64) (x6 : Int32) (c_ways : Nat → Int64) (c_next : Nat → Int64) : Option ((Int64 × Int32 × (Nat → Int64) × (Nat → Int64)) ⊕ (Int64 × (Nat → Int64) × (Nat → Int64))) :=
  if x1 ≤ x6 then
  (some (.inr (x4, c_ways, c_next)))
  else
  (bd1 (DX9_odds_L88 x2 c_ways FU (1 : Int32) c_next) fun k_next_20 =>
  bd1 (DX9_odds_L139 k_next_20 FU (1 : Int32) c_ways) fun k_ways_24 =>
  some (.inl ((x4 * (10 : Int64)), (x6 + (1 : Int32)), k_ways_24, k_next_20)))
def DX9_odds_L79 (x1 : Int32) (x2 : Int32) (n : Nat) (x4 : Int64) (x6 : Int32) (c_ways : Nat → Int64) (c_next : Nat → Int64) : Option (Int64 × (Nat → Int64) × (Nat → Int64)) := it (fun (st : Int64 × Int32 × (Nat → Int64) × (Nat → Int64)) => DX9_odds_L79s x1 x2 (st.1) (st.2.1) (st.2.2.1) (st.2.2.2)) n (x4, x6, c_ways, c_next)
def DX9_odds_L187s (c_ways : Nat → Int64) (x6 : Int64) (x8 : Int32) : Option ((Int64 × Int32) ⊕ (Int64)) :=
  if (20 : Int32) ≤ x8 then
  (some (.inr x6))
  else
  (if x8 < 0 ∨ 21 ≤ x8.toNatClampNeg then none else
  some (.inl ((x6 + (c_ways x8.toNatClampNeg)), (x8 + (1 : Int32)))))
def DX9_odds_L187 (c_ways : Nat → Int64) (n : Nat) (x6 : Int64) (x8 : Int32) : Option (Int64) := it (fun (st : Int64 × Int32) => DX9_odds_L187s c_ways (st.1) (st.2)) n (x6, x8)
def DX9_odds_L220s  (x8 : Int64) (x10 : Int64) : Option ((Int64 × Int64) ⊕ (Int64)) :=
  if (lg_cmp x10 (0 : Int64)) = 0 then
  (some (.inr x8))
  else
  (if x10 = 0 then none else
  some (.inl (x10, (x8 - x8 / x10 * x10))))
def DX9_odds_L220  (n : Nat) (x8 : Int64) (x10 : Int64) : Option (Int64) := it (fun (st : Int64 × Int64) => DX9_odds_L220s (st.1) (st.2)) n (x8, x10)
def DX9_odds (x1 : Int32) (x2 : Int32) (x3 : Int32) (c_ways : Nat → Int64) (c_next : Nat → Int64) : Option (Int64 × (Nat → Int64) × (Nat → Int64)) :=
  bd1 (DX9_in (x1.toInt64) (0 : Int64) (9 : Int64)) fun r_1 =>
  if r_1 = 0 then
  (some ((-1 : Int64), c_ways, c_next))
  else
  (bd1 (DX9_in (x2.toInt64) (0 : Int64) (10 : Int64)) fun r_4 =>
  if r_4 = 0 then
  (some ((-1 : Int64), c_ways, c_next))
  else
  (bd1 (DX9_in (x3.toInt64) (0 : Int64) (1 : Int64)) fun r_7 =>
  if r_7 = 0 then
  (some ((-1 : Int64), c_ways, c_next))
  else
  (bd1 (DX9_odds_L41 FU (0 : Int32) c_ways) fun k_ways_14 =>
  bd3 (DX9_odds_L79 x1 x2 FU (1 : Int64) (0 : Int32) k_ways_14 c_next) fun z4_25 k_ways_26 k_next_27 =>
  bd1 (DX9_odds_L187 k_ways_26 FU (0 : Int64) (10 : Int32)) fun z6_30 =>
  bd1 (DX9_odds_L220 FU z6_30 z4_25) fun z8_33 =>
  if x3 = 0 then
  (if z8_33 = 0 then none else
  some ((z6_30 / z8_33), k_ways_26, k_next_27))
  else
  (if z8_33 = 0 then none else
  some ((z4_25 / z8_33), k_ways_26, k_next_27)))))
def DX9_year_L28s (x1 : Int32) (c_many : Nat → Int32) (x3 : Int32) (c_aims : Nat → Int32) (c_held : Nat → Int32) : Option ((Int32 × (Nat → Int32) × (Nat → Int32)) ⊕ ((Nat → Int32) × (Nat → Int32))) :=
  if (c_many (0 : Int32).toNatClampNeg) ≤ x3 then
  (some (.inr (c_aims, c_held)))
  else
  (if x3 < 0 ∨ 28 ≤ x3.toNatClampNeg then none else
  if x3 < 0 ∨ 7 ≤ x3.toNatClampNeg then none else
  if x3 < 0 ∨ 28 ≤ x3.toNatClampNeg then none else
  some (.inl ((x3 + (1 : Int32)), (upd c_aims x3.toNatClampNeg ((((((((7919 : Int64) * (x1.toInt64)) + ((6151 : Int64) * (x3.toInt64))) + (1 : Int64)) * ((((7919 : Int64) * (x1.toInt64)) + ((6151 : Int64) * (x3.toInt64))) + (1 : Int64))) - (((((7919 : Int64) * (x1.toInt64)) + ((6151 : Int64) * (x3.toInt64))) + (1 : Int64)) * ((((7919 : Int64) * (x1.toInt64)) + ((6151 : Int64) * (x3.toInt64))) + (1 : Int64))) / (65521 : Int64) * (65521 : Int64)) - ((((((7919 : Int64) * (x1.toInt64)) + ((6151 : Int64) * (x3.toInt64))) + (1 : Int64)) * ((((7919 : Int64) * (x1.toInt64)) + ((6151 : Int64) * (x3.toInt64))) + (1 : Int64))) - (((((7919 : Int64) * (x1.toInt64)) + ((6151 : Int64) * (x3.toInt64))) + (1 : Int64)) * ((((7919 : Int64) * (x1.toInt64)) + ((6151 : Int64) * (x3.toInt64))) + (1 : Int64))) / (65521 : Int64) * (65521 : Int64)) / (24 : Int64) * (24 : Int64)).toInt32)), (upd c_held x3.toNatClampNeg (c_aims x3.toNatClampNeg)))))
def DX9_year_L28 (x1 : Int32) (c_many : Nat → Int32) (n : Nat) (x3 : Int32) (c_aims : Nat → Int32) (c_held : Nat → Int32) : Option ((Nat → Int32) × (Nat → Int32)) := it (fun (st : Int32 × (Nat → Int32) × (Nat → Int32)) => DX9_year_L28s x1 c_many (st.1) (st.2.1) (st.2.2)) n (x3, c_aims, c_held)
def DX9_year_L132s (c_many : Nat → Int32) (c_held : Nat → Int32) (x4 : Int32) (c_aims : Nat → Int32) : Option ((Int32 × (Nat → Int32)) ⊕ ((Nat → Int32))) :=
  if (c_many (0 : Int32).toNatClampNeg) ≤ x4 then
  (some (.inr c_aims))
  else
  (if x4 < 0 ∨ 7 ≤ x4.toNatClampNeg then none else
  if x4 < 0 ∨ 28 ≤ x4.toNatClampNeg then none else
  some (.inl ((x4 + (1 : Int32)), (upd c_aims x4.toNatClampNeg (c_held x4.toNatClampNeg)))))
def DX9_year_L132 (c_many : Nat → Int32) (c_held : Nat → Int32) (n : Nat) (x4 : Int32) (c_aims : Nat → Int32) : Option ((Nat → Int32)) := it (fun (st : Int32 × (Nat → Int32)) => DX9_year_L132s c_many c_held (st.1) (st.2)) n (x4, c_aims)
def DX9_year (x1 : Int32) (x2 : Int32) (c_stands : Nat → Int32) (c_homeFar : Nat → Int32) (c_nets : Nat → Int32) (c_netAt : Nat → Int32) (c_netWide : Nat → Int32) (c_netFrom : Nat → Int32) (c_netTo : Nat → Int32) (c_priceX : Nat → Int32) (c_priceY : Nat → Int32) (c_many : Nat → Int32) (c_days : Nat → Int32) (c_aims : Nat → Int32) (c_speeds : Nat → Int32) (c_kinds : Nat → Int32) (c_to : Nat → Int32) (c_stood : Nat → Int32) (c_home : Nat → Int32) (c_lost : Nat → Int32) (c_out : Int32) (c_held : Nat → Int32) : Option (Int32 × (Nat → Int32) × (Nat → Int32) × (Nat → Int32) × (Nat → Int32) × (Nat → Int32) × Int32 × (Nat → Int32)) :=
  bd1 (DX9_in (x1.toInt64) (0 : Int64) (9999 : Int64)) fun r_1 =>
  if r_1 = 0 then
  (some ((-1 : Int32), c_aims, c_to, c_stood, c_home, c_lost, c_out, c_held))
  else
  (bd1 (DX9_in (x2.toInt64) (0 : Int64) (2 : Int64)) fun r_4 =>
  if r_4 = 0 then
  (some ((-1 : Int32), c_aims, c_to, c_stood, c_home, c_lost, c_out, c_held))
  else
  (bd2 (DX9_year_L28 x1 c_many FU (0 : Int32) c_aims c_held) fun k_aims_11 k_held_12 =>
  bd5 (DX9_go (0 : Int32) c_stands c_homeFar c_many c_days k_aims_11 c_speeds c_kinds c_to c_stood c_home c_lost) fun k_to_13 k_stood_14 k_home_15 k_lost_16 k_out_17 =>
  if x2 = 0 then
  (bd1 (DX9_howMany (0 : Int32) c_nets c_netAt c_netWide c_netFrom c_netTo c_many c_days c_kinds k_to_13 k_home_15 k_lost_16) fun r_32 =>
  bd1 (DX9_year_L132 c_many k_held_12 FU (0 : Int32) k_aims_11) fun k_aims_34 =>
  some (r_32, k_aims_34, k_to_13, k_stood_14, k_home_15, k_lost_16, k_out_17, k_held_12))
  else
  (if x2 = (1 : Int32) then
  (bd1 (DX9_paidAll c_nets c_netAt c_netWide c_netFrom c_netTo c_priceX c_priceY c_many c_days c_kinds k_to_13 k_home_15 k_lost_16) fun r_29 =>
  bd1 (DX9_year_L132 c_many k_held_12 FU (0 : Int32) k_aims_11) fun k_aims_31 =>
  some (r_29, k_aims_31, k_to_13, k_stood_14, k_home_15, k_lost_16, k_out_17, k_held_12))
  else
  (bd3 (DX9_turnTo (40 : Int32) c_stands c_many c_days k_aims_11 c_speeds c_kinds k_to_13 k_stood_14 k_out_17) fun r_21 k_to_22 k_stood_23 =>
  bd1 (DX9_year_L132 c_many k_held_12 FU (0 : Int32) k_aims_11) fun k_aims_28 =>
  some (r_21, k_aims_28, k_to_22, k_stood_23, k_home_15, k_lost_16, k_out_17, k_held_12)))))
def DX9_keep (c_many : Nat → Int32) (c_days : Nat → Int32) (c_aims : Nat → Int32) (c_speeds : Nat → Int32) (c_kinds : Nat → Int32) (c_keptMany : Int32) : Option (Int32 × (Nat → Int32) × (Nat → Int32) × (Nat → Int32) × (Nat → Int32) × (Nat → Int32) × Int32) :=
  if c_keptMany = (2 : Int32) then
  (some ((-3 : Int32), c_many, c_days, c_aims, c_speeds, c_kinds, c_keptMany))
  else
  (bd5 (DX9_copy (0 : Int32) ((1 : Int32) + (c_keptMany + (1 : Int32))) c_many c_days c_aims c_speeds c_kinds) fun k_many_2 k_days_3 k_aims_4 k_speeds_5 k_kinds_6 =>
  some ((c_keptMany + (1 : Int32)), k_many_2, k_days_3, k_aims_4, k_speeds_5, k_kinds_6, (c_keptMany + (1 : Int32))))
def DX9_back (c_many : Nat → Int32) (c_days : Nat → Int32) (c_aims : Nat → Int32) (c_speeds : Nat → Int32) (c_kinds : Nat → Int32) (c_keptMany : Int32) (c_undoMany : Int32) : Option (Int32 × (Nat → Int32) × (Nat → Int32) × (Nat → Int32) × (Nat → Int32) × (Nat → Int32) × Int32 × Int32) :=
  if c_keptMany = 0 then
  (some ((-2 : Int32), c_many, c_days, c_aims, c_speeds, c_kinds, c_keptMany, c_undoMany))
  else
  (bd5 (DX9_copy ((1 : Int32) + c_keptMany) (0 : Int32) c_many c_days c_aims c_speeds c_kinds) fun k_many_2 k_days_3 k_aims_4 k_speeds_5 k_kinds_6 =>
  some ((c_keptMany - (1 : Int32)), k_many_2, k_days_3, k_aims_4, k_speeds_5, k_kinds_6, (c_keptMany - (1 : Int32)), (0 : Int32)))
def DX9_count (x1 : Int32) (c_length : Int32) (c_stands : Nat → Int32) (c_homeFar : Nat → Int32) (c_nets : Nat → Int32) (c_many : Nat → Int32) (c_keptMany : Int32) (c_undoMany : Int32) : Option (Int32) :=
  if x1 = (0 : Int32) then
  (some (c_many (0 : Int32).toNatClampNeg))
  else
  if x1 = (1 : Int32) then
  (some (c_nets (0 : Int32).toNatClampNeg))
  else
  if x1 = (2 : Int32) then
  (some (c_stands (0 : Int32).toNatClampNeg))
  else
  if x1 = (3 : Int32) then
  (some (c_homeFar (0 : Int32).toNatClampNeg))
  else
  if x1 = (4 : Int32) then
  (some c_undoMany)
  else
  if x1 = (5 : Int32) then
  (some c_keptMany)
  else
  if x1 = (6 : Int32) then
  (some c_length)
  else
  (some (-1 : Int32))
