/-! CONTRACTS, laid by wip/gen/lay.py: yX1_paidInAll, yX1_caughtWith, yX2_forget, yX5_takeOver, yX2_take, yX2_giveBack, yX5_empty, yX3_makeBare, yX3_takeOver, yX8_within, yX5_add, yX3_tellThrow, yX3_tellRock -/
set_option maxRecDepth 100000 in
set_option maxHeartbeats 4000000 in
theorem mX1_paidInAll (l : Launch) (dC : Nat → ClassId) (dI : Nat → Nat → Nat) (cI cJ : ClassId) (a0 a1 a2 a3 : Nat) (c_loads_cells : Nat → Int32) (c_loads_filled : Int32) (c_order : Nat → Int32) (c_done : Int32) (c_start : Int32) (c_end : Int32) {res : Int32} (hD : DX1_paidInAll c_loads_cells c_order c_done = some res) : Met l yX1_paidInAll (WZ yX1_paidInAll cX1_paidInAll 3 (some .int)) (RM 1 23) (PC dC dI cI cJ [.ref a0] (W_X1 a0 a1 a2 a3 cI cJ c_loads_cells c_loads_filled c_order c_done c_start c_end)) (QI dC dI (W_X1 a0 a1 a2 a3 cI cJ c_loads_cells c_loads_filled c_order c_done c_start c_end) (W_X1 a0 a1 a2 a3 cI cJ c_loads_cells c_loads_filled c_order c_done c_start c_end) res) 0 0 (FA (W_X1 a0 a1 a2 a3 cI cJ c_loads_cells c_loads_filled c_order c_done c_start c_end)) := by
  refine r_metI (by decide +kernel) (Nat.le_of_ble_eq_true rfl) ?_
  intro p e s m args below meth c A H0 QQ X ret ls hl hG
  have X : Cx p m c cX1_paidInAll 3 s args RX1 dC dI cI cJ meth (some .int) := X
  have hx := X.1.1
  have hb := X.1.2.1
  have hl : lv_has ls 3 [(0, .ref a0)] := hl
  have L4 : ∀ (n : Nat) (x1 : Int32) (x2 : Int32) (ex1 : Int32), DX1_paidInAll_L4 c_loads_cells c_order c_done n x1 x2 = some ex1 → (∀ (ls : Array Slot) (H : Heap) (locs : List Loc), lv_has ls 3 [(1, .int ex1)] → G dC dI A H0 (W_X1 a0 a1 a2 a3 cI cJ c_loads_cells c_loads_filled c_order c_done c_start c_end) H locs → W p l e (RM 1 23) s m args below meth c H locs 0 0 QQ (F0 m 38 ls [])) → ∀ (ls : Array Slot) (H : Heap) (locs : List Loc), lv_has ls 3 [(0, .ref a0), (1, .int x1), (2, .int x2)] → G dC dI A H0 (W_X1 a0 a1 a2 a3 cI cJ c_loads_cells c_loads_filled c_order c_done c_start c_end) H locs → W p l e (RM 1 23) s m args below meth c H locs 0 0 QQ (F0 m 4 ls []) := by
    intro  n
    induction n with
    | zero => intro x1 x2 ex1 h; exact it_zero h
    | succ n ih =>
      intro x1 x2 ex1 h0 K0 ls H locs hl hG
      obtain ⟨w, h, hi, hr⟩ := it_succ h0
      have h : DX1_paidInAll_L4s c_loads_cells c_order c_done x1 x2 = some w := h
      have KC : ∀ (x1 : Int32) (x2 : Int32), w = .inl (x1, x2) → ∀ (ls : Array Slot) (H : Heap) (locs : List Loc), lv_has ls 3 [(0, .ref a0), (1, .int x1), (2, .int x2)] → G dC dI A H0 (W_X1 a0 a1 a2 a3 cI cJ c_loads_cells c_loads_filled c_order c_done c_start c_end) H locs → W p l e (RM 1 23) s m args below meth c H locs 0 0 QQ (F0 m 4 ls []) := fun b0 b1 e ls H locs hl hG => ih b0 b1 ex1 (hi _ e) K0 ls H locs hl hG
      have KX : ∀ (x1 : Int32), w = .inr x1 → ∀ (ls : Array Slot) (H : Heap) (locs : List Loc), lv_has ls 3 [(1, .int x1)] → G dC dI A H0 (W_X1 a0 a1 a2 a3 cI cJ c_loads_cells c_loads_filled c_order c_done c_start c_end) H locs → W p l e (RM 1 23) s m args below meth c H locs 0 0 QQ (F0 m 38 ls []) := fun b0 e ls H locs hl hG => by cases hr _ e; exact K0 ls H locs hl hG
      clear h0 hi hr K0 ih
      unfold DX1_paidInAll_L4s at h
      refine lv_iload_n hx hb dX1_paidInAll_4 rfl (lv_at hl 2 rfl) ?_
      refine lv_aload_n hx hb dX1_paidInAll_5 rfl (lv_at hl 0 rfl) ?_
      refine r_get X hG in_X1 rfl 2 (by decide) w_163 0 rfl rfl dX1_paidInAll_6 ?_
      refine lv_icmp_ge (tgt := 38) hx hb dX1_paidInAll_9 (by decide) (fun c_1 => ?_) (fun c_1 => ?_)
      · have h := ite_t h c_1
        exact KX _ (Option.some.inj h).symm _ _ _ (lv_sub hl [1] rfl) hG
      · have h := ite_f h c_1
        refine lv_iload_n hx hb dX1_paidInAll_12 rfl (lv_at hl 1 rfl) ?_
        refine lv_aload_n hx hb dX1_paidInAll_13 rfl (lv_at hl 0 rfl) ?_
        refine r_get X hG in_X1 rfl 0 (by decide) w_161 0 rfl rfl dX1_paidInAll_14 ?_
        refine lv_aload_n hx hb dX1_paidInAll_17 rfl (lv_at hl 0 rfl) ?_
        refine r_get X hG in_X1 rfl 1 (by decide) w_162 0 rfl rfl dX1_paidInAll_18 ?_
        refine lv_iload_n hx hb dX1_paidInAll_21 rfl (lv_at hl 2 rfl) ?_
        obtain ⟨r_2, hz_3, h⟩ := bd1_some h
        refine aft_i (ws' := (W_X1 a0 a1 a2 a3 cI cJ c_loads_cells c_loads_filled c_order c_done c_start c_end)) (run_SN (rest := [.ref a1, .int x1]) X hG hl.1 (mX8_at l dC dI cI cJ a3 7 c_order x2 hz_3) gi_N_yX8_at w_384 w_296 w_41 hd_S_yX8_at ⟨rfl, rfl⟩ rfl ⟨Nat.le_of_ble_eq_true rfl, Nat.le_of_ble_eq_true rfl⟩ [3] (by decide) rfl rfl (Nat.le_of_ble_eq_true rfl) ⟨Nat.le_of_ble_eq_true rfl, Nat.le_of_ble_eq_true rfl⟩ dX1_paidInAll_22) hG [3] rfl rfl rfl (fun H locs hG => ?_)
        clear hz_3
        refine lv_bipush (v := (8 : Int32)) hx hb dX1_paidInAll_25 (by decide) ?_
        obtain ⟨r_4, hz_5, h⟩ := bd1_some h
        refine aft_i (ws' := (W_X1 a0 a1 a2 a3 cI cJ c_loads_cells c_loads_filled c_order c_done c_start c_end)) (run_V (rest := [.int x1]) X hG hl.1 (mX5_get l dC dI cI cJ a1 a2 (7 : Int32) (10 : Int32) 70 c_loads_cells c_loads_filled r_2 (8 : Int32) hz_5) gi_V_X1_43 hd_V_yX5_get ⟨rfl, rfl⟩ rfl ⟨Nat.le_of_ble_eq_true rfl, Nat.le_of_ble_eq_true rfl⟩ [1, 2] (by decide) rfl 1 rfl rfl rfl rfl (Nat.le_of_ble_eq_true rfl) ⟨Nat.le_of_ble_eq_true rfl, Nat.le_of_ble_eq_true rfl⟩ dX1_paidInAll_27) hG [1, 2] rfl rfl rfl (fun H locs hG => ?_)
        clear hz_5
        refine lv_iadd hx hb dX1_paidInAll_30 ?_
        refine lv_istore_n (lv' := [(1, .int (x1 + r_4)), (0, .ref a0), (2, .int x2)]) hx hb dX1_paidInAll_31 rfl hl (by decide) rfl (fun ls hl => ?_)
        refine lv_iinc (v := (x2 + (1 : Int32))) (lv' := [(2, .int (x2 + (1 : Int32))), (1, .int (x1 + r_4)), (0, .ref a0)]) hx hb dX1_paidInAll_32 hl (k := 2) rfl rfl (by decide) rfl (fun ls hl => ?_)
        refine lv_goto (tgt := 4) hx hb dX1_paidInAll_35 (by decide) ?_
        exact KC _ _ (Option.some.inj h).symm _ _ _ (lv_sub hl [2, 1, 0] rfl) hG
  have h := hD
  unfold DX1_paidInAll at h
  clear hD
  refine lv_iconst (v := (0 : Int32)) hx hb dX1_paidInAll_0 (by decide) ?_
  refine lv_istore_n (lv' := [(1, .int (0 : Int32)), (0, .ref a0)]) hx hb dX1_paidInAll_1 rfl hl (by decide) rfl (fun ls hl => ?_)
  refine lv_iconst (v := (0 : Int32)) hx hb dX1_paidInAll_2 (by decide) ?_
  refine lv_istore_n (lv' := [(2, .int (0 : Int32)), (1, .int (0 : Int32)), (0, .ref a0)]) hx hb dX1_paidInAll_3 rfl hl (by decide) rfl (fun ls hl => ?_)
  obtain ⟨z1_6, hz, h⟩ := bd1_some h
  refine L4  FU (0 : Int32) (0 : Int32) _ hz (fun ls H locs hl hG => ?_) _ _ _ (lv_sub hl [2, 1, 0] rfl) hG
  clear hz
  refine lv_iload_n hx hb dX1_paidInAll_38 rfl (lv_at hl 0 rfl) ?_
  cases h
  exact ret _ _ _ _ dX1_paidInAll_39 hG
set_option maxRecDepth 100000 in
set_option maxHeartbeats 4000000 in
theorem mX1_caughtWith (l : Launch) (dC : Nat → ClassId) (dI : Nat → Nat → Nat) (cI cJ : ClassId) (a0 a1 a2 a3 : Nat) (c_loads_cells : Nat → Int32) (c_loads_filled : Int32) (c_order : Nat → Int32) (c_done : Int32) (c_start : Int32) (c_end : Int32) (x1 : Int32) (x2 : Int32) {res : Int32} (hD : DX1_caughtWith x1 x2 c_loads_cells c_order c_done = some res) : Met l yX1_caughtWith (WZ yX1_caughtWith cX1_caughtWith 7 (some .int)) (RM 2 44) (PC dC dI cI cJ [.ref a0, .int x1, .int x2] (W_X1 a0 a1 a2 a3 cI cJ c_loads_cells c_loads_filled c_order c_done c_start c_end)) (QI dC dI (W_X1 a0 a1 a2 a3 cI cJ c_loads_cells c_loads_filled c_order c_done c_start c_end) (W_X1 a0 a1 a2 a3 cI cJ c_loads_cells c_loads_filled c_order c_done c_start c_end) res) 0 0 (FA (W_X1 a0 a1 a2 a3 cI cJ c_loads_cells c_loads_filled c_order c_done c_start c_end)) := by
  refine r_metI (by decide +kernel) (Nat.le_of_ble_eq_true rfl) ?_
  intro p e s m args below meth c A H0 QQ X ret ls hl hG
  have X : Cx p m c cX1_caughtWith 7 s args RX1 dC dI cI cJ meth (some .int) := X
  have hx := X.1.1
  have hb := X.1.2.1
  have hl : lv_has ls 7 [(0, .ref a0), (1, .int x1), (2, .int x2)] := hl
  have J64 : ∀ (y0 : Int32) (x3 : Int32) (x4 : Int32) (x5 : Int32), ∀ (w : (Int32 × Int32) ⊕ (Int32)), DX1_caughtWith_J64 c_loads_cells y0 x3 x4 x5 = some w → (∀ (x3 : Int32) (x4 : Int32), w = .inl (x3, x4) → ∀ (ls : Array Slot) (H : Heap) (locs : List Loc), lv_has ls 7 [(0, .ref a0), (1, .int x1), (2, .int x2), (3, .int x3), (4, .int x4)] → G dC dI A H0 (W_X1 a0 a1 a2 a3 cI cJ c_loads_cells c_loads_filled c_order c_done c_start c_end) H locs → W p l e (RM 2 44) s m args below meth c H locs 0 0 QQ (F0 m 5 ls [])) → (∀ (x3 : Int32), w = .inr x3 → ∀ (ls : Array Slot) (H : Heap) (locs : List Loc), lv_has ls 7 [(3, .int x3)] → G dC dI A H0 (W_X1 a0 a1 a2 a3 cI cJ c_loads_cells c_loads_filled c_order c_done c_start c_end) H locs → W p l e (RM 2 44) s m args below meth c H locs 0 0 QQ (F0 m 94 ls [])) → ∀ (ls : Array Slot) (H : Heap) (locs : List Loc), lv_has ls 7 [(0, .ref a0), (1, .int x1), (2, .int x2), (3, .int x3), (4, .int x4), (5, .int x5)] → G dC dI A H0 (W_X1 a0 a1 a2 a3 cI cJ c_loads_cells c_loads_filled c_order c_done c_start c_end) H locs → W p l e (RM 2 44) s m args below meth c H locs 0 0 QQ (F0 m 64 ls [.int y0]) := by
    intro y0 x3 x4 x5 w h KC KX ls H locs hl hG
    unfold DX1_caughtWith_J64 at h
    refine lv_istore (lv' := [(6, .int y0), (0, .ref a0), (1, .int x1), (2, .int x2), (3, .int x3), (4, .int x4), (5, .int x5)]) hx hb dX1_caughtWith_64 hl (by decide) rfl (fun ls hl => ?_)
    refine lv_iload hx hb dX1_caughtWith_66 (lv_at hl 0 rfl) ?_
    refine lv_if_ne (tgt := 85) hx hb dX1_caughtWith_68 (by decide) (fun c_7 => ?_) (fun c_7 => ?_)
    · have h := ite_f h c_7
      refine lv_iinc (v := (x3 + (1 : Int32))) (lv' := [(3, .int (x3 + (1 : Int32))), (6, .int y0), (0, .ref a0), (1, .int x1), (2, .int x2), (4, .int x4), (5, .int x5)]) hx hb dX1_caughtWith_85 hl (k := 4) rfl rfl (by decide) rfl (fun ls hl => ?_)
      refine lv_iinc (v := (x4 + (1 : Int32))) (lv' := [(4, .int (x4 + (1 : Int32))), (3, .int (x3 + (1 : Int32))), (6, .int y0), (0, .ref a0), (1, .int x1), (2, .int x2), (5, .int x5)]) hx hb dX1_caughtWith_88 hl (k := 5) rfl rfl (by decide) rfl (fun ls hl => ?_)
      refine lv_goto (tgt := 5) hx hb dX1_caughtWith_91 (by decide) ?_
      exact KC _ _ (Option.some.inj h).symm _ _ _ (lv_sub hl [3, 4, 5, 1, 0] rfl) hG
    · have h := ite_t h c_7
      refine lv_aload_n hx hb dX1_caughtWith_71 rfl (lv_at hl 1 rfl) ?_
      refine r_get X hG in_X1 rfl 0 (by decide) w_161 0 rfl rfl dX1_caughtWith_72 ?_
      refine lv_iload hx hb dX1_caughtWith_75 (lv_at hl 6 rfl) ?_
      refine lv_bipush (v := (6 : Int32)) hx hb dX1_caughtWith_77 (by decide) ?_
      obtain ⟨r_8, hz_9, h⟩ := bd1_some h
      refine aft_i (ws' := (W_X1 a0 a1 a2 a3 cI cJ c_loads_cells c_loads_filled c_order c_done c_start c_end)) (run_V (rest := []) X hG hl.1 (mX5_get l dC dI cI cJ a1 a2 (7 : Int32) (10 : Int32) 70 c_loads_cells c_loads_filled x5 (6 : Int32) hz_9) gi_V_X1_43 hd_V_yX5_get ⟨rfl, rfl⟩ rfl ⟨Nat.le_of_ble_eq_true rfl, Nat.le_of_ble_eq_true rfl⟩ [1, 2] (by decide) rfl 1 rfl rfl rfl rfl (Nat.le_of_ble_eq_true rfl) ⟨Nat.le_of_ble_eq_true rfl, Nat.le_of_ble_eq_true rfl⟩ dX1_caughtWith_79) hG [1, 2] rfl rfl rfl (fun H locs hG => ?_)
      clear hz_9
      refine lv_if_ne (tgt := 88) hx hb dX1_caughtWith_82 (by decide) (fun c_10 => ?_) (fun c_10 => ?_)
      · have h := ite_f h c_10
        refine lv_iinc (v := (x4 + (1 : Int32))) (lv' := [(4, .int (x4 + (1 : Int32))), (6, .int y0), (0, .ref a0), (1, .int x1), (2, .int x2), (3, .int x3), (5, .int x5)]) hx hb dX1_caughtWith_88 hl (k := 5) rfl rfl (by decide) rfl (fun ls hl => ?_)
        refine lv_goto (tgt := 5) hx hb dX1_caughtWith_91 (by decide) ?_
        exact KC _ _ (Option.some.inj h).symm _ _ _ (lv_sub hl [2, 3, 4, 5, 0] rfl) hG
      · have h := ite_t h c_10
        refine lv_iinc (v := (x3 + (1 : Int32))) (lv' := [(3, .int (x3 + (1 : Int32))), (6, .int y0), (0, .ref a0), (1, .int x1), (2, .int x2), (4, .int x4), (5, .int x5)]) hx hb dX1_caughtWith_85 hl (k := 4) rfl rfl (by decide) rfl (fun ls hl => ?_)
        refine lv_iinc (v := (x4 + (1 : Int32))) (lv' := [(4, .int (x4 + (1 : Int32))), (3, .int (x3 + (1 : Int32))), (6, .int y0), (0, .ref a0), (1, .int x1), (2, .int x2), (5, .int x5)]) hx hb dX1_caughtWith_88 hl (k := 5) rfl rfl (by decide) rfl (fun ls hl => ?_)
        refine lv_goto (tgt := 5) hx hb dX1_caughtWith_91 (by decide) ?_
        exact KC _ _ (Option.some.inj h).symm _ _ _ (lv_sub hl [3, 4, 5, 1, 0] rfl) hG
  have L5 : ∀ (n : Nat) (x3 : Int32) (x4 : Int32) (ex3 : Int32), DX1_caughtWith_L5 x1 x2 c_loads_cells c_order c_done n x3 x4 = some ex3 → (∀ (ls : Array Slot) (H : Heap) (locs : List Loc), lv_has ls 7 [(3, .int ex3)] → G dC dI A H0 (W_X1 a0 a1 a2 a3 cI cJ c_loads_cells c_loads_filled c_order c_done c_start c_end) H locs → W p l e (RM 2 44) s m args below meth c H locs 0 0 QQ (F0 m 94 ls [])) → ∀ (ls : Array Slot) (H : Heap) (locs : List Loc), lv_has ls 7 [(0, .ref a0), (1, .int x1), (2, .int x2), (3, .int x3), (4, .int x4)] → G dC dI A H0 (W_X1 a0 a1 a2 a3 cI cJ c_loads_cells c_loads_filled c_order c_done c_start c_end) H locs → W p l e (RM 2 44) s m args below meth c H locs 0 0 QQ (F0 m 5 ls []) := by
    intro  n
    induction n with
    | zero => intro x3 x4 ex3 h; exact it_zero h
    | succ n ih =>
      intro x3 x4 ex3 h0 K0 ls H locs hl hG
      obtain ⟨w, h, hi, hr⟩ := it_succ h0
      have h : DX1_caughtWith_L5s x1 x2 c_loads_cells c_order c_done x3 x4 = some w := h
      have KC : ∀ (x3 : Int32) (x4 : Int32), w = .inl (x3, x4) → ∀ (ls : Array Slot) (H : Heap) (locs : List Loc), lv_has ls 7 [(0, .ref a0), (1, .int x1), (2, .int x2), (3, .int x3), (4, .int x4)] → G dC dI A H0 (W_X1 a0 a1 a2 a3 cI cJ c_loads_cells c_loads_filled c_order c_done c_start c_end) H locs → W p l e (RM 2 44) s m args below meth c H locs 0 0 QQ (F0 m 5 ls []) := fun b0 b1 e ls H locs hl hG => ih b0 b1 ex3 (hi _ e) K0 ls H locs hl hG
      have KX : ∀ (x3 : Int32), w = .inr x3 → ∀ (ls : Array Slot) (H : Heap) (locs : List Loc), lv_has ls 7 [(3, .int x3)] → G dC dI A H0 (W_X1 a0 a1 a2 a3 cI cJ c_loads_cells c_loads_filled c_order c_done c_start c_end) H locs → W p l e (RM 2 44) s m args below meth c H locs 0 0 QQ (F0 m 94 ls []) := fun b0 e ls H locs hl hG => by cases hr _ e; exact K0 ls H locs hl hG
      clear h0 hi hr K0 ih
      unfold DX1_caughtWith_L5s at h
      refine lv_iload hx hb dX1_caughtWith_5 (lv_at hl 4 rfl) ?_
      refine lv_aload_n hx hb dX1_caughtWith_7 rfl (lv_at hl 0 rfl) ?_
      refine r_get X hG in_X1 rfl 2 (by decide) w_163 0 rfl rfl dX1_caughtWith_8 ?_
      refine lv_icmp_ge (tgt := 94) hx hb dX1_caughtWith_11 (by decide) (fun c_1 => ?_) (fun c_1 => ?_)
      · have h := ite_t h c_1
        exact KX _ (Option.some.inj h).symm _ _ _ (lv_sub hl [3] rfl) hG
      · have h := ite_f h c_1
        refine lv_aload_n hx hb dX1_caughtWith_14 rfl (lv_at hl 0 rfl) ?_
        refine r_get X hG in_X1 rfl 1 (by decide) w_162 0 rfl rfl dX1_caughtWith_15 ?_
        refine lv_iload hx hb dX1_caughtWith_18 (lv_at hl 4 rfl) ?_
        obtain ⟨r_2, hz_3, h⟩ := bd1_some h
        refine aft_i (ws' := (W_X1 a0 a1 a2 a3 cI cJ c_loads_cells c_loads_filled c_order c_done c_start c_end)) (run_SN (rest := []) X hG hl.1 (mX8_at l dC dI cI cJ a3 7 c_order x4 hz_3) gi_N_yX8_at w_384 w_296 w_41 hd_S_yX8_at ⟨rfl, rfl⟩ rfl ⟨Nat.le_of_ble_eq_true rfl, Nat.le_of_ble_eq_true rfl⟩ [3] (by decide) rfl rfl (Nat.le_of_ble_eq_true rfl) ⟨Nat.le_of_ble_eq_true rfl, Nat.le_of_ble_eq_true rfl⟩ dX1_caughtWith_20) hG [3] rfl rfl rfl (fun H locs hG => ?_)
        clear hz_3
        refine lv_istore (lv' := [(5, .int r_2), (0, .ref a0), (1, .int x1), (2, .int x2), (3, .int x3), (4, .int x4)]) hx hb dX1_caughtWith_23 hl (by decide) rfl (fun ls hl => ?_)
        refine lv_aload_n hx hb dX1_caughtWith_25 rfl (lv_at hl 1 rfl) ?_
        refine r_get X hG in_X1 rfl 0 (by decide) w_161 0 rfl rfl dX1_caughtWith_26 ?_
        refine lv_iload hx hb dX1_caughtWith_29 (lv_at hl 0 rfl) ?_
        refine lv_bipush (v := (6 : Int32)) hx hb dX1_caughtWith_31 (by decide) ?_
        obtain ⟨r_4, hz_5, h⟩ := bd1_some h
        refine aft_i (ws' := (W_X1 a0 a1 a2 a3 cI cJ c_loads_cells c_loads_filled c_order c_done c_start c_end)) (run_V (rest := []) X hG hl.1 (mX5_get l dC dI cI cJ a1 a2 (7 : Int32) (10 : Int32) 70 c_loads_cells c_loads_filled r_2 (6 : Int32) hz_5) gi_V_X1_43 hd_V_yX5_get ⟨rfl, rfl⟩ rfl ⟨Nat.le_of_ble_eq_true rfl, Nat.le_of_ble_eq_true rfl⟩ [1, 2] (by decide) rfl 1 rfl rfl rfl rfl (Nat.le_of_ble_eq_true rfl) ⟨Nat.le_of_ble_eq_true rfl, Nat.le_of_ble_eq_true rfl⟩ dX1_caughtWith_33) hG [1, 2] rfl rfl rfl (fun H locs hG => ?_)
        clear hz_5
        refine lv_iconst (v := (1 : Int32)) hx hb dX1_caughtWith_36 (by decide) ?_
        refine lv_icmp_ne (tgt := 63) hx hb dX1_caughtWith_37 (by decide) (fun c_6 => ?_) (fun c_6 => ?_)
        · have h := ite_f h c_6
          refine lv_iconst (v := (0 : Int32)) hx hb dX1_caughtWith_63 (by decide) ?_
          exact J64 (0 : Int32) x3 x4 r_2 _ h KC KX _ _ _ (lv_sub hl [1, 2, 3, 4, 5, 0] rfl) hG
        · have h := ite_t h c_6
          refine lv_aload_n hx hb dX1_caughtWith_40 rfl (lv_at hl 1 rfl) ?_
          refine r_get X hG in_X1 rfl 0 (by decide) w_161 0 rfl rfl dX1_caughtWith_41 ?_
          refine lv_iload hx hb dX1_caughtWith_44 (lv_at hl 0 rfl) ?_
          refine lv_bipush (v := (9 : Int32)) hx hb dX1_caughtWith_46 (by decide) ?_
          obtain ⟨r_11, hz_12, h⟩ := bd1_some h
          refine aft_i (ws' := (W_X1 a0 a1 a2 a3 cI cJ c_loads_cells c_loads_filled c_order c_done c_start c_end)) (run_V (rest := []) X hG hl.1 (mX5_get l dC dI cI cJ a1 a2 (7 : Int32) (10 : Int32) 70 c_loads_cells c_loads_filled r_2 (9 : Int32) hz_12) gi_V_X1_43 hd_V_yX5_get ⟨rfl, rfl⟩ rfl ⟨Nat.le_of_ble_eq_true rfl, Nat.le_of_ble_eq_true rfl⟩ [1, 2] (by decide) rfl 1 rfl rfl rfl rfl (Nat.le_of_ble_eq_true rfl) ⟨Nat.le_of_ble_eq_true rfl, Nat.le_of_ble_eq_true rfl⟩ dX1_caughtWith_48) hG [1, 2] rfl rfl rfl (fun H locs hG => ?_)
          clear hz_12
          refine lv_iload_n hx hb dX1_caughtWith_51 rfl (lv_at hl 2 rfl) ?_
          obtain ⟨r_13, hz_14, h⟩ := bd1_some h
          refine aft_i (ws' := (W_X1 a0 a1 a2 a3 cI cJ c_loads_cells c_loads_filled c_order c_done c_start c_end)) (run_SN (rest := []) X hG hl.1 (mX8_apart l dC dI cI cJ r_11 x1 hz_14) gi_N_yX8_apart w_531 w_433 w_41 hd_S_yX8_apart ⟨rfl, rfl⟩ rfl ⟨Nat.le_of_ble_eq_true rfl, Nat.le_of_ble_eq_true rfl⟩ [] (by decide) rfl rfl (Nat.le_of_ble_eq_true rfl) ⟨Nat.le_of_ble_eq_true rfl, Nat.le_of_ble_eq_true rfl⟩ dX1_caughtWith_52) hG [] rfl rfl rfl (fun H locs hG => ?_)
          clear hz_14
          refine lv_iload_n hx hb dX1_caughtWith_55 rfl (lv_at hl 3 rfl) ?_
          refine lv_icmp_gt (tgt := 63) hx hb dX1_caughtWith_56 (by decide) (fun c_15 => ?_) (fun c_15 => ?_)
          · have h := ite_t h c_15
            refine lv_iconst (v := (0 : Int32)) hx hb dX1_caughtWith_63 (by decide) ?_
            exact J64 (0 : Int32) x3 x4 r_2 _ h KC KX _ _ _ (lv_sub hl [1, 2, 3, 4, 5, 0] rfl) hG
          · have h := ite_f h c_15
            refine lv_iconst (v := (1 : Int32)) hx hb dX1_caughtWith_59 (by decide) ?_
            refine lv_goto (tgt := 64) hx hb dX1_caughtWith_60 (by decide) ?_
            exact J64 (1 : Int32) x3 x4 r_2 _ h KC KX _ _ _ (lv_sub hl [1, 2, 3, 4, 5, 0] rfl) hG
  have h := hD
  unfold DX1_caughtWith at h
  clear hD
  refine lv_iconst (v := (0 : Int32)) hx hb dX1_caughtWith_0 (by decide) ?_
  refine lv_istore_n (lv' := [(3, .int (0 : Int32)), (0, .ref a0), (1, .int x1), (2, .int x2)]) hx hb dX1_caughtWith_1 rfl hl (by decide) rfl (fun ls hl => ?_)
  refine lv_iconst (v := (0 : Int32)) hx hb dX1_caughtWith_2 (by decide) ?_
  refine lv_istore (lv' := [(4, .int (0 : Int32)), (3, .int (0 : Int32)), (0, .ref a0), (1, .int x1), (2, .int x2)]) hx hb dX1_caughtWith_3 hl (by decide) rfl (fun ls hl => ?_)
  obtain ⟨z3_16, hz, h⟩ := bd1_some h
  refine L5  FU (0 : Int32) (0 : Int32) _ hz (fun ls H locs hl hG => ?_) _ _ _ (lv_sub hl [2, 3, 4, 1, 0] rfl) hG
  clear hz
  refine lv_iload_n hx hb dX1_caughtWith_94 rfl (lv_at hl 0 rfl) ?_
  cases h
  exact ret _ _ _ _ dX1_caughtWith_95 hG
set_option maxRecDepth 100000 in
set_option maxHeartbeats 4000000 in
theorem mX2_forget (l : Launch) (dC : Nat → ClassId) (dI : Nat → Nat → Nat) (cI cJ : ClassId) (a0 a1 a2 a3 a4 : Nat) (c_older_cells : Nat → Int32) (c_older_filled : Int32) (c_newer_cells : Nat → Int32) (c_newer_filled : Int32) (c_held : Int32) {n_held : Int32} (hD : DX2_forget = some n_held) : Met l yX2_forget (WZ yX2_forget cX2_forget 1 none) (RM 0 0) (PC dC dI cI cJ [.ref a0] (W_X2 a0 a1 a2 a3 a4 cI cJ c_older_cells c_older_filled c_newer_cells c_newer_filled c_held)) (QV dC dI (W_X2 a0 a1 a2 a3 a4 cI cJ c_older_cells c_older_filled c_newer_cells c_newer_filled c_held) (W_X2 a0 a1 a2 a3 a4 cI cJ c_older_cells c_older_filled c_newer_cells c_newer_filled n_held)) 0 0 (FA (W_X2 a0 a1 a2 a3 a4 cI cJ c_older_cells c_older_filled c_newer_cells c_newer_filled c_held)) := by
  refine r_metV (by decide +kernel) (Nat.le_of_ble_eq_true rfl) ?_
  intro p e s m args below meth c A H0 QQ X ret ls hl hG
  have X : Cx p m c cX2_forget 1 s args RX2 dC dI cI cJ meth none := X
  have hx := X.1.1
  have hb := X.1.2.1
  have hl : lv_has ls 1 [(0, .ref a0)] := hl
  have h := hD
  unfold DX2_forget at h
  clear hD
  refine lv_aload_n hx hb dX2_forget_0 rfl (lv_at hl 0 rfl) ?_
  refine lv_iconst (v := (0 : Int32)) hx hb dX2_forget_1 (by decide) ?_
  refine r_put X hG in_X2 rfl tyX2 tyX2_ok nmX2 2 (by decide) rfl (by decide +kernel) w_208 0 (ws' := (W_X2 a0 a1 a2 a3 a4 cI cJ c_older_cells c_older_filled c_newer_cells c_newer_filled (0 : Int32))) rfl (Nat.le_of_ble_eq_true rfl) rfl dX2_forget_2 (fun H locs hG => ?_)
  cases h
  exact ret _ _ _ _ dX2_forget_5 hG
set_option maxRecDepth 100000 in
set_option maxHeartbeats 4000000 in
theorem mX5_takeOver (l : Launch) (dC : Nat → ClassId) (dI : Nat → Nat → Nat) (cI cJ : ClassId) (a0 a1 a2 a3 : Nat) (pm : Int32) (pw : Int32) (pn : Nat) (qm : Int32) (qw : Int32) (qn : Nat) (c_cells : Nat → Int32) (c_filled : Int32) (o_cells : Nat → Int32) (o_filled : Int32) {n_cells : Nat → Int32} {n_filled : Int32} (hD : DX5_takeOver pm pn qn c_cells o_cells o_filled = some (n_cells, n_filled)) : Met l yX5_takeOver (WZ yX5_takeOver cX5_takeOver 2 none) (RM 1 18) (PC dC dI cI cJ [.ref a0, .ref a2] (W_X5_X5 a0 a1 a2 a3 cI cJ pm pw pn qm qw qn c_cells c_filled o_cells o_filled)) (QV dC dI (W_X5_X5 a0 a1 a2 a3 cI cJ pm pw pn qm qw qn c_cells c_filled o_cells o_filled) (W_X5_X5 a0 a1 a2 a3 cI cJ pm pw pn qm qw qn n_cells n_filled o_cells o_filled)) 0 0 (FA (W_X5_X5 a0 a1 a2 a3 cI cJ pm pw pn qm qw qn c_cells c_filled o_cells o_filled)) := by
  refine r_metV (by decide +kernel) (Nat.le_of_ble_eq_true rfl) ?_
  intro p e s m args below meth c A H0 QQ X ret ls hl hG
  have X : Cx p m c cX5_takeOver 2 s args RX5 dC dI cI cJ meth none := X
  have hx := X.1.1
  have hb := X.1.2.1
  have hl : lv_has ls 2 [(0, .ref a0), (1, .ref a2)] := hl
  have h := hD
  unfold DX5_takeOver at h
  clear hD
  refine lv_aload_n hx hb dX5_takeOver_0 rfl (lv_at hl 1 rfl) ?_
  refine r_get X hG in_X5 rfl 0 (by decide) w_106 2 rfl rfl dX5_takeOver_1 ?_
  refine lv_iconst (v := (0 : Int32)) hx hb dX5_takeOver_4 (by decide) ?_
  refine lv_aload_n hx hb dX5_takeOver_5 rfl (lv_at hl 0 rfl) ?_
  refine r_get X hG in_X5 rfl 0 (by decide) w_106 0 rfl rfl dX5_takeOver_6 ?_
  refine lv_iconst (v := (0 : Int32)) hx hb dX5_takeOver_9 (by decide) ?_
  refine lv_aload_n hx hb dX5_takeOver_10 rfl (lv_at hl 0 rfl) ?_
  refine r_get X hG in_X5 rfl 0 (by decide) w_106 0 rfl rfl dX5_takeOver_11 ?_
  refine r_alen X hG 1 rfl dX5_takeOver_14 ?_
  refine lv_aload_n hx hb dX5_takeOver_15 rfl (lv_at hl 1 rfl) ?_
  refine r_get X hG in_X5 rfl 0 (by decide) w_106 2 rfl rfl dX5_takeOver_16 ?_
  refine r_alen X hG 3 rfl dX5_takeOver_19 ?_
  refine va_mmin hx hb (X.1.2.2.1.trans hl.1.symm) X.1.2.2.2.1 (X.1.2.2.2.2 _ w_348) (X.1.2.2.2.2 _ w_349) (X.1.2.2.2.2 _ w_46) (X.1.2.2.2.2 _ w_350) (Nat.le_of_ble_eq_true rfl) (Nat.le_of_ble_eq_true rfl) (Nat.le_of_ble_eq_true rfl) (Nat.le_of_ble_eq_true rfl) dX5_takeOver_20 ?_
  obtain ⟨g_1, h⟩ := gd h
  obtain ⟨g_2, h⟩ := gd h
  obtain ⟨g_3, h⟩ := gd h
  refine r_copy X hG hl.1 w_351 w_353 w_352 w_52 3 1 (ws' := (W_X5_X5 a0 a1 a2 a3 cI cJ pm pw pn qm qw qn (va_cpy o_cells c_cells (0 : Int32).toNatClampNeg (0 : Int32).toNatClampNeg (if (Int32.ofNat qn) < (Int32.ofNat pn) then (Int32.ofNat qn) else (Int32.ofNat pn)).toNatClampNeg) c_filled o_cells o_filled)) rfl rfl (by decide) (by decide) g_1 (Decidable.not_not.mp g_2) (Decidable.not_not.mp g_3) rfl (Nat.le_of_ble_eq_true rfl) (Nat.le_of_ble_eq_true rfl) dX5_takeOver_23 (fun H locs hG => ?_)
  refine lv_aload_n hx hb dX5_takeOver_26 rfl (lv_at hl 0 rfl) ?_
  refine lv_aload_n hx hb dX5_takeOver_27 rfl (lv_at hl 1 rfl) ?_
  refine r_get X hG in_X5 rfl 3 (by decide) w_109 2 rfl rfl dX5_takeOver_28 ?_
  refine lv_aload_n hx hb dX5_takeOver_31 rfl (lv_at hl 0 rfl) ?_
  refine r_get X hG in_X5 rfl 1 (by decide) w_107 0 rfl rfl dX5_takeOver_32 ?_
  refine va_mmin hx hb (X.1.2.2.1.trans hl.1.symm) X.1.2.2.2.1 (X.1.2.2.2.2 _ w_348) (X.1.2.2.2.2 _ w_349) (X.1.2.2.2.2 _ w_46) (X.1.2.2.2.2 _ w_350) (Nat.le_of_ble_eq_true rfl) (Nat.le_of_ble_eq_true rfl) (Nat.le_of_ble_eq_true rfl) (Nat.le_of_ble_eq_true rfl) dX5_takeOver_35 ?_
  refine r_put X hG in_X5 rfl tyX5 tyX5_ok nmX5 3 (by decide) rfl (by decide +kernel) w_109 0 (ws' := (W_X5_X5 a0 a1 a2 a3 cI cJ pm pw pn qm qw qn (va_cpy o_cells c_cells (0 : Int32).toNatClampNeg (0 : Int32).toNatClampNeg (if (Int32.ofNat qn) < (Int32.ofNat pn) then (Int32.ofNat qn) else (Int32.ofNat pn)).toNatClampNeg) (if pm < o_filled then pm else o_filled) o_cells o_filled)) rfl (Nat.le_of_ble_eq_true rfl) rfl dX5_takeOver_38 (fun H locs hG => ?_)
  cases h
  exact ret _ _ _ _ dX5_takeOver_41 hG
set_option maxRecDepth 100000 in
set_option maxHeartbeats 4000000 in
theorem mX2_take (l : Launch) (dC : Nat → ClassId) (dI : Nat → Nat → Nat) (cI cJ : ClassId) (a0 a1 a2 a3 a4 a5 a6 : Nat) (c_older_cells : Nat → Int32) (c_older_filled : Int32) (c_newer_cells : Nat → Int32) (c_newer_filled : Int32) (c_held : Int32) (o_cells : Nat → Int32) (o_filled : Int32) {res : Int32} {n_older_cells : Nat → Int32} {n_older_filled : Int32} {n_newer_cells : Nat → Int32} {n_newer_filled : Int32} {n_held : Int32} (hD : DX2_take c_older_cells c_older_filled c_newer_cells c_newer_filled c_held o_cells o_filled = some (res, n_older_cells, n_older_filled, n_newer_cells, n_newer_filled, n_held)) : Met l yX2_take (WZ yX2_take cX2_take 2 (some .boolean)) (RM 2 39) (PC dC dI cI cJ [.ref a0, .ref a5] (W_X2_X5 a0 a1 a2 a3 a4 a5 a6 cI cJ c_older_cells c_older_filled c_newer_cells c_newer_filled c_held o_cells o_filled)) (QI dC dI (W_X2_X5 a0 a1 a2 a3 a4 a5 a6 cI cJ c_older_cells c_older_filled c_newer_cells c_newer_filled c_held o_cells o_filled) (W_X2_X5 a0 a1 a2 a3 a4 a5 a6 cI cJ n_older_cells n_older_filled n_newer_cells n_newer_filled n_held o_cells o_filled) res) 0 0 (FA (W_X2_X5 a0 a1 a2 a3 a4 a5 a6 cI cJ c_older_cells c_older_filled c_newer_cells c_newer_filled c_held o_cells o_filled)) := by
  refine r_metZ (by decide +kernel) (Nat.le_of_ble_eq_true rfl) ?_
  intro p e s m args below meth c A H0 QQ X ret ls hl hG
  have X : Cx p m c cX2_take 2 s args RX2 dC dI cI cJ meth (some .boolean) := X
  have hx := X.1.1
  have hb := X.1.2.1
  have hl : lv_has ls 2 [(0, .ref a0), (1, .ref a5)] := hl
  have h := hD
  unfold DX2_take at h
  clear hD
  refine lv_aload_n hx hb dX2_take_0 rfl (lv_at hl 0 rfl) ?_
  refine r_get X hG in_X2 rfl 2 (by decide) w_208 0 rfl rfl dX2_take_1 ?_
  refine lv_iconst (v := (2 : Int32)) hx hb dX2_take_4 (by decide) ?_
  refine lv_icmp_ne (tgt := 10) hx hb dX2_take_5 (by decide) (fun c_1 => ?_) (fun c_1 => ?_)
  · have h := ite_f h c_1
    refine lv_aload_n hx hb dX2_take_10 rfl (lv_at hl 0 rfl) ?_
    refine r_get X hG in_X2 rfl 2 (by decide) w_208 0 rfl rfl dX2_take_11 ?_
    refine lv_if_ne (tgt := 24) hx hb dX2_take_14 (by decide) (fun c_2 => ?_) (fun c_2 => ?_)
    · have h := ite_f h c_2
      refine lv_aload_n hx hb dX2_take_24 rfl (lv_at hl 0 rfl) ?_
      refine r_get X hG in_X2 rfl 1 (by decide) w_207 0 rfl rfl dX2_take_25 ?_
      refine lv_aload_n hx hb dX2_take_28 rfl (lv_at hl 1 rfl) ?_
      obtain ⟨k_newer_cells_3, k_newer_filled_4, hz_5, h⟩ := bd2_some h
      refine aft_v (ws' := (W_X2_X5 a0 a1 a2 a3 a4 a5 a6 cI cJ c_older_cells c_older_filled k_newer_cells_3 k_newer_filled_4 c_held o_cells o_filled)) (run_V (rest := []) X hG hl.1 (mX5_takeOver l dC dI cI cJ a3 a4 a5 a6 (7 : Int32) (4 : Int32) 28 (7 : Int32) (4 : Int32) 28 c_newer_cells c_newer_filled o_cells o_filled hz_5) gi_V_X2_27 hd_V_yX5_takeOver ⟨rfl, rfl⟩ rfl ⟨Nat.le_of_ble_eq_true rfl, Nat.le_of_ble_eq_true rfl⟩ [3, 4, 5, 6] (by decide) rfl 3 rfl rfl rfl rfl (Nat.le_of_ble_eq_true rfl) ⟨Nat.le_of_ble_eq_true rfl, Nat.le_of_ble_eq_true rfl⟩ dX2_take_29) hG [3, 4, 5, 6] rfl rfl rfl (fun H locs hG => ?_)
      clear hz_5
      refine lv_aload_n hx hb dX2_take_32 rfl (lv_at hl 0 rfl) ?_
      refine lv_dup hx hb dX2_take_33 rfl ?_
      refine r_get X hG in_X2 rfl 2 (by decide) w_208 0 rfl rfl dX2_take_34 ?_
      refine lv_iconst (v := (1 : Int32)) hx hb dX2_take_37 (by decide) ?_
      refine lv_iadd hx hb dX2_take_38 ?_
      refine r_put X hG in_X2 rfl tyX2 tyX2_ok nmX2 2 (by decide) rfl (by decide +kernel) w_208 0 (ws' := (W_X2_X5 a0 a1 a2 a3 a4 a5 a6 cI cJ c_older_cells c_older_filled k_newer_cells_3 k_newer_filled_4 (c_held + (1 : Int32)) o_cells o_filled)) rfl (Nat.le_of_ble_eq_true rfl) rfl dX2_take_39 (fun H locs hG => ?_)
      refine lv_iconst (v := (1 : Int32)) hx hb dX2_take_42 (by decide) ?_
      cases h
      exact ret _ _ _ _ dX2_take_43 (by decide) hG
    · have h := ite_t h c_2
      refine lv_aload_n hx hb dX2_take_17 rfl (lv_at hl 0 rfl) ?_
      refine r_get X hG in_X2 rfl 0 (by decide) w_206 0 rfl rfl dX2_take_18 ?_
      refine lv_goto (tgt := 28) hx hb dX2_take_21 (by decide) ?_
      refine lv_aload_n hx hb dX2_take_28 rfl (lv_at hl 1 rfl) ?_
      obtain ⟨k_older_cells_6, k_older_filled_7, hz_8, h⟩ := bd2_some h
      refine aft_v (ws' := (W_X2_X5 a0 a1 a2 a3 a4 a5 a6 cI cJ k_older_cells_6 k_older_filled_7 c_newer_cells c_newer_filled c_held o_cells o_filled)) (run_V (rest := []) X hG hl.1 (mX5_takeOver l dC dI cI cJ a1 a2 a5 a6 (7 : Int32) (4 : Int32) 28 (7 : Int32) (4 : Int32) 28 c_older_cells c_older_filled o_cells o_filled hz_8) gi_V_X2_27 hd_V_yX5_takeOver ⟨rfl, rfl⟩ rfl ⟨Nat.le_of_ble_eq_true rfl, Nat.le_of_ble_eq_true rfl⟩ [1, 2, 5, 6] (by decide) rfl 1 rfl rfl rfl rfl (Nat.le_of_ble_eq_true rfl) ⟨Nat.le_of_ble_eq_true rfl, Nat.le_of_ble_eq_true rfl⟩ dX2_take_29) hG [1, 2, 5, 6] rfl rfl rfl (fun H locs hG => ?_)
      clear hz_8
      refine lv_aload_n hx hb dX2_take_32 rfl (lv_at hl 0 rfl) ?_
      refine lv_dup hx hb dX2_take_33 rfl ?_
      refine r_get X hG in_X2 rfl 2 (by decide) w_208 0 rfl rfl dX2_take_34 ?_
      refine lv_iconst (v := (1 : Int32)) hx hb dX2_take_37 (by decide) ?_
      refine lv_iadd hx hb dX2_take_38 ?_
      refine r_put X hG in_X2 rfl tyX2 tyX2_ok nmX2 2 (by decide) rfl (by decide +kernel) w_208 0 (ws' := (W_X2_X5 a0 a1 a2 a3 a4 a5 a6 cI cJ k_older_cells_6 k_older_filled_7 c_newer_cells c_newer_filled (c_held + (1 : Int32)) o_cells o_filled)) rfl (Nat.le_of_ble_eq_true rfl) rfl dX2_take_39 (fun H locs hG => ?_)
      refine lv_iconst (v := (1 : Int32)) hx hb dX2_take_42 (by decide) ?_
      cases h
      exact ret _ _ _ _ dX2_take_43 (by decide) hG
  · have h := ite_t h c_1
    refine lv_iconst (v := (0 : Int32)) hx hb dX2_take_8 (by decide) ?_
    cases h
    exact ret _ _ _ _ dX2_take_9 (by decide) hG
set_option maxRecDepth 100000 in
set_option maxHeartbeats 4000000 in
theorem mX2_giveBack (l : Launch) (dC : Nat → ClassId) (dI : Nat → Nat → Nat) (cI cJ : ClassId) (a0 a1 a2 a3 a4 a5 a6 : Nat) (c_older_cells : Nat → Int32) (c_older_filled : Int32) (c_newer_cells : Nat → Int32) (c_newer_filled : Int32) (c_held : Int32) (o_cells : Nat → Int32) (o_filled : Int32) {res : Int32} {n_held : Int32} {n_cells : Nat → Int32} {n_filled : Int32} (hD : DX2_giveBack c_older_cells c_older_filled c_newer_cells c_newer_filled c_held o_cells o_filled = some (res, n_held, n_cells, n_filled)) : Met l yX2_giveBack (WZ yX2_giveBack cX2_giveBack 2 (some .boolean)) (RM 2 39) (PC dC dI cI cJ [.ref a0, .ref a5] (W_X2_X5 a0 a1 a2 a3 a4 a5 a6 cI cJ c_older_cells c_older_filled c_newer_cells c_newer_filled c_held o_cells o_filled)) (QI dC dI (W_X2_X5 a0 a1 a2 a3 a4 a5 a6 cI cJ c_older_cells c_older_filled c_newer_cells c_newer_filled c_held o_cells o_filled) (W_X2_X5 a0 a1 a2 a3 a4 a5 a6 cI cJ c_older_cells c_older_filled c_newer_cells c_newer_filled n_held n_cells n_filled) res) 0 0 (FA (W_X2_X5 a0 a1 a2 a3 a4 a5 a6 cI cJ c_older_cells c_older_filled c_newer_cells c_newer_filled c_held o_cells o_filled)) := by
  refine r_metZ (by decide +kernel) (Nat.le_of_ble_eq_true rfl) ?_
  intro p e s m args below meth c A H0 QQ X ret ls hl hG
  have X : Cx p m c cX2_giveBack 2 s args RX2 dC dI cI cJ meth (some .boolean) := X
  have hx := X.1.1
  have hb := X.1.2.1
  have hl : lv_has ls 2 [(0, .ref a0), (1, .ref a5)] := hl
  have h := hD
  unfold DX2_giveBack at h
  clear hD
  refine lv_aload_n hx hb dX2_giveBack_0 rfl (lv_at hl 0 rfl) ?_
  refine r_get X hG in_X2 rfl 2 (by decide) w_208 0 rfl rfl dX2_giveBack_1 ?_
  refine lv_if_ne (tgt := 9) hx hb dX2_giveBack_4 (by decide) (fun c_1 => ?_) (fun c_1 => ?_)
  · have h := ite_f h c_1
    refine lv_aload_n hx hb dX2_giveBack_9 rfl (lv_at hl 0 rfl) ?_
    refine lv_dup hx hb dX2_giveBack_10 rfl ?_
    refine r_get X hG in_X2 rfl 2 (by decide) w_208 0 rfl rfl dX2_giveBack_11 ?_
    refine lv_iconst (v := (1 : Int32)) hx hb dX2_giveBack_14 (by decide) ?_
    refine lv_isub hx hb dX2_giveBack_15 ?_
    refine r_put X hG in_X2 rfl tyX2 tyX2_ok nmX2 2 (by decide) rfl (by decide +kernel) w_208 0 (ws' := (W_X2_X5 a0 a1 a2 a3 a4 a5 a6 cI cJ c_older_cells c_older_filled c_newer_cells c_newer_filled (c_held - (1 : Int32)) o_cells o_filled)) rfl (Nat.le_of_ble_eq_true rfl) rfl dX2_giveBack_16 (fun H locs hG => ?_)
    refine lv_aload_n hx hb dX2_giveBack_19 rfl (lv_at hl 1 rfl) ?_
    refine lv_aload_n hx hb dX2_giveBack_20 rfl (lv_at hl 0 rfl) ?_
    refine r_get X hG in_X2 rfl 2 (by decide) w_208 0 rfl rfl dX2_giveBack_21 ?_
    refine lv_if_ne (tgt := 34) hx hb dX2_giveBack_24 (by decide) (fun c_2 => ?_) (fun c_2 => ?_)
    · have h := ite_f h c_2
      refine lv_aload_n hx hb dX2_giveBack_34 rfl (lv_at hl 0 rfl) ?_
      refine r_get X hG in_X2 rfl 1 (by decide) w_207 0 rfl rfl dX2_giveBack_35 ?_
      obtain ⟨k_cells_3, k_filled_4, hz_5, h⟩ := bd2_some h
      refine aft_v (ws' := (W_X2_X5 a0 a1 a2 a3 a4 a5 a6 cI cJ c_older_cells c_older_filled c_newer_cells c_newer_filled (c_held - (1 : Int32)) k_cells_3 k_filled_4)) (run_V (rest := []) X hG hl.1 (mX5_takeOver l dC dI cI cJ a5 a6 a3 a4 (7 : Int32) (4 : Int32) 28 (7 : Int32) (4 : Int32) 28 o_cells o_filled c_newer_cells c_newer_filled hz_5) gi_V_X2_27 hd_V_yX5_takeOver ⟨rfl, rfl⟩ rfl ⟨Nat.le_of_ble_eq_true rfl, Nat.le_of_ble_eq_true rfl⟩ [5, 6, 3, 4] (by decide) rfl 5 rfl rfl rfl rfl (Nat.le_of_ble_eq_true rfl) ⟨Nat.le_of_ble_eq_true rfl, Nat.le_of_ble_eq_true rfl⟩ dX2_giveBack_38) hG [5, 6, 3, 4] rfl rfl rfl (fun H locs hG => ?_)
      clear hz_5
      refine lv_iconst (v := (1 : Int32)) hx hb dX2_giveBack_41 (by decide) ?_
      cases h
      exact ret _ _ _ _ dX2_giveBack_42 (by decide) hG
    · have h := ite_t h c_2
      refine lv_aload_n hx hb dX2_giveBack_27 rfl (lv_at hl 0 rfl) ?_
      refine r_get X hG in_X2 rfl 0 (by decide) w_206 0 rfl rfl dX2_giveBack_28 ?_
      refine lv_goto (tgt := 38) hx hb dX2_giveBack_31 (by decide) ?_
      obtain ⟨k_cells_6, k_filled_7, hz_8, h⟩ := bd2_some h
      refine aft_v (ws' := (W_X2_X5 a0 a1 a2 a3 a4 a5 a6 cI cJ c_older_cells c_older_filled c_newer_cells c_newer_filled (c_held - (1 : Int32)) k_cells_6 k_filled_7)) (run_V (rest := []) X hG hl.1 (mX5_takeOver l dC dI cI cJ a5 a6 a1 a2 (7 : Int32) (4 : Int32) 28 (7 : Int32) (4 : Int32) 28 o_cells o_filled c_older_cells c_older_filled hz_8) gi_V_X2_27 hd_V_yX5_takeOver ⟨rfl, rfl⟩ rfl ⟨Nat.le_of_ble_eq_true rfl, Nat.le_of_ble_eq_true rfl⟩ [5, 6, 1, 2] (by decide) rfl 5 rfl rfl rfl rfl (Nat.le_of_ble_eq_true rfl) ⟨Nat.le_of_ble_eq_true rfl, Nat.le_of_ble_eq_true rfl⟩ dX2_giveBack_38) hG [5, 6, 1, 2] rfl rfl rfl (fun H locs hG => ?_)
      clear hz_8
      refine lv_iconst (v := (1 : Int32)) hx hb dX2_giveBack_41 (by decide) ?_
      cases h
      exact ret _ _ _ _ dX2_giveBack_42 (by decide) hG
  · have h := ite_t h c_1
    refine lv_iconst (v := (0 : Int32)) hx hb dX2_giveBack_7 (by decide) ?_
    cases h
    exact ret _ _ _ _ dX2_giveBack_8 (by decide) hG
set_option maxRecDepth 100000 in
set_option maxHeartbeats 4000000 in
theorem mX5_empty (l : Launch) (dC : Nat → ClassId) (dI : Nat → Nat → Nat) (cI cJ : ClassId) (a0 a1 : Nat) (pm : Int32) (pw : Int32) (pn : Nat) (c_cells : Nat → Int32) (c_filled : Int32) {n_filled : Int32} (hD : DX5_empty = some n_filled) : Met l yX5_empty (WZ yX5_empty cX5_empty 1 none) (RM 0 0) (PC dC dI cI cJ [.ref a0] (W_X5 a0 a1 cI cJ pm pw pn c_cells c_filled)) (QV dC dI (W_X5 a0 a1 cI cJ pm pw pn c_cells c_filled) (W_X5 a0 a1 cI cJ pm pw pn c_cells n_filled)) 0 0 (FA (W_X5 a0 a1 cI cJ pm pw pn c_cells c_filled)) := by
  refine r_metV (by decide +kernel) (Nat.le_of_ble_eq_true rfl) ?_
  intro p e s m args below meth c A H0 QQ X ret ls hl hG
  have X : Cx p m c cX5_empty 1 s args RX5 dC dI cI cJ meth none := X
  have hx := X.1.1
  have hb := X.1.2.1
  have hl : lv_has ls 1 [(0, .ref a0)] := hl
  have h := hD
  unfold DX5_empty at h
  clear hD
  refine lv_aload_n hx hb dX5_empty_0 rfl (lv_at hl 0 rfl) ?_
  refine lv_iconst (v := (0 : Int32)) hx hb dX5_empty_1 (by decide) ?_
  refine r_put X hG in_X5 rfl tyX5 tyX5_ok nmX5 3 (by decide) rfl (by decide +kernel) w_109 0 (ws' := (W_X5 a0 a1 cI cJ pm pw pn c_cells (0 : Int32))) rfl (Nat.le_of_ble_eq_true rfl) rfl dX5_empty_2 (fun H locs hG => ?_)
  cases h
  exact ret _ _ _ _ dX5_empty_5 hG
set_option maxRecDepth 100000 in
set_option maxHeartbeats 4000000 in
theorem mX3_makeBare (l : Launch) (dC : Nat → ClassId) (dI : Nat → Nat → Nat) (cI cJ : ClassId) (a0 a1 a2 a3 a4 : Nat) (c_stand : Int32) (c_home : Int32) (c_priceStart : Int32) (c_priceStep : Int32) (c_thrown_cells : Nat → Int32) (c_thrown_filled : Int32) (c_nets_cells : Nat → Int32) (c_nets_filled : Int32) {n_stand : Int32} {n_home : Int32} {n_priceStart : Int32} {n_priceStep : Int32} {n_thrown_filled : Int32} {n_nets_filled : Int32} (hD : DX3_makeBare = some (n_stand, n_home, n_priceStart, n_priceStep, n_thrown_filled, n_nets_filled)) : Met l yX3_makeBare (WZ yX3_makeBare cX3_makeBare 1 none) (RM 1 20) (PC dC dI cI cJ [.ref a0] (W_X3 a0 a1 a2 a3 a4 cI cJ c_stand c_home c_priceStart c_priceStep c_thrown_cells c_thrown_filled c_nets_cells c_nets_filled)) (QV dC dI (W_X3 a0 a1 a2 a3 a4 cI cJ c_stand c_home c_priceStart c_priceStep c_thrown_cells c_thrown_filled c_nets_cells c_nets_filled) (W_X3 a0 a1 a2 a3 a4 cI cJ n_stand n_home n_priceStart n_priceStep c_thrown_cells n_thrown_filled c_nets_cells n_nets_filled)) 0 0 (FA (W_X3 a0 a1 a2 a3 a4 cI cJ c_stand c_home c_priceStart c_priceStep c_thrown_cells c_thrown_filled c_nets_cells c_nets_filled)) := by
  refine r_metV (by decide +kernel) (Nat.le_of_ble_eq_true rfl) ?_
  intro p e s m args below meth c A H0 QQ X ret ls hl hG
  have X : Cx p m c cX3_makeBare 1 s args RX3 dC dI cI cJ meth none := X
  have hx := X.1.1
  have hb := X.1.2.1
  have hl : lv_has ls 1 [(0, .ref a0)] := hl
  have h := hD
  unfold DX3_makeBare at h
  clear hD
  refine lv_aload_n hx hb dX3_makeBare_0 rfl (lv_at hl 0 rfl) ?_
  refine lv_iconst (v := (0 : Int32)) hx hb dX3_makeBare_1 (by decide) ?_
  refine r_put X hG in_X3 rfl tyX3 tyX3_ok nmX3 0 (by decide) rfl (by decide +kernel) w_127 0 (ws' := (W_X3 a0 a1 a2 a3 a4 cI cJ (0 : Int32) c_home c_priceStart c_priceStep c_thrown_cells c_thrown_filled c_nets_cells c_nets_filled)) rfl (Nat.le_of_ble_eq_true rfl) rfl dX3_makeBare_2 (fun H locs hG => ?_)
  refine lv_aload_n hx hb dX3_makeBare_5 rfl (lv_at hl 0 rfl) ?_
  refine lv_bipush (v := (12 : Int32)) hx hb dX3_makeBare_6 (by decide) ?_
  refine r_put X hG in_X3 rfl tyX3 tyX3_ok nmX3 1 (by decide) rfl (by decide +kernel) w_130 0 (ws' := (W_X3 a0 a1 a2 a3 a4 cI cJ (0 : Int32) (12 : Int32) c_priceStart c_priceStep c_thrown_cells c_thrown_filled c_nets_cells c_nets_filled)) rfl (Nat.le_of_ble_eq_true rfl) rfl dX3_makeBare_8 (fun H locs hG => ?_)
  refine lv_aload_n hx hb dX3_makeBare_11 rfl (lv_at hl 0 rfl) ?_
  refine lv_iconst (v := (0 : Int32)) hx hb dX3_makeBare_12 (by decide) ?_
  refine r_put X hG in_X3 rfl tyX3 tyX3_ok nmX3 2 (by decide) rfl (by decide +kernel) w_133 0 (ws' := (W_X3 a0 a1 a2 a3 a4 cI cJ (0 : Int32) (12 : Int32) (0 : Int32) c_priceStep c_thrown_cells c_thrown_filled c_nets_cells c_nets_filled)) rfl (Nat.le_of_ble_eq_true rfl) rfl dX3_makeBare_13 (fun H locs hG => ?_)
  refine lv_aload_n hx hb dX3_makeBare_16 rfl (lv_at hl 0 rfl) ?_
  refine lv_bipush (v := (7 : Int32)) hx hb dX3_makeBare_17 (by decide) ?_
  refine r_put X hG in_X3 rfl tyX3 tyX3_ok nmX3 3 (by decide) rfl (by decide +kernel) w_134 0 (ws' := (W_X3 a0 a1 a2 a3 a4 cI cJ (0 : Int32) (12 : Int32) (0 : Int32) (7 : Int32) c_thrown_cells c_thrown_filled c_nets_cells c_nets_filled)) rfl (Nat.le_of_ble_eq_true rfl) rfl dX3_makeBare_19 (fun H locs hG => ?_)
  refine lv_aload_n hx hb dX3_makeBare_22 rfl (lv_at hl 0 rfl) ?_
  refine r_get X hG in_X3 rfl 4 (by decide) w_135 0 rfl rfl dX3_makeBare_23 ?_
  obtain ⟨k_thrown_filled_1, hz_2, h⟩ := bd1_some h
  refine aft_v (ws' := (W_X3 a0 a1 a2 a3 a4 cI cJ (0 : Int32) (12 : Int32) (0 : Int32) (7 : Int32) c_thrown_cells k_thrown_filled_1 c_nets_cells c_nets_filled)) (run_V (rest := []) X hG hl.1 (mX5_empty l dC dI cI cJ a1 a2 (7 : Int32) (4 : Int32) 28 c_thrown_cells c_thrown_filled hz_2) gi_V_X3_39 hd_V_yX5_empty ⟨rfl, rfl⟩ rfl ⟨Nat.le_of_ble_eq_true rfl, Nat.le_of_ble_eq_true rfl⟩ [1, 2] (by decide) rfl 1 rfl rfl rfl rfl (Nat.le_of_ble_eq_true rfl) ⟨Nat.le_of_ble_eq_true rfl, Nat.le_of_ble_eq_true rfl⟩ dX3_makeBare_26) hG [1, 2] rfl rfl rfl (fun H locs hG => ?_)
  clear hz_2
  refine lv_aload_n hx hb dX3_makeBare_29 rfl (lv_at hl 0 rfl) ?_
  refine r_get X hG in_X3 rfl 5 (by decide) w_138 0 rfl rfl dX3_makeBare_30 ?_
  obtain ⟨k_nets_filled_3, hz_4, h⟩ := bd1_some h
  refine aft_v (ws' := (W_X3 a0 a1 a2 a3 a4 cI cJ (0 : Int32) (12 : Int32) (0 : Int32) (7 : Int32) c_thrown_cells k_thrown_filled_1 c_nets_cells k_nets_filled_3)) (run_V (rest := []) X hG hl.1 (mX5_empty l dC dI cI cJ a3 a4 (5 : Int32) (4 : Int32) 20 c_nets_cells c_nets_filled hz_4) gi_V_X3_39 hd_V_yX5_empty ⟨rfl, rfl⟩ rfl ⟨Nat.le_of_ble_eq_true rfl, Nat.le_of_ble_eq_true rfl⟩ [3, 4] (by decide) rfl 3 rfl rfl rfl rfl (Nat.le_of_ble_eq_true rfl) ⟨Nat.le_of_ble_eq_true rfl, Nat.le_of_ble_eq_true rfl⟩ dX3_makeBare_33) hG [3, 4] rfl rfl rfl (fun H locs hG => ?_)
  clear hz_4
  cases h
  exact ret _ _ _ _ dX3_makeBare_36 hG
set_option maxRecDepth 100000 in
set_option maxHeartbeats 4000000 in
theorem mX3_takeOver (l : Launch) (dC : Nat → ClassId) (dI : Nat → Nat → Nat) (cI cJ : ClassId) (a0 a1 a2 a3 a4 a5 a6 a7 a8 a9 : Nat) (c_stand : Int32) (c_home : Int32) (c_priceStart : Int32) (c_priceStep : Int32) (c_thrown_cells : Nat → Int32) (c_thrown_filled : Int32) (c_nets_cells : Nat → Int32) (c_nets_filled : Int32) (o_stand : Int32) (o_home : Int32) (o_priceStart : Int32) (o_priceStep : Int32) (o_thrown_cells : Nat → Int32) (o_thrown_filled : Int32) (o_nets_cells : Nat → Int32) (o_nets_filled : Int32) {n_stand : Int32} {n_home : Int32} {n_priceStart : Int32} {n_priceStep : Int32} {n_thrown_cells : Nat → Int32} {n_thrown_filled : Int32} {n_nets_cells : Nat → Int32} {n_nets_filled : Int32} (hD : DX3_takeOver c_thrown_cells c_nets_cells o_stand o_home o_priceStart o_priceStep o_thrown_cells o_thrown_filled o_nets_cells o_nets_filled = some (n_stand, n_home, n_priceStart, n_priceStep, n_thrown_cells, n_thrown_filled, n_nets_cells, n_nets_filled)) : Met l yX3_takeOver (WZ yX3_takeOver cX3_takeOver 2 none) (RM 2 39) (PC dC dI cI cJ [.ref a0, .ref a5] (W_X3_X3 a0 a1 a2 a3 a4 a5 a6 a7 a8 a9 cI cJ c_stand c_home c_priceStart c_priceStep c_thrown_cells c_thrown_filled c_nets_cells c_nets_filled o_stand o_home o_priceStart o_priceStep o_thrown_cells o_thrown_filled o_nets_cells o_nets_filled)) (QV dC dI (W_X3_X3 a0 a1 a2 a3 a4 a5 a6 a7 a8 a9 cI cJ c_stand c_home c_priceStart c_priceStep c_thrown_cells c_thrown_filled c_nets_cells c_nets_filled o_stand o_home o_priceStart o_priceStep o_thrown_cells o_thrown_filled o_nets_cells o_nets_filled) (W_X3_X3 a0 a1 a2 a3 a4 a5 a6 a7 a8 a9 cI cJ n_stand n_home n_priceStart n_priceStep n_thrown_cells n_thrown_filled n_nets_cells n_nets_filled o_stand o_home o_priceStart o_priceStep o_thrown_cells o_thrown_filled o_nets_cells o_nets_filled)) 0 0 (FA (W_X3_X3 a0 a1 a2 a3 a4 a5 a6 a7 a8 a9 cI cJ c_stand c_home c_priceStart c_priceStep c_thrown_cells c_thrown_filled c_nets_cells c_nets_filled o_stand o_home o_priceStart o_priceStep o_thrown_cells o_thrown_filled o_nets_cells o_nets_filled)) := by
  refine r_metV (by decide +kernel) (Nat.le_of_ble_eq_true rfl) ?_
  intro p e s m args below meth c A H0 QQ X ret ls hl hG
  have X : Cx p m c cX3_takeOver 2 s args RX3 dC dI cI cJ meth none := X
  have hx := X.1.1
  have hb := X.1.2.1
  have hl : lv_has ls 2 [(0, .ref a0), (1, .ref a5)] := hl
  have h := hD
  unfold DX3_takeOver at h
  clear hD
  refine lv_aload_n hx hb dX3_takeOver_0 rfl (lv_at hl 0 rfl) ?_
  refine lv_aload_n hx hb dX3_takeOver_1 rfl (lv_at hl 1 rfl) ?_
  refine r_get X hG in_X3 rfl 0 (by decide) w_127 5 rfl rfl dX3_takeOver_2 ?_
  refine r_put X hG in_X3 rfl tyX3 tyX3_ok nmX3 0 (by decide) rfl (by decide +kernel) w_127 0 (ws' := (W_X3_X3 a0 a1 a2 a3 a4 a5 a6 a7 a8 a9 cI cJ o_stand c_home c_priceStart c_priceStep c_thrown_cells c_thrown_filled c_nets_cells c_nets_filled o_stand o_home o_priceStart o_priceStep o_thrown_cells o_thrown_filled o_nets_cells o_nets_filled)) rfl (Nat.le_of_ble_eq_true rfl) rfl dX3_takeOver_5 (fun H locs hG => ?_)
  refine lv_aload_n hx hb dX3_takeOver_8 rfl (lv_at hl 0 rfl) ?_
  refine lv_aload_n hx hb dX3_takeOver_9 rfl (lv_at hl 1 rfl) ?_
  refine r_get X hG in_X3 rfl 1 (by decide) w_130 5 rfl rfl dX3_takeOver_10 ?_
  refine r_put X hG in_X3 rfl tyX3 tyX3_ok nmX3 1 (by decide) rfl (by decide +kernel) w_130 0 (ws' := (W_X3_X3 a0 a1 a2 a3 a4 a5 a6 a7 a8 a9 cI cJ o_stand o_home c_priceStart c_priceStep c_thrown_cells c_thrown_filled c_nets_cells c_nets_filled o_stand o_home o_priceStart o_priceStep o_thrown_cells o_thrown_filled o_nets_cells o_nets_filled)) rfl (Nat.le_of_ble_eq_true rfl) rfl dX3_takeOver_13 (fun H locs hG => ?_)
  refine lv_aload_n hx hb dX3_takeOver_16 rfl (lv_at hl 0 rfl) ?_
  refine lv_aload_n hx hb dX3_takeOver_17 rfl (lv_at hl 1 rfl) ?_
  refine r_get X hG in_X3 rfl 2 (by decide) w_133 5 rfl rfl dX3_takeOver_18 ?_
  refine r_put X hG in_X3 rfl tyX3 tyX3_ok nmX3 2 (by decide) rfl (by decide +kernel) w_133 0 (ws' := (W_X3_X3 a0 a1 a2 a3 a4 a5 a6 a7 a8 a9 cI cJ o_stand o_home o_priceStart c_priceStep c_thrown_cells c_thrown_filled c_nets_cells c_nets_filled o_stand o_home o_priceStart o_priceStep o_thrown_cells o_thrown_filled o_nets_cells o_nets_filled)) rfl (Nat.le_of_ble_eq_true rfl) rfl dX3_takeOver_21 (fun H locs hG => ?_)
  refine lv_aload_n hx hb dX3_takeOver_24 rfl (lv_at hl 0 rfl) ?_
  refine lv_aload_n hx hb dX3_takeOver_25 rfl (lv_at hl 1 rfl) ?_
  refine r_get X hG in_X3 rfl 3 (by decide) w_134 5 rfl rfl dX3_takeOver_26 ?_
  refine r_put X hG in_X3 rfl tyX3 tyX3_ok nmX3 3 (by decide) rfl (by decide +kernel) w_134 0 (ws' := (W_X3_X3 a0 a1 a2 a3 a4 a5 a6 a7 a8 a9 cI cJ o_stand o_home o_priceStart o_priceStep c_thrown_cells c_thrown_filled c_nets_cells c_nets_filled o_stand o_home o_priceStart o_priceStep o_thrown_cells o_thrown_filled o_nets_cells o_nets_filled)) rfl (Nat.le_of_ble_eq_true rfl) rfl dX3_takeOver_29 (fun H locs hG => ?_)
  refine lv_aload_n hx hb dX3_takeOver_32 rfl (lv_at hl 0 rfl) ?_
  refine r_get X hG in_X3 rfl 4 (by decide) w_135 0 rfl rfl dX3_takeOver_33 ?_
  refine lv_aload_n hx hb dX3_takeOver_36 rfl (lv_at hl 1 rfl) ?_
  refine r_get X hG in_X3 rfl 4 (by decide) w_135 5 rfl rfl dX3_takeOver_37 ?_
  obtain ⟨k_thrown_cells_1, k_thrown_filled_2, hz_3, h⟩ := bd2_some h
  refine aft_v (ws' := (W_X3_X3 a0 a1 a2 a3 a4 a5 a6 a7 a8 a9 cI cJ o_stand o_home o_priceStart o_priceStep k_thrown_cells_1 k_thrown_filled_2 c_nets_cells c_nets_filled o_stand o_home o_priceStart o_priceStep o_thrown_cells o_thrown_filled o_nets_cells o_nets_filled)) (run_V (rest := []) X hG hl.1 (mX5_takeOver l dC dI cI cJ a1 a2 a6 a7 (7 : Int32) (4 : Int32) 28 (7 : Int32) (4 : Int32) 28 c_thrown_cells c_thrown_filled o_thrown_cells o_thrown_filled hz_3) gi_V_X3_42 hd_V_yX5_takeOver ⟨rfl, rfl⟩ rfl ⟨Nat.le_of_ble_eq_true rfl, Nat.le_of_ble_eq_true rfl⟩ [1, 2, 6, 7] (by decide) rfl 1 rfl rfl rfl rfl (Nat.le_of_ble_eq_true rfl) ⟨Nat.le_of_ble_eq_true rfl, Nat.le_of_ble_eq_true rfl⟩ dX3_takeOver_40) hG [1, 2, 6, 7] rfl rfl rfl (fun H locs hG => ?_)
  clear hz_3
  refine lv_aload_n hx hb dX3_takeOver_43 rfl (lv_at hl 0 rfl) ?_
  refine r_get X hG in_X3 rfl 5 (by decide) w_138 0 rfl rfl dX3_takeOver_44 ?_
  refine lv_aload_n hx hb dX3_takeOver_47 rfl (lv_at hl 1 rfl) ?_
  refine r_get X hG in_X3 rfl 5 (by decide) w_138 5 rfl rfl dX3_takeOver_48 ?_
  obtain ⟨k_nets_cells_4, k_nets_filled_5, hz_6, h⟩ := bd2_some h
  refine aft_v (ws' := (W_X3_X3 a0 a1 a2 a3 a4 a5 a6 a7 a8 a9 cI cJ o_stand o_home o_priceStart o_priceStep k_thrown_cells_1 k_thrown_filled_2 k_nets_cells_4 k_nets_filled_5 o_stand o_home o_priceStart o_priceStep o_thrown_cells o_thrown_filled o_nets_cells o_nets_filled)) (run_V (rest := []) X hG hl.1 (mX5_takeOver l dC dI cI cJ a3 a4 a8 a9 (5 : Int32) (4 : Int32) 20 (5 : Int32) (4 : Int32) 20 c_nets_cells c_nets_filled o_nets_cells o_nets_filled hz_6) gi_V_X3_42 hd_V_yX5_takeOver ⟨rfl, rfl⟩ rfl ⟨Nat.le_of_ble_eq_true rfl, Nat.le_of_ble_eq_true rfl⟩ [3, 4, 8, 9] (by decide) rfl 3 rfl rfl rfl rfl (Nat.le_of_ble_eq_true rfl) ⟨Nat.le_of_ble_eq_true rfl, Nat.le_of_ble_eq_true rfl⟩ dX3_takeOver_51) hG [3, 4, 8, 9] rfl rfl rfl (fun H locs hG => ?_)
  clear hz_6
  cases h
  exact ret _ _ _ _ dX3_takeOver_54 hG
set_option maxRecDepth 100000 in
set_option maxHeartbeats 4000000 in
theorem mX8_within (l : Launch) (dC : Nat → ClassId) (dI : Nat → Nat → Nat) (cI cJ : ClassId) (x0 : Int32) (x1 : Int32) (x2 : Int32) {res : Int32} (hD : DX8_within x0 x1 x2 = some res) : Met l yX8_within (WZ yX8_within cX8_within 3 (some .boolean)) (RM 0 0) (PC dC dI cI cJ [.int x0, .int x1, .int x2] []) (QI dC dI [] [] res) 0 0 (FA []) := by
  refine r_metZ (by decide +kernel) (Nat.le_of_ble_eq_true rfl) ?_
  intro p e s m args below meth c A H0 QQ X ret ls hl hG
  have X : Cx p m c cX8_within 3 s args RX8 dC dI cI cJ meth (some .boolean) := X
  have hx := X.1.1
  have hb := X.1.2.1
  have hl : lv_has ls 3 [(0, .int x0), (1, .int x1), (2, .int x2)] := hl
  have h := hD
  unfold DX8_within at h
  clear hD
  refine lv_iload_n hx hb dX8_within_0 rfl (lv_at hl 0 rfl) ?_
  refine lv_iload_n hx hb dX8_within_1 rfl (lv_at hl 1 rfl) ?_
  refine lv_icmp_lt (tgt := 14) hx hb dX8_within_2 (by decide) (fun c_1 => ?_) (fun c_1 => ?_)
  · have h := ite_t h c_1
    refine lv_iconst (v := (0 : Int32)) hx hb dX8_within_14 (by decide) ?_
    cases h
    exact ret _ _ _ _ dX8_within_15 (by decide) hG
  · have h := ite_f h c_1
    refine lv_iload_n hx hb dX8_within_5 rfl (lv_at hl 0 rfl) ?_
    refine lv_iload_n hx hb dX8_within_6 rfl (lv_at hl 2 rfl) ?_
    refine lv_icmp_gt (tgt := 14) hx hb dX8_within_7 (by decide) (fun c_2 => ?_) (fun c_2 => ?_)
    · have h := ite_t h c_2
      refine lv_iconst (v := (0 : Int32)) hx hb dX8_within_14 (by decide) ?_
      cases h
      exact ret _ _ _ _ dX8_within_15 (by decide) hG
    · have h := ite_f h c_2
      refine lv_iconst (v := (1 : Int32)) hx hb dX8_within_10 (by decide) ?_
      refine lv_goto (tgt := 15) hx hb dX8_within_11 (by decide) ?_
      cases h
      exact ret _ _ _ _ dX8_within_15 (by decide) hG
set_option maxRecDepth 100000 in
set_option maxHeartbeats 4000000 in
theorem mX5_add (l : Launch) (dC : Nat → ClassId) (dI : Nat → Nat → Nat) (cI cJ : ClassId) (a0 a1 : Nat) (pm : Int32) (pw : Int32) (pn : Nat) (c_cells : Nat → Int32) (c_filled : Int32) (x1 : Int32) (x2 : Int32) (x3 : Int32) (x4 : Int32) {res : Int32} {n_cells : Nat → Int32} {n_filled : Int32} (hD : DX5_add x1 x2 x3 x4 pm pw pn c_cells c_filled = some (res, n_cells, n_filled)) : Met l yX5_add (WZ yX5_add cX5_add 5 (some .boolean)) (RM 1 23) (PC dC dI cI cJ [.ref a0, .int x1, .int x2, .int x3, .int x4] (W_X5 a0 a1 cI cJ pm pw pn c_cells c_filled)) (QI dC dI (W_X5 a0 a1 cI cJ pm pw pn c_cells c_filled) (W_X5 a0 a1 cI cJ pm pw pn n_cells n_filled) res) 0 0 (FA (W_X5 a0 a1 cI cJ pm pw pn c_cells c_filled)) := by
  refine r_metZ (by decide +kernel) (Nat.le_of_ble_eq_true rfl) ?_
  intro p e s m args below meth c A H0 QQ X ret ls hl hG
  have X : Cx p m c cX5_add 5 s args RX5 dC dI cI cJ meth (some .boolean) := X
  have hx := X.1.1
  have hb := X.1.2.1
  have hl : lv_has ls 5 [(0, .ref a0), (1, .int x1), (2, .int x2), (3, .int x3), (4, .int x4)] := hl
  have h := hD
  unfold DX5_add at h
  clear hD
  refine lv_aload_n hx hb dX5_add_0 rfl (lv_at hl 0 rfl) ?_
  refine r_get X hG in_X5 rfl 3 (by decide) w_109 0 rfl rfl dX5_add_1 ?_
  refine lv_aload_n hx hb dX5_add_4 rfl (lv_at hl 0 rfl) ?_
  refine r_get X hG in_X5 rfl 1 (by decide) w_107 0 rfl rfl dX5_add_5 ?_
  refine lv_icmp_lt (tgt := 13) hx hb dX5_add_8 (by decide) (fun c_1 => ?_) (fun c_1 => ?_)
  · have h := ite_t h c_1
    refine lv_aload_n hx hb dX5_add_13 rfl (lv_at hl 0 rfl) ?_
    refine lv_aload_n hx hb dX5_add_14 rfl (lv_at hl 0 rfl) ?_
    refine r_get X hG in_X5 rfl 3 (by decide) w_109 0 rfl rfl dX5_add_15 ?_
    refine lv_iconst (v := (0 : Int32)) hx hb dX5_add_18 (by decide) ?_
    refine lv_iload_n hx hb dX5_add_19 rfl (lv_at hl 1 rfl) ?_
    obtain ⟨k_cells_2, hz_3, h⟩ := bd1_some h
    refine aft_v1 (run_V1 (rest := []) X hG hl.1 (mX5_set l dC dI cI cJ a0 a1 pm pw pn c_cells c_filled c_filled (0 : Int32) x1 hz_3) gi_V_X5_29 hd_V_yX5_set ⟨rfl, rfl⟩ rfl ⟨Nat.le_of_ble_eq_true rfl, Nat.le_of_ble_eq_true rfl⟩ 0 rfl rfl rfl rfl (Nat.le_of_ble_eq_true rfl) ⟨Nat.le_of_ble_eq_true rfl, Nat.le_of_ble_eq_true rfl⟩ dX5_add_20) hG rfl (fun H locs hG => ?_)
    clear hz_3
    refine lv_aload_n hx hb dX5_add_23 rfl (lv_at hl 0 rfl) ?_
    refine lv_aload_n hx hb dX5_add_24 rfl (lv_at hl 0 rfl) ?_
    refine r_get X hG in_X5 rfl 3 (by decide) w_109 0 rfl rfl dX5_add_25 ?_
    refine lv_iconst (v := (1 : Int32)) hx hb dX5_add_28 (by decide) ?_
    refine lv_iload_n hx hb dX5_add_29 rfl (lv_at hl 2 rfl) ?_
    obtain ⟨k_cells_4, hz_5, h⟩ := bd1_some h
    refine aft_v1 (run_V1 (rest := []) X hG hl.1 (mX5_set l dC dI cI cJ a0 a1 pm pw pn k_cells_2 c_filled c_filled (1 : Int32) x2 hz_5) gi_V_X5_29 hd_V_yX5_set ⟨rfl, rfl⟩ rfl ⟨Nat.le_of_ble_eq_true rfl, Nat.le_of_ble_eq_true rfl⟩ 0 rfl rfl rfl rfl (Nat.le_of_ble_eq_true rfl) ⟨Nat.le_of_ble_eq_true rfl, Nat.le_of_ble_eq_true rfl⟩ dX5_add_30) hG rfl (fun H locs hG => ?_)
    clear hz_5
    refine lv_aload_n hx hb dX5_add_33 rfl (lv_at hl 0 rfl) ?_
    refine lv_aload_n hx hb dX5_add_34 rfl (lv_at hl 0 rfl) ?_
    refine r_get X hG in_X5 rfl 3 (by decide) w_109 0 rfl rfl dX5_add_35 ?_
    refine lv_iconst (v := (2 : Int32)) hx hb dX5_add_38 (by decide) ?_
    refine lv_iload_n hx hb dX5_add_39 rfl (lv_at hl 3 rfl) ?_
    obtain ⟨k_cells_6, hz_7, h⟩ := bd1_some h
    refine aft_v1 (run_V1 (rest := []) X hG hl.1 (mX5_set l dC dI cI cJ a0 a1 pm pw pn k_cells_4 c_filled c_filled (2 : Int32) x3 hz_7) gi_V_X5_29 hd_V_yX5_set ⟨rfl, rfl⟩ rfl ⟨Nat.le_of_ble_eq_true rfl, Nat.le_of_ble_eq_true rfl⟩ 0 rfl rfl rfl rfl (Nat.le_of_ble_eq_true rfl) ⟨Nat.le_of_ble_eq_true rfl, Nat.le_of_ble_eq_true rfl⟩ dX5_add_40) hG rfl (fun H locs hG => ?_)
    clear hz_7
    refine lv_aload_n hx hb dX5_add_43 rfl (lv_at hl 0 rfl) ?_
    refine lv_aload_n hx hb dX5_add_44 rfl (lv_at hl 0 rfl) ?_
    refine r_get X hG in_X5 rfl 3 (by decide) w_109 0 rfl rfl dX5_add_45 ?_
    refine lv_iconst (v := (3 : Int32)) hx hb dX5_add_48 (by decide) ?_
    refine lv_iload hx hb dX5_add_49 (lv_at hl 4 rfl) ?_
    obtain ⟨k_cells_8, hz_9, h⟩ := bd1_some h
    refine aft_v1 (run_V1 (rest := []) X hG hl.1 (mX5_set l dC dI cI cJ a0 a1 pm pw pn k_cells_6 c_filled c_filled (3 : Int32) x4 hz_9) gi_V_X5_29 hd_V_yX5_set ⟨rfl, rfl⟩ rfl ⟨Nat.le_of_ble_eq_true rfl, Nat.le_of_ble_eq_true rfl⟩ 0 rfl rfl rfl rfl (Nat.le_of_ble_eq_true rfl) ⟨Nat.le_of_ble_eq_true rfl, Nat.le_of_ble_eq_true rfl⟩ dX5_add_51) hG rfl (fun H locs hG => ?_)
    clear hz_9
    refine lv_aload_n hx hb dX5_add_54 rfl (lv_at hl 0 rfl) ?_
    refine lv_dup hx hb dX5_add_55 rfl ?_
    refine r_get X hG in_X5 rfl 3 (by decide) w_109 0 rfl rfl dX5_add_56 ?_
    refine lv_iconst (v := (1 : Int32)) hx hb dX5_add_59 (by decide) ?_
    refine lv_iadd hx hb dX5_add_60 ?_
    refine r_put X hG in_X5 rfl tyX5 tyX5_ok nmX5 3 (by decide) rfl (by decide +kernel) w_109 0 (ws' := (W_X5 a0 a1 cI cJ pm pw pn k_cells_8 (c_filled + (1 : Int32)))) rfl (Nat.le_of_ble_eq_true rfl) rfl dX5_add_61 (fun H locs hG => ?_)
    refine lv_iconst (v := (1 : Int32)) hx hb dX5_add_64 (by decide) ?_
    cases h
    exact ret _ _ _ _ dX5_add_65 (by decide) hG
  · have h := ite_f h c_1
    refine lv_iconst (v := (0 : Int32)) hx hb dX5_add_11 (by decide) ?_
    cases h
    exact ret _ _ _ _ dX5_add_12 (by decide) hG
set_option maxRecDepth 100000 in
set_option maxHeartbeats 4000000 in
theorem mX3_tellThrow (l : Launch) (dC : Nat → ClassId) (dI : Nat → Nat → Nat) (cI cJ : ClassId) (a0 a1 a2 a3 a4 : Nat) (c_stand : Int32) (c_home : Int32) (c_priceStart : Int32) (c_priceStep : Int32) (c_thrown_cells : Nat → Int32) (c_thrown_filled : Int32) (c_nets_cells : Nat → Int32) (c_nets_filled : Int32) (x1 : Int32) (x2 : Int32) (x3 : Int32) (x4 : Int32) {res : Int32} {n_thrown_cells : Nat → Int32} {n_thrown_filled : Int32} (hD : DX3_tellThrow x1 x2 x3 x4 c_thrown_cells c_thrown_filled = some (res, n_thrown_cells, n_thrown_filled)) : Met l yX3_tellThrow (WZ yX3_tellThrow cX3_tellThrow 5 (some .boolean)) (RM 2 47) (PC dC dI cI cJ [.ref a0, .int x1, .int x2, .int x3, .int x4] (W_X3 a0 a1 a2 a3 a4 cI cJ c_stand c_home c_priceStart c_priceStep c_thrown_cells c_thrown_filled c_nets_cells c_nets_filled)) (QI dC dI (W_X3 a0 a1 a2 a3 a4 cI cJ c_stand c_home c_priceStart c_priceStep c_thrown_cells c_thrown_filled c_nets_cells c_nets_filled) (W_X3 a0 a1 a2 a3 a4 cI cJ c_stand c_home c_priceStart c_priceStep n_thrown_cells n_thrown_filled c_nets_cells c_nets_filled) res) 0 0 (FA (W_X3 a0 a1 a2 a3 a4 cI cJ c_stand c_home c_priceStart c_priceStep c_thrown_cells c_thrown_filled c_nets_cells c_nets_filled)) := by
  refine r_metZ (by decide +kernel) (Nat.le_of_ble_eq_true rfl) ?_
  intro p e s m args below meth c A H0 QQ X ret ls hl hG
  have X : Cx p m c cX3_tellThrow 5 s args RX3 dC dI cI cJ meth (some .boolean) := X
  have hx := X.1.1
  have hb := X.1.2.1
  have hl : lv_has ls 5 [(0, .ref a0), (1, .int x1), (2, .int x2), (3, .int x3), (4, .int x4)] := hl
  have h := hD
  unfold DX3_tellThrow at h
  clear hD
  refine lv_iload_n hx hb dX3_tellThrow_0 rfl (lv_at hl 1 rfl) ?_
  refine lv_iconst (v := (0 : Int32)) hx hb dX3_tellThrow_1 (by decide) ?_
  refine lv_bipush (v := (40 : Int32)) hx hb dX3_tellThrow_2 (by decide) ?_
  obtain ⟨r_1, hz_2, h⟩ := bd1_some h
  refine aft_i (ws' := (W_X3 a0 a1 a2 a3 a4 cI cJ c_stand c_home c_priceStart c_priceStep c_thrown_cells c_thrown_filled c_nets_cells c_nets_filled)) (run_SN (rest := []) X hG hl.1 (mX8_within l dC dI cI cJ x1 (0 : Int32) (40 : Int32) hz_2) gi_N_yX8_within w_318 w_265 w_41 hd_S_yX8_within ⟨rfl, rfl⟩ rfl ⟨Nat.le_of_ble_eq_true rfl, Nat.le_of_ble_eq_true rfl⟩ [] (by decide) rfl rfl (Nat.le_of_ble_eq_true rfl) ⟨Nat.le_of_ble_eq_true rfl, Nat.le_of_ble_eq_true rfl⟩ dX3_tellThrow_4) hG [] rfl rfl rfl (fun H locs hG => ?_)
  clear hz_2
  refine lv_if_eq (tgt := 59) hx hb dX3_tellThrow_7 (by decide) (fun c_3 => ?_) (fun c_3 => ?_)
  · have h := ite_t h c_3
    refine lv_iconst (v := (0 : Int32)) hx hb dX3_tellThrow_59 (by decide) ?_
    cases h
    exact ret _ _ _ _ dX3_tellThrow_60 (by decide) hG
  · have h := ite_f h c_3
    refine lv_iload_n hx hb dX3_tellThrow_10 rfl (lv_at hl 2 rfl) ?_
    refine lv_iconst (v := (0 : Int32)) hx hb dX3_tellThrow_11 (by decide) ?_
    refine lv_bipush (v := (23 : Int32)) hx hb dX3_tellThrow_12 (by decide) ?_
    obtain ⟨r_4, hz_5, h⟩ := bd1_some h
    refine aft_i (ws' := (W_X3 a0 a1 a2 a3 a4 cI cJ c_stand c_home c_priceStart c_priceStep c_thrown_cells c_thrown_filled c_nets_cells c_nets_filled)) (run_SN (rest := []) X hG hl.1 (mX8_within l dC dI cI cJ x2 (0 : Int32) (23 : Int32) hz_5) gi_N_yX8_within w_318 w_265 w_41 hd_S_yX8_within ⟨rfl, rfl⟩ rfl ⟨Nat.le_of_ble_eq_true rfl, Nat.le_of_ble_eq_true rfl⟩ [] (by decide) rfl rfl (Nat.le_of_ble_eq_true rfl) ⟨Nat.le_of_ble_eq_true rfl, Nat.le_of_ble_eq_true rfl⟩ dX3_tellThrow_14) hG [] rfl rfl rfl (fun H locs hG => ?_)
    clear hz_5
    refine lv_if_eq (tgt := 59) hx hb dX3_tellThrow_17 (by decide) (fun c_6 => ?_) (fun c_6 => ?_)
    · have h := ite_t h c_6
      refine lv_iconst (v := (0 : Int32)) hx hb dX3_tellThrow_59 (by decide) ?_
      cases h
      exact ret _ _ _ _ dX3_tellThrow_60 (by decide) hG
    · have h := ite_f h c_6
      refine lv_iload_n hx hb dX3_tellThrow_20 rfl (lv_at hl 3 rfl) ?_
      refine lv_iconst (v := (1 : Int32)) hx hb dX3_tellThrow_21 (by decide) ?_
      refine lv_bipush (v := (6 : Int32)) hx hb dX3_tellThrow_22 (by decide) ?_
      obtain ⟨r_7, hz_8, h⟩ := bd1_some h
      refine aft_i (ws' := (W_X3 a0 a1 a2 a3 a4 cI cJ c_stand c_home c_priceStart c_priceStep c_thrown_cells c_thrown_filled c_nets_cells c_nets_filled)) (run_SN (rest := []) X hG hl.1 (mX8_within l dC dI cI cJ x3 (1 : Int32) (6 : Int32) hz_8) gi_N_yX8_within w_318 w_265 w_41 hd_S_yX8_within ⟨rfl, rfl⟩ rfl ⟨Nat.le_of_ble_eq_true rfl, Nat.le_of_ble_eq_true rfl⟩ [] (by decide) rfl rfl (Nat.le_of_ble_eq_true rfl) ⟨Nat.le_of_ble_eq_true rfl, Nat.le_of_ble_eq_true rfl⟩ dX3_tellThrow_24) hG [] rfl rfl rfl (fun H locs hG => ?_)
      clear hz_8
      refine lv_if_eq (tgt := 59) hx hb dX3_tellThrow_27 (by decide) (fun c_9 => ?_) (fun c_9 => ?_)
      · have h := ite_t h c_9
        refine lv_iconst (v := (0 : Int32)) hx hb dX3_tellThrow_59 (by decide) ?_
        cases h
        exact ret _ _ _ _ dX3_tellThrow_60 (by decide) hG
      · have h := ite_f h c_9
        refine lv_iload hx hb dX3_tellThrow_30 (lv_at hl 4 rfl) ?_
        refine lv_iconst (v := (0 : Int32)) hx hb dX3_tellThrow_32 (by decide) ?_
        refine lv_iconst (v := (3 : Int32)) hx hb dX3_tellThrow_33 (by decide) ?_
        obtain ⟨r_10, hz_11, h⟩ := bd1_some h
        refine aft_i (ws' := (W_X3 a0 a1 a2 a3 a4 cI cJ c_stand c_home c_priceStart c_priceStep c_thrown_cells c_thrown_filled c_nets_cells c_nets_filled)) (run_SN (rest := []) X hG hl.1 (mX8_within l dC dI cI cJ x4 (0 : Int32) (3 : Int32) hz_11) gi_N_yX8_within w_318 w_265 w_41 hd_S_yX8_within ⟨rfl, rfl⟩ rfl ⟨Nat.le_of_ble_eq_true rfl, Nat.le_of_ble_eq_true rfl⟩ [] (by decide) rfl rfl (Nat.le_of_ble_eq_true rfl) ⟨Nat.le_of_ble_eq_true rfl, Nat.le_of_ble_eq_true rfl⟩ dX3_tellThrow_34) hG [] rfl rfl rfl (fun H locs hG => ?_)
        clear hz_11
        refine lv_if_eq (tgt := 59) hx hb dX3_tellThrow_37 (by decide) (fun c_12 => ?_) (fun c_12 => ?_)
        · have h := ite_t h c_12
          refine lv_iconst (v := (0 : Int32)) hx hb dX3_tellThrow_59 (by decide) ?_
          cases h
          exact ret _ _ _ _ dX3_tellThrow_60 (by decide) hG
        · have h := ite_f h c_12
          refine lv_aload_n hx hb dX3_tellThrow_40 rfl (lv_at hl 0 rfl) ?_
          refine r_get X hG in_X3 rfl 4 (by decide) w_135 0 rfl rfl dX3_tellThrow_41 ?_
          refine lv_iload_n hx hb dX3_tellThrow_44 rfl (lv_at hl 1 rfl) ?_
          refine lv_iload_n hx hb dX3_tellThrow_45 rfl (lv_at hl 2 rfl) ?_
          refine lv_iload_n hx hb dX3_tellThrow_46 rfl (lv_at hl 3 rfl) ?_
          refine lv_iload hx hb dX3_tellThrow_47 (lv_at hl 4 rfl) ?_
          obtain ⟨r_13, k_thrown_cells_14, k_thrown_filled_15, hz_16, h⟩ := bd3_some h
          refine aft_i (ws' := (W_X3 a0 a1 a2 a3 a4 cI cJ c_stand c_home c_priceStart c_priceStep k_thrown_cells_14 k_thrown_filled_15 c_nets_cells c_nets_filled)) (run_V (rest := []) X hG hl.1 (mX5_add l dC dI cI cJ a1 a2 (7 : Int32) (4 : Int32) 28 c_thrown_cells c_thrown_filled x1 x2 x3 x4 hz_16) gi_V_X3_64 hd_V_yX5_add ⟨rfl, rfl⟩ rfl ⟨Nat.le_of_ble_eq_true rfl, Nat.le_of_ble_eq_true rfl⟩ [1, 2] (by decide) rfl 1 rfl rfl rfl rfl (Nat.le_of_ble_eq_true rfl) ⟨Nat.le_of_ble_eq_true rfl, Nat.le_of_ble_eq_true rfl⟩ dX3_tellThrow_49) hG [1, 2] rfl rfl rfl (fun H locs hG => ?_)
          clear hz_16
          refine lv_if_eq (tgt := 59) hx hb dX3_tellThrow_52 (by decide) (fun c_17 => ?_) (fun c_17 => ?_)
          · have h := ite_t h c_17
            refine lv_iconst (v := (0 : Int32)) hx hb dX3_tellThrow_59 (by decide) ?_
            cases h
            exact ret _ _ _ _ dX3_tellThrow_60 (by decide) hG
          · have h := ite_f h c_17
            refine lv_iconst (v := (1 : Int32)) hx hb dX3_tellThrow_55 (by decide) ?_
            refine lv_goto (tgt := 60) hx hb dX3_tellThrow_56 (by decide) ?_
            cases h
            exact ret _ _ _ _ dX3_tellThrow_60 (by decide) hG
set_option maxRecDepth 100000 in
set_option maxHeartbeats 4000000 in
theorem mX3_tellRock (l : Launch) (dC : Nat → ClassId) (dI : Nat → Nat → Nat) (cI cJ : ClassId) (a0 a1 a2 a3 a4 : Nat) (c_stand : Int32) (c_home : Int32) (c_priceStart : Int32) (c_priceStep : Int32) (c_thrown_cells : Nat → Int32) (c_thrown_filled : Int32) (c_nets_cells : Nat → Int32) (c_nets_filled : Int32) (x1 : Int32) (x2 : Int32) {res : Int32} {n_stand : Int32} {n_home : Int32} (hD : DX3_tellRock x1 x2 c_stand c_home = some (res, n_stand, n_home)) : Met l yX3_tellRock (WZ yX3_tellRock cX3_tellRock 3 (some .boolean)) (RM 1 22) (PC dC dI cI cJ [.ref a0, .int x1, .int x2] (W_X3 a0 a1 a2 a3 a4 cI cJ c_stand c_home c_priceStart c_priceStep c_thrown_cells c_thrown_filled c_nets_cells c_nets_filled)) (QI dC dI (W_X3 a0 a1 a2 a3 a4 cI cJ c_stand c_home c_priceStart c_priceStep c_thrown_cells c_thrown_filled c_nets_cells c_nets_filled) (W_X3 a0 a1 a2 a3 a4 cI cJ n_stand n_home c_priceStart c_priceStep c_thrown_cells c_thrown_filled c_nets_cells c_nets_filled) res) 0 0 (FA (W_X3 a0 a1 a2 a3 a4 cI cJ c_stand c_home c_priceStart c_priceStep c_thrown_cells c_thrown_filled c_nets_cells c_nets_filled)) := by
  refine r_metZ (by decide +kernel) (Nat.le_of_ble_eq_true rfl) ?_
  intro p e s m args below meth c A H0 QQ X ret ls hl hG
  have X : Cx p m c cX3_tellRock 3 s args RX3 dC dI cI cJ meth (some .boolean) := X
  have hx := X.1.1
  have hb := X.1.2.1
  have hl : lv_has ls 3 [(0, .ref a0), (1, .int x1), (2, .int x2)] := hl
  have h := hD
  unfold DX3_tellRock at h
  clear hD
  refine lv_iload_n hx hb dX3_tellRock_0 rfl (lv_at hl 1 rfl) ?_
  refine lv_iconst (v := (0 : Int32)) hx hb dX3_tellRock_1 (by decide) ?_
  refine lv_bipush (v := (23 : Int32)) hx hb dX3_tellRock_2 (by decide) ?_
  obtain ⟨r_1, hz_2, h⟩ := bd1_some h
  refine aft_i (ws' := (W_X3 a0 a1 a2 a3 a4 cI cJ c_stand c_home c_priceStart c_priceStep c_thrown_cells c_thrown_filled c_nets_cells c_nets_filled)) (run_SN (rest := []) X hG hl.1 (mX8_within l dC dI cI cJ x1 (0 : Int32) (23 : Int32) hz_2) gi_N_yX8_within w_318 w_265 w_41 hd_S_yX8_within ⟨rfl, rfl⟩ rfl ⟨Nat.le_of_ble_eq_true rfl, Nat.le_of_ble_eq_true rfl⟩ [] (by decide) rfl rfl (Nat.le_of_ble_eq_true rfl) ⟨Nat.le_of_ble_eq_true rfl, Nat.le_of_ble_eq_true rfl⟩ dX3_tellRock_4) hG [] rfl rfl rfl (fun H locs hG => ?_)
  clear hz_2
  refine lv_if_eq (tgt := 20) hx hb dX3_tellRock_7 (by decide) (fun c_3 => ?_) (fun c_3 => ?_)
  · have h := ite_t h c_3
    refine lv_iconst (v := (0 : Int32)) hx hb dX3_tellRock_20 (by decide) ?_
    cases h
    exact ret _ _ _ _ dX3_tellRock_21 (by decide) hG
  · have h := ite_f h c_3
    refine lv_iload_n hx hb dX3_tellRock_10 rfl (lv_at hl 2 rfl) ?_
    refine lv_iconst (v := (1 : Int32)) hx hb dX3_tellRock_11 (by decide) ?_
    refine lv_bipush (v := (60 : Int32)) hx hb dX3_tellRock_12 (by decide) ?_
    obtain ⟨r_4, hz_5, h⟩ := bd1_some h
    refine aft_i (ws' := (W_X3 a0 a1 a2 a3 a4 cI cJ c_stand c_home c_priceStart c_priceStep c_thrown_cells c_thrown_filled c_nets_cells c_nets_filled)) (run_SN (rest := []) X hG hl.1 (mX8_within l dC dI cI cJ x2 (1 : Int32) (60 : Int32) hz_5) gi_N_yX8_within w_318 w_265 w_41 hd_S_yX8_within ⟨rfl, rfl⟩ rfl ⟨Nat.le_of_ble_eq_true rfl, Nat.le_of_ble_eq_true rfl⟩ [] (by decide) rfl rfl (Nat.le_of_ble_eq_true rfl) ⟨Nat.le_of_ble_eq_true rfl, Nat.le_of_ble_eq_true rfl⟩ dX3_tellRock_14) hG [] rfl rfl rfl (fun H locs hG => ?_)
    clear hz_5
    refine lv_if_ne (tgt := 22) hx hb dX3_tellRock_17 (by decide) (fun c_6 => ?_) (fun c_6 => ?_)
    · have h := ite_f h c_6
      refine lv_aload_n hx hb dX3_tellRock_22 rfl (lv_at hl 0 rfl) ?_
      refine lv_iload_n hx hb dX3_tellRock_23 rfl (lv_at hl 1 rfl) ?_
      refine r_put X hG in_X3 rfl tyX3 tyX3_ok nmX3 0 (by decide) rfl (by decide +kernel) w_127 0 (ws' := (W_X3 a0 a1 a2 a3 a4 cI cJ x1 c_home c_priceStart c_priceStep c_thrown_cells c_thrown_filled c_nets_cells c_nets_filled)) rfl (Nat.le_of_ble_eq_true rfl) rfl dX3_tellRock_24 (fun H locs hG => ?_)
      refine lv_aload_n hx hb dX3_tellRock_27 rfl (lv_at hl 0 rfl) ?_
      refine lv_iload_n hx hb dX3_tellRock_28 rfl (lv_at hl 2 rfl) ?_
      refine r_put X hG in_X3 rfl tyX3 tyX3_ok nmX3 1 (by decide) rfl (by decide +kernel) w_130 0 (ws' := (W_X3 a0 a1 a2 a3 a4 cI cJ x1 x2 c_priceStart c_priceStep c_thrown_cells c_thrown_filled c_nets_cells c_nets_filled)) rfl (Nat.le_of_ble_eq_true rfl) rfl dX3_tellRock_29 (fun H locs hG => ?_)
      refine lv_iconst (v := (1 : Int32)) hx hb dX3_tellRock_32 (by decide) ?_
      cases h
      exact ret _ _ _ _ dX3_tellRock_33 (by decide) hG
    · have h := ite_t h c_6
      refine lv_iconst (v := (0 : Int32)) hx hb dX3_tellRock_20 (by decide) ?_
      cases h
      exact ret _ _ _ _ dX3_tellRock_21 (by decide) hG
