/-! CONTRACTS, laid by wip/gen/lay.py: yX9_isOnWay, yX9_farOf, yX9_meetOn, yX9_go, yX9_apart, yX9_placeOf, yX9_isCaught, yX9_howOf, yX9_priceOf, yX9_paidOf, yX9_load, yX9_isDay, yX9_far, yX9_rock, yX9_price, yX9_howMany, yX9_paidAll, yX9_all, yX9_note, yX9_aim, yX9_move, yX9_speed, yX9_undo, yX9_bestAim, yX9_bestDay, yX9_net, yX9_bits, yX9_clear, yX9_stray -/
set_option maxRecDepth 100000 in
set_option maxHeartbeats 4000000 in
theorem mX9_isOnWay (l : Launch) (dC : Nat → ClassId) (dI : Nat → Nat → Nat) (cI cJ : ClassId) (a : Nat → Nat) (c_length : Int32) (c_text : Nat → Int32) (c_stands : Nat → Int32) (c_homeFar : Nat → Int32) (c_nets : Nat → Int32) (c_netAt : Nat → Int32) (c_netWide : Nat → Int32) (c_netFrom : Nat → Int32) (c_netTo : Nat → Int32) (c_priceX : Nat → Int32) (c_priceY : Nat → Int32) (c_many : Nat → Int32) (c_days : Nat → Int32) (c_aims : Nat → Int32) (c_speeds : Nat → Int32) (c_kinds : Nat → Int32) (c_keptMany : Int32) (c_undoMany : Int32) (c_undos : Nat → Int32) (c_spot : Int32) (c_told : Nat → Int32) (c_to : Nat → Int32) (c_stood : Nat → Int32) (c_home : Nat → Int32) (c_lost : Nat → Int32) (c_out : Int32) (c_fewest : Nat → Int32) (c_ways : Nat → Int64) (c_next : Nat → Int64) (c_held : Nat → Int32) (x1 : Int32) (x2 : Int32) {res : Int32} (hD : DX9_isOnWay x1 x2 c_days c_home c_lost c_out = some res) : Met l yX9_isOnWay (WZ yX9_isOnWay cX9_isOnWay 3 (some .boolean)) (RM 1 21) (PC dC dI cI cJ [.ref (a 0), .int x1, .int x2] (W_X9 a cI cJ c_length c_text c_stands c_homeFar c_nets c_netAt c_netWide c_netFrom c_netTo c_priceX c_priceY c_many c_days c_aims c_speeds c_kinds c_keptMany c_undoMany c_undos c_spot c_told c_to c_stood c_home c_lost c_out c_fewest c_ways c_next c_held)) (QI dC dI (W_X9 a cI cJ c_length c_text c_stands c_homeFar c_nets c_netAt c_netWide c_netFrom c_netTo c_priceX c_priceY c_many c_days c_aims c_speeds c_kinds c_keptMany c_undoMany c_undos c_spot c_told c_to c_stood c_home c_lost c_out c_fewest c_ways c_next c_held) (W_X9 a cI cJ c_length c_text c_stands c_homeFar c_nets c_netAt c_netWide c_netFrom c_netTo c_priceX c_priceY c_many c_days c_aims c_speeds c_kinds c_keptMany c_undoMany c_undos c_spot c_told c_to c_stood c_home c_lost c_out c_fewest c_ways c_next c_held) res) 0 0 (FA (W_X9 a cI cJ c_length c_text c_stands c_homeFar c_nets c_netAt c_netWide c_netFrom c_netTo c_priceX c_priceY c_many c_days c_aims c_speeds c_kinds c_keptMany c_undoMany c_undos c_spot c_told c_to c_stood c_home c_lost c_out c_fewest c_ways c_next c_held)) := by
  refine r_metZ (by decide +kernel) (Nat.le_of_ble_eq_true rfl) ?_
  intro p e s m args below meth c A H0 QQ X ret ls hl hG
  have X : Cx p m c cX9_isOnWay 3 s args RX9 dC dI cI cJ meth (some .boolean) := X
  have hx := X.1.1
  have hb := X.1.2.1
  have hl : lv_has ls 3 [(0, .ref (a 0)), (1, .int x1), (2, .int x2)] := hl
  have h := hD
  unfold DX9_isOnWay at h
  clear hD
  refine lv_aload_n hx hb dX9_isOnWay_0 rfl (lv_at hl 0 rfl) ?_
  refine r_get X hG in_X9 rfl 25 (by decide) w_656 0 rfl rfl dX9_isOnWay_1 ?_
  refine lv_iload_n hx hb dX9_isOnWay_4 rfl (lv_at hl 1 rfl) ?_
  obtain ⟨r_1, hz_2, h⟩ := bd1_some h
  refine aft_i (ws' := (W_X9 a cI cJ c_length c_text c_stands c_homeFar c_nets c_netAt c_netWide c_netFrom c_netTo c_priceX c_priceY c_many c_days c_aims c_speeds c_kinds c_keptMany c_undoMany c_undos c_spot c_told c_to c_stood c_home c_lost c_out c_fewest c_ways c_next c_held)) (run_S (rest := []) X hG hl.1 (mX9_has l dC dI cI cJ c_out x1 hz_2) gi_S_X9_144 hd_S_yX9_has ⟨rfl, rfl⟩ rfl ⟨Nat.le_of_ble_eq_true rfl, Nat.le_of_ble_eq_true rfl⟩ [] (by decide) rfl rfl (Nat.le_of_ble_eq_true rfl) ⟨Nat.le_of_ble_eq_true rfl, Nat.le_of_ble_eq_true rfl⟩ dX9_isOnWay_5) hG [] rfl rfl rfl (fun H locs hG => ?_)
  clear hz_2
  refine lv_if_ne (tgt := 45) hx hb dX9_isOnWay_8 (by decide) (fun c_3 => ?_) (fun c_3 => ?_)
  · have h := ite_f h c_3
    refine lv_iconst (v := (0 : Int32)) hx hb dX9_isOnWay_45 (by decide) ?_
    cases h
    exact ret _ _ _ _ dX9_isOnWay_46 (by decide) hG
  · have h := ite_t h c_3
    refine lv_iload_n hx hb dX9_isOnWay_11 rfl (lv_at hl 2 rfl) ?_
    refine lv_aload_n hx hb dX9_isOnWay_12 rfl (lv_at hl 0 rfl) ?_
    refine r_get X hG in_X9 rfl 12 (by decide) w_643 0 rfl rfl dX9_isOnWay_13 ?_
    refine lv_iload_n hx hb dX9_isOnWay_16 rfl (lv_at hl 1 rfl) ?_
    obtain ⟨g_4, h⟩ := gd h
    refine r_iald X hG 12 rfl g_4 dX9_isOnWay_17 ?_
    refine lv_icmp_lt (tgt := 45) hx hb dX9_isOnWay_18 (by decide) (fun c_5 => ?_) (fun c_5 => ?_)
    · have h := ite_t h c_5
      refine lv_iconst (v := (0 : Int32)) hx hb dX9_isOnWay_45 (by decide) ?_
      cases h
      exact ret _ _ _ _ dX9_isOnWay_46 (by decide) hG
    · have h := ite_f h c_5
      refine lv_iload_n hx hb dX9_isOnWay_21 rfl (lv_at hl 2 rfl) ?_
      refine lv_aload_n hx hb dX9_isOnWay_22 rfl (lv_at hl 0 rfl) ?_
      refine r_get X hG in_X9 rfl 23 (by decide) w_654 0 rfl rfl dX9_isOnWay_23 ?_
      refine lv_iload_n hx hb dX9_isOnWay_26 rfl (lv_at hl 1 rfl) ?_
      obtain ⟨g_6, h⟩ := gd h
      refine r_iald X hG 20 rfl g_6 dX9_isOnWay_27 ?_
      refine lv_icmp_ge (tgt := 45) hx hb dX9_isOnWay_28 (by decide) (fun c_7 => ?_) (fun c_7 => ?_)
      · have h := ite_t h c_7
        refine lv_iconst (v := (0 : Int32)) hx hb dX9_isOnWay_45 (by decide) ?_
        cases h
        exact ret _ _ _ _ dX9_isOnWay_46 (by decide) hG
      · have h := ite_f h c_7
        refine lv_aload_n hx hb dX9_isOnWay_31 rfl (lv_at hl 0 rfl) ?_
        refine r_get X hG in_X9 rfl 24 (by decide) w_655 0 rfl rfl dX9_isOnWay_32 ?_
        refine lv_iload_n hx hb dX9_isOnWay_35 rfl (lv_at hl 1 rfl) ?_
        obtain ⟨g_8, h⟩ := gd h
        refine r_iald X hG 21 rfl g_8 dX9_isOnWay_36 ?_
        refine lv_iload_n hx hb dX9_isOnWay_37 rfl (lv_at hl 2 rfl) ?_
        refine lv_icmp_lt (tgt := 45) hx hb dX9_isOnWay_38 (by decide) (fun c_9 => ?_) (fun c_9 => ?_)
        · have h := ite_t h c_9
          refine lv_iconst (v := (0 : Int32)) hx hb dX9_isOnWay_45 (by decide) ?_
          cases h
          exact ret _ _ _ _ dX9_isOnWay_46 (by decide) hG
        · have h := ite_f h c_9
          refine lv_iconst (v := (1 : Int32)) hx hb dX9_isOnWay_41 (by decide) ?_
          refine lv_goto (tgt := 46) hx hb dX9_isOnWay_42 (by decide) ?_
          cases h
          exact ret _ _ _ _ dX9_isOnWay_46 (by decide) hG
set_option maxRecDepth 100000 in
set_option maxHeartbeats 4000000 in
theorem mX9_farOf (l : Launch) (dC : Nat → ClassId) (dI : Nat → Nat → Nat) (cI cJ : ClassId) (a : Nat → Nat) (c_length : Int32) (c_text : Nat → Int32) (c_stands : Nat → Int32) (c_homeFar : Nat → Int32) (c_nets : Nat → Int32) (c_netAt : Nat → Int32) (c_netWide : Nat → Int32) (c_netFrom : Nat → Int32) (c_netTo : Nat → Int32) (c_priceX : Nat → Int32) (c_priceY : Nat → Int32) (c_many : Nat → Int32) (c_days : Nat → Int32) (c_aims : Nat → Int32) (c_speeds : Nat → Int32) (c_kinds : Nat → Int32) (c_keptMany : Int32) (c_undoMany : Int32) (c_undos : Nat → Int32) (c_spot : Int32) (c_told : Nat → Int32) (c_to : Nat → Int32) (c_stood : Nat → Int32) (c_home : Nat → Int32) (c_lost : Nat → Int32) (c_out : Int32) (c_fewest : Nat → Int32) (c_ways : Nat → Int64) (c_next : Nat → Int64) (c_held : Nat → Int32) (x1 : Int32) (x2 : Int32) {res : Int32} (hD : DX9_farOf x1 x2 c_days c_speeds = some res) : Met l yX9_farOf (WZ yX9_farOf cX9_farOf 3 (some .int)) (RM 0 0) (PC dC dI cI cJ [.ref (a 0), .int x1, .int x2] (W_X9 a cI cJ c_length c_text c_stands c_homeFar c_nets c_netAt c_netWide c_netFrom c_netTo c_priceX c_priceY c_many c_days c_aims c_speeds c_kinds c_keptMany c_undoMany c_undos c_spot c_told c_to c_stood c_home c_lost c_out c_fewest c_ways c_next c_held)) (QI dC dI (W_X9 a cI cJ c_length c_text c_stands c_homeFar c_nets c_netAt c_netWide c_netFrom c_netTo c_priceX c_priceY c_many c_days c_aims c_speeds c_kinds c_keptMany c_undoMany c_undos c_spot c_told c_to c_stood c_home c_lost c_out c_fewest c_ways c_next c_held) (W_X9 a cI cJ c_length c_text c_stands c_homeFar c_nets c_netAt c_netWide c_netFrom c_netTo c_priceX c_priceY c_many c_days c_aims c_speeds c_kinds c_keptMany c_undoMany c_undos c_spot c_told c_to c_stood c_home c_lost c_out c_fewest c_ways c_next c_held) res) 0 0 (FA (W_X9 a cI cJ c_length c_text c_stands c_homeFar c_nets c_netAt c_netWide c_netFrom c_netTo c_priceX c_priceY c_many c_days c_aims c_speeds c_kinds c_keptMany c_undoMany c_undos c_spot c_told c_to c_stood c_home c_lost c_out c_fewest c_ways c_next c_held)) := by
  refine r_metI (by decide +kernel) (Nat.le_of_ble_eq_true rfl) ?_
  intro p e s m args below meth c A H0 QQ X ret ls hl hG
  have X : Cx p m c cX9_farOf 3 s args RX9 dC dI cI cJ meth (some .int) := X
  have hx := X.1.1
  have hb := X.1.2.1
  have hl : lv_has ls 3 [(0, .ref (a 0)), (1, .int x1), (2, .int x2)] := hl
  have h := hD
  unfold DX9_farOf at h
  clear hD
  refine lv_aload_n hx hb dX9_farOf_0 rfl (lv_at hl 0 rfl) ?_
  refine r_get X hG in_X9 rfl 14 (by decide) w_645 0 rfl rfl dX9_farOf_1 ?_
  refine lv_iload_n hx hb dX9_farOf_4 rfl (lv_at hl 1 rfl) ?_
  obtain ⟨g_1, h⟩ := gd h
  refine r_iald X hG 14 rfl g_1 dX9_farOf_5 ?_
  refine lv_iload_n hx hb dX9_farOf_6 rfl (lv_at hl 2 rfl) ?_
  refine lv_aload_n hx hb dX9_farOf_7 rfl (lv_at hl 0 rfl) ?_
  refine r_get X hG in_X9 rfl 12 (by decide) w_643 0 rfl rfl dX9_farOf_8 ?_
  refine lv_iload_n hx hb dX9_farOf_11 rfl (lv_at hl 1 rfl) ?_
  obtain ⟨g_2, h⟩ := gd h
  refine r_iald X hG 12 rfl g_2 dX9_farOf_12 ?_
  refine lv_isub hx hb dX9_farOf_13 ?_
  refine lv_imul hx hb dX9_farOf_14 ?_
  cases h
  exact ret _ _ _ _ dX9_farOf_15 hG
set_option maxRecDepth 100000 in
set_option maxHeartbeats 4000000 in
theorem mX9_meetOn (l : Launch) (dC : Nat → ClassId) (dI : Nat → Nat → Nat) (cI cJ : ClassId) (a : Nat → Nat) (c_length : Int32) (c_text : Nat → Int32) (c_stands : Nat → Int32) (c_homeFar : Nat → Int32) (c_nets : Nat → Int32) (c_netAt : Nat → Int32) (c_netWide : Nat → Int32) (c_netFrom : Nat → Int32) (c_netTo : Nat → Int32) (c_priceX : Nat → Int32) (c_priceY : Nat → Int32) (c_many : Nat → Int32) (c_days : Nat → Int32) (c_aims : Nat → Int32) (c_speeds : Nat → Int32) (c_kinds : Nat → Int32) (c_keptMany : Int32) (c_undoMany : Int32) (c_undos : Nat → Int32) (c_spot : Int32) (c_told : Nat → Int32) (c_to : Nat → Int32) (c_stood : Nat → Int32) (c_home : Nat → Int32) (c_lost : Nat → Int32) (c_out : Int32) (c_fewest : Nat → Int32) (c_ways : Nat → Int64) (c_next : Nat → Int64) (c_held : Nat → Int32) (x1 : Int32) {n_lost : Nat → Int32} (hD : DX9_meetOn x1 c_many c_days c_speeds c_to c_home c_lost c_out = some n_lost) : Met l yX9_meetOn (WZ yX9_meetOn cX9_meetOn 6 none) (RM 2 43) (PC dC dI cI cJ [.ref (a 0), .int x1] (W_X9 a cI cJ c_length c_text c_stands c_homeFar c_nets c_netAt c_netWide c_netFrom c_netTo c_priceX c_priceY c_many c_days c_aims c_speeds c_kinds c_keptMany c_undoMany c_undos c_spot c_told c_to c_stood c_home c_lost c_out c_fewest c_ways c_next c_held)) (QV dC dI (W_X9 a cI cJ c_length c_text c_stands c_homeFar c_nets c_netAt c_netWide c_netFrom c_netTo c_priceX c_priceY c_many c_days c_aims c_speeds c_kinds c_keptMany c_undoMany c_undos c_spot c_told c_to c_stood c_home c_lost c_out c_fewest c_ways c_next c_held) (W_X9 a cI cJ c_length c_text c_stands c_homeFar c_nets c_netAt c_netWide c_netFrom c_netTo c_priceX c_priceY c_many c_days c_aims c_speeds c_kinds c_keptMany c_undoMany c_undos c_spot c_told c_to c_stood c_home n_lost c_out c_fewest c_ways c_next c_held)) 0 0 (FA (W_X9 a cI cJ c_length c_text c_stands c_homeFar c_nets c_netAt c_netWide c_netFrom c_netTo c_priceX c_priceY c_many c_days c_aims c_speeds c_kinds c_keptMany c_undoMany c_undos c_spot c_told c_to c_stood c_home c_lost c_out c_fewest c_ways c_next c_held)) := by
  refine r_metV (by decide +kernel) (Nat.le_of_ble_eq_true rfl) ?_
  intro p e s m args below meth c A H0 QQ X ret ls hl hG
  have X : Cx p m c cX9_meetOn 6 s args RX9 dC dI cI cJ meth none := X
  have hx := X.1.1
  have hb := X.1.2.1
  have hl : lv_has ls 6 [(0, .ref (a 0)), (1, .int x1)] := hl
  have J79 : ∀ (y0 : Int32) (x2 : Int32) (x3 : Int32) (x4 : Int32) (c_lost : Nat → Int32), ∀ (w : (Int32 × Int32) ⊕ (Int32)), DX9_meetOn_J79 y0 x2 x3 x4 = some w → (∀ (x2 : Int32) (x4 : Int32), w = .inl (x2, x4) → ∀ (ls : Array Slot) (H : Heap) (locs : List Loc), lv_has ls 6 [(0, .ref (a 0)), (1, .int x1), (2, .int x2), (3, .int x3), (4, .int x4)] → G dC dI A H0 (W_X9 a cI cJ c_length c_text c_stands c_homeFar c_nets c_netAt c_netWide c_netFrom c_netTo c_priceX c_priceY c_many c_days c_aims c_speeds c_kinds c_keptMany c_undoMany c_undos c_spot c_told c_to c_stood c_home c_lost c_out c_fewest c_ways c_next c_held) H locs → W p l e (RM 2 43) s m args below meth c H locs 0 0 QQ (F0 m 17 ls [])) → (∀ (x2 : Int32), w = .inr x2 → ∀ (ls : Array Slot) (H : Heap) (locs : List Loc), lv_has ls 6 [(0, .ref (a 0)), (1, .int x1), (2, .int x2), (3, .int x3)] → G dC dI A H0 (W_X9 a cI cJ c_length c_text c_stands c_homeFar c_nets c_netAt c_netWide c_netFrom c_netTo c_priceX c_priceY c_many c_days c_aims c_speeds c_kinds c_keptMany c_undoMany c_undos c_spot c_told c_to c_stood c_home c_lost c_out c_fewest c_ways c_next c_held) H locs → W p l e (RM 2 43) s m args below meth c H locs 0 0 QQ (F0 m 107 ls [])) → ∀ (ls : Array Slot) (H : Heap) (locs : List Loc), lv_has ls 6 [(0, .ref (a 0)), (1, .int x1), (2, .int x2), (3, .int x3), (4, .int x4)] → G dC dI A H0 (W_X9 a cI cJ c_length c_text c_stands c_homeFar c_nets c_netAt c_netWide c_netFrom c_netTo c_priceX c_priceY c_many c_days c_aims c_speeds c_kinds c_keptMany c_undoMany c_undos c_spot c_told c_to c_stood c_home c_lost c_out c_fewest c_ways c_next c_held) H locs → W p l e (RM 2 43) s m args below meth c H locs 0 0 QQ (F0 m 79 ls [.int y0]) := by
    intro y0 x2 x3 x4 c_lost w h KC KX ls H locs hl hG
    unfold DX9_meetOn_J79 at h
    refine lv_istore (lv' := [(5, .int y0), (0, .ref (a 0)), (1, .int x1), (2, .int x2), (3, .int x3), (4, .int x4)]) hx hb dX9_meetOn_79 hl (by decide) rfl (fun ls hl => ?_)
    refine lv_iload_n hx hb dX9_meetOn_81 rfl (lv_at hl 3 rfl) ?_
    refine lv_iload hx hb dX9_meetOn_82 (lv_at hl 0 rfl) ?_
    refine lv_if_eq (tgt := 98) hx hb dX9_meetOn_84 (by decide) (fun c_6 => ?_) (fun c_6 => ?_)
    · have h := ite_t h c_6
      refine lv_iconst (v := (0 : Int32)) hx hb dX9_meetOn_98 (by decide) ?_
      refine lv_ior hx hb dX9_meetOn_99 ?_
      refine lv_istore_n (lv' := [(2, .int (x2 ||| (0 : Int32))), (5, .int y0), (0, .ref (a 0)), (1, .int x1), (3, .int x3), (4, .int x4)]) hx hb dX9_meetOn_100 rfl hl (by decide) rfl (fun ls hl => ?_)
      refine lv_iinc (v := (x4 + (1 : Int32))) (lv' := [(4, .int (x4 + (1 : Int32))), (2, .int (x2 ||| (0 : Int32))), (5, .int y0), (0, .ref (a 0)), (1, .int x1), (3, .int x3)]) hx hb dX9_meetOn_101 hl (k := 5) rfl rfl (by decide) rfl (fun ls hl => ?_)
      refine lv_goto (tgt := 17) hx hb dX9_meetOn_104 (by decide) ?_
      exact KC _ _ (Option.some.inj h).symm _ _ _ (lv_sub hl [3, 4, 1, 5, 0] rfl) hG
    · have h := ite_f h c_6
      refine lv_iconst (v := (1 : Int32)) hx hb dX9_meetOn_87 (by decide) ?_
      refine lv_iload_n hx hb dX9_meetOn_88 rfl (lv_at hl 4 rfl) ?_
      refine lv_ishl hx hb dX9_meetOn_89 ?_
      refine lv_iconst (v := (1 : Int32)) hx hb dX9_meetOn_90 (by decide) ?_
      refine lv_iload hx hb dX9_meetOn_91 (lv_at hl 5 rfl) ?_
      refine lv_ishl hx hb dX9_meetOn_93 ?_
      refine lv_ior hx hb dX9_meetOn_94 ?_
      refine lv_goto (tgt := 99) hx hb dX9_meetOn_95 (by decide) ?_
      refine lv_ior hx hb dX9_meetOn_99 ?_
      refine lv_istore_n (lv' := [(2, .int (x2 ||| (((1 : Int32) <<< (x3 &&& 31)) ||| ((1 : Int32) <<< (x4 &&& 31))))), (5, .int y0), (0, .ref (a 0)), (1, .int x1), (3, .int x3), (4, .int x4)]) hx hb dX9_meetOn_100 rfl hl (by decide) rfl (fun ls hl => ?_)
      refine lv_iinc (v := (x4 + (1 : Int32))) (lv' := [(4, .int (x4 + (1 : Int32))), (2, .int (x2 ||| (((1 : Int32) <<< (x3 &&& 31)) ||| ((1 : Int32) <<< (x4 &&& 31))))), (5, .int y0), (0, .ref (a 0)), (1, .int x1), (3, .int x3)]) hx hb dX9_meetOn_101 hl (k := 5) rfl rfl (by decide) rfl (fun ls hl => ?_)
      refine lv_goto (tgt := 17) hx hb dX9_meetOn_104 (by decide) ?_
      exact KC _ _ (Option.some.inj h).symm _ _ _ (lv_sub hl [3, 4, 1, 5, 0] rfl) hG
  have L17 : ∀ (x3 : Int32) (c_lost : Nat → Int32), ∀ (n : Nat) (x2 : Int32) (x4 : Int32) (ex2 : Int32), DX9_meetOn_L17 x1 c_days c_speeds c_to c_home c_lost c_out x3 n x2 x4 = some ex2 → (∀ (ls : Array Slot) (H : Heap) (locs : List Loc), lv_has ls 6 [(0, .ref (a 0)), (1, .int x1), (2, .int ex2), (3, .int x3)] → G dC dI A H0 (W_X9 a cI cJ c_length c_text c_stands c_homeFar c_nets c_netAt c_netWide c_netFrom c_netTo c_priceX c_priceY c_many c_days c_aims c_speeds c_kinds c_keptMany c_undoMany c_undos c_spot c_told c_to c_stood c_home c_lost c_out c_fewest c_ways c_next c_held) H locs → W p l e (RM 2 43) s m args below meth c H locs 0 0 QQ (F0 m 107 ls [])) → ∀ (ls : Array Slot) (H : Heap) (locs : List Loc), lv_has ls 6 [(0, .ref (a 0)), (1, .int x1), (2, .int x2), (3, .int x3), (4, .int x4)] → G dC dI A H0 (W_X9 a cI cJ c_length c_text c_stands c_homeFar c_nets c_netAt c_netWide c_netFrom c_netTo c_priceX c_priceY c_many c_days c_aims c_speeds c_kinds c_keptMany c_undoMany c_undos c_spot c_told c_to c_stood c_home c_lost c_out c_fewest c_ways c_next c_held) H locs → W p l e (RM 2 43) s m args below meth c H locs 0 0 QQ (F0 m 17 ls []) := by
    intro x3 c_lost n
    induction n with
    | zero => intro x2 x4 ex2 h; exact it_zero h
    | succ n ih =>
      intro x2 x4 ex2 h0 K0 ls H locs hl hG
      obtain ⟨w, h, hi, hr⟩ := it_succ h0
      have h : DX9_meetOn_L17s x1 c_days c_speeds c_to c_home c_lost c_out x3 x2 x4 = some w := h
      have KC : ∀ (x2 : Int32) (x4 : Int32), w = .inl (x2, x4) → ∀ (ls : Array Slot) (H : Heap) (locs : List Loc), lv_has ls 6 [(0, .ref (a 0)), (1, .int x1), (2, .int x2), (3, .int x3), (4, .int x4)] → G dC dI A H0 (W_X9 a cI cJ c_length c_text c_stands c_homeFar c_nets c_netAt c_netWide c_netFrom c_netTo c_priceX c_priceY c_many c_days c_aims c_speeds c_kinds c_keptMany c_undoMany c_undos c_spot c_told c_to c_stood c_home c_lost c_out c_fewest c_ways c_next c_held) H locs → W p l e (RM 2 43) s m args below meth c H locs 0 0 QQ (F0 m 17 ls []) := fun b0 b1 e ls H locs hl hG => ih b0 b1 ex2 (hi _ e) K0 ls H locs hl hG
      have KX : ∀ (x2 : Int32), w = .inr x2 → ∀ (ls : Array Slot) (H : Heap) (locs : List Loc), lv_has ls 6 [(0, .ref (a 0)), (1, .int x1), (2, .int x2), (3, .int x3)] → G dC dI A H0 (W_X9 a cI cJ c_length c_text c_stands c_homeFar c_nets c_netAt c_netWide c_netFrom c_netTo c_priceX c_priceY c_many c_days c_aims c_speeds c_kinds c_keptMany c_undoMany c_undos c_spot c_told c_to c_stood c_home c_lost c_out c_fewest c_ways c_next c_held) H locs → W p l e (RM 2 43) s m args below meth c H locs 0 0 QQ (F0 m 107 ls []) := fun b0 e ls H locs hl hG => by cases hr _ e; exact K0 ls H locs hl hG
      clear h0 hi hr K0 ih
      unfold DX9_meetOn_L17s at h
      refine lv_iload hx hb dX9_meetOn_17 (lv_at hl 4 rfl) ?_
      refine lv_iload_n hx hb dX9_meetOn_19 rfl (lv_at hl 3 rfl) ?_
      refine lv_icmp_ge (tgt := 107) hx hb dX9_meetOn_20 (by decide) (fun c_2 => ?_) (fun c_2 => ?_)
      · have h := ite_t h c_2
        exact KX _ (Option.some.inj h).symm _ _ _ (lv_sub hl [0, 1, 2, 3] rfl) hG
      · have h := ite_f h c_2
        refine lv_aload_n hx hb dX9_meetOn_23 rfl (lv_at hl 0 rfl) ?_
        refine lv_iload_n hx hb dX9_meetOn_24 rfl (lv_at hl 3 rfl) ?_
        refine lv_iload_n hx hb dX9_meetOn_25 rfl (lv_at hl 1 rfl) ?_
        obtain ⟨r_3, hz_4, h⟩ := bd1_some h
        refine aft_i1 (run_V1 (rest := []) X hG hl.1 (mX9_isOnWay l dC dI cI cJ a c_length c_text c_stands c_homeFar c_nets c_netAt c_netWide c_netFrom c_netTo c_priceX c_priceY c_many c_days c_aims c_speeds c_kinds c_keptMany c_undoMany c_undos c_spot c_told c_to c_stood c_home c_lost c_out c_fewest c_ways c_next c_held x3 x1 hz_4) gi_V_X9_151 hd_V_yX9_isOnWay ⟨rfl, rfl⟩ rfl ⟨Nat.le_of_ble_eq_true rfl, Nat.le_of_ble_eq_true rfl⟩ 0 rfl rfl rfl rfl (Nat.le_of_ble_eq_true rfl) ⟨Nat.le_of_ble_eq_true rfl, Nat.le_of_ble_eq_true rfl⟩ dX9_meetOn_26) hG rfl (fun H locs hG => ?_)
        clear hz_4
        refine lv_if_eq (tgt := 78) hx hb dX9_meetOn_29 (by decide) (fun c_5 => ?_) (fun c_5 => ?_)
        · have h := ite_t h c_5
          refine lv_iconst (v := (0 : Int32)) hx hb dX9_meetOn_78 (by decide) ?_
          exact J79 (0 : Int32) x2 x3 x4 c_lost _ h KC KX _ _ _ (lv_sub hl [0, 1, 2, 3, 4] rfl) hG
        · have h := ite_f h c_5
          refine lv_aload_n hx hb dX9_meetOn_32 rfl (lv_at hl 0 rfl) ?_
          refine lv_iload hx hb dX9_meetOn_33 (lv_at hl 4 rfl) ?_
          refine lv_iload_n hx hb dX9_meetOn_35 rfl (lv_at hl 1 rfl) ?_
          obtain ⟨r_7, hz_8, h⟩ := bd1_some h
          refine aft_i1 (run_V1 (rest := []) X hG hl.1 (mX9_isOnWay l dC dI cI cJ a c_length c_text c_stands c_homeFar c_nets c_netAt c_netWide c_netFrom c_netTo c_priceX c_priceY c_many c_days c_aims c_speeds c_kinds c_keptMany c_undoMany c_undos c_spot c_told c_to c_stood c_home c_lost c_out c_fewest c_ways c_next c_held x4 x1 hz_8) gi_V_X9_151 hd_V_yX9_isOnWay ⟨rfl, rfl⟩ rfl ⟨Nat.le_of_ble_eq_true rfl, Nat.le_of_ble_eq_true rfl⟩ 0 rfl rfl rfl rfl (Nat.le_of_ble_eq_true rfl) ⟨Nat.le_of_ble_eq_true rfl, Nat.le_of_ble_eq_true rfl⟩ dX9_meetOn_36) hG rfl (fun H locs hG => ?_)
          clear hz_8
          refine lv_if_eq (tgt := 78) hx hb dX9_meetOn_39 (by decide) (fun c_9 => ?_) (fun c_9 => ?_)
          · have h := ite_t h c_9
            refine lv_iconst (v := (0 : Int32)) hx hb dX9_meetOn_78 (by decide) ?_
            exact J79 (0 : Int32) x2 x3 x4 c_lost _ h KC KX _ _ _ (lv_sub hl [0, 1, 2, 3, 4] rfl) hG
          · have h := ite_f h c_9
            refine lv_aload_n hx hb dX9_meetOn_42 rfl (lv_at hl 0 rfl) ?_
            refine r_get X hG in_X9 rfl 21 (by decide) w_652 0 rfl rfl dX9_meetOn_43 ?_
            refine lv_iload_n hx hb dX9_meetOn_46 rfl (lv_at hl 3 rfl) ?_
            obtain ⟨g_10, h⟩ := gd h
            refine r_iald X hG 18 rfl g_10 dX9_meetOn_47 ?_
            refine lv_aload_n hx hb dX9_meetOn_48 rfl (lv_at hl 0 rfl) ?_
            refine r_get X hG in_X9 rfl 21 (by decide) w_652 0 rfl rfl dX9_meetOn_49 ?_
            refine lv_iload hx hb dX9_meetOn_52 (lv_at hl 4 rfl) ?_
            obtain ⟨g_11, h⟩ := gd h
            refine r_iald X hG 18 rfl g_11 dX9_meetOn_54 ?_
            refine lv_icmp_ne (tgt := 78) hx hb dX9_meetOn_55 (by decide) (fun c_12 => ?_) (fun c_12 => ?_)
            · have h := ite_f h c_12
              refine lv_iconst (v := (0 : Int32)) hx hb dX9_meetOn_78 (by decide) ?_
              exact J79 (0 : Int32) x2 x3 x4 c_lost _ h KC KX _ _ _ (lv_sub hl [0, 1, 2, 3, 4] rfl) hG
            · have h := ite_t h c_12
              refine lv_aload_n hx hb dX9_meetOn_58 rfl (lv_at hl 0 rfl) ?_
              refine lv_iload_n hx hb dX9_meetOn_59 rfl (lv_at hl 3 rfl) ?_
              refine lv_iload_n hx hb dX9_meetOn_60 rfl (lv_at hl 1 rfl) ?_
              obtain ⟨r_13, hz_14, h⟩ := bd1_some h
              refine aft_i1 (run_V1 (rest := []) X hG hl.1 (mX9_farOf l dC dI cI cJ a c_length c_text c_stands c_homeFar c_nets c_netAt c_netWide c_netFrom c_netTo c_priceX c_priceY c_many c_days c_aims c_speeds c_kinds c_keptMany c_undoMany c_undos c_spot c_told c_to c_stood c_home c_lost c_out c_fewest c_ways c_next c_held x3 x1 hz_14) gi_V_X9_154 hd_V_yX9_farOf ⟨rfl, rfl⟩ rfl ⟨Nat.le_of_ble_eq_true rfl, Nat.le_of_ble_eq_true rfl⟩ 0 rfl rfl rfl rfl (Nat.le_of_ble_eq_true rfl) ⟨Nat.le_of_ble_eq_true rfl, Nat.le_of_ble_eq_true rfl⟩ dX9_meetOn_61) hG rfl (fun H locs hG => ?_)
              clear hz_14
              refine lv_aload_n hx hb dX9_meetOn_64 rfl (lv_at hl 0 rfl) ?_
              refine lv_iload hx hb dX9_meetOn_65 (lv_at hl 4 rfl) ?_
              refine lv_iload_n hx hb dX9_meetOn_67 rfl (lv_at hl 1 rfl) ?_
              obtain ⟨r_15, hz_16, h⟩ := bd1_some h
              refine aft_i1 (run_V1 (rest := [.int r_13]) X hG hl.1 (mX9_farOf l dC dI cI cJ a c_length c_text c_stands c_homeFar c_nets c_netAt c_netWide c_netFrom c_netTo c_priceX c_priceY c_many c_days c_aims c_speeds c_kinds c_keptMany c_undoMany c_undos c_spot c_told c_to c_stood c_home c_lost c_out c_fewest c_ways c_next c_held x4 x1 hz_16) gi_V_X9_154 hd_V_yX9_farOf ⟨rfl, rfl⟩ rfl ⟨Nat.le_of_ble_eq_true rfl, Nat.le_of_ble_eq_true rfl⟩ 0 rfl rfl rfl rfl (Nat.le_of_ble_eq_true rfl) ⟨Nat.le_of_ble_eq_true rfl, Nat.le_of_ble_eq_true rfl⟩ dX9_meetOn_68) hG rfl (fun H locs hG => ?_)
              clear hz_16
              refine lv_icmp_ne (tgt := 78) hx hb dX9_meetOn_71 (by decide) (fun c_17 => ?_) (fun c_17 => ?_)
              · have h := ite_f h c_17
                refine lv_iconst (v := (0 : Int32)) hx hb dX9_meetOn_78 (by decide) ?_
                exact J79 (0 : Int32) x2 x3 x4 c_lost _ h KC KX _ _ _ (lv_sub hl [0, 1, 2, 3, 4] rfl) hG
              · have h := ite_t h c_17
                refine lv_iconst (v := (1 : Int32)) hx hb dX9_meetOn_74 (by decide) ?_
                refine lv_goto (tgt := 79) hx hb dX9_meetOn_75 (by decide) ?_
                exact J79 (1 : Int32) x2 x3 x4 c_lost _ h KC KX _ _ _ (lv_sub hl [0, 1, 2, 3, 4] rfl) hG
  have L4 : ∀ (c_lost : Nat → Int32), ∀ (n : Nat) (x2 : Int32) (x3 : Int32) (ex2 : Int32), DX9_meetOn_L4 x1 c_many c_days c_speeds c_to c_home c_lost c_out n x2 x3 = some ex2 → (∀ (ls : Array Slot) (H : Heap) (locs : List Loc), lv_has ls 6 [(0, .ref (a 0)), (1, .int x1), (2, .int ex2)] → G dC dI A H0 (W_X9 a cI cJ c_length c_text c_stands c_homeFar c_nets c_netAt c_netWide c_netFrom c_netTo c_priceX c_priceY c_many c_days c_aims c_speeds c_kinds c_keptMany c_undoMany c_undos c_spot c_told c_to c_stood c_home c_lost c_out c_fewest c_ways c_next c_held) H locs → W p l e (RM 2 43) s m args below meth c H locs 0 0 QQ (F0 m 113 ls [])) → ∀ (ls : Array Slot) (H : Heap) (locs : List Loc), lv_has ls 6 [(0, .ref (a 0)), (1, .int x1), (2, .int x2), (3, .int x3)] → G dC dI A H0 (W_X9 a cI cJ c_length c_text c_stands c_homeFar c_nets c_netAt c_netWide c_netFrom c_netTo c_priceX c_priceY c_many c_days c_aims c_speeds c_kinds c_keptMany c_undoMany c_undos c_spot c_told c_to c_stood c_home c_lost c_out c_fewest c_ways c_next c_held) H locs → W p l e (RM 2 43) s m args below meth c H locs 0 0 QQ (F0 m 4 ls []) := by
    intro c_lost n
    induction n with
    | zero => intro x2 x3 ex2 h; exact it_zero h
    | succ n ih =>
      intro x2 x3 ex2 h0 K0 ls H locs hl hG
      obtain ⟨w, h, hi, hr⟩ := it_succ h0
      have h : DX9_meetOn_L4s x1 c_many c_days c_speeds c_to c_home c_lost c_out x2 x3 = some w := h
      have KC : ∀ (x2 : Int32) (x3 : Int32), w = .inl (x2, x3) → ∀ (ls : Array Slot) (H : Heap) (locs : List Loc), lv_has ls 6 [(0, .ref (a 0)), (1, .int x1), (2, .int x2), (3, .int x3)] → G dC dI A H0 (W_X9 a cI cJ c_length c_text c_stands c_homeFar c_nets c_netAt c_netWide c_netFrom c_netTo c_priceX c_priceY c_many c_days c_aims c_speeds c_kinds c_keptMany c_undoMany c_undos c_spot c_told c_to c_stood c_home c_lost c_out c_fewest c_ways c_next c_held) H locs → W p l e (RM 2 43) s m args below meth c H locs 0 0 QQ (F0 m 4 ls []) := fun b0 b1 e ls H locs hl hG => ih b0 b1 ex2 (hi _ e) K0 ls H locs hl hG
      have KX : ∀ (x2 : Int32), w = .inr x2 → ∀ (ls : Array Slot) (H : Heap) (locs : List Loc), lv_has ls 6 [(0, .ref (a 0)), (1, .int x1), (2, .int x2)] → G dC dI A H0 (W_X9 a cI cJ c_length c_text c_stands c_homeFar c_nets c_netAt c_netWide c_netFrom c_netTo c_priceX c_priceY c_many c_days c_aims c_speeds c_kinds c_keptMany c_undoMany c_undos c_spot c_told c_to c_stood c_home c_lost c_out c_fewest c_ways c_next c_held) H locs → W p l e (RM 2 43) s m args below meth c H locs 0 0 QQ (F0 m 113 ls []) := fun b0 e ls H locs hl hG => by cases hr _ e; exact K0 ls H locs hl hG
      clear h0 hi hr K0 ih
      unfold DX9_meetOn_L4s at h
      refine lv_iload_n hx hb dX9_meetOn_4 rfl (lv_at hl 3 rfl) ?_
      refine lv_aload_n hx hb dX9_meetOn_5 rfl (lv_at hl 0 rfl) ?_
      refine r_get X hG in_X9 rfl 11 (by decide) w_642 0 rfl rfl dX9_meetOn_6 ?_
      refine lv_iconst (v := (0 : Int32)) hx hb dX9_meetOn_9 (by decide) ?_
      refine r_iald X hG 11 rfl (vpd (by decide)) dX9_meetOn_10 ?_
      refine lv_icmp_ge (tgt := 113) hx hb dX9_meetOn_11 (by decide) (fun c_1 => ?_) (fun c_1 => ?_)
      · have h := ite_t h c_1
        exact KX _ (Option.some.inj h).symm _ _ _ (lv_sub hl [0, 1, 2] rfl) hG
      · have h := ite_f h c_1
        refine lv_iconst (v := (0 : Int32)) hx hb dX9_meetOn_14 (by decide) ?_
        refine lv_istore (lv' := [(4, .int (0 : Int32)), (0, .ref (a 0)), (1, .int x1), (2, .int x2), (3, .int x3)]) hx hb dX9_meetOn_15 hl (by decide) rfl (fun ls hl => ?_)
        obtain ⟨z2_18, hz, h⟩ := bd1_some h
        refine L17 x3 c_lost FU x2 (0 : Int32) _ hz (fun ls H locs hl hG => ?_) _ _ _ (lv_sub hl [1, 2, 3, 4, 0] rfl) hG
        clear hz
        refine lv_iinc (v := (x3 + (1 : Int32))) (lv' := [(3, .int (x3 + (1 : Int32))), (0, .ref (a 0)), (1, .int x1), (2, .int z2_18)]) hx hb dX9_meetOn_107 hl (k := 3) rfl rfl (by decide) rfl (fun ls hl => ?_)
        refine lv_goto (tgt := 4) hx hb dX9_meetOn_110 (by decide) ?_
        exact KC _ _ (Option.some.inj h).symm _ _ _ (lv_sub hl [1, 2, 3, 0] rfl) hG
  have L115 : ∀ (x2 : Int32), ∀ (n : Nat) (x3 : Int32) (c_lost : Nat → Int32) (ec_lost : Nat → Int32), DX9_meetOn_L115 x1 c_many x2 n x3 c_lost = some ec_lost → (∀ (ls : Array Slot) (H : Heap) (locs : List Loc), lv_has ls 6 [] → G dC dI A H0 (W_X9 a cI cJ c_length c_text c_stands c_homeFar c_nets c_netAt c_netWide c_netFrom c_netTo c_priceX c_priceY c_many c_days c_aims c_speeds c_kinds c_keptMany c_undoMany c_undos c_spot c_told c_to c_stood c_home ec_lost c_out c_fewest c_ways c_next c_held) H locs → W p l e (RM 2 43) s m args below meth c H locs 0 0 QQ (F0 m 155 ls [])) → ∀ (ls : Array Slot) (H : Heap) (locs : List Loc), lv_has ls 6 [(0, .ref (a 0)), (1, .int x1), (2, .int x2), (3, .int x3)] → G dC dI A H0 (W_X9 a cI cJ c_length c_text c_stands c_homeFar c_nets c_netAt c_netWide c_netFrom c_netTo c_priceX c_priceY c_many c_days c_aims c_speeds c_kinds c_keptMany c_undoMany c_undos c_spot c_told c_to c_stood c_home c_lost c_out c_fewest c_ways c_next c_held) H locs → W p l e (RM 2 43) s m args below meth c H locs 0 0 QQ (F0 m 115 ls []) := by
    intro x2 n
    induction n with
    | zero => intro x3 c_lost ec_lost h; exact it_zero h
    | succ n ih =>
      intro x3 c_lost ec_lost h0 K0 ls H locs hl hG
      obtain ⟨w, h, hi, hr⟩ := it_succ h0
      have h : DX9_meetOn_L115s x1 c_many x2 x3 c_lost = some w := h
      have KC : ∀ (x3 : Int32) (c_lost : Nat → Int32), w = .inl (x3, c_lost) → ∀ (ls : Array Slot) (H : Heap) (locs : List Loc), lv_has ls 6 [(0, .ref (a 0)), (1, .int x1), (2, .int x2), (3, .int x3)] → G dC dI A H0 (W_X9 a cI cJ c_length c_text c_stands c_homeFar c_nets c_netAt c_netWide c_netFrom c_netTo c_priceX c_priceY c_many c_days c_aims c_speeds c_kinds c_keptMany c_undoMany c_undos c_spot c_told c_to c_stood c_home c_lost c_out c_fewest c_ways c_next c_held) H locs → W p l e (RM 2 43) s m args below meth c H locs 0 0 QQ (F0 m 115 ls []) := fun b0 b1 e ls H locs hl hG => ih b0 b1 ec_lost (hi _ e) K0 ls H locs hl hG
      have KX : ∀ (c_lost : Nat → Int32), w = .inr c_lost → ∀ (ls : Array Slot) (H : Heap) (locs : List Loc), lv_has ls 6 [] → G dC dI A H0 (W_X9 a cI cJ c_length c_text c_stands c_homeFar c_nets c_netAt c_netWide c_netFrom c_netTo c_priceX c_priceY c_many c_days c_aims c_speeds c_kinds c_keptMany c_undoMany c_undos c_spot c_told c_to c_stood c_home c_lost c_out c_fewest c_ways c_next c_held) H locs → W p l e (RM 2 43) s m args below meth c H locs 0 0 QQ (F0 m 155 ls []) := fun b0 e ls H locs hl hG => by cases hr _ e; exact K0 ls H locs hl hG
      clear h0 hi hr K0 ih
      unfold DX9_meetOn_L115s at h
      refine lv_iload_n hx hb dX9_meetOn_115 rfl (lv_at hl 3 rfl) ?_
      refine lv_aload_n hx hb dX9_meetOn_116 rfl (lv_at hl 0 rfl) ?_
      refine r_get X hG in_X9 rfl 11 (by decide) w_642 0 rfl rfl dX9_meetOn_117 ?_
      refine lv_iconst (v := (0 : Int32)) hx hb dX9_meetOn_120 (by decide) ?_
      refine r_iald X hG 11 rfl (vpd (by decide)) dX9_meetOn_121 ?_
      refine lv_icmp_ge (tgt := 155) hx hb dX9_meetOn_122 (by decide) (fun c_20 => ?_) (fun c_20 => ?_)
      · have h := ite_t h c_20
        exact KX _ (Option.some.inj h).symm _ _ _ (lv_sub hl [] rfl) hG
      · have h := ite_f h c_20
        refine lv_aload_n hx hb dX9_meetOn_125 rfl (lv_at hl 0 rfl) ?_
        refine r_get X hG in_X9 rfl 24 (by decide) w_655 0 rfl rfl dX9_meetOn_126 ?_
        refine lv_iload_n hx hb dX9_meetOn_129 rfl (lv_at hl 3 rfl) ?_
        refine lv_iload_n hx hb dX9_meetOn_130 rfl (lv_at hl 2 rfl) ?_
        refine lv_iload_n hx hb dX9_meetOn_131 rfl (lv_at hl 3 rfl) ?_
        obtain ⟨r_21, hz_22, h⟩ := bd1_some h
        refine aft_i (ws' := (W_X9 a cI cJ c_length c_text c_stands c_homeFar c_nets c_netAt c_netWide c_netFrom c_netTo c_priceX c_priceY c_many c_days c_aims c_speeds c_kinds c_keptMany c_undoMany c_undos c_spot c_told c_to c_stood c_home c_lost c_out c_fewest c_ways c_next c_held)) (run_S (rest := [.int x3, .ref (a 21)]) X hG hl.1 (mX9_has l dC dI cI cJ x2 x3 hz_22) gi_S_X9_144 hd_S_yX9_has ⟨rfl, rfl⟩ rfl ⟨Nat.le_of_ble_eq_true rfl, Nat.le_of_ble_eq_true rfl⟩ [] (by decide) rfl rfl (Nat.le_of_ble_eq_true rfl) ⟨Nat.le_of_ble_eq_true rfl, Nat.le_of_ble_eq_true rfl⟩ dX9_meetOn_132) hG [] rfl rfl rfl (fun H locs hG => ?_)
        clear hz_22
        refine lv_if_eq (tgt := 142) hx hb dX9_meetOn_135 (by decide) (fun c_23 => ?_) (fun c_23 => ?_)
        · have h := ite_t h c_23
          refine lv_aload_n hx hb dX9_meetOn_142 rfl (lv_at hl 0 rfl) ?_
          refine r_get X hG in_X9 rfl 24 (by decide) w_655 0 rfl rfl dX9_meetOn_143 ?_
          refine lv_iload_n hx hb dX9_meetOn_146 rfl (lv_at hl 3 rfl) ?_
          obtain ⟨g_24, h⟩ := gd h
          refine r_iald X hG 21 rfl g_24 dX9_meetOn_147 ?_
          obtain ⟨g_25, h⟩ := gd h
          refine r_iast X hG 21 (ws' := (W_X9 a cI cJ c_length c_text c_stands c_homeFar c_nets c_netAt c_netWide c_netFrom c_netTo c_priceX c_priceY c_many c_days c_aims c_speeds c_kinds c_keptMany c_undoMany c_undos c_spot c_told c_to c_stood c_home (upd c_lost x3.toNatClampNeg (c_lost x3.toNatClampNeg)) c_out c_fewest c_ways c_next c_held)) rfl g_25 rfl dX9_meetOn_148 (fun H locs hG => ?_)
          refine lv_iinc (v := (x3 + (1 : Int32))) (lv' := [(3, .int (x3 + (1 : Int32))), (0, .ref (a 0)), (1, .int x1), (2, .int x2)]) hx hb dX9_meetOn_149 hl (k := 3) rfl rfl (by decide) rfl (fun ls hl => ?_)
          refine lv_goto (tgt := 115) hx hb dX9_meetOn_152 (by decide) ?_
          exact KC _ _ (Option.some.inj h).symm _ _ _ (lv_sub hl [1, 2, 3, 0] rfl) hG
        · have h := ite_f h c_23
          refine lv_iload_n hx hb dX9_meetOn_138 rfl (lv_at hl 1 rfl) ?_
          refine lv_goto (tgt := 148) hx hb dX9_meetOn_139 (by decide) ?_
          obtain ⟨g_26, h⟩ := gd h
          refine r_iast X hG 21 (ws' := (W_X9 a cI cJ c_length c_text c_stands c_homeFar c_nets c_netAt c_netWide c_netFrom c_netTo c_priceX c_priceY c_many c_days c_aims c_speeds c_kinds c_keptMany c_undoMany c_undos c_spot c_told c_to c_stood c_home (upd c_lost x3.toNatClampNeg x1) c_out c_fewest c_ways c_next c_held)) rfl g_26 rfl dX9_meetOn_148 (fun H locs hG => ?_)
          refine lv_iinc (v := (x3 + (1 : Int32))) (lv' := [(3, .int (x3 + (1 : Int32))), (0, .ref (a 0)), (1, .int x1), (2, .int x2)]) hx hb dX9_meetOn_149 hl (k := 3) rfl rfl (by decide) rfl (fun ls hl => ?_)
          refine lv_goto (tgt := 115) hx hb dX9_meetOn_152 (by decide) ?_
          exact KC _ _ (Option.some.inj h).symm _ _ _ (lv_sub hl [1, 2, 3, 0] rfl) hG
  have h := hD
  unfold DX9_meetOn at h
  clear hD
  refine lv_iconst (v := (0 : Int32)) hx hb dX9_meetOn_0 (by decide) ?_
  refine lv_istore_n (lv' := [(2, .int (0 : Int32)), (0, .ref (a 0)), (1, .int x1)]) hx hb dX9_meetOn_1 rfl hl (by decide) rfl (fun ls hl => ?_)
  refine lv_iconst (v := (0 : Int32)) hx hb dX9_meetOn_2 (by decide) ?_
  refine lv_istore_n (lv' := [(3, .int (0 : Int32)), (2, .int (0 : Int32)), (0, .ref (a 0)), (1, .int x1)]) hx hb dX9_meetOn_3 rfl hl (by decide) rfl (fun ls hl => ?_)
  obtain ⟨z2_19, hz, h⟩ := bd1_some h
  refine L4 c_lost FU (0 : Int32) (0 : Int32) _ hz (fun ls H locs hl hG => ?_) _ _ _ (lv_sub hl [2, 3, 1, 0] rfl) hG
  clear hz
  refine lv_iconst (v := (0 : Int32)) hx hb dX9_meetOn_113 (by decide) ?_
  refine lv_istore_n (lv' := [(3, .int (0 : Int32)), (0, .ref (a 0)), (1, .int x1), (2, .int z2_19)]) hx hb dX9_meetOn_114 rfl hl (by decide) rfl (fun ls hl => ?_)
  obtain ⟨k_lost_27, hz, h⟩ := bd1_some h
  refine L115 z2_19 FU (0 : Int32) c_lost _ hz (fun ls H locs hl hG => ?_) _ _ _ (lv_sub hl [1, 2, 3, 0] rfl) hG
  clear hz
  cases h
  exact ret _ _ _ _ dX9_meetOn_155 hG
set_option maxRecDepth 100000 in
set_option maxHeartbeats 4000000 in
theorem mX9_go (l : Launch) (dC : Nat → ClassId) (dI : Nat → Nat → Nat) (cI cJ : ClassId) (a : Nat → Nat) (c_length : Int32) (c_text : Nat → Int32) (c_stands : Nat → Int32) (c_homeFar : Nat → Int32) (c_nets : Nat → Int32) (c_netAt : Nat → Int32) (c_netWide : Nat → Int32) (c_netFrom : Nat → Int32) (c_netTo : Nat → Int32) (c_priceX : Nat → Int32) (c_priceY : Nat → Int32) (c_many : Nat → Int32) (c_days : Nat → Int32) (c_aims : Nat → Int32) (c_speeds : Nat → Int32) (c_kinds : Nat → Int32) (c_keptMany : Int32) (c_undoMany : Int32) (c_undos : Nat → Int32) (c_spot : Int32) (c_told : Nat → Int32) (c_to : Nat → Int32) (c_stood : Nat → Int32) (c_home : Nat → Int32) (c_lost : Nat → Int32) (c_out : Int32) (c_fewest : Nat → Int32) (c_ways : Nat → Int64) (c_next : Nat → Int64) (c_held : Nat → Int32) (x1 : Int32) {n_to : Nat → Int32} {n_stood : Nat → Int32} {n_home : Nat → Int32} {n_lost : Nat → Int32} {n_out : Int32} (hD : DX9_go x1 c_stands c_homeFar c_many c_days c_aims c_speeds c_kinds c_to c_stood c_home c_lost = some (n_to, n_stood, n_home, n_lost, n_out)) : Met l yX9_go (WZ yX9_go cX9_go 4 none) (RM 3 68) (PC dC dI cI cJ [.ref (a 0), .int x1] (W_X9 a cI cJ c_length c_text c_stands c_homeFar c_nets c_netAt c_netWide c_netFrom c_netTo c_priceX c_priceY c_many c_days c_aims c_speeds c_kinds c_keptMany c_undoMany c_undos c_spot c_told c_to c_stood c_home c_lost c_out c_fewest c_ways c_next c_held)) (QV dC dI (W_X9 a cI cJ c_length c_text c_stands c_homeFar c_nets c_netAt c_netWide c_netFrom c_netTo c_priceX c_priceY c_many c_days c_aims c_speeds c_kinds c_keptMany c_undoMany c_undos c_spot c_told c_to c_stood c_home c_lost c_out c_fewest c_ways c_next c_held) (W_X9 a cI cJ c_length c_text c_stands c_homeFar c_nets c_netAt c_netWide c_netFrom c_netTo c_priceX c_priceY c_many c_days c_aims c_speeds c_kinds c_keptMany c_undoMany c_undos c_spot c_told n_to n_stood n_home n_lost n_out c_fewest c_ways c_next c_held)) 0 0 (FA (W_X9 a cI cJ c_length c_text c_stands c_homeFar c_nets c_netAt c_netWide c_netFrom c_netTo c_priceX c_priceY c_many c_days c_aims c_speeds c_kinds c_keptMany c_undoMany c_undos c_spot c_told c_to c_stood c_home c_lost c_out c_fewest c_ways c_next c_held)) := by
  refine r_metV (by decide +kernel) (Nat.le_of_ble_eq_true rfl) ?_
  intro p e s m args below meth c A H0 QQ X ret ls hl hG
  have X : Cx p m c cX9_go 4 s args RX9 dC dI cI cJ meth none := X
  have hx := X.1.1
  have hb := X.1.2.1
  have hl : lv_has ls 4 [(0, .ref (a 0)), (1, .int x1)] := hl
  have L14 : ∀ (c_to : Nat → Int32) (c_stood : Nat → Int32) (c_out : Int32), ∀ (n : Nat) (x2 : Int32) (c_home : Nat → Int32) (c_lost : Nat → Int32) (ec_home : Nat → Int32) (ec_lost : Nat → Int32), DX9_go_L14 c_homeFar c_many c_days c_speeds n x2 c_home c_lost = some (ec_home, ec_lost) → (∀ (ls : Array Slot) (H : Heap) (locs : List Loc), lv_has ls 4 [(0, .ref (a 0))] → G dC dI A H0 (W_X9 a cI cJ c_length c_text c_stands c_homeFar c_nets c_netAt c_netWide c_netFrom c_netTo c_priceX c_priceY c_many c_days c_aims c_speeds c_kinds c_keptMany c_undoMany c_undos c_spot c_told c_to c_stood ec_home ec_lost c_out c_fewest c_ways c_next c_held) H locs → W p l e (RM 3 68) s m args below meth c H locs 0 0 QQ (F0 m 61 ls [])) → ∀ (ls : Array Slot) (H : Heap) (locs : List Loc), lv_has ls 4 [(0, .ref (a 0)), (2, .int x2)] → G dC dI A H0 (W_X9 a cI cJ c_length c_text c_stands c_homeFar c_nets c_netAt c_netWide c_netFrom c_netTo c_priceX c_priceY c_many c_days c_aims c_speeds c_kinds c_keptMany c_undoMany c_undos c_spot c_told c_to c_stood c_home c_lost c_out c_fewest c_ways c_next c_held) H locs → W p l e (RM 3 68) s m args below meth c H locs 0 0 QQ (F0 m 14 ls []) := by
    intro c_to c_stood c_out n
    induction n with
    | zero => intro x2 c_home c_lost ec_home ec_lost h; exact it_zero h
    | succ n ih =>
      intro x2 c_home c_lost ec_home ec_lost h0 K0 ls H locs hl hG
      obtain ⟨w, h, hi, hr⟩ := it_succ h0
      have h : DX9_go_L14s c_homeFar c_many c_days c_speeds x2 c_home c_lost = some w := h
      have KC : ∀ (x2 : Int32) (c_home : Nat → Int32) (c_lost : Nat → Int32), w = .inl (x2, c_home, c_lost) → ∀ (ls : Array Slot) (H : Heap) (locs : List Loc), lv_has ls 4 [(0, .ref (a 0)), (2, .int x2)] → G dC dI A H0 (W_X9 a cI cJ c_length c_text c_stands c_homeFar c_nets c_netAt c_netWide c_netFrom c_netTo c_priceX c_priceY c_many c_days c_aims c_speeds c_kinds c_keptMany c_undoMany c_undos c_spot c_told c_to c_stood c_home c_lost c_out c_fewest c_ways c_next c_held) H locs → W p l e (RM 3 68) s m args below meth c H locs 0 0 QQ (F0 m 14 ls []) := fun b0 b1 b2 e ls H locs hl hG => ih b0 b1 b2 ec_home ec_lost (hi _ e) K0 ls H locs hl hG
      have KX : ∀ (c_home : Nat → Int32) (c_lost : Nat → Int32), w = .inr (c_home, c_lost) → ∀ (ls : Array Slot) (H : Heap) (locs : List Loc), lv_has ls 4 [(0, .ref (a 0))] → G dC dI A H0 (W_X9 a cI cJ c_length c_text c_stands c_homeFar c_nets c_netAt c_netWide c_netFrom c_netTo c_priceX c_priceY c_many c_days c_aims c_speeds c_kinds c_keptMany c_undoMany c_undos c_spot c_told c_to c_stood c_home c_lost c_out c_fewest c_ways c_next c_held) H locs → W p l e (RM 3 68) s m args below meth c H locs 0 0 QQ (F0 m 61 ls []) := fun b0 b1 e ls H locs hl hG => by cases hr _ e; exact K0 ls H locs hl hG
      clear h0 hi hr K0 ih
      unfold DX9_go_L14s at h
      refine lv_iload_n hx hb dX9_go_14 rfl (lv_at hl 1 rfl) ?_
      refine lv_aload_n hx hb dX9_go_15 rfl (lv_at hl 0 rfl) ?_
      refine r_get X hG in_X9 rfl 11 (by decide) w_642 0 rfl rfl dX9_go_16 ?_
      refine lv_iconst (v := (0 : Int32)) hx hb dX9_go_19 (by decide) ?_
      refine r_iald X hG 11 rfl (vpd (by decide)) dX9_go_20 ?_
      refine lv_icmp_ge (tgt := 61) hx hb dX9_go_21 (by decide) (fun c_5 => ?_) (fun c_5 => ?_)
      · have h := ite_t h c_5
        exact KX _ _ (Option.some.inj h).symm _ _ _ (lv_sub hl [0] rfl) hG
      · have h := ite_f h c_5
        refine lv_aload_n hx hb dX9_go_24 rfl (lv_at hl 0 rfl) ?_
        refine r_get X hG in_X9 rfl 23 (by decide) w_654 0 rfl rfl dX9_go_25 ?_
        refine lv_iload_n hx hb dX9_go_28 rfl (lv_at hl 1 rfl) ?_
        refine lv_aload_n hx hb dX9_go_29 rfl (lv_at hl 0 rfl) ?_
        refine lv_aload_n hx hb dX9_go_30 rfl (lv_at hl 0 rfl) ?_
        refine r_get X hG in_X9 rfl 12 (by decide) w_643 0 rfl rfl dX9_go_31 ?_
        refine lv_iload_n hx hb dX9_go_34 rfl (lv_at hl 1 rfl) ?_
        obtain ⟨g_6, h⟩ := gd h
        refine r_iald X hG 12 rfl g_6 dX9_go_35 ?_
        refine lv_aload_n hx hb dX9_go_36 rfl (lv_at hl 0 rfl) ?_
        refine r_get X hG in_X9 rfl 14 (by decide) w_645 0 rfl rfl dX9_go_37 ?_
        refine lv_iload_n hx hb dX9_go_40 rfl (lv_at hl 1 rfl) ?_
        obtain ⟨g_7, h⟩ := gd h
        refine r_iald X hG 14 rfl g_7 dX9_go_41 ?_
        obtain ⟨r_8, hz_9, h⟩ := bd1_some h
        refine aft_i1 (run_V1 (rest := [.int x2, .ref (a 20)]) X hG hl.1 (mX9_homeDay l dC dI cI cJ a c_length c_text c_stands c_homeFar c_nets c_netAt c_netWide c_netFrom c_netTo c_priceX c_priceY c_many c_days c_aims c_speeds c_kinds c_keptMany c_undoMany c_undos c_spot c_told c_to c_stood c_home c_lost c_out c_fewest c_ways c_next c_held (c_days x2.toNatClampNeg) (c_speeds x2.toNatClampNeg) hz_9) gi_V_X9_161 hd_V_yX9_homeDay ⟨rfl, rfl⟩ rfl ⟨Nat.le_of_ble_eq_true rfl, Nat.le_of_ble_eq_true rfl⟩ 0 rfl rfl rfl rfl (Nat.le_of_ble_eq_true rfl) ⟨Nat.le_of_ble_eq_true rfl, Nat.le_of_ble_eq_true rfl⟩ dX9_go_42) hG rfl (fun H locs hG => ?_)
        clear hz_9
        obtain ⟨g_10, h⟩ := gd h
        refine r_iast X hG 20 (ws' := (W_X9 a cI cJ c_length c_text c_stands c_homeFar c_nets c_netAt c_netWide c_netFrom c_netTo c_priceX c_priceY c_many c_days c_aims c_speeds c_kinds c_keptMany c_undoMany c_undos c_spot c_told c_to c_stood (upd c_home x2.toNatClampNeg r_8) c_lost c_out c_fewest c_ways c_next c_held)) rfl g_10 rfl dX9_go_45 (fun H locs hG => ?_)
        refine lv_aload_n hx hb dX9_go_46 rfl (lv_at hl 0 rfl) ?_
        refine r_get X hG in_X9 rfl 24 (by decide) w_655 0 rfl rfl dX9_go_47 ?_
        refine lv_iload_n hx hb dX9_go_50 rfl (lv_at hl 1 rfl) ?_
        refine lv_sipush (v := (10000 : Int32)) hx hb dX9_go_51 (by decide) ?_
        obtain ⟨g_11, h⟩ := gd h
        refine r_iast X hG 21 (ws' := (W_X9 a cI cJ c_length c_text c_stands c_homeFar c_nets c_netAt c_netWide c_netFrom c_netTo c_priceX c_priceY c_many c_days c_aims c_speeds c_kinds c_keptMany c_undoMany c_undos c_spot c_told c_to c_stood (upd c_home x2.toNatClampNeg r_8) (upd c_lost x2.toNatClampNeg (10000 : Int32)) c_out c_fewest c_ways c_next c_held)) rfl g_11 rfl dX9_go_54 (fun H locs hG => ?_)
        refine lv_iinc (v := (x2 + (1 : Int32))) (lv' := [(2, .int (x2 + (1 : Int32))), (0, .ref (a 0))]) hx hb dX9_go_55 hl (k := 1) rfl rfl (by decide) rfl (fun ls hl => ?_)
        refine lv_goto (tgt := 14) hx hb dX9_go_58 (by decide) ?_
        exact KC _ _ _ (Option.some.inj h).symm _ _ _ (lv_sub hl [1, 0] rfl) hG
  have L76 : ∀ (x2 : Int32) (c_to : Nat → Int32) (c_stood : Nat → Int32) (c_lost : Nat → Int32) (c_out : Int32), ∀ (n : Nat) (x3 : Int32) (c_home : Nat → Int32) (ec_home : Nat → Int32), DX9_go_L76 c_many c_lost x2 n x3 c_home = some ec_home → (∀ (ls : Array Slot) (H : Heap) (locs : List Loc), lv_has ls 4 [(0, .ref (a 0)), (2, .int x2)] → G dC dI A H0 (W_X9 a cI cJ c_length c_text c_stands c_homeFar c_nets c_netAt c_netWide c_netFrom c_netTo c_priceX c_priceY c_many c_days c_aims c_speeds c_kinds c_keptMany c_undoMany c_undos c_spot c_told c_to c_stood ec_home c_lost c_out c_fewest c_ways c_next c_held) H locs → W p l e (RM 3 68) s m args below meth c H locs 0 0 QQ (F0 m 118 ls [])) → ∀ (ls : Array Slot) (H : Heap) (locs : List Loc), lv_has ls 4 [(0, .ref (a 0)), (2, .int x2), (3, .int x3)] → G dC dI A H0 (W_X9 a cI cJ c_length c_text c_stands c_homeFar c_nets c_netAt c_netWide c_netFrom c_netTo c_priceX c_priceY c_many c_days c_aims c_speeds c_kinds c_keptMany c_undoMany c_undos c_spot c_told c_to c_stood c_home c_lost c_out c_fewest c_ways c_next c_held) H locs → W p l e (RM 3 68) s m args below meth c H locs 0 0 QQ (F0 m 76 ls []) := by
    intro x2 c_to c_stood c_lost c_out n
    induction n with
    | zero => intro x3 c_home ec_home h; exact it_zero h
    | succ n ih =>
      intro x3 c_home ec_home h0 K0 ls H locs hl hG
      obtain ⟨w, h, hi, hr⟩ := it_succ h0
      have h : DX9_go_L76s c_many c_lost x2 x3 c_home = some w := h
      have KC : ∀ (x3 : Int32) (c_home : Nat → Int32), w = .inl (x3, c_home) → ∀ (ls : Array Slot) (H : Heap) (locs : List Loc), lv_has ls 4 [(0, .ref (a 0)), (2, .int x2), (3, .int x3)] → G dC dI A H0 (W_X9 a cI cJ c_length c_text c_stands c_homeFar c_nets c_netAt c_netWide c_netFrom c_netTo c_priceX c_priceY c_many c_days c_aims c_speeds c_kinds c_keptMany c_undoMany c_undos c_spot c_told c_to c_stood c_home c_lost c_out c_fewest c_ways c_next c_held) H locs → W p l e (RM 3 68) s m args below meth c H locs 0 0 QQ (F0 m 76 ls []) := fun b0 b1 e ls H locs hl hG => ih b0 b1 ec_home (hi _ e) K0 ls H locs hl hG
      have KX : ∀ (c_home : Nat → Int32), w = .inr c_home → ∀ (ls : Array Slot) (H : Heap) (locs : List Loc), lv_has ls 4 [(0, .ref (a 0)), (2, .int x2)] → G dC dI A H0 (W_X9 a cI cJ c_length c_text c_stands c_homeFar c_nets c_netAt c_netWide c_netFrom c_netTo c_priceX c_priceY c_many c_days c_aims c_speeds c_kinds c_keptMany c_undoMany c_undos c_spot c_told c_to c_stood c_home c_lost c_out c_fewest c_ways c_next c_held) H locs → W p l e (RM 3 68) s m args below meth c H locs 0 0 QQ (F0 m 118 ls []) := fun b0 e ls H locs hl hG => by cases hr _ e; exact K0 ls H locs hl hG
      clear h0 hi hr K0 ih
      unfold DX9_go_L76s at h
      refine lv_iload_n hx hb dX9_go_76 rfl (lv_at hl 2 rfl) ?_
      refine lv_aload_n hx hb dX9_go_77 rfl (lv_at hl 0 rfl) ?_
      refine r_get X hG in_X9 rfl 11 (by decide) w_642 0 rfl rfl dX9_go_78 ?_
      refine lv_iconst (v := (0 : Int32)) hx hb dX9_go_81 (by decide) ?_
      refine r_iald X hG 11 rfl (vpd (by decide)) dX9_go_82 ?_
      refine lv_icmp_ge (tgt := 118) hx hb dX9_go_83 (by decide) (fun c_17 => ?_) (fun c_17 => ?_)
      · have h := ite_t h c_17
        exact KX _ (Option.some.inj h).symm _ _ _ (lv_sub hl [0, 1] rfl) hG
      · have h := ite_f h c_17
        refine lv_aload_n hx hb dX9_go_86 rfl (lv_at hl 0 rfl) ?_
        refine r_get X hG in_X9 rfl 23 (by decide) w_654 0 rfl rfl dX9_go_87 ?_
        refine lv_iload_n hx hb dX9_go_90 rfl (lv_at hl 2 rfl) ?_
        refine lv_aload_n hx hb dX9_go_91 rfl (lv_at hl 0 rfl) ?_
        refine r_get X hG in_X9 rfl 24 (by decide) w_655 0 rfl rfl dX9_go_92 ?_
        refine lv_iload_n hx hb dX9_go_95 rfl (lv_at hl 2 rfl) ?_
        obtain ⟨g_18, h⟩ := gd h
        refine r_iald X hG 21 rfl g_18 dX9_go_96 ?_
        refine lv_iload_n hx hb dX9_go_97 rfl (lv_at hl 1 rfl) ?_
        refine lv_icmp_ne (tgt := 105) hx hb dX9_go_98 (by decide) (fun c_19 => ?_) (fun c_19 => ?_)
        · have h := ite_f h c_19
          refine lv_aload_n hx hb dX9_go_105 rfl (lv_at hl 0 rfl) ?_
          refine r_get X hG in_X9 rfl 23 (by decide) w_654 0 rfl rfl dX9_go_106 ?_
          refine lv_iload_n hx hb dX9_go_109 rfl (lv_at hl 2 rfl) ?_
          obtain ⟨g_20, h⟩ := gd h
          refine r_iald X hG 20 rfl g_20 dX9_go_110 ?_
          obtain ⟨g_21, h⟩ := gd h
          refine r_iast X hG 20 (ws' := (W_X9 a cI cJ c_length c_text c_stands c_homeFar c_nets c_netAt c_netWide c_netFrom c_netTo c_priceX c_priceY c_many c_days c_aims c_speeds c_kinds c_keptMany c_undoMany c_undos c_spot c_told c_to c_stood (upd c_home x3.toNatClampNeg (c_home x3.toNatClampNeg)) c_lost c_out c_fewest c_ways c_next c_held)) rfl g_21 rfl dX9_go_111 (fun H locs hG => ?_)
          refine lv_iinc (v := (x3 + (1 : Int32))) (lv' := [(3, .int (x3 + (1 : Int32))), (0, .ref (a 0)), (2, .int x2)]) hx hb dX9_go_112 hl (k := 2) rfl rfl (by decide) rfl (fun ls hl => ?_)
          refine lv_goto (tgt := 76) hx hb dX9_go_115 (by decide) ?_
          exact KC _ _ (Option.some.inj h).symm _ _ _ (lv_sub hl [1, 2, 0] rfl) hG
        · have h := ite_t h c_19
          refine lv_iload_n hx hb dX9_go_101 rfl (lv_at hl 1 rfl) ?_
          refine lv_goto (tgt := 111) hx hb dX9_go_102 (by decide) ?_
          obtain ⟨g_22, h⟩ := gd h
          refine r_iast X hG 20 (ws' := (W_X9 a cI cJ c_length c_text c_stands c_homeFar c_nets c_netAt c_netWide c_netFrom c_netTo c_priceX c_priceY c_many c_days c_aims c_speeds c_kinds c_keptMany c_undoMany c_undos c_spot c_told c_to c_stood (upd c_home x3.toNatClampNeg x2) c_lost c_out c_fewest c_ways c_next c_held)) rfl g_22 rfl dX9_go_111 (fun H locs hG => ?_)
          refine lv_iinc (v := (x3 + (1 : Int32))) (lv' := [(3, .int (x3 + (1 : Int32))), (0, .ref (a 0)), (2, .int x2)]) hx hb dX9_go_112 hl (k := 2) rfl rfl (by decide) rfl (fun ls hl => ?_)
          refine lv_goto (tgt := 76) hx hb dX9_go_115 (by decide) ?_
          exact KC _ _ (Option.some.inj h).symm _ _ _ (lv_sub hl [1, 2, 0] rfl) hG
  have L63 : ∀ (c_to : Nat → Int32) (c_stood : Nat → Int32) (c_out : Int32), ∀ (n : Nat) (x2 : Int32) (c_home : Nat → Int32) (c_lost : Nat → Int32) (ec_home : Nat → Int32) (ec_lost : Nat → Int32), DX9_go_L63 c_many c_days c_speeds c_to c_out n x2 c_home c_lost = some (ec_home, ec_lost) → (∀ (ls : Array Slot) (H : Heap) (locs : List Loc), lv_has ls 4 [] → G dC dI A H0 (W_X9 a cI cJ c_length c_text c_stands c_homeFar c_nets c_netAt c_netWide c_netFrom c_netTo c_priceX c_priceY c_many c_days c_aims c_speeds c_kinds c_keptMany c_undoMany c_undos c_spot c_told c_to c_stood ec_home ec_lost c_out c_fewest c_ways c_next c_held) H locs → W p l e (RM 3 68) s m args below meth c H locs 0 0 QQ (F0 m 124 ls [])) → ∀ (ls : Array Slot) (H : Heap) (locs : List Loc), lv_has ls 4 [(0, .ref (a 0)), (2, .int x2)] → G dC dI A H0 (W_X9 a cI cJ c_length c_text c_stands c_homeFar c_nets c_netAt c_netWide c_netFrom c_netTo c_priceX c_priceY c_many c_days c_aims c_speeds c_kinds c_keptMany c_undoMany c_undos c_spot c_told c_to c_stood c_home c_lost c_out c_fewest c_ways c_next c_held) H locs → W p l e (RM 3 68) s m args below meth c H locs 0 0 QQ (F0 m 63 ls []) := by
    intro c_to c_stood c_out n
    induction n with
    | zero => intro x2 c_home c_lost ec_home ec_lost h; exact it_zero h
    | succ n ih =>
      intro x2 c_home c_lost ec_home ec_lost h0 K0 ls H locs hl hG
      obtain ⟨w, h, hi, hr⟩ := it_succ h0
      have h : DX9_go_L63s c_many c_days c_speeds c_to c_out x2 c_home c_lost = some w := h
      have KC : ∀ (x2 : Int32) (c_home : Nat → Int32) (c_lost : Nat → Int32), w = .inl (x2, c_home, c_lost) → ∀ (ls : Array Slot) (H : Heap) (locs : List Loc), lv_has ls 4 [(0, .ref (a 0)), (2, .int x2)] → G dC dI A H0 (W_X9 a cI cJ c_length c_text c_stands c_homeFar c_nets c_netAt c_netWide c_netFrom c_netTo c_priceX c_priceY c_many c_days c_aims c_speeds c_kinds c_keptMany c_undoMany c_undos c_spot c_told c_to c_stood c_home c_lost c_out c_fewest c_ways c_next c_held) H locs → W p l e (RM 3 68) s m args below meth c H locs 0 0 QQ (F0 m 63 ls []) := fun b0 b1 b2 e ls H locs hl hG => ih b0 b1 b2 ec_home ec_lost (hi _ e) K0 ls H locs hl hG
      have KX : ∀ (c_home : Nat → Int32) (c_lost : Nat → Int32), w = .inr (c_home, c_lost) → ∀ (ls : Array Slot) (H : Heap) (locs : List Loc), lv_has ls 4 [] → G dC dI A H0 (W_X9 a cI cJ c_length c_text c_stands c_homeFar c_nets c_netAt c_netWide c_netFrom c_netTo c_priceX c_priceY c_many c_days c_aims c_speeds c_kinds c_keptMany c_undoMany c_undos c_spot c_told c_to c_stood c_home c_lost c_out c_fewest c_ways c_next c_held) H locs → W p l e (RM 3 68) s m args below meth c H locs 0 0 QQ (F0 m 124 ls []) := fun b0 b1 e ls H locs hl hG => by cases hr _ e; exact K0 ls H locs hl hG
      clear h0 hi hr K0 ih
      unfold DX9_go_L63s at h
      refine lv_iload_n hx hb dX9_go_63 rfl (lv_at hl 1 rfl) ?_
      refine lv_bipush (v := (100 : Int32)) hx hb dX9_go_64 (by decide) ?_
      refine lv_icmp_gt (tgt := 124) hx hb dX9_go_66 (by decide) (fun c_14 => ?_) (fun c_14 => ?_)
      · have h := ite_t h c_14
        exact KX _ _ (Option.some.inj h).symm _ _ _ (lv_sub hl [] rfl) hG
      · have h := ite_f h c_14
        refine lv_aload_n hx hb dX9_go_69 rfl (lv_at hl 0 rfl) ?_
        refine lv_iload_n hx hb dX9_go_70 rfl (lv_at hl 1 rfl) ?_
        obtain ⟨k_lost_15, hz_16, h⟩ := bd1_some h
        refine aft_v1 (run_V1 (rest := []) X hG hl.1 (mX9_meetOn l dC dI cI cJ a c_length c_text c_stands c_homeFar c_nets c_netAt c_netWide c_netFrom c_netTo c_priceX c_priceY c_many c_days c_aims c_speeds c_kinds c_keptMany c_undoMany c_undos c_spot c_told c_to c_stood c_home c_lost c_out c_fewest c_ways c_next c_held x2 hz_16) gi_V_X9_164 hd_V_yX9_meetOn ⟨rfl, rfl⟩ rfl ⟨Nat.le_of_ble_eq_true rfl, Nat.le_of_ble_eq_true rfl⟩ 0 rfl rfl rfl rfl (Nat.le_of_ble_eq_true rfl) ⟨Nat.le_of_ble_eq_true rfl, Nat.le_of_ble_eq_true rfl⟩ dX9_go_71) hG rfl (fun H locs hG => ?_)
        clear hz_16
        refine lv_iconst (v := (0 : Int32)) hx hb dX9_go_74 (by decide) ?_
        refine lv_istore_n (lv' := [(3, .int (0 : Int32)), (0, .ref (a 0)), (2, .int x2)]) hx hb dX9_go_75 rfl hl (by decide) rfl (fun ls hl => ?_)
        obtain ⟨k_home_23, hz, h⟩ := bd1_some h
        refine L76 x2 c_to c_stood k_lost_15 c_out FU (0 : Int32) c_home _ hz (fun ls H locs hl hG => ?_) _ _ _ (lv_sub hl [1, 2, 0] rfl) hG
        clear hz
        refine lv_iinc (v := (x2 + (1 : Int32))) (lv' := [(2, .int (x2 + (1 : Int32))), (0, .ref (a 0))]) hx hb dX9_go_118 hl (k := 1) rfl rfl (by decide) rfl (fun ls hl => ?_)
        refine lv_goto (tgt := 63) hx hb dX9_go_121 (by decide) ?_
        exact KC _ _ _ (Option.some.inj h).symm _ _ _ (lv_sub hl [1, 0] rfl) hG
  have h := hD
  unfold DX9_go at h
  clear hD
  refine lv_aload_n hx hb dX9_go_0 rfl (lv_at hl 0 rfl) ?_
  refine lv_iload_n hx hb dX9_go_1 rfl (lv_at hl 1 rfl) ?_
  refine r_put X hG in_X9 rfl tyX9 tyX9_ok nmX9 25 (by decide) rfl (by decide +kernel) w_656 0 (ws' := (W_X9 a cI cJ c_length c_text c_stands c_homeFar c_nets c_netAt c_netWide c_netFrom c_netTo c_priceX c_priceY c_many c_days c_aims c_speeds c_kinds c_keptMany c_undoMany c_undos c_spot c_told c_to c_stood c_home c_lost x1 c_fewest c_ways c_next c_held)) rfl (Nat.le_of_ble_eq_true rfl) rfl dX9_go_2 (fun H locs hG => ?_)
  refine lv_aload_n hx hb dX9_go_5 rfl (lv_at hl 0 rfl) ?_
  refine lv_bipush (v := (40 : Int32)) hx hb dX9_go_6 (by decide) ?_
  obtain ⟨r_1, k_to_2, k_stood_3, hz_4, h⟩ := bd3_some h
  refine aft_i1 (run_V1 (rest := []) X hG hl.1 (mX9_turnTo l dC dI cI cJ a c_length c_text c_stands c_homeFar c_nets c_netAt c_netWide c_netFrom c_netTo c_priceX c_priceY c_many c_days c_aims c_speeds c_kinds c_keptMany c_undoMany c_undos c_spot c_told c_to c_stood c_home c_lost x1 c_fewest c_ways c_next c_held (40 : Int32) hz_4) gi_V_X9_158 hd_V_yX9_turnTo ⟨rfl, rfl⟩ rfl ⟨Nat.le_of_ble_eq_true rfl, Nat.le_of_ble_eq_true rfl⟩ 0 rfl rfl rfl rfl (Nat.le_of_ble_eq_true rfl) ⟨Nat.le_of_ble_eq_true rfl, Nat.le_of_ble_eq_true rfl⟩ dX9_go_8) hG rfl (fun H locs hG => ?_)
  clear hz_4
  refine lv_pop hx hb dX9_go_11 rfl ?_
  refine lv_iconst (v := (0 : Int32)) hx hb dX9_go_12 (by decide) ?_
  refine lv_istore_n (lv' := [(2, .int (0 : Int32)), (0, .ref (a 0)), (1, .int x1)]) hx hb dX9_go_13 rfl hl (by decide) rfl (fun ls hl => ?_)
  obtain ⟨k_home_12, k_lost_13, hz, h⟩ := bd2_some h
  refine L14 k_to_2 k_stood_3 x1 FU (0 : Int32) c_home c_lost _ _ hz (fun ls H locs hl hG => ?_) _ _ _ (lv_sub hl [1, 0] rfl) hG
  clear hz
  refine lv_iconst (v := (0 : Int32)) hx hb dX9_go_61 (by decide) ?_
  refine lv_istore_n (lv' := [(2, .int (0 : Int32)), (0, .ref (a 0))]) hx hb dX9_go_62 rfl hl (by decide) rfl (fun ls hl => ?_)
  obtain ⟨k_home_24, k_lost_25, hz, h⟩ := bd2_some h
  refine L63 k_to_2 k_stood_3 x1 FU (0 : Int32) k_home_12 k_lost_13 _ _ hz (fun ls H locs hl hG => ?_) _ _ _ (lv_sub hl [1, 0] rfl) hG
  clear hz
  cases h
  exact ret _ _ _ _ dX9_go_124 hG
set_option maxRecDepth 100000 in
set_option maxHeartbeats 4000000 in
theorem mX9_apart (l : Launch) (dC : Nat → ClassId) (dI : Nat → Nat → Nat) (cI cJ : ClassId) (x0 : Int32) (x1 : Int32) {res : Int32} (hD : DX9_apart x0 x1 = some res) : Met l yX9_apart (WZ yX9_apart cX9_apart 3 (some .int)) (RM 1 20) (PC dC dI cI cJ [.int x0, .int x1] []) (QI dC dI [] [] res) 0 0 (FA []) := by
  refine r_metI (by decide +kernel) (Nat.le_of_ble_eq_true rfl) ?_
  intro p e s m args below meth c A H0 QQ X ret ls hl hG
  have X : Cx p m c cX9_apart 3 s args RX9 dC dI cI cJ meth (some .int) := X
  have hx := X.1.1
  have hb := X.1.2.1
  have hl : lv_has ls 3 [(0, .int x0), (1, .int x1)] := hl
  have h := hD
  unfold DX9_apart at h
  clear hD
  refine lv_iload_n hx hb dX9_apart_0 rfl (lv_at hl 0 rfl) ?_
  refine lv_iload_n hx hb dX9_apart_1 rfl (lv_at hl 1 rfl) ?_
  refine lv_isub hx hb dX9_apart_2 ?_
  obtain ⟨r_1, hz_2, h⟩ := bd1_some h
  refine aft_i (ws' := []) (run_S (rest := []) X hG hl.1 (mX9_around l dC dI cI cJ (x0 - x1) hz_2) gi_S_X9_148 hd_S_yX9_around ⟨rfl, rfl⟩ rfl ⟨Nat.le_of_ble_eq_true rfl, Nat.le_of_ble_eq_true rfl⟩ [] (by decide) rfl rfl (Nat.le_of_ble_eq_true rfl) ⟨Nat.le_of_ble_eq_true rfl, Nat.le_of_ble_eq_true rfl⟩ dX9_apart_3) hG [] rfl rfl rfl (fun H locs hG => ?_)
  clear hz_2
  refine lv_istore_n (lv' := [(2, .int r_1), (0, .int x0), (1, .int x1)]) hx hb dX9_apart_6 rfl hl (by decide) rfl (fun ls hl => ?_)
  refine lv_iload_n hx hb dX9_apart_7 rfl (lv_at hl 0 rfl) ?_
  refine lv_bipush (v := (12 : Int32)) hx hb dX9_apart_8 (by decide) ?_
  refine lv_icmp_le (tgt := 20) hx hb dX9_apart_10 (by decide) (fun c_3 => ?_) (fun c_3 => ?_)
  · have h := ite_t h c_3
    refine lv_iload_n hx hb dX9_apart_20 rfl (lv_at hl 0 rfl) ?_
    cases h
    exact ret _ _ _ _ dX9_apart_21 hG
  · have h := ite_f h c_3
    refine lv_bipush (v := (24 : Int32)) hx hb dX9_apart_13 (by decide) ?_
    refine lv_iload_n hx hb dX9_apart_15 rfl (lv_at hl 0 rfl) ?_
    refine lv_isub hx hb dX9_apart_16 ?_
    refine lv_goto (tgt := 21) hx hb dX9_apart_17 (by decide) ?_
    cases h
    exact ret _ _ _ _ dX9_apart_21 hG
set_option maxRecDepth 100000 in
set_option maxHeartbeats 4000000 in
theorem mX9_placeOf (l : Launch) (dC : Nat → ClassId) (dI : Nat → Nat → Nat) (cI cJ : ClassId) (a : Nat → Nat) (c_length : Int32) (c_text : Nat → Int32) (c_stands : Nat → Int32) (c_homeFar : Nat → Int32) (c_nets : Nat → Int32) (c_netAt : Nat → Int32) (c_netWide : Nat → Int32) (c_netFrom : Nat → Int32) (c_netTo : Nat → Int32) (c_priceX : Nat → Int32) (c_priceY : Nat → Int32) (c_many : Nat → Int32) (c_days : Nat → Int32) (c_aims : Nat → Int32) (c_speeds : Nat → Int32) (c_kinds : Nat → Int32) (c_keptMany : Int32) (c_undoMany : Int32) (c_undos : Nat → Int32) (c_spot : Int32) (c_told : Nat → Int32) (c_to : Nat → Int32) (c_stood : Nat → Int32) (c_home : Nat → Int32) (c_lost : Nat → Int32) (c_out : Int32) (c_fewest : Nat → Int32) (c_ways : Nat → Int64) (c_next : Nat → Int64) (c_held : Nat → Int32) (x1 : Int32) {res : Int32} (hD : DX9_placeOf x1 c_days c_kinds c_to c_home = some res) : Met l yX9_placeOf (WZ yX9_placeOf cX9_placeOf 2 (some .int)) (RM 1 20) (PC dC dI cI cJ [.ref (a 0), .int x1] (W_X9 a cI cJ c_length c_text c_stands c_homeFar c_nets c_netAt c_netWide c_netFrom c_netTo c_priceX c_priceY c_many c_days c_aims c_speeds c_kinds c_keptMany c_undoMany c_undos c_spot c_told c_to c_stood c_home c_lost c_out c_fewest c_ways c_next c_held)) (QI dC dI (W_X9 a cI cJ c_length c_text c_stands c_homeFar c_nets c_netAt c_netWide c_netFrom c_netTo c_priceX c_priceY c_many c_days c_aims c_speeds c_kinds c_keptMany c_undoMany c_undos c_spot c_told c_to c_stood c_home c_lost c_out c_fewest c_ways c_next c_held) (W_X9 a cI cJ c_length c_text c_stands c_homeFar c_nets c_netAt c_netWide c_netFrom c_netTo c_priceX c_priceY c_many c_days c_aims c_speeds c_kinds c_keptMany c_undoMany c_undos c_spot c_told c_to c_stood c_home c_lost c_out c_fewest c_ways c_next c_held) res) 0 0 (FA (W_X9 a cI cJ c_length c_text c_stands c_homeFar c_nets c_netAt c_netWide c_netFrom c_netTo c_priceX c_priceY c_many c_days c_aims c_speeds c_kinds c_keptMany c_undoMany c_undos c_spot c_told c_to c_stood c_home c_lost c_out c_fewest c_ways c_next c_held)) := by
  refine r_metI (by decide +kernel) (Nat.le_of_ble_eq_true rfl) ?_
  intro p e s m args below meth c A H0 QQ X ret ls hl hG
  have X : Cx p m c cX9_placeOf 2 s args RX9 dC dI cI cJ meth (some .int) := X
  have hx := X.1.1
  have hb := X.1.2.1
  have hl : lv_has ls 2 [(0, .ref (a 0)), (1, .int x1)] := hl
  have h := hD
  unfold DX9_placeOf at h
  clear hD
  refine lv_aload_n hx hb dX9_placeOf_0 rfl (lv_at hl 0 rfl) ?_
  refine r_get X hG in_X9 rfl 21 (by decide) w_652 0 rfl rfl dX9_placeOf_1 ?_
  refine lv_iload_n hx hb dX9_placeOf_4 rfl (lv_at hl 1 rfl) ?_
  obtain ⟨g_1, h⟩ := gd h
  refine r_iald X hG 18 rfl g_1 dX9_placeOf_5 ?_
  refine lv_aload_n hx hb dX9_placeOf_6 rfl (lv_at hl 0 rfl) ?_
  refine r_get X hG in_X9 rfl 15 (by decide) w_646 0 rfl rfl dX9_placeOf_7 ?_
  refine lv_iload_n hx hb dX9_placeOf_10 rfl (lv_at hl 1 rfl) ?_
  obtain ⟨g_2, h⟩ := gd h
  refine r_iald X hG 15 rfl g_2 dX9_placeOf_11 ?_
  refine lv_iconst (v := (3 : Int32)) hx hb dX9_placeOf_12 (by decide) ?_
  refine lv_icmp_ne (tgt := 34) hx hb dX9_placeOf_13 (by decide) (fun c_3 => ?_) (fun c_3 => ?_)
  · have h := ite_f h c_3
    refine lv_iconst (v := (0 : Int32)) hx hb dX9_placeOf_34 (by decide) ?_
    refine lv_iadd hx hb dX9_placeOf_35 ?_
    obtain ⟨r_4, hz_5, h⟩ := bd1_some h
    refine aft_i (ws' := (W_X9 a cI cJ c_length c_text c_stands c_homeFar c_nets c_netAt c_netWide c_netFrom c_netTo c_priceX c_priceY c_many c_days c_aims c_speeds c_kinds c_keptMany c_undoMany c_undos c_spot c_told c_to c_stood c_home c_lost c_out c_fewest c_ways c_next c_held)) (run_S (rest := []) X hG hl.1 (mX9_around l dC dI cI cJ ((c_to x1.toNatClampNeg) + (0 : Int32)) hz_5) gi_S_X9_148 hd_S_yX9_around ⟨rfl, rfl⟩ rfl ⟨Nat.le_of_ble_eq_true rfl, Nat.le_of_ble_eq_true rfl⟩ [] (by decide) rfl rfl (Nat.le_of_ble_eq_true rfl) ⟨Nat.le_of_ble_eq_true rfl, Nat.le_of_ble_eq_true rfl⟩ dX9_placeOf_36) hG [] rfl rfl rfl (fun H locs hG => ?_)
    clear hz_5
    cases h
    exact ret _ _ _ _ dX9_placeOf_39 hG
  · have h := ite_t h c_3
    refine lv_aload_n hx hb dX9_placeOf_16 rfl (lv_at hl 0 rfl) ?_
    refine r_get X hG in_X9 rfl 23 (by decide) w_654 0 rfl rfl dX9_placeOf_17 ?_
    refine lv_iload_n hx hb dX9_placeOf_20 rfl (lv_at hl 1 rfl) ?_
    obtain ⟨g_6, h⟩ := gd h
    refine r_iald X hG 20 rfl g_6 dX9_placeOf_21 ?_
    refine lv_aload_n hx hb dX9_placeOf_22 rfl (lv_at hl 0 rfl) ?_
    refine r_get X hG in_X9 rfl 12 (by decide) w_643 0 rfl rfl dX9_placeOf_23 ?_
    refine lv_iload_n hx hb dX9_placeOf_26 rfl (lv_at hl 1 rfl) ?_
    obtain ⟨g_7, h⟩ := gd h
    refine r_iald X hG 12 rfl g_7 dX9_placeOf_27 ?_
    refine lv_isub hx hb dX9_placeOf_28 ?_
    refine lv_iconst (v := (4 : Int32)) hx hb dX9_placeOf_29 (by decide) ?_
    refine lv_idiv hx hb dX9_placeOf_30 (by decide) ?_
    refine lv_goto (tgt := 35) hx hb dX9_placeOf_31 (by decide) ?_
    refine lv_iadd hx hb dX9_placeOf_35 ?_
    obtain ⟨r_8, hz_9, h⟩ := bd1_some h
    refine aft_i (ws' := (W_X9 a cI cJ c_length c_text c_stands c_homeFar c_nets c_netAt c_netWide c_netFrom c_netTo c_priceX c_priceY c_many c_days c_aims c_speeds c_kinds c_keptMany c_undoMany c_undos c_spot c_told c_to c_stood c_home c_lost c_out c_fewest c_ways c_next c_held)) (run_S (rest := []) X hG hl.1 (mX9_around l dC dI cI cJ ((c_to x1.toNatClampNeg) + (((c_home x1.toNatClampNeg) - (c_days x1.toNatClampNeg)) / (4 : Int32))) hz_9) gi_S_X9_148 hd_S_yX9_around ⟨rfl, rfl⟩ rfl ⟨Nat.le_of_ble_eq_true rfl, Nat.le_of_ble_eq_true rfl⟩ [] (by decide) rfl rfl (Nat.le_of_ble_eq_true rfl) ⟨Nat.le_of_ble_eq_true rfl, Nat.le_of_ble_eq_true rfl⟩ dX9_placeOf_36) hG [] rfl rfl rfl (fun H locs hG => ?_)
    clear hz_9
    cases h
    exact ret _ _ _ _ dX9_placeOf_39 hG
set_option maxRecDepth 100000 in
set_option maxHeartbeats 4000000 in
theorem mX9_isCaught (l : Launch) (dC : Nat → ClassId) (dI : Nat → Nat → Nat) (cI cJ : ClassId) (a : Nat → Nat) (c_length : Int32) (c_text : Nat → Int32) (c_stands : Nat → Int32) (c_homeFar : Nat → Int32) (c_nets : Nat → Int32) (c_netAt : Nat → Int32) (c_netWide : Nat → Int32) (c_netFrom : Nat → Int32) (c_netTo : Nat → Int32) (c_priceX : Nat → Int32) (c_priceY : Nat → Int32) (c_many : Nat → Int32) (c_days : Nat → Int32) (c_aims : Nat → Int32) (c_speeds : Nat → Int32) (c_kinds : Nat → Int32) (c_keptMany : Int32) (c_undoMany : Int32) (c_undos : Nat → Int32) (c_spot : Int32) (c_told : Nat → Int32) (c_to : Nat → Int32) (c_stood : Nat → Int32) (c_home : Nat → Int32) (c_lost : Nat → Int32) (c_out : Int32) (c_fewest : Nat → Int32) (c_ways : Nat → Int64) (c_next : Nat → Int64) (c_held : Nat → Int32) (x1 : Int32) {res : Int32} (hD : DX9_isCaught x1 c_nets c_netAt c_netWide c_netFrom c_netTo c_days c_kinds c_to c_home = some res) : Met l yX9_isCaught (WZ yX9_isCaught cX9_isCaught 4 (some .boolean)) (RM 2 42) (PC dC dI cI cJ [.ref (a 0), .int x1] (W_X9 a cI cJ c_length c_text c_stands c_homeFar c_nets c_netAt c_netWide c_netFrom c_netTo c_priceX c_priceY c_many c_days c_aims c_speeds c_kinds c_keptMany c_undoMany c_undos c_spot c_told c_to c_stood c_home c_lost c_out c_fewest c_ways c_next c_held)) (QI dC dI (W_X9 a cI cJ c_length c_text c_stands c_homeFar c_nets c_netAt c_netWide c_netFrom c_netTo c_priceX c_priceY c_many c_days c_aims c_speeds c_kinds c_keptMany c_undoMany c_undos c_spot c_told c_to c_stood c_home c_lost c_out c_fewest c_ways c_next c_held) (W_X9 a cI cJ c_length c_text c_stands c_homeFar c_nets c_netAt c_netWide c_netFrom c_netTo c_priceX c_priceY c_many c_days c_aims c_speeds c_kinds c_keptMany c_undoMany c_undos c_spot c_told c_to c_stood c_home c_lost c_out c_fewest c_ways c_next c_held) res) 0 0 (FA (W_X9 a cI cJ c_length c_text c_stands c_homeFar c_nets c_netAt c_netWide c_netFrom c_netTo c_priceX c_priceY c_many c_days c_aims c_speeds c_kinds c_keptMany c_undoMany c_undos c_spot c_told c_to c_stood c_home c_lost c_out c_fewest c_ways c_next c_held)) := by
  refine r_metZ (by decide +kernel) (Nat.le_of_ble_eq_true rfl) ?_
  intro p e s m args below meth c A H0 QQ X ret ls hl hG
  have X : Cx p m c cX9_isCaught 4 s args RX9 dC dI cI cJ meth (some .boolean) := X
  have hx := X.1.1
  have hb := X.1.2.1
  have hl : lv_has ls 4 [(0, .ref (a 0)), (1, .int x1)] := hl
  have L4 : ∀ (n : Nat) (x2 : Int32) (x3 : Int32) (ex2 : Int32), DX9_isCaught_L4 x1 c_nets c_netAt c_netWide c_netFrom c_netTo c_days c_kinds c_to c_home n x2 x3 = some ex2 → (∀ (ls : Array Slot) (H : Heap) (locs : List Loc), lv_has ls 4 [(2, .int ex2)] → G dC dI A H0 (W_X9 a cI cJ c_length c_text c_stands c_homeFar c_nets c_netAt c_netWide c_netFrom c_netTo c_priceX c_priceY c_many c_days c_aims c_speeds c_kinds c_keptMany c_undoMany c_undos c_spot c_told c_to c_stood c_home c_lost c_out c_fewest c_ways c_next c_held) H locs → W p l e (RM 2 42) s m args below meth c H locs 0 0 QQ (F0 m 80 ls [])) → ∀ (ls : Array Slot) (H : Heap) (locs : List Loc), lv_has ls 4 [(0, .ref (a 0)), (1, .int x1), (2, .int x2), (3, .int x3)] → G dC dI A H0 (W_X9 a cI cJ c_length c_text c_stands c_homeFar c_nets c_netAt c_netWide c_netFrom c_netTo c_priceX c_priceY c_many c_days c_aims c_speeds c_kinds c_keptMany c_undoMany c_undos c_spot c_told c_to c_stood c_home c_lost c_out c_fewest c_ways c_next c_held) H locs → W p l e (RM 2 42) s m args below meth c H locs 0 0 QQ (F0 m 4 ls []) := by
    intro  n
    induction n with
    | zero => intro x2 x3 ex2 h; exact it_zero h
    | succ n ih =>
      intro x2 x3 ex2 h0 K0 ls H locs hl hG
      obtain ⟨w, h, hi, hr⟩ := it_succ h0
      have h : DX9_isCaught_L4s x1 c_nets c_netAt c_netWide c_netFrom c_netTo c_days c_kinds c_to c_home x2 x3 = some w := h
      have KC : ∀ (x2 : Int32) (x3 : Int32), w = .inl (x2, x3) → ∀ (ls : Array Slot) (H : Heap) (locs : List Loc), lv_has ls 4 [(0, .ref (a 0)), (1, .int x1), (2, .int x2), (3, .int x3)] → G dC dI A H0 (W_X9 a cI cJ c_length c_text c_stands c_homeFar c_nets c_netAt c_netWide c_netFrom c_netTo c_priceX c_priceY c_many c_days c_aims c_speeds c_kinds c_keptMany c_undoMany c_undos c_spot c_told c_to c_stood c_home c_lost c_out c_fewest c_ways c_next c_held) H locs → W p l e (RM 2 42) s m args below meth c H locs 0 0 QQ (F0 m 4 ls []) := fun b0 b1 e ls H locs hl hG => ih b0 b1 ex2 (hi _ e) K0 ls H locs hl hG
      have KX : ∀ (x2 : Int32), w = .inr x2 → ∀ (ls : Array Slot) (H : Heap) (locs : List Loc), lv_has ls 4 [(2, .int x2)] → G dC dI A H0 (W_X9 a cI cJ c_length c_text c_stands c_homeFar c_nets c_netAt c_netWide c_netFrom c_netTo c_priceX c_priceY c_many c_days c_aims c_speeds c_kinds c_keptMany c_undoMany c_undos c_spot c_told c_to c_stood c_home c_lost c_out c_fewest c_ways c_next c_held) H locs → W p l e (RM 2 42) s m args below meth c H locs 0 0 QQ (F0 m 80 ls []) := fun b0 e ls H locs hl hG => by cases hr _ e; exact K0 ls H locs hl hG
      clear h0 hi hr K0 ih
      unfold DX9_isCaught_L4s at h
      refine lv_iload_n hx hb dX9_isCaught_4 rfl (lv_at hl 3 rfl) ?_
      refine lv_aload_n hx hb dX9_isCaught_5 rfl (lv_at hl 0 rfl) ?_
      refine r_get X hG in_X9 rfl 4 (by decide) w_635 0 rfl rfl dX9_isCaught_6 ?_
      refine lv_iconst (v := (0 : Int32)) hx hb dX9_isCaught_9 (by decide) ?_
      refine r_iald X hG 4 rfl (vpd (by decide)) dX9_isCaught_10 ?_
      refine lv_icmp_ge (tgt := 80) hx hb dX9_isCaught_11 (by decide) (fun c_1 => ?_) (fun c_1 => ?_)
      · have h := ite_t h c_1
        exact KX _ (Option.some.inj h).symm _ _ _ (lv_sub hl [2] rfl) hG
      · have h := ite_f h c_1
        refine lv_iload_n hx hb dX9_isCaught_14 rfl (lv_at hl 2 rfl) ?_
        refine lv_if_ne (tgt := 68) hx hb dX9_isCaught_15 (by decide) (fun c_2 => ?_) (fun c_2 => ?_)
        · have h := ite_f h c_2
          refine lv_iconst (v := (1 : Int32)) hx hb dX9_isCaught_68 (by decide) ?_
          refine lv_goto (tgt := 73) hx hb dX9_isCaught_69 (by decide) ?_
          refine lv_istore_n (lv' := [(2, .int (1 : Int32)), (0, .ref (a 0)), (1, .int x1), (3, .int x3)]) hx hb dX9_isCaught_73 rfl hl (by decide) rfl (fun ls hl => ?_)
          refine lv_iinc (v := (x3 + (1 : Int32))) (lv' := [(3, .int (x3 + (1 : Int32))), (2, .int (1 : Int32)), (0, .ref (a 0)), (1, .int x1)]) hx hb dX9_isCaught_74 hl (k := 3) rfl rfl (by decide) rfl (fun ls hl => ?_)
          refine lv_goto (tgt := 4) hx hb dX9_isCaught_77 (by decide) ?_
          exact KC _ _ (Option.some.inj h).symm _ _ _ (lv_sub hl [2, 3, 1, 0] rfl) hG
        · have h := ite_t h c_2
          refine lv_aload_n hx hb dX9_isCaught_18 rfl (lv_at hl 0 rfl) ?_
          refine r_get X hG in_X9 rfl 23 (by decide) w_654 0 rfl rfl dX9_isCaught_19 ?_
          refine lv_iload_n hx hb dX9_isCaught_22 rfl (lv_at hl 1 rfl) ?_
          obtain ⟨g_3, h⟩ := gd h
          refine r_iald X hG 20 rfl g_3 dX9_isCaught_23 ?_
          refine lv_i2l (v := ((c_home x1.toNatClampNeg).toInt64)) hx hb dX9_isCaught_24 rfl ?_
          refine lv_aload_n hx hb dX9_isCaught_25 rfl (lv_at hl 0 rfl) ?_
          refine r_get X hG in_X9 rfl 7 (by decide) w_638 0 rfl rfl dX9_isCaught_26 ?_
          refine lv_iload_n hx hb dX9_isCaught_29 rfl (lv_at hl 3 rfl) ?_
          obtain ⟨g_4, h⟩ := gd h
          refine r_iald X hG 7 rfl g_4 dX9_isCaught_30 ?_
          refine lv_i2l (v := ((c_netFrom x3.toNatClampNeg).toInt64)) hx hb dX9_isCaught_31 rfl ?_
          refine lv_aload_n hx hb dX9_isCaught_32 rfl (lv_at hl 0 rfl) ?_
          refine r_get X hG in_X9 rfl 8 (by decide) w_639 0 rfl rfl dX9_isCaught_33 ?_
          refine lv_iload_n hx hb dX9_isCaught_36 rfl (lv_at hl 3 rfl) ?_
          obtain ⟨g_5, h⟩ := gd h
          refine r_iald X hG 8 rfl g_5 dX9_isCaught_37 ?_
          refine lv_i2l (v := ((c_netTo x3.toNatClampNeg).toInt64)) hx hb dX9_isCaught_38 rfl ?_
          obtain ⟨r_6, hz_7, h⟩ := bd1_some h
          refine aft_i (ws' := (W_X9 a cI cJ c_length c_text c_stands c_homeFar c_nets c_netAt c_netWide c_netFrom c_netTo c_priceX c_priceY c_many c_days c_aims c_speeds c_kinds c_keptMany c_undoMany c_undos c_spot c_told c_to c_stood c_home c_lost c_out c_fewest c_ways c_next c_held)) (run_S (rest := []) X hG hl.1 (mX9_in l dC dI cI cJ ((c_home x1.toNatClampNeg).toInt64) ((c_netFrom x3.toNatClampNeg).toInt64) ((c_netTo x3.toNatClampNeg).toInt64) hz_7) gi_S_X9_92 hd_S_yX9_in ⟨rfl, rfl⟩ rfl ⟨Nat.le_of_ble_eq_true rfl, Nat.le_of_ble_eq_true rfl⟩ [] (by decide) rfl rfl (Nat.le_of_ble_eq_true rfl) ⟨Nat.le_of_ble_eq_true rfl, Nat.le_of_ble_eq_true rfl⟩ dX9_isCaught_39) hG [] rfl rfl rfl (fun H locs hG => ?_)
          clear hz_7
          refine lv_if_eq (tgt := 72) hx hb dX9_isCaught_42 (by decide) (fun c_8 => ?_) (fun c_8 => ?_)
          · have h := ite_t h c_8
            refine lv_iconst (v := (0 : Int32)) hx hb dX9_isCaught_72 (by decide) ?_
            refine lv_istore_n (lv' := [(2, .int (0 : Int32)), (0, .ref (a 0)), (1, .int x1), (3, .int x3)]) hx hb dX9_isCaught_73 rfl hl (by decide) rfl (fun ls hl => ?_)
            refine lv_iinc (v := (x3 + (1 : Int32))) (lv' := [(3, .int (x3 + (1 : Int32))), (2, .int (0 : Int32)), (0, .ref (a 0)), (1, .int x1)]) hx hb dX9_isCaught_74 hl (k := 3) rfl rfl (by decide) rfl (fun ls hl => ?_)
            refine lv_goto (tgt := 4) hx hb dX9_isCaught_77 (by decide) ?_
            exact KC _ _ (Option.some.inj h).symm _ _ _ (lv_sub hl [2, 3, 1, 0] rfl) hG
          · have h := ite_f h c_8
            refine lv_aload_n hx hb dX9_isCaught_45 rfl (lv_at hl 0 rfl) ?_
            refine lv_iload_n hx hb dX9_isCaught_46 rfl (lv_at hl 1 rfl) ?_
            obtain ⟨r_9, hz_10, h⟩ := bd1_some h
            refine aft_i1 (run_V1 (rest := []) X hG hl.1 (mX9_placeOf l dC dI cI cJ a c_length c_text c_stands c_homeFar c_nets c_netAt c_netWide c_netFrom c_netTo c_priceX c_priceY c_many c_days c_aims c_speeds c_kinds c_keptMany c_undoMany c_undos c_spot c_told c_to c_stood c_home c_lost c_out c_fewest c_ways c_next c_held x1 hz_10) gi_V_X9_167 hd_V_yX9_placeOf ⟨rfl, rfl⟩ rfl ⟨Nat.le_of_ble_eq_true rfl, Nat.le_of_ble_eq_true rfl⟩ 0 rfl rfl rfl rfl (Nat.le_of_ble_eq_true rfl) ⟨Nat.le_of_ble_eq_true rfl, Nat.le_of_ble_eq_true rfl⟩ dX9_isCaught_47) hG rfl (fun H locs hG => ?_)
            clear hz_10
            refine lv_aload_n hx hb dX9_isCaught_50 rfl (lv_at hl 0 rfl) ?_
            refine r_get X hG in_X9 rfl 5 (by decide) w_636 0 rfl rfl dX9_isCaught_51 ?_
            refine lv_iload_n hx hb dX9_isCaught_54 rfl (lv_at hl 3 rfl) ?_
            obtain ⟨g_11, h⟩ := gd h
            refine r_iald X hG 5 rfl g_11 dX9_isCaught_55 ?_
            obtain ⟨r_12, hz_13, h⟩ := bd1_some h
            refine aft_i (ws' := (W_X9 a cI cJ c_length c_text c_stands c_homeFar c_nets c_netAt c_netWide c_netFrom c_netTo c_priceX c_priceY c_many c_days c_aims c_speeds c_kinds c_keptMany c_undoMany c_undos c_spot c_told c_to c_stood c_home c_lost c_out c_fewest c_ways c_next c_held)) (run_S (rest := []) X hG hl.1 (mX9_apart l dC dI cI cJ r_9 (c_netAt x3.toNatClampNeg) hz_13) gi_S_X9_170 hd_S_yX9_apart ⟨rfl, rfl⟩ rfl ⟨Nat.le_of_ble_eq_true rfl, Nat.le_of_ble_eq_true rfl⟩ [] (by decide) rfl rfl (Nat.le_of_ble_eq_true rfl) ⟨Nat.le_of_ble_eq_true rfl, Nat.le_of_ble_eq_true rfl⟩ dX9_isCaught_56) hG [] rfl rfl rfl (fun H locs hG => ?_)
            clear hz_13
            refine lv_aload_n hx hb dX9_isCaught_59 rfl (lv_at hl 0 rfl) ?_
            refine r_get X hG in_X9 rfl 6 (by decide) w_637 0 rfl rfl dX9_isCaught_60 ?_
            refine lv_iload_n hx hb dX9_isCaught_63 rfl (lv_at hl 3 rfl) ?_
            obtain ⟨g_14, h⟩ := gd h
            refine r_iald X hG 6 rfl g_14 dX9_isCaught_64 ?_
            refine lv_icmp_gt (tgt := 72) hx hb dX9_isCaught_65 (by decide) (fun c_15 => ?_) (fun c_15 => ?_)
            · have h := ite_t h c_15
              refine lv_iconst (v := (0 : Int32)) hx hb dX9_isCaught_72 (by decide) ?_
              refine lv_istore_n (lv' := [(2, .int (0 : Int32)), (0, .ref (a 0)), (1, .int x1), (3, .int x3)]) hx hb dX9_isCaught_73 rfl hl (by decide) rfl (fun ls hl => ?_)
              refine lv_iinc (v := (x3 + (1 : Int32))) (lv' := [(3, .int (x3 + (1 : Int32))), (2, .int (0 : Int32)), (0, .ref (a 0)), (1, .int x1)]) hx hb dX9_isCaught_74 hl (k := 3) rfl rfl (by decide) rfl (fun ls hl => ?_)
              refine lv_goto (tgt := 4) hx hb dX9_isCaught_77 (by decide) ?_
              exact KC _ _ (Option.some.inj h).symm _ _ _ (lv_sub hl [2, 3, 1, 0] rfl) hG
            · have h := ite_f h c_15
              refine lv_iconst (v := (1 : Int32)) hx hb dX9_isCaught_68 (by decide) ?_
              refine lv_goto (tgt := 73) hx hb dX9_isCaught_69 (by decide) ?_
              refine lv_istore_n (lv' := [(2, .int (1 : Int32)), (0, .ref (a 0)), (1, .int x1), (3, .int x3)]) hx hb dX9_isCaught_73 rfl hl (by decide) rfl (fun ls hl => ?_)
              refine lv_iinc (v := (x3 + (1 : Int32))) (lv' := [(3, .int (x3 + (1 : Int32))), (2, .int (1 : Int32)), (0, .ref (a 0)), (1, .int x1)]) hx hb dX9_isCaught_74 hl (k := 3) rfl rfl (by decide) rfl (fun ls hl => ?_)
              refine lv_goto (tgt := 4) hx hb dX9_isCaught_77 (by decide) ?_
              exact KC _ _ (Option.some.inj h).symm _ _ _ (lv_sub hl [2, 3, 1, 0] rfl) hG
  have h := hD
  unfold DX9_isCaught at h
  clear hD
  refine lv_iconst (v := (0 : Int32)) hx hb dX9_isCaught_0 (by decide) ?_
  refine lv_istore_n (lv' := [(2, .int (0 : Int32)), (0, .ref (a 0)), (1, .int x1)]) hx hb dX9_isCaught_1 rfl hl (by decide) rfl (fun ls hl => ?_)
  refine lv_iconst (v := (0 : Int32)) hx hb dX9_isCaught_2 (by decide) ?_
  refine lv_istore_n (lv' := [(3, .int (0 : Int32)), (2, .int (0 : Int32)), (0, .ref (a 0)), (1, .int x1)]) hx hb dX9_isCaught_3 rfl hl (by decide) rfl (fun ls hl => ?_)
  obtain ⟨z2_16, hz, h⟩ := bd1_some h
  refine L4  FU (0 : Int32) (0 : Int32) _ hz (fun ls H locs hl hG => ?_) _ _ _ (lv_sub hl [2, 3, 1, 0] rfl) hG
  clear hz
  refine lv_iload_n hx hb dX9_isCaught_80 rfl (lv_at hl 0 rfl) ?_
  obtain ⟨g_17, h⟩ := gd h
  cases h
  exact ret _ _ _ _ dX9_isCaught_81 (Decidable.not_not.mp g_17) hG
set_option maxRecDepth 100000 in
set_option maxHeartbeats 4000000 in
theorem mX9_howOf (l : Launch) (dC : Nat → ClassId) (dI : Nat → Nat → Nat) (cI cJ : ClassId) (a : Nat → Nat) (c_length : Int32) (c_text : Nat → Int32) (c_stands : Nat → Int32) (c_homeFar : Nat → Int32) (c_nets : Nat → Int32) (c_netAt : Nat → Int32) (c_netWide : Nat → Int32) (c_netFrom : Nat → Int32) (c_netTo : Nat → Int32) (c_priceX : Nat → Int32) (c_priceY : Nat → Int32) (c_many : Nat → Int32) (c_days : Nat → Int32) (c_aims : Nat → Int32) (c_speeds : Nat → Int32) (c_kinds : Nat → Int32) (c_keptMany : Int32) (c_undoMany : Int32) (c_undos : Nat → Int32) (c_spot : Int32) (c_told : Nat → Int32) (c_to : Nat → Int32) (c_stood : Nat → Int32) (c_home : Nat → Int32) (c_lost : Nat → Int32) (c_out : Int32) (c_fewest : Nat → Int32) (c_ways : Nat → Int64) (c_next : Nat → Int64) (c_held : Nat → Int32) (x1 : Int32) {res : Int32} (hD : DX9_howOf x1 c_nets c_netAt c_netWide c_netFrom c_netTo c_days c_kinds c_to c_home c_lost = some res) : Met l yX9_howOf (WZ yX9_howOf cX9_howOf 2 (some .int)) (RM 3 65) (PC dC dI cI cJ [.ref (a 0), .int x1] (W_X9 a cI cJ c_length c_text c_stands c_homeFar c_nets c_netAt c_netWide c_netFrom c_netTo c_priceX c_priceY c_many c_days c_aims c_speeds c_kinds c_keptMany c_undoMany c_undos c_spot c_told c_to c_stood c_home c_lost c_out c_fewest c_ways c_next c_held)) (QI dC dI (W_X9 a cI cJ c_length c_text c_stands c_homeFar c_nets c_netAt c_netWide c_netFrom c_netTo c_priceX c_priceY c_many c_days c_aims c_speeds c_kinds c_keptMany c_undoMany c_undos c_spot c_told c_to c_stood c_home c_lost c_out c_fewest c_ways c_next c_held) (W_X9 a cI cJ c_length c_text c_stands c_homeFar c_nets c_netAt c_netWide c_netFrom c_netTo c_priceX c_priceY c_many c_days c_aims c_speeds c_kinds c_keptMany c_undoMany c_undos c_spot c_told c_to c_stood c_home c_lost c_out c_fewest c_ways c_next c_held) res) 0 0 (FA (W_X9 a cI cJ c_length c_text c_stands c_homeFar c_nets c_netAt c_netWide c_netFrom c_netTo c_priceX c_priceY c_many c_days c_aims c_speeds c_kinds c_keptMany c_undoMany c_undos c_spot c_told c_to c_stood c_home c_lost c_out c_fewest c_ways c_next c_held)) := by
  refine r_metI (by decide +kernel) (Nat.le_of_ble_eq_true rfl) ?_
  intro p e s m args below meth c A H0 QQ X ret ls hl hG
  have X : Cx p m c cX9_howOf 2 s args RX9 dC dI cI cJ meth (some .int) := X
  have hx := X.1.1
  have hb := X.1.2.1
  have hl : lv_has ls 2 [(0, .ref (a 0)), (1, .int x1)] := hl
  have h := hD
  unfold DX9_howOf at h
  clear hD
  refine lv_aload_n hx hb dX9_howOf_0 rfl (lv_at hl 0 rfl) ?_
  refine r_get X hG in_X9 rfl 24 (by decide) w_655 0 rfl rfl dX9_howOf_1 ?_
  refine lv_iload_n hx hb dX9_howOf_4 rfl (lv_at hl 1 rfl) ?_
  obtain ⟨g_1, h⟩ := gd h
  refine r_iald X hG 21 rfl g_1 dX9_howOf_5 ?_
  refine lv_sipush (v := (10000 : Int32)) hx hb dX9_howOf_6 (by decide) ?_
  refine lv_icmp_ge (tgt := 16) hx hb dX9_howOf_9 (by decide) (fun c_2 => ?_) (fun c_2 => ?_)
  · have h := ite_t h c_2
    refine lv_aload_n hx hb dX9_howOf_16 rfl (lv_at hl 0 rfl) ?_
    refine lv_iload_n hx hb dX9_howOf_17 rfl (lv_at hl 1 rfl) ?_
    obtain ⟨r_3, hz_4, h⟩ := bd1_some h
    refine aft_i1 (run_V1 (rest := []) X hG hl.1 (mX9_isCaught l dC dI cI cJ a c_length c_text c_stands c_homeFar c_nets c_netAt c_netWide c_netFrom c_netTo c_priceX c_priceY c_many c_days c_aims c_speeds c_kinds c_keptMany c_undoMany c_undos c_spot c_told c_to c_stood c_home c_lost c_out c_fewest c_ways c_next c_held x1 hz_4) gi_V_X9_173 hd_V_yX9_isCaught ⟨rfl, rfl⟩ rfl ⟨Nat.le_of_ble_eq_true rfl, Nat.le_of_ble_eq_true rfl⟩ 0 rfl rfl rfl rfl (Nat.le_of_ble_eq_true rfl) ⟨Nat.le_of_ble_eq_true rfl, Nat.le_of_ble_eq_true rfl⟩ dX9_howOf_18) hG rfl (fun H locs hG => ?_)
    clear hz_4
    refine lv_if_eq (tgt := 28) hx hb dX9_howOf_21 (by decide) (fun c_5 => ?_) (fun c_5 => ?_)
    · have h := ite_t h c_5
      refine lv_iconst (v := (1 : Int32)) hx hb dX9_howOf_28 (by decide) ?_
      cases h
      exact ret _ _ _ _ dX9_howOf_29 hG
    · have h := ite_f h c_5
      refine lv_iconst (v := (0 : Int32)) hx hb dX9_howOf_24 (by decide) ?_
      refine lv_goto (tgt := 29) hx hb dX9_howOf_25 (by decide) ?_
      cases h
      exact ret _ _ _ _ dX9_howOf_29 hG
  · have h := ite_f h c_2
    refine lv_iconst (v := (2 : Int32)) hx hb dX9_howOf_12 (by decide) ?_
    refine lv_goto (tgt := 29) hx hb dX9_howOf_13 (by decide) ?_
    cases h
    exact ret _ _ _ _ dX9_howOf_29 hG
set_option maxRecDepth 100000 in
set_option maxHeartbeats 4000000 in
theorem mX9_priceOf (l : Launch) (dC : Nat → ClassId) (dI : Nat → Nat → Nat) (cI cJ : ClassId) (a : Nat → Nat) (c_length : Int32) (c_text : Nat → Int32) (c_stands : Nat → Int32) (c_homeFar : Nat → Int32) (c_nets : Nat → Int32) (c_netAt : Nat → Int32) (c_netWide : Nat → Int32) (c_netFrom : Nat → Int32) (c_netTo : Nat → Int32) (c_priceX : Nat → Int32) (c_priceY : Nat → Int32) (c_many : Nat → Int32) (c_days : Nat → Int32) (c_aims : Nat → Int32) (c_speeds : Nat → Int32) (c_kinds : Nat → Int32) (c_keptMany : Int32) (c_undoMany : Int32) (c_undos : Nat → Int32) (c_spot : Int32) (c_told : Nat → Int32) (c_to : Nat → Int32) (c_stood : Nat → Int32) (c_home : Nat → Int32) (c_lost : Nat → Int32) (c_out : Int32) (c_fewest : Nat → Int32) (c_ways : Nat → Int64) (c_next : Nat → Int64) (c_held : Nat → Int32) (x1 : Int32) {res : Int32} (hD : DX9_priceOf x1 c_priceX c_priceY = some res) : Met l yX9_priceOf (WZ yX9_priceOf cX9_priceOf 2 (some .int)) (RM 0 0) (PC dC dI cI cJ [.ref (a 0), .int x1] (W_X9 a cI cJ c_length c_text c_stands c_homeFar c_nets c_netAt c_netWide c_netFrom c_netTo c_priceX c_priceY c_many c_days c_aims c_speeds c_kinds c_keptMany c_undoMany c_undos c_spot c_told c_to c_stood c_home c_lost c_out c_fewest c_ways c_next c_held)) (QI dC dI (W_X9 a cI cJ c_length c_text c_stands c_homeFar c_nets c_netAt c_netWide c_netFrom c_netTo c_priceX c_priceY c_many c_days c_aims c_speeds c_kinds c_keptMany c_undoMany c_undos c_spot c_told c_to c_stood c_home c_lost c_out c_fewest c_ways c_next c_held) (W_X9 a cI cJ c_length c_text c_stands c_homeFar c_nets c_netAt c_netWide c_netFrom c_netTo c_priceX c_priceY c_many c_days c_aims c_speeds c_kinds c_keptMany c_undoMany c_undos c_spot c_told c_to c_stood c_home c_lost c_out c_fewest c_ways c_next c_held) res) 0 0 (FA (W_X9 a cI cJ c_length c_text c_stands c_homeFar c_nets c_netAt c_netWide c_netFrom c_netTo c_priceX c_priceY c_many c_days c_aims c_speeds c_kinds c_keptMany c_undoMany c_undos c_spot c_told c_to c_stood c_home c_lost c_out c_fewest c_ways c_next c_held)) := by
  refine r_metI (by decide +kernel) (Nat.le_of_ble_eq_true rfl) ?_
  intro p e s m args below meth c A H0 QQ X ret ls hl hG
  have X : Cx p m c cX9_priceOf 2 s args RX9 dC dI cI cJ meth (some .int) := X
  have hx := X.1.1
  have hb := X.1.2.1
  have hl : lv_has ls 2 [(0, .ref (a 0)), (1, .int x1)] := hl
  have h := hD
  unfold DX9_priceOf at h
  clear hD
  refine lv_aload_n hx hb dX9_priceOf_0 rfl (lv_at hl 0 rfl) ?_
  refine r_get X hG in_X9 rfl 9 (by decide) w_640 0 rfl rfl dX9_priceOf_1 ?_
  refine lv_iconst (v := (0 : Int32)) hx hb dX9_priceOf_4 (by decide) ?_
  refine r_iald X hG 9 rfl (vpd (by decide)) dX9_priceOf_5 ?_
  refine lv_aload_n hx hb dX9_priceOf_6 rfl (lv_at hl 0 rfl) ?_
  refine r_get X hG in_X9 rfl 10 (by decide) w_641 0 rfl rfl dX9_priceOf_7 ?_
  refine lv_iconst (v := (0 : Int32)) hx hb dX9_priceOf_10 (by decide) ?_
  refine r_iald X hG 10 rfl (vpd (by decide)) dX9_priceOf_11 ?_
  refine lv_iload_n hx hb dX9_priceOf_12 rfl (lv_at hl 1 rfl) ?_
  refine lv_imul hx hb dX9_priceOf_13 ?_
  refine lv_iadd hx hb dX9_priceOf_14 ?_
  refine lv_bipush (v := (50 : Int32)) hx hb dX9_priceOf_15 (by decide) ?_
  refine lv_irem hx hb dX9_priceOf_17 (by decide) ?_
  refine lv_iconst (v := (1 : Int32)) hx hb dX9_priceOf_18 (by decide) ?_
  refine lv_iadd hx hb dX9_priceOf_19 ?_
  cases h
  exact ret _ _ _ _ dX9_priceOf_20 hG
set_option maxRecDepth 100000 in
set_option maxHeartbeats 4000000 in
theorem mX9_paidOf (l : Launch) (dC : Nat → ClassId) (dI : Nat → Nat → Nat) (cI cJ : ClassId) (a : Nat → Nat) (c_length : Int32) (c_text : Nat → Int32) (c_stands : Nat → Int32) (c_homeFar : Nat → Int32) (c_nets : Nat → Int32) (c_netAt : Nat → Int32) (c_netWide : Nat → Int32) (c_netFrom : Nat → Int32) (c_netTo : Nat → Int32) (c_priceX : Nat → Int32) (c_priceY : Nat → Int32) (c_many : Nat → Int32) (c_days : Nat → Int32) (c_aims : Nat → Int32) (c_speeds : Nat → Int32) (c_kinds : Nat → Int32) (c_keptMany : Int32) (c_undoMany : Int32) (c_undos : Nat → Int32) (c_spot : Int32) (c_told : Nat → Int32) (c_to : Nat → Int32) (c_stood : Nat → Int32) (c_home : Nat → Int32) (c_lost : Nat → Int32) (c_out : Int32) (c_fewest : Nat → Int32) (c_ways : Nat → Int64) (c_next : Nat → Int64) (c_held : Nat → Int32) (x1 : Int32) {res : Int32} (hD : DX9_paidOf x1 c_nets c_netAt c_netWide c_netFrom c_netTo c_priceX c_priceY c_days c_kinds c_to c_home c_lost = some res) : Met l yX9_paidOf (WZ yX9_paidOf cX9_paidOf 2 (some .int)) (RM 4 86) (PC dC dI cI cJ [.ref (a 0), .int x1] (W_X9 a cI cJ c_length c_text c_stands c_homeFar c_nets c_netAt c_netWide c_netFrom c_netTo c_priceX c_priceY c_many c_days c_aims c_speeds c_kinds c_keptMany c_undoMany c_undos c_spot c_told c_to c_stood c_home c_lost c_out c_fewest c_ways c_next c_held)) (QI dC dI (W_X9 a cI cJ c_length c_text c_stands c_homeFar c_nets c_netAt c_netWide c_netFrom c_netTo c_priceX c_priceY c_many c_days c_aims c_speeds c_kinds c_keptMany c_undoMany c_undos c_spot c_told c_to c_stood c_home c_lost c_out c_fewest c_ways c_next c_held) (W_X9 a cI cJ c_length c_text c_stands c_homeFar c_nets c_netAt c_netWide c_netFrom c_netTo c_priceX c_priceY c_many c_days c_aims c_speeds c_kinds c_keptMany c_undoMany c_undos c_spot c_told c_to c_stood c_home c_lost c_out c_fewest c_ways c_next c_held) res) 0 0 (FA (W_X9 a cI cJ c_length c_text c_stands c_homeFar c_nets c_netAt c_netWide c_netFrom c_netTo c_priceX c_priceY c_many c_days c_aims c_speeds c_kinds c_keptMany c_undoMany c_undos c_spot c_told c_to c_stood c_home c_lost c_out c_fewest c_ways c_next c_held)) := by
  refine r_metI (by decide +kernel) (Nat.le_of_ble_eq_true rfl) ?_
  intro p e s m args below meth c A H0 QQ X ret ls hl hG
  have X : Cx p m c cX9_paidOf 2 s args RX9 dC dI cI cJ meth (some .int) := X
  have hx := X.1.1
  have hb := X.1.2.1
  have hl : lv_has ls 2 [(0, .ref (a 0)), (1, .int x1)] := hl
  have h := hD
  unfold DX9_paidOf at h
  clear hD
  refine lv_aload_n hx hb dX9_paidOf_0 rfl (lv_at hl 0 rfl) ?_
  refine lv_iload_n hx hb dX9_paidOf_1 rfl (lv_at hl 1 rfl) ?_
  obtain ⟨r_1, hz_2, h⟩ := bd1_some h
  refine aft_i1 (run_V1 (rest := []) X hG hl.1 (mX9_howOf l dC dI cI cJ a c_length c_text c_stands c_homeFar c_nets c_netAt c_netWide c_netFrom c_netTo c_priceX c_priceY c_many c_days c_aims c_speeds c_kinds c_keptMany c_undoMany c_undos c_spot c_told c_to c_stood c_home c_lost c_out c_fewest c_ways c_next c_held x1 hz_2) gi_V_X9_176 hd_V_yX9_howOf ⟨rfl, rfl⟩ rfl ⟨Nat.le_of_ble_eq_true rfl, Nat.le_of_ble_eq_true rfl⟩ 0 rfl rfl rfl rfl (Nat.le_of_ble_eq_true rfl) ⟨Nat.le_of_ble_eq_true rfl, Nat.le_of_ble_eq_true rfl⟩ dX9_paidOf_2) hG rfl (fun H locs hG => ?_)
  clear hz_2
  refine lv_if_ne (tgt := 21) hx hb dX9_paidOf_5 (by decide) (fun c_3 => ?_) (fun c_3 => ?_)
  · have h := ite_f h c_3
    refine lv_iconst (v := (0 : Int32)) hx hb dX9_paidOf_21 (by decide) ?_
    cases h
    exact ret _ _ _ _ dX9_paidOf_22 hG
  · have h := ite_t h c_3
    refine lv_aload_n hx hb dX9_paidOf_8 rfl (lv_at hl 0 rfl) ?_
    refine lv_aload_n hx hb dX9_paidOf_9 rfl (lv_at hl 0 rfl) ?_
    refine r_get X hG in_X9 rfl 23 (by decide) w_654 0 rfl rfl dX9_paidOf_10 ?_
    refine lv_iload_n hx hb dX9_paidOf_13 rfl (lv_at hl 1 rfl) ?_
    obtain ⟨g_4, h⟩ := gd h
    refine r_iald X hG 20 rfl g_4 dX9_paidOf_14 ?_
    obtain ⟨r_5, hz_6, h⟩ := bd1_some h
    refine aft_i1 (run_V1 (rest := []) X hG hl.1 (mX9_priceOf l dC dI cI cJ a c_length c_text c_stands c_homeFar c_nets c_netAt c_netWide c_netFrom c_netTo c_priceX c_priceY c_many c_days c_aims c_speeds c_kinds c_keptMany c_undoMany c_undos c_spot c_told c_to c_stood c_home c_lost c_out c_fewest c_ways c_next c_held (c_home x1.toNatClampNeg) hz_6) gi_V_X9_179 hd_V_yX9_priceOf ⟨rfl, rfl⟩ rfl ⟨Nat.le_of_ble_eq_true rfl, Nat.le_of_ble_eq_true rfl⟩ 0 rfl rfl rfl rfl (Nat.le_of_ble_eq_true rfl) ⟨Nat.le_of_ble_eq_true rfl, Nat.le_of_ble_eq_true rfl⟩ dX9_paidOf_15) hG rfl (fun H locs hG => ?_)
    clear hz_6
    refine lv_goto (tgt := 22) hx hb dX9_paidOf_18 (by decide) ?_
    cases h
    exact ret _ _ _ _ dX9_paidOf_22 hG
set_option maxRecDepth 100000 in
set_option maxHeartbeats 4000000 in
theorem mX9_load (l : Launch) (dC : Nat → ClassId) (dI : Nat → Nat → Nat) (cI cJ : ClassId) (a : Nat → Nat) (c_length : Int32) (c_text : Nat → Int32) (c_stands : Nat → Int32) (c_homeFar : Nat → Int32) (c_nets : Nat → Int32) (c_netAt : Nat → Int32) (c_netWide : Nat → Int32) (c_netFrom : Nat → Int32) (c_netTo : Nat → Int32) (c_priceX : Nat → Int32) (c_priceY : Nat → Int32) (c_many : Nat → Int32) (c_days : Nat → Int32) (c_aims : Nat → Int32) (c_speeds : Nat → Int32) (c_kinds : Nat → Int32) (c_keptMany : Int32) (c_undoMany : Int32) (c_undos : Nat → Int32) (c_spot : Int32) (c_told : Nat → Int32) (c_to : Nat → Int32) (c_stood : Nat → Int32) (c_home : Nat → Int32) (c_lost : Nat → Int32) (c_out : Int32) (c_fewest : Nat → Int32) (c_ways : Nat → Int64) (c_next : Nat → Int64) (c_held : Nat → Int32) (x1 : Int32) (x2 : Int32) {res : Int32} {n_to : Nat → Int32} {n_stood : Nat → Int32} {n_home : Nat → Int32} {n_lost : Nat → Int32} {n_out : Int32} (hD : DX9_load x1 x2 c_stands c_homeFar c_nets c_netAt c_netWide c_netFrom c_netTo c_priceX c_priceY c_many c_days c_aims c_speeds c_kinds c_to c_stood c_home c_lost c_out = some (res, n_to, n_stood, n_home, n_lost, n_out)) : Met l yX9_load (WZ yX9_load cX9_load 3 (some .int)) (RM 5 107) (PC dC dI cI cJ [.ref (a 0), .int x1, .int x2] (W_X9 a cI cJ c_length c_text c_stands c_homeFar c_nets c_netAt c_netWide c_netFrom c_netTo c_priceX c_priceY c_many c_days c_aims c_speeds c_kinds c_keptMany c_undoMany c_undos c_spot c_told c_to c_stood c_home c_lost c_out c_fewest c_ways c_next c_held)) (QI dC dI (W_X9 a cI cJ c_length c_text c_stands c_homeFar c_nets c_netAt c_netWide c_netFrom c_netTo c_priceX c_priceY c_many c_days c_aims c_speeds c_kinds c_keptMany c_undoMany c_undos c_spot c_told c_to c_stood c_home c_lost c_out c_fewest c_ways c_next c_held) (W_X9 a cI cJ c_length c_text c_stands c_homeFar c_nets c_netAt c_netWide c_netFrom c_netTo c_priceX c_priceY c_many c_days c_aims c_speeds c_kinds c_keptMany c_undoMany c_undos c_spot c_told n_to n_stood n_home n_lost n_out c_fewest c_ways c_next c_held) res) 0 0 (FA (W_X9 a cI cJ c_length c_text c_stands c_homeFar c_nets c_netAt c_netWide c_netFrom c_netTo c_priceX c_priceY c_many c_days c_aims c_speeds c_kinds c_keptMany c_undoMany c_undos c_spot c_told c_to c_stood c_home c_lost c_out c_fewest c_ways c_next c_held)) := by
  refine r_metI (by decide +kernel) (Nat.le_of_ble_eq_true rfl) ?_
  intro p e s m args below meth c A H0 QQ X ret ls hl hG
  have X : Cx p m c cX9_load 3 s args RX9 dC dI cI cJ meth (some .int) := X
  have hx := X.1.1
  have hb := X.1.2.1
  have hl : lv_has ls 3 [(0, .ref (a 0)), (1, .int x1), (2, .int x2)] := hl
  have h := hD
  unfold DX9_load at h
  clear hD
  refine lv_aload_n hx hb dX9_load_0 rfl (lv_at hl 0 rfl) ?_
  refine lv_iload_n hx hb dX9_load_1 rfl (lv_at hl 1 rfl) ?_
  obtain ⟨r_1, hz_2, h⟩ := bd1_some h
  refine aft_i1 (run_V1 (rest := []) X hG hl.1 (mX9_isThrow l dC dI cI cJ a c_length c_text c_stands c_homeFar c_nets c_netAt c_netWide c_netFrom c_netTo c_priceX c_priceY c_many c_days c_aims c_speeds c_kinds c_keptMany c_undoMany c_undos c_spot c_told c_to c_stood c_home c_lost c_out c_fewest c_ways c_next c_held x1 hz_2) gi_V_X9_182 hd_V_yX9_isThrow ⟨rfl, rfl⟩ rfl ⟨Nat.le_of_ble_eq_true rfl, Nat.le_of_ble_eq_true rfl⟩ 0 rfl rfl rfl rfl (Nat.le_of_ble_eq_true rfl) ⟨Nat.le_of_ble_eq_true rfl, Nat.le_of_ble_eq_true rfl⟩ dX9_load_2) hG rfl (fun H locs hG => ?_)
  clear hz_2
  refine lv_if_eq (tgt := 20) hx hb dX9_load_5 (by decide) (fun c_3 => ?_) (fun c_3 => ?_)
  · have h := ite_t h c_3
    refine lv_iconst (v := (-1 : Int32)) hx hb dX9_load_20 (by decide) ?_
    cases h
    exact ret _ _ _ _ dX9_load_21 hG
  · have h := ite_f h c_3
    refine lv_iload_n hx hb dX9_load_8 rfl (lv_at hl 2 rfl) ?_
    refine lv_i2l (v := (x2.toInt64)) hx hb dX9_load_9 rfl ?_
    refine lv_lconst (v := (0 : Int64)) hx hb dX9_load_10 (by decide) ?_
    refine lv_ldc2 (v := (8 : Int64)) hx hb X.1.2.2.2.1 (X.1.2.2.2.2 _ w_727) dX9_load_11 ?_
    obtain ⟨r_4, hz_5, h⟩ := bd1_some h
    refine aft_i (ws' := (W_X9 a cI cJ c_length c_text c_stands c_homeFar c_nets c_netAt c_netWide c_netFrom c_netTo c_priceX c_priceY c_many c_days c_aims c_speeds c_kinds c_keptMany c_undoMany c_undos c_spot c_told c_to c_stood c_home c_lost c_out c_fewest c_ways c_next c_held)) (run_S (rest := []) X hG hl.1 (mX9_in l dC dI cI cJ (x2.toInt64) (0 : Int64) (8 : Int64) hz_5) gi_S_X9_92 hd_S_yX9_in ⟨rfl, rfl⟩ rfl ⟨Nat.le_of_ble_eq_true rfl, Nat.le_of_ble_eq_true rfl⟩ [] (by decide) rfl rfl (Nat.le_of_ble_eq_true rfl) ⟨Nat.le_of_ble_eq_true rfl, Nat.le_of_ble_eq_true rfl⟩ dX9_load_14) hG [] rfl rfl rfl (fun H locs hG => ?_)
    clear hz_5
    refine lv_if_ne (tgt := 22) hx hb dX9_load_17 (by decide) (fun c_6 => ?_) (fun c_6 => ?_)
    · have h := ite_f h c_6
      refine lv_aload_n hx hb dX9_load_22 rfl (lv_at hl 0 rfl) ?_
      refine lv_iconst (v := (0 : Int32)) hx hb dX9_load_23 (by decide) ?_
      obtain ⟨k_to_7, k_stood_8, k_home_9, k_lost_10, k_out_11, hz_12, h⟩ := bd5_some h
      refine aft_v1 (run_V1 (rest := []) X hG hl.1 (mX9_go l dC dI cI cJ a c_length c_text c_stands c_homeFar c_nets c_netAt c_netWide c_netFrom c_netTo c_priceX c_priceY c_many c_days c_aims c_speeds c_kinds c_keptMany c_undoMany c_undos c_spot c_told c_to c_stood c_home c_lost c_out c_fewest c_ways c_next c_held (0 : Int32) hz_12) gi_V_X9_185 hd_V_yX9_go ⟨rfl, rfl⟩ rfl ⟨Nat.le_of_ble_eq_true rfl, Nat.le_of_ble_eq_true rfl⟩ 0 rfl rfl rfl rfl (Nat.le_of_ble_eq_true rfl) ⟨Nat.le_of_ble_eq_true rfl, Nat.le_of_ble_eq_true rfl⟩ dX9_load_24) hG rfl (fun H locs hG => ?_)
      clear hz_12
      refine lv_iload_n hx hb dX9_load_27 rfl (lv_at hl 2 rfl) ?_
      rcases Decidable.em (x2 = (0 : Int32)) with c_13 | c_13
      · have h := ite_t h c_13
        refine lv_tableIn (off := 48) (tgt := 76) hx hb dX9_load_28 (by rw [c_13] <;> decide) (by rw [c_13] <;> decide) (by rw [c_13] <;> rfl) (by decide) ?_
        refine lv_aload_n hx hb dX9_load_76 rfl (lv_at hl 0 rfl) ?_
        refine r_get X hG in_X9 rfl 12 (by decide) w_643 0 rfl rfl dX9_load_77 ?_
        refine lv_iload_n hx hb dX9_load_80 rfl (lv_at hl 1 rfl) ?_
        obtain ⟨g_14, h⟩ := gd h
        refine r_iald X hG 12 rfl g_14 dX9_load_81 ?_
        cases h
        exact ret _ _ _ _ dX9_load_82 hG
      · have h := ite_f h c_13
        rcases Decidable.em (x2 = (1 : Int32)) with c_15 | c_15
        · have h := ite_t h c_15
          refine lv_tableIn (off := 55) (tgt := 83) hx hb dX9_load_28 (by rw [c_15] <;> decide) (by rw [c_15] <;> decide) (by rw [c_15] <;> rfl) (by decide) ?_
          refine lv_aload_n hx hb dX9_load_83 rfl (lv_at hl 0 rfl) ?_
          refine r_get X hG in_X9 rfl 13 (by decide) w_644 0 rfl rfl dX9_load_84 ?_
          refine lv_iload_n hx hb dX9_load_87 rfl (lv_at hl 1 rfl) ?_
          obtain ⟨g_16, h⟩ := gd h
          refine r_iald X hG 13 rfl g_16 dX9_load_88 ?_
          cases h
          exact ret _ _ _ _ dX9_load_89 hG
        · have h := ite_f h c_15
          rcases Decidable.em (x2 = (2 : Int32)) with c_17 | c_17
          · have h := ite_t h c_17
            refine lv_tableIn (off := 62) (tgt := 90) hx hb dX9_load_28 (by rw [c_17] <;> decide) (by rw [c_17] <;> decide) (by rw [c_17] <;> rfl) (by decide) ?_
            refine lv_aload_n hx hb dX9_load_90 rfl (lv_at hl 0 rfl) ?_
            refine r_get X hG in_X9 rfl 14 (by decide) w_645 0 rfl rfl dX9_load_91 ?_
            refine lv_iload_n hx hb dX9_load_94 rfl (lv_at hl 1 rfl) ?_
            obtain ⟨g_18, h⟩ := gd h
            refine r_iald X hG 14 rfl g_18 dX9_load_95 ?_
            cases h
            exact ret _ _ _ _ dX9_load_96 hG
          · have h := ite_f h c_17
            rcases Decidable.em (x2 = (3 : Int32)) with c_19 | c_19
            · have h := ite_t h c_19
              refine lv_tableIn (off := 69) (tgt := 97) hx hb dX9_load_28 (by rw [c_19] <;> decide) (by rw [c_19] <;> decide) (by rw [c_19] <;> rfl) (by decide) ?_
              refine lv_aload_n hx hb dX9_load_97 rfl (lv_at hl 0 rfl) ?_
              refine r_get X hG in_X9 rfl 15 (by decide) w_646 0 rfl rfl dX9_load_98 ?_
              refine lv_iload_n hx hb dX9_load_101 rfl (lv_at hl 1 rfl) ?_
              obtain ⟨g_20, h⟩ := gd h
              refine r_iald X hG 15 rfl g_20 dX9_load_102 ?_
              cases h
              exact ret _ _ _ _ dX9_load_103 hG
            · have h := ite_f h c_19
              rcases Decidable.em (x2 = (4 : Int32)) with c_21 | c_21
              · have h := ite_t h c_21
                refine lv_tableIn (off := 76) (tgt := 104) hx hb dX9_load_28 (by rw [c_21] <;> decide) (by rw [c_21] <;> decide) (by rw [c_21] <;> rfl) (by decide) ?_
                refine lv_aload_n hx hb dX9_load_104 rfl (lv_at hl 0 rfl) ?_
                refine r_get X hG in_X9 rfl 21 (by decide) w_652 0 rfl rfl dX9_load_105 ?_
                refine lv_iload_n hx hb dX9_load_108 rfl (lv_at hl 1 rfl) ?_
                obtain ⟨g_22, h⟩ := gd h
                refine r_iald X hG 18 rfl g_22 dX9_load_109 ?_
                cases h
                exact ret _ _ _ _ dX9_load_110 hG
              · have h := ite_f h c_21
                rcases Decidable.em (x2 = (5 : Int32)) with c_23 | c_23
                · have h := ite_t h c_23
                  refine lv_tableIn (off := 83) (tgt := 111) hx hb dX9_load_28 (by rw [c_23] <;> decide) (by rw [c_23] <;> decide) (by rw [c_23] <;> rfl) (by decide) ?_
                  refine lv_aload_n hx hb dX9_load_111 rfl (lv_at hl 0 rfl) ?_
                  refine r_get X hG in_X9 rfl 22 (by decide) w_653 0 rfl rfl dX9_load_112 ?_
                  refine lv_iload_n hx hb dX9_load_115 rfl (lv_at hl 1 rfl) ?_
                  obtain ⟨g_24, h⟩ := gd h
                  refine r_iald X hG 19 rfl g_24 dX9_load_116 ?_
                  cases h
                  exact ret _ _ _ _ dX9_load_117 hG
                · have h := ite_f h c_23
                  rcases Decidable.em (x2 = (6 : Int32)) with c_25 | c_25
                  · have h := ite_t h c_25
                    refine lv_tableIn (off := 90) (tgt := 118) hx hb dX9_load_28 (by rw [c_25] <;> decide) (by rw [c_25] <;> decide) (by rw [c_25] <;> rfl) (by decide) ?_
                    refine lv_aload_n hx hb dX9_load_118 rfl (lv_at hl 0 rfl) ?_
                    refine lv_iload_n hx hb dX9_load_119 rfl (lv_at hl 1 rfl) ?_
                    obtain ⟨r_26, hz_27, h⟩ := bd1_some h
                    refine aft_i1 (run_V1 (rest := []) X hG hl.1 (mX9_howOf l dC dI cI cJ a c_length c_text c_stands c_homeFar c_nets c_netAt c_netWide c_netFrom c_netTo c_priceX c_priceY c_many c_days c_aims c_speeds c_kinds c_keptMany c_undoMany c_undos c_spot c_told k_to_7 k_stood_8 k_home_9 k_lost_10 k_out_11 c_fewest c_ways c_next c_held x1 hz_27) gi_V_X9_176 hd_V_yX9_howOf ⟨rfl, rfl⟩ rfl ⟨Nat.le_of_ble_eq_true rfl, Nat.le_of_ble_eq_true rfl⟩ 0 rfl rfl rfl rfl (Nat.le_of_ble_eq_true rfl) ⟨Nat.le_of_ble_eq_true rfl, Nat.le_of_ble_eq_true rfl⟩ dX9_load_120) hG rfl (fun H locs hG => ?_)
                    clear hz_27
                    cases h
                    exact ret _ _ _ _ dX9_load_123 hG
                  · have h := ite_f h c_25
                    rcases Decidable.em (x2 = (7 : Int32)) with c_28 | c_28
                    · have h := ite_t h c_28
                      refine lv_tableIn (off := 96) (tgt := 124) hx hb dX9_load_28 (by rw [c_28] <;> decide) (by rw [c_28] <;> decide) (by rw [c_28] <;> rfl) (by decide) ?_
                      refine lv_aload_n hx hb dX9_load_124 rfl (lv_at hl 0 rfl) ?_
                      refine r_get X hG in_X9 rfl 23 (by decide) w_654 0 rfl rfl dX9_load_125 ?_
                      refine lv_iload_n hx hb dX9_load_128 rfl (lv_at hl 1 rfl) ?_
                      obtain ⟨g_29, h⟩ := gd h
                      refine r_iald X hG 20 rfl g_29 dX9_load_129 ?_
                      cases h
                      exact ret _ _ _ _ dX9_load_130 hG
                    · have h := ite_f h c_28
                      refine lv_tableOut (tgt := 131) hx hb dX9_load_28 (by have := lv_neT c_13 (a := 0) rfl; have := lv_neT c_15 (a := 1) rfl; have := lv_neT c_17 (a := 2) rfl; have := lv_neT c_19 (a := 3) rfl; have := lv_neT c_21 (a := 4) rfl; have := lv_neT c_23 (a := 5) rfl; have := lv_neT c_25 (a := 6) rfl; have := lv_neT c_28 (a := 7) rfl; omega) (by decide) ?_
                      refine lv_aload_n hx hb dX9_load_131 rfl (lv_at hl 0 rfl) ?_
                      refine lv_iload_n hx hb dX9_load_132 rfl (lv_at hl 1 rfl) ?_
                      obtain ⟨r_30, hz_31, h⟩ := bd1_some h
                      refine aft_i1 (run_V1 (rest := []) X hG hl.1 (mX9_paidOf l dC dI cI cJ a c_length c_text c_stands c_homeFar c_nets c_netAt c_netWide c_netFrom c_netTo c_priceX c_priceY c_many c_days c_aims c_speeds c_kinds c_keptMany c_undoMany c_undos c_spot c_told k_to_7 k_stood_8 k_home_9 k_lost_10 k_out_11 c_fewest c_ways c_next c_held x1 hz_31) gi_V_X9_188 hd_V_yX9_paidOf ⟨rfl, rfl⟩ rfl ⟨Nat.le_of_ble_eq_true rfl, Nat.le_of_ble_eq_true rfl⟩ 0 rfl rfl rfl rfl (Nat.le_of_ble_eq_true rfl) ⟨Nat.le_of_ble_eq_true rfl, Nat.le_of_ble_eq_true rfl⟩ dX9_load_133) hG rfl (fun H locs hG => ?_)
                      clear hz_31
                      cases h
                      exact ret _ _ _ _ dX9_load_136 hG
    · have h := ite_t h c_6
      refine lv_iconst (v := (-1 : Int32)) hx hb dX9_load_20 (by decide) ?_
      cases h
      exact ret _ _ _ _ dX9_load_21 hG
set_option maxRecDepth 100000 in
set_option maxHeartbeats 4000000 in
theorem mX9_isDay (l : Launch) (dC : Nat → ClassId) (dI : Nat → Nat → Nat) (cI cJ : ClassId) (x0 : Int32) {res : Int32} (hD : DX9_isDay x0 = some res) : Met l yX9_isDay (WZ yX9_isDay cX9_isDay 1 (some .boolean)) (RM 1 25) (PC dC dI cI cJ [.int x0] []) (QI dC dI [] [] res) 0 0 (FA []) := by
  refine r_metZ (by decide +kernel) (Nat.le_of_ble_eq_true rfl) ?_
  intro p e s m args below meth c A H0 QQ X ret ls hl hG
  have X : Cx p m c cX9_isDay 1 s args RX9 dC dI cI cJ meth (some .boolean) := X
  have hx := X.1.1
  have hb := X.1.2.1
  have hl : lv_has ls 1 [(0, .int x0)] := hl
  have h := hD
  unfold DX9_isDay at h
  clear hD
  refine lv_iload_n hx hb dX9_isDay_0 rfl (lv_at hl 0 rfl) ?_
  refine lv_i2l (v := (x0.toInt64)) hx hb dX9_isDay_1 rfl ?_
  refine lv_lconst (v := (0 : Int64)) hx hb dX9_isDay_2 (by decide) ?_
  refine lv_ldc2 (v := (99 : Int64)) hx hb X.1.2.2.2.1 (X.1.2.2.2.2 _ w_837) dX9_isDay_3 ?_
  obtain ⟨r_1, hz_2, h⟩ := bd1_some h
  refine aft_i (ws' := []) (run_S (rest := []) X hG hl.1 (mX9_in l dC dI cI cJ (x0.toInt64) (0 : Int64) (99 : Int64) hz_2) gi_S_X9_92 hd_S_yX9_in ⟨rfl, rfl⟩ rfl ⟨Nat.le_of_ble_eq_true rfl, Nat.le_of_ble_eq_true rfl⟩ [] (by decide) rfl rfl (Nat.le_of_ble_eq_true rfl) ⟨Nat.le_of_ble_eq_true rfl, Nat.le_of_ble_eq_true rfl⟩ dX9_isDay_6) hG [] rfl rfl rfl (fun H locs hG => ?_)
  clear hz_2
  obtain ⟨g_3, h⟩ := gd h
  cases h
  exact ret _ _ _ _ dX9_isDay_9 (Decidable.not_not.mp g_3) hG
set_option maxRecDepth 100000 in
set_option maxHeartbeats 4000000 in
theorem mX9_far (l : Launch) (dC : Nat → ClassId) (dI : Nat → Nat → Nat) (cI cJ : ClassId) (a : Nat → Nat) (c_length : Int32) (c_text : Nat → Int32) (c_stands : Nat → Int32) (c_homeFar : Nat → Int32) (c_nets : Nat → Int32) (c_netAt : Nat → Int32) (c_netWide : Nat → Int32) (c_netFrom : Nat → Int32) (c_netTo : Nat → Int32) (c_priceX : Nat → Int32) (c_priceY : Nat → Int32) (c_many : Nat → Int32) (c_days : Nat → Int32) (c_aims : Nat → Int32) (c_speeds : Nat → Int32) (c_kinds : Nat → Int32) (c_keptMany : Int32) (c_undoMany : Int32) (c_undos : Nat → Int32) (c_spot : Int32) (c_told : Nat → Int32) (c_to : Nat → Int32) (c_stood : Nat → Int32) (c_home : Nat → Int32) (c_lost : Nat → Int32) (c_out : Int32) (c_fewest : Nat → Int32) (c_ways : Nat → Int64) (c_next : Nat → Int64) (c_held : Nat → Int32) (x1 : Int32) (x2 : Int32) {res : Int32} {n_to : Nat → Int32} {n_stood : Nat → Int32} {n_home : Nat → Int32} {n_lost : Nat → Int32} {n_out : Int32} (hD : DX9_far x1 x2 c_stands c_homeFar c_many c_days c_aims c_speeds c_kinds c_to c_stood c_home c_lost c_out = some (res, n_to, n_stood, n_home, n_lost, n_out)) : Met l yX9_far (WZ yX9_far cX9_far 3 (some .int)) (RM 4 91) (PC dC dI cI cJ [.ref (a 0), .int x1, .int x2] (W_X9 a cI cJ c_length c_text c_stands c_homeFar c_nets c_netAt c_netWide c_netFrom c_netTo c_priceX c_priceY c_many c_days c_aims c_speeds c_kinds c_keptMany c_undoMany c_undos c_spot c_told c_to c_stood c_home c_lost c_out c_fewest c_ways c_next c_held)) (QI dC dI (W_X9 a cI cJ c_length c_text c_stands c_homeFar c_nets c_netAt c_netWide c_netFrom c_netTo c_priceX c_priceY c_many c_days c_aims c_speeds c_kinds c_keptMany c_undoMany c_undos c_spot c_told c_to c_stood c_home c_lost c_out c_fewest c_ways c_next c_held) (W_X9 a cI cJ c_length c_text c_stands c_homeFar c_nets c_netAt c_netWide c_netFrom c_netTo c_priceX c_priceY c_many c_days c_aims c_speeds c_kinds c_keptMany c_undoMany c_undos c_spot c_told n_to n_stood n_home n_lost n_out c_fewest c_ways c_next c_held) res) 0 0 (FA (W_X9 a cI cJ c_length c_text c_stands c_homeFar c_nets c_netAt c_netWide c_netFrom c_netTo c_priceX c_priceY c_many c_days c_aims c_speeds c_kinds c_keptMany c_undoMany c_undos c_spot c_told c_to c_stood c_home c_lost c_out c_fewest c_ways c_next c_held)) := by
  refine r_metI (by decide +kernel) (Nat.le_of_ble_eq_true rfl) ?_
  intro p e s m args below meth c A H0 QQ X ret ls hl hG
  have X : Cx p m c cX9_far 3 s args RX9 dC dI cI cJ meth (some .int) := X
  have hx := X.1.1
  have hb := X.1.2.1
  have hl : lv_has ls 3 [(0, .ref (a 0)), (1, .int x1), (2, .int x2)] := hl
  have h := hD
  unfold DX9_far at h
  clear hD
  refine lv_aload_n hx hb dX9_far_0 rfl (lv_at hl 0 rfl) ?_
  refine lv_iload_n hx hb dX9_far_1 rfl (lv_at hl 1 rfl) ?_
  obtain ⟨r_1, hz_2, h⟩ := bd1_some h
  refine aft_i1 (run_V1 (rest := []) X hG hl.1 (mX9_isThrow l dC dI cI cJ a c_length c_text c_stands c_homeFar c_nets c_netAt c_netWide c_netFrom c_netTo c_priceX c_priceY c_many c_days c_aims c_speeds c_kinds c_keptMany c_undoMany c_undos c_spot c_told c_to c_stood c_home c_lost c_out c_fewest c_ways c_next c_held x1 hz_2) gi_V_X9_182 hd_V_yX9_isThrow ⟨rfl, rfl⟩ rfl ⟨Nat.le_of_ble_eq_true rfl, Nat.le_of_ble_eq_true rfl⟩ 0 rfl rfl rfl rfl (Nat.le_of_ble_eq_true rfl) ⟨Nat.le_of_ble_eq_true rfl, Nat.le_of_ble_eq_true rfl⟩ dX9_far_2) hG rfl (fun H locs hG => ?_)
  clear hz_2
  refine lv_if_eq (tgt := 15) hx hb dX9_far_5 (by decide) (fun c_3 => ?_) (fun c_3 => ?_)
  · have h := ite_t h c_3
    refine lv_iconst (v := (-1 : Int32)) hx hb dX9_far_15 (by decide) ?_
    cases h
    exact ret _ _ _ _ dX9_far_16 hG
  · have h := ite_f h c_3
    refine lv_iload_n hx hb dX9_far_8 rfl (lv_at hl 2 rfl) ?_
    obtain ⟨r_4, hz_5, h⟩ := bd1_some h
    refine aft_i (ws' := (W_X9 a cI cJ c_length c_text c_stands c_homeFar c_nets c_netAt c_netWide c_netFrom c_netTo c_priceX c_priceY c_many c_days c_aims c_speeds c_kinds c_keptMany c_undoMany c_undos c_spot c_told c_to c_stood c_home c_lost c_out c_fewest c_ways c_next c_held)) (run_S (rest := []) X hG hl.1 (mX9_isDay l dC dI cI cJ x2 hz_5) gi_S_X9_193 hd_S_yX9_isDay ⟨rfl, rfl⟩ rfl ⟨Nat.le_of_ble_eq_true rfl, Nat.le_of_ble_eq_true rfl⟩ [] (by decide) rfl rfl (Nat.le_of_ble_eq_true rfl) ⟨Nat.le_of_ble_eq_true rfl, Nat.le_of_ble_eq_true rfl⟩ dX9_far_9) hG [] rfl rfl rfl (fun H locs hG => ?_)
    clear hz_5
    refine lv_if_ne (tgt := 17) hx hb dX9_far_12 (by decide) (fun c_6 => ?_) (fun c_6 => ?_)
    · have h := ite_f h c_6
      refine lv_aload_n hx hb dX9_far_17 rfl (lv_at hl 0 rfl) ?_
      refine lv_iconst (v := (0 : Int32)) hx hb dX9_far_18 (by decide) ?_
      obtain ⟨k_to_7, k_stood_8, k_home_9, k_lost_10, k_out_11, hz_12, h⟩ := bd5_some h
      refine aft_v1 (run_V1 (rest := []) X hG hl.1 (mX9_go l dC dI cI cJ a c_length c_text c_stands c_homeFar c_nets c_netAt c_netWide c_netFrom c_netTo c_priceX c_priceY c_many c_days c_aims c_speeds c_kinds c_keptMany c_undoMany c_undos c_spot c_told c_to c_stood c_home c_lost c_out c_fewest c_ways c_next c_held (0 : Int32) hz_12) gi_V_X9_185 hd_V_yX9_go ⟨rfl, rfl⟩ rfl ⟨Nat.le_of_ble_eq_true rfl, Nat.le_of_ble_eq_true rfl⟩ 0 rfl rfl rfl rfl (Nat.le_of_ble_eq_true rfl) ⟨Nat.le_of_ble_eq_true rfl, Nat.le_of_ble_eq_true rfl⟩ dX9_far_19) hG rfl (fun H locs hG => ?_)
      clear hz_12
      refine lv_iload_n hx hb dX9_far_22 rfl (lv_at hl 2 rfl) ?_
      refine lv_aload_n hx hb dX9_far_23 rfl (lv_at hl 0 rfl) ?_
      refine r_get X hG in_X9 rfl 12 (by decide) w_643 0 rfl rfl dX9_far_24 ?_
      refine lv_iload_n hx hb dX9_far_27 rfl (lv_at hl 1 rfl) ?_
      obtain ⟨g_13, h⟩ := gd h
      refine r_iald X hG 12 rfl g_13 dX9_far_28 ?_
      refine lv_icmp_lt (tgt := 51) hx hb dX9_far_29 (by decide) (fun c_14 => ?_) (fun c_14 => ?_)
      · have h := ite_t h c_14
        refine lv_bipush (v := (-4 : Int32)) hx hb dX9_far_51 (by decide) ?_
        cases h
        exact ret _ _ _ _ dX9_far_53 hG
      · have h := ite_f h c_14
        refine lv_iload_n hx hb dX9_far_32 rfl (lv_at hl 2 rfl) ?_
        refine lv_aload_n hx hb dX9_far_33 rfl (lv_at hl 0 rfl) ?_
        refine r_get X hG in_X9 rfl 23 (by decide) w_654 0 rfl rfl dX9_far_34 ?_
        refine lv_iload_n hx hb dX9_far_37 rfl (lv_at hl 1 rfl) ?_
        obtain ⟨g_15, h⟩ := gd h
        refine r_iald X hG 20 rfl g_15 dX9_far_38 ?_
        refine lv_icmp_ge (tgt := 51) hx hb dX9_far_39 (by decide) (fun c_16 => ?_) (fun c_16 => ?_)
        · have h := ite_t h c_16
          refine lv_bipush (v := (-4 : Int32)) hx hb dX9_far_51 (by decide) ?_
          cases h
          exact ret _ _ _ _ dX9_far_53 hG
        · have h := ite_f h c_16
          refine lv_aload_n hx hb dX9_far_42 rfl (lv_at hl 0 rfl) ?_
          refine lv_iload_n hx hb dX9_far_43 rfl (lv_at hl 1 rfl) ?_
          refine lv_iload_n hx hb dX9_far_44 rfl (lv_at hl 2 rfl) ?_
          obtain ⟨r_17, hz_18, h⟩ := bd1_some h
          refine aft_i1 (run_V1 (rest := []) X hG hl.1 (mX9_farOf l dC dI cI cJ a c_length c_text c_stands c_homeFar c_nets c_netAt c_netWide c_netFrom c_netTo c_priceX c_priceY c_many c_days c_aims c_speeds c_kinds c_keptMany c_undoMany c_undos c_spot c_told k_to_7 k_stood_8 k_home_9 k_lost_10 k_out_11 c_fewest c_ways c_next c_held x1 x2 hz_18) gi_V_X9_154 hd_V_yX9_farOf ⟨rfl, rfl⟩ rfl ⟨Nat.le_of_ble_eq_true rfl, Nat.le_of_ble_eq_true rfl⟩ 0 rfl rfl rfl rfl (Nat.le_of_ble_eq_true rfl) ⟨Nat.le_of_ble_eq_true rfl, Nat.le_of_ble_eq_true rfl⟩ dX9_far_45) hG rfl (fun H locs hG => ?_)
          clear hz_18
          refine lv_goto (tgt := 53) hx hb dX9_far_48 (by decide) ?_
          cases h
          exact ret _ _ _ _ dX9_far_53 hG
    · have h := ite_t h c_6
      refine lv_iconst (v := (-1 : Int32)) hx hb dX9_far_15 (by decide) ?_
      cases h
      exact ret _ _ _ _ dX9_far_16 hG
set_option maxRecDepth 100000 in
set_option maxHeartbeats 4000000 in
theorem mX9_rock (l : Launch) (dC : Nat → ClassId) (dI : Nat → Nat → Nat) (cI cJ : ClassId) (a : Nat → Nat) (c_length : Int32) (c_text : Nat → Int32) (c_stands : Nat → Int32) (c_homeFar : Nat → Int32) (c_nets : Nat → Int32) (c_netAt : Nat → Int32) (c_netWide : Nat → Int32) (c_netFrom : Nat → Int32) (c_netTo : Nat → Int32) (c_priceX : Nat → Int32) (c_priceY : Nat → Int32) (c_many : Nat → Int32) (c_days : Nat → Int32) (c_aims : Nat → Int32) (c_speeds : Nat → Int32) (c_kinds : Nat → Int32) (c_keptMany : Int32) (c_undoMany : Int32) (c_undos : Nat → Int32) (c_spot : Int32) (c_told : Nat → Int32) (c_to : Nat → Int32) (c_stood : Nat → Int32) (c_home : Nat → Int32) (c_lost : Nat → Int32) (c_out : Int32) (c_fewest : Nat → Int32) (c_ways : Nat → Int64) (c_next : Nat → Int64) (c_held : Nat → Int32) (x1 : Int32) {res : Int32} {n_to : Nat → Int32} {n_stood : Nat → Int32} {n_out : Int32} (hD : DX9_rock x1 c_stands c_many c_days c_aims c_speeds c_kinds c_to c_stood c_out = some (res, n_to, n_stood, n_out)) : Met l yX9_rock (WZ yX9_rock cX9_rock 2 (some .int)) (RM 2 45) (PC dC dI cI cJ [.ref (a 0), .int x1] (W_X9 a cI cJ c_length c_text c_stands c_homeFar c_nets c_netAt c_netWide c_netFrom c_netTo c_priceX c_priceY c_many c_days c_aims c_speeds c_kinds c_keptMany c_undoMany c_undos c_spot c_told c_to c_stood c_home c_lost c_out c_fewest c_ways c_next c_held)) (QI dC dI (W_X9 a cI cJ c_length c_text c_stands c_homeFar c_nets c_netAt c_netWide c_netFrom c_netTo c_priceX c_priceY c_many c_days c_aims c_speeds c_kinds c_keptMany c_undoMany c_undos c_spot c_told c_to c_stood c_home c_lost c_out c_fewest c_ways c_next c_held) (W_X9 a cI cJ c_length c_text c_stands c_homeFar c_nets c_netAt c_netWide c_netFrom c_netTo c_priceX c_priceY c_many c_days c_aims c_speeds c_kinds c_keptMany c_undoMany c_undos c_spot c_told n_to n_stood c_home c_lost n_out c_fewest c_ways c_next c_held) res) 0 0 (FA (W_X9 a cI cJ c_length c_text c_stands c_homeFar c_nets c_netAt c_netWide c_netFrom c_netTo c_priceX c_priceY c_many c_days c_aims c_speeds c_kinds c_keptMany c_undoMany c_undos c_spot c_told c_to c_stood c_home c_lost c_out c_fewest c_ways c_next c_held)) := by
  refine r_metI (by decide +kernel) (Nat.le_of_ble_eq_true rfl) ?_
  intro p e s m args below meth c A H0 QQ X ret ls hl hG
  have X : Cx p m c cX9_rock 2 s args RX9 dC dI cI cJ meth (some .int) := X
  have hx := X.1.1
  have hb := X.1.2.1
  have hl : lv_has ls 2 [(0, .ref (a 0)), (1, .int x1)] := hl
  have h := hD
  unfold DX9_rock at h
  clear hD
  refine lv_iload_n hx hb dX9_rock_0 rfl (lv_at hl 1 rfl) ?_
  obtain ⟨r_1, hz_2, h⟩ := bd1_some h
  refine aft_i (ws' := (W_X9 a cI cJ c_length c_text c_stands c_homeFar c_nets c_netAt c_netWide c_netFrom c_netTo c_priceX c_priceY c_many c_days c_aims c_speeds c_kinds c_keptMany c_undoMany c_undos c_spot c_told c_to c_stood c_home c_lost c_out c_fewest c_ways c_next c_held)) (run_S (rest := []) X hG hl.1 (mX9_isDay l dC dI cI cJ x1 hz_2) gi_S_X9_193 hd_S_yX9_isDay ⟨rfl, rfl⟩ rfl ⟨Nat.le_of_ble_eq_true rfl, Nat.le_of_ble_eq_true rfl⟩ [] (by decide) rfl rfl (Nat.le_of_ble_eq_true rfl) ⟨Nat.le_of_ble_eq_true rfl, Nat.le_of_ble_eq_true rfl⟩ dX9_rock_1) hG [] rfl rfl rfl (fun H locs hG => ?_)
  clear hz_2
  refine lv_if_ne (tgt := 9) hx hb dX9_rock_4 (by decide) (fun c_3 => ?_) (fun c_3 => ?_)
  · have h := ite_f h c_3
    refine lv_aload_n hx hb dX9_rock_9 rfl (lv_at hl 0 rfl) ?_
    refine lv_iconst (v := (0 : Int32)) hx hb dX9_rock_10 (by decide) ?_
    refine r_put X hG in_X9 rfl tyX9 tyX9_ok nmX9 25 (by decide) rfl (by decide +kernel) w_656 0 (ws' := (W_X9 a cI cJ c_length c_text c_stands c_homeFar c_nets c_netAt c_netWide c_netFrom c_netTo c_priceX c_priceY c_many c_days c_aims c_speeds c_kinds c_keptMany c_undoMany c_undos c_spot c_told c_to c_stood c_home c_lost (0 : Int32) c_fewest c_ways c_next c_held)) rfl (Nat.le_of_ble_eq_true rfl) rfl dX9_rock_11 (fun H locs hG => ?_)
    refine lv_aload_n hx hb dX9_rock_14 rfl (lv_at hl 0 rfl) ?_
    refine lv_iload_n hx hb dX9_rock_15 rfl (lv_at hl 1 rfl) ?_
    obtain ⟨r_4, k_to_5, k_stood_6, hz_7, h⟩ := bd3_some h
    refine aft_i1 (run_V1 (rest := []) X hG hl.1 (mX9_turnTo l dC dI cI cJ a c_length c_text c_stands c_homeFar c_nets c_netAt c_netWide c_netFrom c_netTo c_priceX c_priceY c_many c_days c_aims c_speeds c_kinds c_keptMany c_undoMany c_undos c_spot c_told c_to c_stood c_home c_lost (0 : Int32) c_fewest c_ways c_next c_held x1 hz_7) gi_V_X9_158 hd_V_yX9_turnTo ⟨rfl, rfl⟩ rfl ⟨Nat.le_of_ble_eq_true rfl, Nat.le_of_ble_eq_true rfl⟩ 0 rfl rfl rfl rfl (Nat.le_of_ble_eq_true rfl) ⟨Nat.le_of_ble_eq_true rfl, Nat.le_of_ble_eq_true rfl⟩ dX9_rock_16) hG rfl (fun H locs hG => ?_)
    clear hz_7
    cases h
    exact ret _ _ _ _ dX9_rock_19 hG
  · have h := ite_t h c_3
    refine lv_iconst (v := (-1 : Int32)) hx hb dX9_rock_7 (by decide) ?_
    cases h
    exact ret _ _ _ _ dX9_rock_8 hG
set_option maxRecDepth 100000 in
set_option maxHeartbeats 4000000 in
theorem mX9_price (l : Launch) (dC : Nat → ClassId) (dI : Nat → Nat → Nat) (cI cJ : ClassId) (a : Nat → Nat) (c_length : Int32) (c_text : Nat → Int32) (c_stands : Nat → Int32) (c_homeFar : Nat → Int32) (c_nets : Nat → Int32) (c_netAt : Nat → Int32) (c_netWide : Nat → Int32) (c_netFrom : Nat → Int32) (c_netTo : Nat → Int32) (c_priceX : Nat → Int32) (c_priceY : Nat → Int32) (c_many : Nat → Int32) (c_days : Nat → Int32) (c_aims : Nat → Int32) (c_speeds : Nat → Int32) (c_kinds : Nat → Int32) (c_keptMany : Int32) (c_undoMany : Int32) (c_undos : Nat → Int32) (c_spot : Int32) (c_told : Nat → Int32) (c_to : Nat → Int32) (c_stood : Nat → Int32) (c_home : Nat → Int32) (c_lost : Nat → Int32) (c_out : Int32) (c_fewest : Nat → Int32) (c_ways : Nat → Int64) (c_next : Nat → Int64) (c_held : Nat → Int32) (x1 : Int32) {res : Int32} (hD : DX9_price x1 c_priceX c_priceY = some res) : Met l yX9_price (WZ yX9_price cX9_price 2 (some .int)) (RM 2 45) (PC dC dI cI cJ [.ref (a 0), .int x1] (W_X9 a cI cJ c_length c_text c_stands c_homeFar c_nets c_netAt c_netWide c_netFrom c_netTo c_priceX c_priceY c_many c_days c_aims c_speeds c_kinds c_keptMany c_undoMany c_undos c_spot c_told c_to c_stood c_home c_lost c_out c_fewest c_ways c_next c_held)) (QI dC dI (W_X9 a cI cJ c_length c_text c_stands c_homeFar c_nets c_netAt c_netWide c_netFrom c_netTo c_priceX c_priceY c_many c_days c_aims c_speeds c_kinds c_keptMany c_undoMany c_undos c_spot c_told c_to c_stood c_home c_lost c_out c_fewest c_ways c_next c_held) (W_X9 a cI cJ c_length c_text c_stands c_homeFar c_nets c_netAt c_netWide c_netFrom c_netTo c_priceX c_priceY c_many c_days c_aims c_speeds c_kinds c_keptMany c_undoMany c_undos c_spot c_told c_to c_stood c_home c_lost c_out c_fewest c_ways c_next c_held) res) 0 0 (FA (W_X9 a cI cJ c_length c_text c_stands c_homeFar c_nets c_netAt c_netWide c_netFrom c_netTo c_priceX c_priceY c_many c_days c_aims c_speeds c_kinds c_keptMany c_undoMany c_undos c_spot c_told c_to c_stood c_home c_lost c_out c_fewest c_ways c_next c_held)) := by
  refine r_metI (by decide +kernel) (Nat.le_of_ble_eq_true rfl) ?_
  intro p e s m args below meth c A H0 QQ X ret ls hl hG
  have X : Cx p m c cX9_price 2 s args RX9 dC dI cI cJ meth (some .int) := X
  have hx := X.1.1
  have hb := X.1.2.1
  have hl : lv_has ls 2 [(0, .ref (a 0)), (1, .int x1)] := hl
  have h := hD
  unfold DX9_price at h
  clear hD
  refine lv_iload_n hx hb dX9_price_0 rfl (lv_at hl 1 rfl) ?_
  obtain ⟨r_1, hz_2, h⟩ := bd1_some h
  refine aft_i (ws' := (W_X9 a cI cJ c_length c_text c_stands c_homeFar c_nets c_netAt c_netWide c_netFrom c_netTo c_priceX c_priceY c_many c_days c_aims c_speeds c_kinds c_keptMany c_undoMany c_undos c_spot c_told c_to c_stood c_home c_lost c_out c_fewest c_ways c_next c_held)) (run_S (rest := []) X hG hl.1 (mX9_isDay l dC dI cI cJ x1 hz_2) gi_S_X9_193 hd_S_yX9_isDay ⟨rfl, rfl⟩ rfl ⟨Nat.le_of_ble_eq_true rfl, Nat.le_of_ble_eq_true rfl⟩ [] (by decide) rfl rfl (Nat.le_of_ble_eq_true rfl) ⟨Nat.le_of_ble_eq_true rfl, Nat.le_of_ble_eq_true rfl⟩ dX9_price_1) hG [] rfl rfl rfl (fun H locs hG => ?_)
  clear hz_2
  refine lv_if_eq (tgt := 15) hx hb dX9_price_4 (by decide) (fun c_3 => ?_) (fun c_3 => ?_)
  · have h := ite_t h c_3
    refine lv_iconst (v := (-1 : Int32)) hx hb dX9_price_15 (by decide) ?_
    cases h
    exact ret _ _ _ _ dX9_price_16 hG
  · have h := ite_f h c_3
    refine lv_aload_n hx hb dX9_price_7 rfl (lv_at hl 0 rfl) ?_
    refine lv_iload_n hx hb dX9_price_8 rfl (lv_at hl 1 rfl) ?_
    obtain ⟨r_4, hz_5, h⟩ := bd1_some h
    refine aft_i1 (run_V1 (rest := []) X hG hl.1 (mX9_priceOf l dC dI cI cJ a c_length c_text c_stands c_homeFar c_nets c_netAt c_netWide c_netFrom c_netTo c_priceX c_priceY c_many c_days c_aims c_speeds c_kinds c_keptMany c_undoMany c_undos c_spot c_told c_to c_stood c_home c_lost c_out c_fewest c_ways c_next c_held x1 hz_5) gi_V_X9_179 hd_V_yX9_priceOf ⟨rfl, rfl⟩ rfl ⟨Nat.le_of_ble_eq_true rfl, Nat.le_of_ble_eq_true rfl⟩ 0 rfl rfl rfl rfl (Nat.le_of_ble_eq_true rfl) ⟨Nat.le_of_ble_eq_true rfl, Nat.le_of_ble_eq_true rfl⟩ dX9_price_9) hG rfl (fun H locs hG => ?_)
    clear hz_5
    refine lv_goto (tgt := 16) hx hb dX9_price_12 (by decide) ?_
    cases h
    exact ret _ _ _ _ dX9_price_16 hG
set_option maxRecDepth 100000 in
set_option maxHeartbeats 4000000 in
theorem mX9_howMany (l : Launch) (dC : Nat → ClassId) (dI : Nat → Nat → Nat) (cI cJ : ClassId) (a : Nat → Nat) (c_length : Int32) (c_text : Nat → Int32) (c_stands : Nat → Int32) (c_homeFar : Nat → Int32) (c_nets : Nat → Int32) (c_netAt : Nat → Int32) (c_netWide : Nat → Int32) (c_netFrom : Nat → Int32) (c_netTo : Nat → Int32) (c_priceX : Nat → Int32) (c_priceY : Nat → Int32) (c_many : Nat → Int32) (c_days : Nat → Int32) (c_aims : Nat → Int32) (c_speeds : Nat → Int32) (c_kinds : Nat → Int32) (c_keptMany : Int32) (c_undoMany : Int32) (c_undos : Nat → Int32) (c_spot : Int32) (c_told : Nat → Int32) (c_to : Nat → Int32) (c_stood : Nat → Int32) (c_home : Nat → Int32) (c_lost : Nat → Int32) (c_out : Int32) (c_fewest : Nat → Int32) (c_ways : Nat → Int64) (c_next : Nat → Int64) (c_held : Nat → Int32) (x1 : Int32) {res : Int32} (hD : DX9_howMany x1 c_nets c_netAt c_netWide c_netFrom c_netTo c_many c_days c_kinds c_to c_home c_lost = some res) : Met l yX9_howMany (WZ yX9_howMany cX9_howMany 4 (some .int)) (RM 4 86) (PC dC dI cI cJ [.ref (a 0), .int x1] (W_X9 a cI cJ c_length c_text c_stands c_homeFar c_nets c_netAt c_netWide c_netFrom c_netTo c_priceX c_priceY c_many c_days c_aims c_speeds c_kinds c_keptMany c_undoMany c_undos c_spot c_told c_to c_stood c_home c_lost c_out c_fewest c_ways c_next c_held)) (QI dC dI (W_X9 a cI cJ c_length c_text c_stands c_homeFar c_nets c_netAt c_netWide c_netFrom c_netTo c_priceX c_priceY c_many c_days c_aims c_speeds c_kinds c_keptMany c_undoMany c_undos c_spot c_told c_to c_stood c_home c_lost c_out c_fewest c_ways c_next c_held) (W_X9 a cI cJ c_length c_text c_stands c_homeFar c_nets c_netAt c_netWide c_netFrom c_netTo c_priceX c_priceY c_many c_days c_aims c_speeds c_kinds c_keptMany c_undoMany c_undos c_spot c_told c_to c_stood c_home c_lost c_out c_fewest c_ways c_next c_held) res) 0 0 (FA (W_X9 a cI cJ c_length c_text c_stands c_homeFar c_nets c_netAt c_netWide c_netFrom c_netTo c_priceX c_priceY c_many c_days c_aims c_speeds c_kinds c_keptMany c_undoMany c_undos c_spot c_told c_to c_stood c_home c_lost c_out c_fewest c_ways c_next c_held)) := by
  refine r_metI (by decide +kernel) (Nat.le_of_ble_eq_true rfl) ?_
  intro p e s m args below meth c A H0 QQ X ret ls hl hG
  have X : Cx p m c cX9_howMany 4 s args RX9 dC dI cI cJ meth (some .int) := X
  have hx := X.1.1
  have hb := X.1.2.1
  have hl : lv_has ls 4 [(0, .ref (a 0)), (1, .int x1)] := hl
  have L4 : ∀ (n : Nat) (x2 : Int32) (x3 : Int32) (ex2 : Int32), DX9_howMany_L4 x1 c_nets c_netAt c_netWide c_netFrom c_netTo c_many c_days c_kinds c_to c_home c_lost n x2 x3 = some ex2 → (∀ (ls : Array Slot) (H : Heap) (locs : List Loc), lv_has ls 4 [(2, .int ex2)] → G dC dI A H0 (W_X9 a cI cJ c_length c_text c_stands c_homeFar c_nets c_netAt c_netWide c_netFrom c_netTo c_priceX c_priceY c_many c_days c_aims c_speeds c_kinds c_keptMany c_undoMany c_undos c_spot c_told c_to c_stood c_home c_lost c_out c_fewest c_ways c_next c_held) H locs → W p l e (RM 4 86) s m args below meth c H locs 0 0 QQ (F0 m 37 ls [])) → ∀ (ls : Array Slot) (H : Heap) (locs : List Loc), lv_has ls 4 [(0, .ref (a 0)), (1, .int x1), (2, .int x2), (3, .int x3)] → G dC dI A H0 (W_X9 a cI cJ c_length c_text c_stands c_homeFar c_nets c_netAt c_netWide c_netFrom c_netTo c_priceX c_priceY c_many c_days c_aims c_speeds c_kinds c_keptMany c_undoMany c_undos c_spot c_told c_to c_stood c_home c_lost c_out c_fewest c_ways c_next c_held) H locs → W p l e (RM 4 86) s m args below meth c H locs 0 0 QQ (F0 m 4 ls []) := by
    intro  n
    induction n with
    | zero => intro x2 x3 ex2 h; exact it_zero h
    | succ n ih =>
      intro x2 x3 ex2 h0 K0 ls H locs hl hG
      obtain ⟨w, h, hi, hr⟩ := it_succ h0
      have h : DX9_howMany_L4s x1 c_nets c_netAt c_netWide c_netFrom c_netTo c_many c_days c_kinds c_to c_home c_lost x2 x3 = some w := h
      have KC : ∀ (x2 : Int32) (x3 : Int32), w = .inl (x2, x3) → ∀ (ls : Array Slot) (H : Heap) (locs : List Loc), lv_has ls 4 [(0, .ref (a 0)), (1, .int x1), (2, .int x2), (3, .int x3)] → G dC dI A H0 (W_X9 a cI cJ c_length c_text c_stands c_homeFar c_nets c_netAt c_netWide c_netFrom c_netTo c_priceX c_priceY c_many c_days c_aims c_speeds c_kinds c_keptMany c_undoMany c_undos c_spot c_told c_to c_stood c_home c_lost c_out c_fewest c_ways c_next c_held) H locs → W p l e (RM 4 86) s m args below meth c H locs 0 0 QQ (F0 m 4 ls []) := fun b0 b1 e ls H locs hl hG => ih b0 b1 ex2 (hi _ e) K0 ls H locs hl hG
      have KX : ∀ (x2 : Int32), w = .inr x2 → ∀ (ls : Array Slot) (H : Heap) (locs : List Loc), lv_has ls 4 [(2, .int x2)] → G dC dI A H0 (W_X9 a cI cJ c_length c_text c_stands c_homeFar c_nets c_netAt c_netWide c_netFrom c_netTo c_priceX c_priceY c_many c_days c_aims c_speeds c_kinds c_keptMany c_undoMany c_undos c_spot c_told c_to c_stood c_home c_lost c_out c_fewest c_ways c_next c_held) H locs → W p l e (RM 4 86) s m args below meth c H locs 0 0 QQ (F0 m 37 ls []) := fun b0 e ls H locs hl hG => by cases hr _ e; exact K0 ls H locs hl hG
      clear h0 hi hr K0 ih
      unfold DX9_howMany_L4s at h
      refine lv_iload_n hx hb dX9_howMany_4 rfl (lv_at hl 3 rfl) ?_
      refine lv_aload_n hx hb dX9_howMany_5 rfl (lv_at hl 0 rfl) ?_
      refine r_get X hG in_X9 rfl 11 (by decide) w_642 0 rfl rfl dX9_howMany_6 ?_
      refine lv_iconst (v := (0 : Int32)) hx hb dX9_howMany_9 (by decide) ?_
      refine r_iald X hG 11 rfl (vpd (by decide)) dX9_howMany_10 ?_
      refine lv_icmp_ge (tgt := 37) hx hb dX9_howMany_11 (by decide) (fun c_1 => ?_) (fun c_1 => ?_)
      · have h := ite_t h c_1
        exact KX _ (Option.some.inj h).symm _ _ _ (lv_sub hl [2] rfl) hG
      · have h := ite_f h c_1
        refine lv_iload_n hx hb dX9_howMany_14 rfl (lv_at hl 2 rfl) ?_
        refine lv_aload_n hx hb dX9_howMany_15 rfl (lv_at hl 0 rfl) ?_
        refine lv_iload_n hx hb dX9_howMany_16 rfl (lv_at hl 3 rfl) ?_
        obtain ⟨r_2, hz_3, h⟩ := bd1_some h
        refine aft_i1 (run_V1 (rest := [.int x2]) X hG hl.1 (mX9_howOf l dC dI cI cJ a c_length c_text c_stands c_homeFar c_nets c_netAt c_netWide c_netFrom c_netTo c_priceX c_priceY c_many c_days c_aims c_speeds c_kinds c_keptMany c_undoMany c_undos c_spot c_told c_to c_stood c_home c_lost c_out c_fewest c_ways c_next c_held x3 hz_3) gi_V_X9_176 hd_V_yX9_howOf ⟨rfl, rfl⟩ rfl ⟨Nat.le_of_ble_eq_true rfl, Nat.le_of_ble_eq_true rfl⟩ 0 rfl rfl rfl rfl (Nat.le_of_ble_eq_true rfl) ⟨Nat.le_of_ble_eq_true rfl, Nat.le_of_ble_eq_true rfl⟩ dX9_howMany_17) hG rfl (fun H locs hG => ?_)
        clear hz_3
        refine lv_iload_n hx hb dX9_howMany_20 rfl (lv_at hl 1 rfl) ?_
        refine lv_icmp_ne (tgt := 28) hx hb dX9_howMany_21 (by decide) (fun c_4 => ?_) (fun c_4 => ?_)
        · have h := ite_f h c_4
          refine lv_iconst (v := (0 : Int32)) hx hb dX9_howMany_28 (by decide) ?_
          refine lv_iadd hx hb dX9_howMany_29 ?_
          refine lv_istore_n (lv' := [(2, .int (x2 + (0 : Int32))), (0, .ref (a 0)), (1, .int x1), (3, .int x3)]) hx hb dX9_howMany_30 rfl hl (by decide) rfl (fun ls hl => ?_)
          refine lv_iinc (v := (x3 + (1 : Int32))) (lv' := [(3, .int (x3 + (1 : Int32))), (2, .int (x2 + (0 : Int32))), (0, .ref (a 0)), (1, .int x1)]) hx hb dX9_howMany_31 hl (k := 3) rfl rfl (by decide) rfl (fun ls hl => ?_)
          refine lv_goto (tgt := 4) hx hb dX9_howMany_34 (by decide) ?_
          exact KC _ _ (Option.some.inj h).symm _ _ _ (lv_sub hl [2, 3, 1, 0] rfl) hG
        · have h := ite_t h c_4
          refine lv_iconst (v := (1 : Int32)) hx hb dX9_howMany_24 (by decide) ?_
          refine lv_goto (tgt := 29) hx hb dX9_howMany_25 (by decide) ?_
          refine lv_iadd hx hb dX9_howMany_29 ?_
          refine lv_istore_n (lv' := [(2, .int (x2 + (1 : Int32))), (0, .ref (a 0)), (1, .int x1), (3, .int x3)]) hx hb dX9_howMany_30 rfl hl (by decide) rfl (fun ls hl => ?_)
          refine lv_iinc (v := (x3 + (1 : Int32))) (lv' := [(3, .int (x3 + (1 : Int32))), (2, .int (x2 + (1 : Int32))), (0, .ref (a 0)), (1, .int x1)]) hx hb dX9_howMany_31 hl (k := 3) rfl rfl (by decide) rfl (fun ls hl => ?_)
          refine lv_goto (tgt := 4) hx hb dX9_howMany_34 (by decide) ?_
          exact KC _ _ (Option.some.inj h).symm _ _ _ (lv_sub hl [2, 3, 1, 0] rfl) hG
  have h := hD
  unfold DX9_howMany at h
  clear hD
  refine lv_iconst (v := (0 : Int32)) hx hb dX9_howMany_0 (by decide) ?_
  refine lv_istore_n (lv' := [(2, .int (0 : Int32)), (0, .ref (a 0)), (1, .int x1)]) hx hb dX9_howMany_1 rfl hl (by decide) rfl (fun ls hl => ?_)
  refine lv_iconst (v := (0 : Int32)) hx hb dX9_howMany_2 (by decide) ?_
  refine lv_istore_n (lv' := [(3, .int (0 : Int32)), (2, .int (0 : Int32)), (0, .ref (a 0)), (1, .int x1)]) hx hb dX9_howMany_3 rfl hl (by decide) rfl (fun ls hl => ?_)
  obtain ⟨z2_5, hz, h⟩ := bd1_some h
  refine L4  FU (0 : Int32) (0 : Int32) _ hz (fun ls H locs hl hG => ?_) _ _ _ (lv_sub hl [2, 3, 1, 0] rfl) hG
  clear hz
  refine lv_iload_n hx hb dX9_howMany_37 rfl (lv_at hl 0 rfl) ?_
  cases h
  exact ret _ _ _ _ dX9_howMany_38 hG
set_option maxRecDepth 100000 in
set_option maxHeartbeats 4000000 in
theorem mX9_paidAll (l : Launch) (dC : Nat → ClassId) (dI : Nat → Nat → Nat) (cI cJ : ClassId) (a : Nat → Nat) (c_length : Int32) (c_text : Nat → Int32) (c_stands : Nat → Int32) (c_homeFar : Nat → Int32) (c_nets : Nat → Int32) (c_netAt : Nat → Int32) (c_netWide : Nat → Int32) (c_netFrom : Nat → Int32) (c_netTo : Nat → Int32) (c_priceX : Nat → Int32) (c_priceY : Nat → Int32) (c_many : Nat → Int32) (c_days : Nat → Int32) (c_aims : Nat → Int32) (c_speeds : Nat → Int32) (c_kinds : Nat → Int32) (c_keptMany : Int32) (c_undoMany : Int32) (c_undos : Nat → Int32) (c_spot : Int32) (c_told : Nat → Int32) (c_to : Nat → Int32) (c_stood : Nat → Int32) (c_home : Nat → Int32) (c_lost : Nat → Int32) (c_out : Int32) (c_fewest : Nat → Int32) (c_ways : Nat → Int64) (c_next : Nat → Int64) (c_held : Nat → Int32) {res : Int32} (hD : DX9_paidAll c_nets c_netAt c_netWide c_netFrom c_netTo c_priceX c_priceY c_many c_days c_kinds c_to c_home c_lost = some res) : Met l yX9_paidAll (WZ yX9_paidAll cX9_paidAll 3 (some .int)) (RM 5 107) (PC dC dI cI cJ [.ref (a 0)] (W_X9 a cI cJ c_length c_text c_stands c_homeFar c_nets c_netAt c_netWide c_netFrom c_netTo c_priceX c_priceY c_many c_days c_aims c_speeds c_kinds c_keptMany c_undoMany c_undos c_spot c_told c_to c_stood c_home c_lost c_out c_fewest c_ways c_next c_held)) (QI dC dI (W_X9 a cI cJ c_length c_text c_stands c_homeFar c_nets c_netAt c_netWide c_netFrom c_netTo c_priceX c_priceY c_many c_days c_aims c_speeds c_kinds c_keptMany c_undoMany c_undos c_spot c_told c_to c_stood c_home c_lost c_out c_fewest c_ways c_next c_held) (W_X9 a cI cJ c_length c_text c_stands c_homeFar c_nets c_netAt c_netWide c_netFrom c_netTo c_priceX c_priceY c_many c_days c_aims c_speeds c_kinds c_keptMany c_undoMany c_undos c_spot c_told c_to c_stood c_home c_lost c_out c_fewest c_ways c_next c_held) res) 0 0 (FA (W_X9 a cI cJ c_length c_text c_stands c_homeFar c_nets c_netAt c_netWide c_netFrom c_netTo c_priceX c_priceY c_many c_days c_aims c_speeds c_kinds c_keptMany c_undoMany c_undos c_spot c_told c_to c_stood c_home c_lost c_out c_fewest c_ways c_next c_held)) := by
  refine r_metI (by decide +kernel) (Nat.le_of_ble_eq_true rfl) ?_
  intro p e s m args below meth c A H0 QQ X ret ls hl hG
  have X : Cx p m c cX9_paidAll 3 s args RX9 dC dI cI cJ meth (some .int) := X
  have hx := X.1.1
  have hb := X.1.2.1
  have hl : lv_has ls 3 [(0, .ref (a 0))] := hl
  have L4 : ∀ (n : Nat) (x1 : Int32) (x2 : Int32) (ex1 : Int32), DX9_paidAll_L4 c_nets c_netAt c_netWide c_netFrom c_netTo c_priceX c_priceY c_many c_days c_kinds c_to c_home c_lost n x1 x2 = some ex1 → (∀ (ls : Array Slot) (H : Heap) (locs : List Loc), lv_has ls 3 [(1, .int ex1)] → G dC dI A H0 (W_X9 a cI cJ c_length c_text c_stands c_homeFar c_nets c_netAt c_netWide c_netFrom c_netTo c_priceX c_priceY c_many c_days c_aims c_speeds c_kinds c_keptMany c_undoMany c_undos c_spot c_told c_to c_stood c_home c_lost c_out c_fewest c_ways c_next c_held) H locs → W p l e (RM 5 107) s m args below meth c H locs 0 0 QQ (F0 m 28 ls [])) → ∀ (ls : Array Slot) (H : Heap) (locs : List Loc), lv_has ls 3 [(0, .ref (a 0)), (1, .int x1), (2, .int x2)] → G dC dI A H0 (W_X9 a cI cJ c_length c_text c_stands c_homeFar c_nets c_netAt c_netWide c_netFrom c_netTo c_priceX c_priceY c_many c_days c_aims c_speeds c_kinds c_keptMany c_undoMany c_undos c_spot c_told c_to c_stood c_home c_lost c_out c_fewest c_ways c_next c_held) H locs → W p l e (RM 5 107) s m args below meth c H locs 0 0 QQ (F0 m 4 ls []) := by
    intro  n
    induction n with
    | zero => intro x1 x2 ex1 h; exact it_zero h
    | succ n ih =>
      intro x1 x2 ex1 h0 K0 ls H locs hl hG
      obtain ⟨w, h, hi, hr⟩ := it_succ h0
      have h : DX9_paidAll_L4s c_nets c_netAt c_netWide c_netFrom c_netTo c_priceX c_priceY c_many c_days c_kinds c_to c_home c_lost x1 x2 = some w := h
      have KC : ∀ (x1 : Int32) (x2 : Int32), w = .inl (x1, x2) → ∀ (ls : Array Slot) (H : Heap) (locs : List Loc), lv_has ls 3 [(0, .ref (a 0)), (1, .int x1), (2, .int x2)] → G dC dI A H0 (W_X9 a cI cJ c_length c_text c_stands c_homeFar c_nets c_netAt c_netWide c_netFrom c_netTo c_priceX c_priceY c_many c_days c_aims c_speeds c_kinds c_keptMany c_undoMany c_undos c_spot c_told c_to c_stood c_home c_lost c_out c_fewest c_ways c_next c_held) H locs → W p l e (RM 5 107) s m args below meth c H locs 0 0 QQ (F0 m 4 ls []) := fun b0 b1 e ls H locs hl hG => ih b0 b1 ex1 (hi _ e) K0 ls H locs hl hG
      have KX : ∀ (x1 : Int32), w = .inr x1 → ∀ (ls : Array Slot) (H : Heap) (locs : List Loc), lv_has ls 3 [(1, .int x1)] → G dC dI A H0 (W_X9 a cI cJ c_length c_text c_stands c_homeFar c_nets c_netAt c_netWide c_netFrom c_netTo c_priceX c_priceY c_many c_days c_aims c_speeds c_kinds c_keptMany c_undoMany c_undos c_spot c_told c_to c_stood c_home c_lost c_out c_fewest c_ways c_next c_held) H locs → W p l e (RM 5 107) s m args below meth c H locs 0 0 QQ (F0 m 28 ls []) := fun b0 e ls H locs hl hG => by cases hr _ e; exact K0 ls H locs hl hG
      clear h0 hi hr K0 ih
      unfold DX9_paidAll_L4s at h
      refine lv_iload_n hx hb dX9_paidAll_4 rfl (lv_at hl 2 rfl) ?_
      refine lv_aload_n hx hb dX9_paidAll_5 rfl (lv_at hl 0 rfl) ?_
      refine r_get X hG in_X9 rfl 11 (by decide) w_642 0 rfl rfl dX9_paidAll_6 ?_
      refine lv_iconst (v := (0 : Int32)) hx hb dX9_paidAll_9 (by decide) ?_
      refine r_iald X hG 11 rfl (vpd (by decide)) dX9_paidAll_10 ?_
      refine lv_icmp_ge (tgt := 28) hx hb dX9_paidAll_11 (by decide) (fun c_1 => ?_) (fun c_1 => ?_)
      · have h := ite_t h c_1
        exact KX _ (Option.some.inj h).symm _ _ _ (lv_sub hl [1] rfl) hG
      · have h := ite_f h c_1
        refine lv_iload_n hx hb dX9_paidAll_14 rfl (lv_at hl 1 rfl) ?_
        refine lv_aload_n hx hb dX9_paidAll_15 rfl (lv_at hl 0 rfl) ?_
        refine lv_iload_n hx hb dX9_paidAll_16 rfl (lv_at hl 2 rfl) ?_
        obtain ⟨r_2, hz_3, h⟩ := bd1_some h
        refine aft_i1 (run_V1 (rest := [.int x1]) X hG hl.1 (mX9_paidOf l dC dI cI cJ a c_length c_text c_stands c_homeFar c_nets c_netAt c_netWide c_netFrom c_netTo c_priceX c_priceY c_many c_days c_aims c_speeds c_kinds c_keptMany c_undoMany c_undos c_spot c_told c_to c_stood c_home c_lost c_out c_fewest c_ways c_next c_held x2 hz_3) gi_V_X9_188 hd_V_yX9_paidOf ⟨rfl, rfl⟩ rfl ⟨Nat.le_of_ble_eq_true rfl, Nat.le_of_ble_eq_true rfl⟩ 0 rfl rfl rfl rfl (Nat.le_of_ble_eq_true rfl) ⟨Nat.le_of_ble_eq_true rfl, Nat.le_of_ble_eq_true rfl⟩ dX9_paidAll_17) hG rfl (fun H locs hG => ?_)
        clear hz_3
        refine lv_iadd hx hb dX9_paidAll_20 ?_
        refine lv_istore_n (lv' := [(1, .int (x1 + r_2)), (0, .ref (a 0)), (2, .int x2)]) hx hb dX9_paidAll_21 rfl hl (by decide) rfl (fun ls hl => ?_)
        refine lv_iinc (v := (x2 + (1 : Int32))) (lv' := [(2, .int (x2 + (1 : Int32))), (1, .int (x1 + r_2)), (0, .ref (a 0))]) hx hb dX9_paidAll_22 hl (k := 2) rfl rfl (by decide) rfl (fun ls hl => ?_)
        refine lv_goto (tgt := 4) hx hb dX9_paidAll_25 (by decide) ?_
        exact KC _ _ (Option.some.inj h).symm _ _ _ (lv_sub hl [2, 1, 0] rfl) hG
  have h := hD
  unfold DX9_paidAll at h
  clear hD
  refine lv_iconst (v := (0 : Int32)) hx hb dX9_paidAll_0 (by decide) ?_
  refine lv_istore_n (lv' := [(1, .int (0 : Int32)), (0, .ref (a 0))]) hx hb dX9_paidAll_1 rfl hl (by decide) rfl (fun ls hl => ?_)
  refine lv_iconst (v := (0 : Int32)) hx hb dX9_paidAll_2 (by decide) ?_
  refine lv_istore_n (lv' := [(2, .int (0 : Int32)), (1, .int (0 : Int32)), (0, .ref (a 0))]) hx hb dX9_paidAll_3 rfl hl (by decide) rfl (fun ls hl => ?_)
  obtain ⟨z1_4, hz, h⟩ := bd1_some h
  refine L4  FU (0 : Int32) (0 : Int32) _ hz (fun ls H locs hl hG => ?_) _ _ _ (lv_sub hl [2, 1, 0] rfl) hG
  clear hz
  refine lv_iload_n hx hb dX9_paidAll_28 rfl (lv_at hl 0 rfl) ?_
  cases h
  exact ret _ _ _ _ dX9_paidAll_29 hG
set_option maxRecDepth 100000 in
set_option maxHeartbeats 4000000 in
theorem mX9_all (l : Launch) (dC : Nat → ClassId) (dI : Nat → Nat → Nat) (cI cJ : ClassId) (a : Nat → Nat) (c_length : Int32) (c_text : Nat → Int32) (c_stands : Nat → Int32) (c_homeFar : Nat → Int32) (c_nets : Nat → Int32) (c_netAt : Nat → Int32) (c_netWide : Nat → Int32) (c_netFrom : Nat → Int32) (c_netTo : Nat → Int32) (c_priceX : Nat → Int32) (c_priceY : Nat → Int32) (c_many : Nat → Int32) (c_days : Nat → Int32) (c_aims : Nat → Int32) (c_speeds : Nat → Int32) (c_kinds : Nat → Int32) (c_keptMany : Int32) (c_undoMany : Int32) (c_undos : Nat → Int32) (c_spot : Int32) (c_told : Nat → Int32) (c_to : Nat → Int32) (c_stood : Nat → Int32) (c_home : Nat → Int32) (c_lost : Nat → Int32) (c_out : Int32) (c_fewest : Nat → Int32) (c_ways : Nat → Int64) (c_next : Nat → Int64) (c_held : Nat → Int32) (x1 : Int32) {res : Int32} {n_to : Nat → Int32} {n_stood : Nat → Int32} {n_home : Nat → Int32} {n_lost : Nat → Int32} {n_out : Int32} (hD : DX9_all x1 c_stands c_homeFar c_nets c_netAt c_netWide c_netFrom c_netTo c_priceX c_priceY c_many c_days c_aims c_speeds c_kinds c_to c_stood c_home c_lost c_out = some (res, n_to, n_stood, n_home, n_lost, n_out)) : Met l yX9_all (WZ yX9_all cX9_all 2 (some .int)) (RM 6 129) (PC dC dI cI cJ [.ref (a 0), .int x1] (W_X9 a cI cJ c_length c_text c_stands c_homeFar c_nets c_netAt c_netWide c_netFrom c_netTo c_priceX c_priceY c_many c_days c_aims c_speeds c_kinds c_keptMany c_undoMany c_undos c_spot c_told c_to c_stood c_home c_lost c_out c_fewest c_ways c_next c_held)) (QI dC dI (W_X9 a cI cJ c_length c_text c_stands c_homeFar c_nets c_netAt c_netWide c_netFrom c_netTo c_priceX c_priceY c_many c_days c_aims c_speeds c_kinds c_keptMany c_undoMany c_undos c_spot c_told c_to c_stood c_home c_lost c_out c_fewest c_ways c_next c_held) (W_X9 a cI cJ c_length c_text c_stands c_homeFar c_nets c_netAt c_netWide c_netFrom c_netTo c_priceX c_priceY c_many c_days c_aims c_speeds c_kinds c_keptMany c_undoMany c_undos c_spot c_told n_to n_stood n_home n_lost n_out c_fewest c_ways c_next c_held) res) 0 0 (FA (W_X9 a cI cJ c_length c_text c_stands c_homeFar c_nets c_netAt c_netWide c_netFrom c_netTo c_priceX c_priceY c_many c_days c_aims c_speeds c_kinds c_keptMany c_undoMany c_undos c_spot c_told c_to c_stood c_home c_lost c_out c_fewest c_ways c_next c_held)) := by
  refine r_metI (by decide +kernel) (Nat.le_of_ble_eq_true rfl) ?_
  intro p e s m args below meth c A H0 QQ X ret ls hl hG
  have X : Cx p m c cX9_all 2 s args RX9 dC dI cI cJ meth (some .int) := X
  have hx := X.1.1
  have hb := X.1.2.1
  have hl : lv_has ls 2 [(0, .ref (a 0)), (1, .int x1)] := hl
  have h := hD
  unfold DX9_all at h
  clear hD
  refine lv_iload_n hx hb dX9_all_0 rfl (lv_at hl 1 rfl) ?_
  refine lv_i2l (v := (x1.toInt64)) hx hb dX9_all_1 rfl ?_
  refine lv_lconst (v := (0 : Int64)) hx hb dX9_all_2 (by decide) ?_
  refine lv_ldc2 (v := (3 : Int64)) hx hb X.1.2.2.2.1 (X.1.2.2.2.2 _ w_850) dX9_all_3 ?_
  obtain ⟨r_1, hz_2, h⟩ := bd1_some h
  refine aft_i (ws' := (W_X9 a cI cJ c_length c_text c_stands c_homeFar c_nets c_netAt c_netWide c_netFrom c_netTo c_priceX c_priceY c_many c_days c_aims c_speeds c_kinds c_keptMany c_undoMany c_undos c_spot c_told c_to c_stood c_home c_lost c_out c_fewest c_ways c_next c_held)) (run_S (rest := []) X hG hl.1 (mX9_in l dC dI cI cJ (x1.toInt64) (0 : Int64) (3 : Int64) hz_2) gi_S_X9_92 hd_S_yX9_in ⟨rfl, rfl⟩ rfl ⟨Nat.le_of_ble_eq_true rfl, Nat.le_of_ble_eq_true rfl⟩ [] (by decide) rfl rfl (Nat.le_of_ble_eq_true rfl) ⟨Nat.le_of_ble_eq_true rfl, Nat.le_of_ble_eq_true rfl⟩ dX9_all_6) hG [] rfl rfl rfl (fun H locs hG => ?_)
  clear hz_2
  refine lv_if_ne (tgt := 14) hx hb dX9_all_9 (by decide) (fun c_3 => ?_) (fun c_3 => ?_)
  · have h := ite_f h c_3
    refine lv_aload_n hx hb dX9_all_14 rfl (lv_at hl 0 rfl) ?_
    refine lv_iconst (v := (0 : Int32)) hx hb dX9_all_15 (by decide) ?_
    obtain ⟨k_to_4, k_stood_5, k_home_6, k_lost_7, k_out_8, hz_9, h⟩ := bd5_some h
    refine aft_v1 (run_V1 (rest := []) X hG hl.1 (mX9_go l dC dI cI cJ a c_length c_text c_stands c_homeFar c_nets c_netAt c_netWide c_netFrom c_netTo c_priceX c_priceY c_many c_days c_aims c_speeds c_kinds c_keptMany c_undoMany c_undos c_spot c_told c_to c_stood c_home c_lost c_out c_fewest c_ways c_next c_held (0 : Int32) hz_9) gi_V_X9_185 hd_V_yX9_go ⟨rfl, rfl⟩ rfl ⟨Nat.le_of_ble_eq_true rfl, Nat.le_of_ble_eq_true rfl⟩ 0 rfl rfl rfl rfl (Nat.le_of_ble_eq_true rfl) ⟨Nat.le_of_ble_eq_true rfl, Nat.le_of_ble_eq_true rfl⟩ dX9_all_16) hG rfl (fun H locs hG => ?_)
    clear hz_9
    refine lv_iload_n hx hb dX9_all_19 rfl (lv_at hl 1 rfl) ?_
    refine lv_iconst (v := (3 : Int32)) hx hb dX9_all_20 (by decide) ?_
    refine lv_icmp_ge (tgt := 32) hx hb dX9_all_21 (by decide) (fun c_10 => ?_) (fun c_10 => ?_)
    · have h := ite_t h c_10
      refine lv_aload_n hx hb dX9_all_32 rfl (lv_at hl 0 rfl) ?_
      obtain ⟨r_11, hz_12, h⟩ := bd1_some h
      refine aft_i1 (run_V1 (rest := []) X hG hl.1 (mX9_paidAll l dC dI cI cJ a c_length c_text c_stands c_homeFar c_nets c_netAt c_netWide c_netFrom c_netTo c_priceX c_priceY c_many c_days c_aims c_speeds c_kinds c_keptMany c_undoMany c_undos c_spot c_told k_to_4 k_stood_5 k_home_6 k_lost_7 k_out_8 c_fewest c_ways c_next c_held hz_12) gi_V_X9_201 hd_V_yX9_paidAll ⟨rfl, rfl⟩ rfl ⟨Nat.le_of_ble_eq_true rfl, Nat.le_of_ble_eq_true rfl⟩ 0 rfl rfl rfl rfl (Nat.le_of_ble_eq_true rfl) ⟨Nat.le_of_ble_eq_true rfl, Nat.le_of_ble_eq_true rfl⟩ dX9_all_33) hG rfl (fun H locs hG => ?_)
      clear hz_12
      cases h
      exact ret _ _ _ _ dX9_all_36 hG
    · have h := ite_f h c_10
      refine lv_aload_n hx hb dX9_all_24 rfl (lv_at hl 0 rfl) ?_
      refine lv_iload_n hx hb dX9_all_25 rfl (lv_at hl 1 rfl) ?_
      obtain ⟨r_13, hz_14, h⟩ := bd1_some h
      refine aft_i1 (run_V1 (rest := []) X hG hl.1 (mX9_howMany l dC dI cI cJ a c_length c_text c_stands c_homeFar c_nets c_netAt c_netWide c_netFrom c_netTo c_priceX c_priceY c_many c_days c_aims c_speeds c_kinds c_keptMany c_undoMany c_undos c_spot c_told k_to_4 k_stood_5 k_home_6 k_lost_7 k_out_8 c_fewest c_ways c_next c_held x1 hz_14) gi_V_X9_198 hd_V_yX9_howMany ⟨rfl, rfl⟩ rfl ⟨Nat.le_of_ble_eq_true rfl, Nat.le_of_ble_eq_true rfl⟩ 0 rfl rfl rfl rfl (Nat.le_of_ble_eq_true rfl) ⟨Nat.le_of_ble_eq_true rfl, Nat.le_of_ble_eq_true rfl⟩ dX9_all_26) hG rfl (fun H locs hG => ?_)
      clear hz_14
      refine lv_goto (tgt := 36) hx hb dX9_all_29 (by decide) ?_
      cases h
      exact ret _ _ _ _ dX9_all_36 hG
  · have h := ite_t h c_3
    refine lv_iconst (v := (-1 : Int32)) hx hb dX9_all_12 (by decide) ?_
    cases h
    exact ret _ _ _ _ dX9_all_13 hG
set_option maxRecDepth 100000 in
set_option maxHeartbeats 4000000 in
theorem mX9_note (l : Launch) (dC : Nat → ClassId) (dI : Nat → Nat → Nat) (cI cJ : ClassId) (a : Nat → Nat) (c_length : Int32) (c_text : Nat → Int32) (c_stands : Nat → Int32) (c_homeFar : Nat → Int32) (c_nets : Nat → Int32) (c_netAt : Nat → Int32) (c_netWide : Nat → Int32) (c_netFrom : Nat → Int32) (c_netTo : Nat → Int32) (c_priceX : Nat → Int32) (c_priceY : Nat → Int32) (c_many : Nat → Int32) (c_days : Nat → Int32) (c_aims : Nat → Int32) (c_speeds : Nat → Int32) (c_kinds : Nat → Int32) (c_keptMany : Int32) (c_undoMany : Int32) (c_undos : Nat → Int32) (c_spot : Int32) (c_told : Nat → Int32) (c_to : Nat → Int32) (c_stood : Nat → Int32) (c_home : Nat → Int32) (c_lost : Nat → Int32) (c_out : Int32) (c_fewest : Nat → Int32) (c_ways : Nat → Int64) (c_next : Nat → Int64) (c_held : Nat → Int32) (x1 : Int32) (x2 : Int32) (x3 : Int32) {res : Int32} {n_undoMany : Int32} {n_undos : Nat → Int32} (hD : DX9_note x1 x2 x3 c_undoMany c_undos = some (res, n_undoMany, n_undos)) : Met l yX9_note (WZ yX9_note cX9_note 5 (some .int)) (RM 0 0) (PC dC dI cI cJ [.ref (a 0), .int x1, .int x2, .int x3] (W_X9 a cI cJ c_length c_text c_stands c_homeFar c_nets c_netAt c_netWide c_netFrom c_netTo c_priceX c_priceY c_many c_days c_aims c_speeds c_kinds c_keptMany c_undoMany c_undos c_spot c_told c_to c_stood c_home c_lost c_out c_fewest c_ways c_next c_held)) (QI dC dI (W_X9 a cI cJ c_length c_text c_stands c_homeFar c_nets c_netAt c_netWide c_netFrom c_netTo c_priceX c_priceY c_many c_days c_aims c_speeds c_kinds c_keptMany c_undoMany c_undos c_spot c_told c_to c_stood c_home c_lost c_out c_fewest c_ways c_next c_held) (W_X9 a cI cJ c_length c_text c_stands c_homeFar c_nets c_netAt c_netWide c_netFrom c_netTo c_priceX c_priceY c_many c_days c_aims c_speeds c_kinds c_keptMany n_undoMany n_undos c_spot c_told c_to c_stood c_home c_lost c_out c_fewest c_ways c_next c_held) res) 0 0 (FA (W_X9 a cI cJ c_length c_text c_stands c_homeFar c_nets c_netAt c_netWide c_netFrom c_netTo c_priceX c_priceY c_many c_days c_aims c_speeds c_kinds c_keptMany c_undoMany c_undos c_spot c_told c_to c_stood c_home c_lost c_out c_fewest c_ways c_next c_held)) := by
  refine r_metI (by decide +kernel) (Nat.le_of_ble_eq_true rfl) ?_
  intro p e s m args below meth c A H0 QQ X ret ls hl hG
  have X : Cx p m c cX9_note 5 s args RX9 dC dI cI cJ meth (some .int) := X
  have hx := X.1.1
  have hb := X.1.2.1
  have hl : lv_has ls 5 [(0, .ref (a 0)), (1, .int x1), (2, .int x2), (3, .int x3)] := hl
  have J51 : ∀ (c_undoMany : Int32) (c_undos : Nat → Int32), DX9_note_J51 x1 x2 x3 c_undoMany c_undos = some (res, n_undoMany, n_undos) → ∀ (ls : Array Slot) (H : Heap) (locs : List Loc), lv_has ls 5 [(0, .ref (a 0)), (1, .int x1), (2, .int x2), (3, .int x3)] → G dC dI A H0 (W_X9 a cI cJ c_length c_text c_stands c_homeFar c_nets c_netAt c_netWide c_netFrom c_netTo c_priceX c_priceY c_many c_days c_aims c_speeds c_kinds c_keptMany c_undoMany c_undos c_spot c_told c_to c_stood c_home c_lost c_out c_fewest c_ways c_next c_held) H locs → W p l e (RM 0 0) s m args below meth c H locs 0 0 QQ (F0 m 51 ls []) := by
    intro c_undoMany c_undos h  ls H locs hl hG
    unfold DX9_note_J51 at h
    refine lv_aload_n hx hb dX9_note_51 rfl (lv_at hl 0 rfl) ?_
    refine r_get X hG in_X9 rfl 18 (by decide) w_649 0 rfl rfl dX9_note_52 ?_
    refine lv_iconst (v := (3 : Int32)) hx hb dX9_note_55 (by decide) ?_
    refine lv_aload_n hx hb dX9_note_56 rfl (lv_at hl 0 rfl) ?_
    refine r_get X hG in_X9 rfl 17 (by decide) w_648 0 rfl rfl dX9_note_57 ?_
    refine lv_imul hx hb dX9_note_60 ?_
    refine lv_iload_n hx hb dX9_note_61 rfl (lv_at hl 1 rfl) ?_
    obtain ⟨g_2, h⟩ := gd h
    refine r_iast X hG 16 (ws' := (W_X9 a cI cJ c_length c_text c_stands c_homeFar c_nets c_netAt c_netWide c_netFrom c_netTo c_priceX c_priceY c_many c_days c_aims c_speeds c_kinds c_keptMany c_undoMany (upd c_undos ((3 : Int32) * c_undoMany).toNatClampNeg x1) c_spot c_told c_to c_stood c_home c_lost c_out c_fewest c_ways c_next c_held)) rfl g_2 rfl dX9_note_62 (fun H locs hG => ?_)
    refine lv_aload_n hx hb dX9_note_63 rfl (lv_at hl 0 rfl) ?_
    refine r_get X hG in_X9 rfl 18 (by decide) w_649 0 rfl rfl dX9_note_64 ?_
    refine lv_iconst (v := (3 : Int32)) hx hb dX9_note_67 (by decide) ?_
    refine lv_aload_n hx hb dX9_note_68 rfl (lv_at hl 0 rfl) ?_
    refine r_get X hG in_X9 rfl 17 (by decide) w_648 0 rfl rfl dX9_note_69 ?_
    refine lv_imul hx hb dX9_note_72 ?_
    refine lv_iconst (v := (1 : Int32)) hx hb dX9_note_73 (by decide) ?_
    refine lv_iadd hx hb dX9_note_74 ?_
    refine lv_iload_n hx hb dX9_note_75 rfl (lv_at hl 2 rfl) ?_
    obtain ⟨g_3, h⟩ := gd h
    refine r_iast X hG 16 (ws' := (W_X9 a cI cJ c_length c_text c_stands c_homeFar c_nets c_netAt c_netWide c_netFrom c_netTo c_priceX c_priceY c_many c_days c_aims c_speeds c_kinds c_keptMany c_undoMany (upd (upd c_undos ((3 : Int32) * c_undoMany).toNatClampNeg x1) (((3 : Int32) * c_undoMany) + (1 : Int32)).toNatClampNeg x2) c_spot c_told c_to c_stood c_home c_lost c_out c_fewest c_ways c_next c_held)) rfl g_3 rfl dX9_note_76 (fun H locs hG => ?_)
    refine lv_aload_n hx hb dX9_note_77 rfl (lv_at hl 0 rfl) ?_
    refine r_get X hG in_X9 rfl 18 (by decide) w_649 0 rfl rfl dX9_note_78 ?_
    refine lv_iconst (v := (3 : Int32)) hx hb dX9_note_81 (by decide) ?_
    refine lv_aload_n hx hb dX9_note_82 rfl (lv_at hl 0 rfl) ?_
    refine r_get X hG in_X9 rfl 17 (by decide) w_648 0 rfl rfl dX9_note_83 ?_
    refine lv_imul hx hb dX9_note_86 ?_
    refine lv_iconst (v := (2 : Int32)) hx hb dX9_note_87 (by decide) ?_
    refine lv_iadd hx hb dX9_note_88 ?_
    refine lv_iload_n hx hb dX9_note_89 rfl (lv_at hl 3 rfl) ?_
    obtain ⟨g_4, h⟩ := gd h
    refine r_iast X hG 16 (ws' := (W_X9 a cI cJ c_length c_text c_stands c_homeFar c_nets c_netAt c_netWide c_netFrom c_netTo c_priceX c_priceY c_many c_days c_aims c_speeds c_kinds c_keptMany c_undoMany (upd (upd (upd c_undos ((3 : Int32) * c_undoMany).toNatClampNeg x1) (((3 : Int32) * c_undoMany) + (1 : Int32)).toNatClampNeg x2) (((3 : Int32) * c_undoMany) + (2 : Int32)).toNatClampNeg x3) c_spot c_told c_to c_stood c_home c_lost c_out c_fewest c_ways c_next c_held)) rfl g_4 rfl dX9_note_90 (fun H locs hG => ?_)
    refine lv_aload_n hx hb dX9_note_91 rfl (lv_at hl 0 rfl) ?_
    refine lv_dup hx hb dX9_note_92 rfl ?_
    refine r_get X hG in_X9 rfl 17 (by decide) w_648 0 rfl rfl dX9_note_93 ?_
    refine lv_iconst (v := (1 : Int32)) hx hb dX9_note_96 (by decide) ?_
    refine lv_iadd hx hb dX9_note_97 ?_
    refine r_put X hG in_X9 rfl tyX9 tyX9_ok nmX9 17 (by decide) rfl (by decide +kernel) w_648 0 (ws' := (W_X9 a cI cJ c_length c_text c_stands c_homeFar c_nets c_netAt c_netWide c_netFrom c_netTo c_priceX c_priceY c_many c_days c_aims c_speeds c_kinds c_keptMany (c_undoMany + (1 : Int32)) (upd (upd (upd c_undos ((3 : Int32) * c_undoMany).toNatClampNeg x1) (((3 : Int32) * c_undoMany) + (1 : Int32)).toNatClampNeg x2) (((3 : Int32) * c_undoMany) + (2 : Int32)).toNatClampNeg x3) c_spot c_told c_to c_stood c_home c_lost c_out c_fewest c_ways c_next c_held)) rfl (Nat.le_of_ble_eq_true rfl) rfl dX9_note_98 (fun H locs hG => ?_)
    refine lv_iload_n hx hb dX9_note_101 rfl (lv_at hl 3 rfl) ?_
    cases h
    exact ret _ _ _ _ dX9_note_102 hG
  have L12 : ∀ (c_undoMany : Int32), ∀ (n : Nat) (x4 : Int32) (c_undos : Nat → Int32) (ec_undos : Nat → Int32), DX9_note_L12 n x4 c_undos = some ec_undos → (∀ (ls : Array Slot) (H : Heap) (locs : List Loc), lv_has ls 5 [(0, .ref (a 0)), (1, .int x1), (2, .int x2), (3, .int x3)] → G dC dI A H0 (W_X9 a cI cJ c_length c_text c_stands c_homeFar c_nets c_netAt c_netWide c_netFrom c_netTo c_priceX c_priceY c_many c_days c_aims c_speeds c_kinds c_keptMany c_undoMany ec_undos c_spot c_told c_to c_stood c_home c_lost c_out c_fewest c_ways c_next c_held) H locs → W p l e (RM 0 0) s m args below meth c H locs 0 0 QQ (F0 m 41 ls [])) → ∀ (ls : Array Slot) (H : Heap) (locs : List Loc), lv_has ls 5 [(0, .ref (a 0)), (1, .int x1), (2, .int x2), (3, .int x3), (4, .int x4)] → G dC dI A H0 (W_X9 a cI cJ c_length c_text c_stands c_homeFar c_nets c_netAt c_netWide c_netFrom c_netTo c_priceX c_priceY c_many c_days c_aims c_speeds c_kinds c_keptMany c_undoMany c_undos c_spot c_told c_to c_stood c_home c_lost c_out c_fewest c_ways c_next c_held) H locs → W p l e (RM 0 0) s m args below meth c H locs 0 0 QQ (F0 m 12 ls []) := by
    intro c_undoMany n
    induction n with
    | zero => intro x4 c_undos ec_undos h; exact it_zero h
    | succ n ih =>
      intro x4 c_undos ec_undos h0 K0 ls H locs hl hG
      obtain ⟨w, h, hi, hr⟩ := it_succ h0
      have h : DX9_note_L12s x4 c_undos = some w := h
      have KC : ∀ (x4 : Int32) (c_undos : Nat → Int32), w = .inl (x4, c_undos) → ∀ (ls : Array Slot) (H : Heap) (locs : List Loc), lv_has ls 5 [(0, .ref (a 0)), (1, .int x1), (2, .int x2), (3, .int x3), (4, .int x4)] → G dC dI A H0 (W_X9 a cI cJ c_length c_text c_stands c_homeFar c_nets c_netAt c_netWide c_netFrom c_netTo c_priceX c_priceY c_many c_days c_aims c_speeds c_kinds c_keptMany c_undoMany c_undos c_spot c_told c_to c_stood c_home c_lost c_out c_fewest c_ways c_next c_held) H locs → W p l e (RM 0 0) s m args below meth c H locs 0 0 QQ (F0 m 12 ls []) := fun b0 b1 e ls H locs hl hG => ih b0 b1 ec_undos (hi _ e) K0 ls H locs hl hG
      have KX : ∀ (c_undos : Nat → Int32), w = .inr c_undos → ∀ (ls : Array Slot) (H : Heap) (locs : List Loc), lv_has ls 5 [(0, .ref (a 0)), (1, .int x1), (2, .int x2), (3, .int x3)] → G dC dI A H0 (W_X9 a cI cJ c_length c_text c_stands c_homeFar c_nets c_netAt c_netWide c_netFrom c_netTo c_priceX c_priceY c_many c_days c_aims c_speeds c_kinds c_keptMany c_undoMany c_undos c_spot c_told c_to c_stood c_home c_lost c_out c_fewest c_ways c_next c_held) H locs → W p l e (RM 0 0) s m args below meth c H locs 0 0 QQ (F0 m 41 ls []) := fun b0 e ls H locs hl hG => by cases hr _ e; exact K0 ls H locs hl hG
      clear h0 hi hr K0 ih
      unfold DX9_note_L12s at h
      refine lv_iload hx hb dX9_note_12 (lv_at hl 4 rfl) ?_
      refine lv_bipush (v := (21 : Int32)) hx hb dX9_note_14 (by decide) ?_
      refine lv_icmp_ge (tgt := 41) hx hb dX9_note_16 (by decide) (fun c_5 => ?_) (fun c_5 => ?_)
      · have h := ite_t h c_5
        exact KX _ (Option.some.inj h).symm _ _ _ (lv_sub hl [0, 1, 2, 3] rfl) hG
      · have h := ite_f h c_5
        refine lv_aload_n hx hb dX9_note_19 rfl (lv_at hl 0 rfl) ?_
        refine r_get X hG in_X9 rfl 18 (by decide) w_649 0 rfl rfl dX9_note_20 ?_
        refine lv_iload hx hb dX9_note_23 (lv_at hl 4 rfl) ?_
        refine lv_aload_n hx hb dX9_note_25 rfl (lv_at hl 0 rfl) ?_
        refine r_get X hG in_X9 rfl 18 (by decide) w_649 0 rfl rfl dX9_note_26 ?_
        refine lv_iload hx hb dX9_note_29 (lv_at hl 4 rfl) ?_
        refine lv_iconst (v := (3 : Int32)) hx hb dX9_note_31 (by decide) ?_
        refine lv_iadd hx hb dX9_note_32 ?_
        obtain ⟨g_6, h⟩ := gd h
        refine r_iald X hG 16 rfl g_6 dX9_note_33 ?_
        obtain ⟨g_7, h⟩ := gd h
        refine r_iast X hG 16 (ws' := (W_X9 a cI cJ c_length c_text c_stands c_homeFar c_nets c_netAt c_netWide c_netFrom c_netTo c_priceX c_priceY c_many c_days c_aims c_speeds c_kinds c_keptMany c_undoMany (upd c_undos x4.toNatClampNeg (c_undos (x4 + (3 : Int32)).toNatClampNeg)) c_spot c_told c_to c_stood c_home c_lost c_out c_fewest c_ways c_next c_held)) rfl g_7 rfl dX9_note_34 (fun H locs hG => ?_)
        refine lv_iinc (v := (x4 + (1 : Int32))) (lv' := [(4, .int (x4 + (1 : Int32))), (0, .ref (a 0)), (1, .int x1), (2, .int x2), (3, .int x3)]) hx hb dX9_note_35 hl (k := 4) rfl rfl (by decide) rfl (fun ls hl => ?_)
        refine lv_goto (tgt := 12) hx hb dX9_note_38 (by decide) ?_
        exact KC _ _ (Option.some.inj h).symm _ _ _ (lv_sub hl [1, 2, 3, 4, 0] rfl) hG
  have h := hD
  unfold DX9_note at h
  clear hD
  refine lv_aload_n hx hb dX9_note_0 rfl (lv_at hl 0 rfl) ?_
  refine r_get X hG in_X9 rfl 17 (by decide) w_648 0 rfl rfl dX9_note_1 ?_
  refine lv_bipush (v := (8 : Int32)) hx hb dX9_note_4 (by decide) ?_
  refine lv_icmp_ne (tgt := 51) hx hb dX9_note_6 (by decide) (fun c_1 => ?_) (fun c_1 => ?_)
  · have h := ite_f h c_1
    exact J51 c_undoMany c_undos  h  _ _ _ (lv_sub hl [0, 1, 2, 3] rfl) hG
  · have h := ite_t h c_1
    refine lv_iconst (v := (0 : Int32)) hx hb dX9_note_9 (by decide) ?_
    refine lv_istore (lv' := [(4, .int (0 : Int32)), (0, .ref (a 0)), (1, .int x1), (2, .int x2), (3, .int x3)]) hx hb dX9_note_10 hl (by decide) rfl (fun ls hl => ?_)
    obtain ⟨k_undos_8, hz, h⟩ := bd1_some h
    refine L12 c_undoMany FU (0 : Int32) c_undos _ hz (fun ls H locs hl hG => ?_) _ _ _ (lv_sub hl [1, 2, 3, 4, 0] rfl) hG
    clear hz
    refine lv_aload_n hx hb dX9_note_41 rfl (lv_at hl 0 rfl) ?_
    refine lv_dup hx hb dX9_note_42 rfl ?_
    refine r_get X hG in_X9 rfl 17 (by decide) w_648 0 rfl rfl dX9_note_43 ?_
    refine lv_iconst (v := (1 : Int32)) hx hb dX9_note_46 (by decide) ?_
    refine lv_isub hx hb dX9_note_47 ?_
    refine r_put X hG in_X9 rfl tyX9 tyX9_ok nmX9 17 (by decide) rfl (by decide +kernel) w_648 0 (ws' := (W_X9 a cI cJ c_length c_text c_stands c_homeFar c_nets c_netAt c_netWide c_netFrom c_netTo c_priceX c_priceY c_many c_days c_aims c_speeds c_kinds c_keptMany (c_undoMany - (1 : Int32)) k_undos_8 c_spot c_told c_to c_stood c_home c_lost c_out c_fewest c_ways c_next c_held)) rfl (Nat.le_of_ble_eq_true rfl) rfl dX9_note_48 (fun H locs hG => ?_)
    exact J51 (c_undoMany - (1 : Int32)) k_undos_8  h  _ _ _ (lv_sub hl [0, 1, 2, 3] rfl) hG
set_option maxRecDepth 100000 in
set_option maxHeartbeats 4000000 in
theorem mX9_aim (l : Launch) (dC : Nat → ClassId) (dI : Nat → Nat → Nat) (cI cJ : ClassId) (a : Nat → Nat) (c_length : Int32) (c_text : Nat → Int32) (c_stands : Nat → Int32) (c_homeFar : Nat → Int32) (c_nets : Nat → Int32) (c_netAt : Nat → Int32) (c_netWide : Nat → Int32) (c_netFrom : Nat → Int32) (c_netTo : Nat → Int32) (c_priceX : Nat → Int32) (c_priceY : Nat → Int32) (c_many : Nat → Int32) (c_days : Nat → Int32) (c_aims : Nat → Int32) (c_speeds : Nat → Int32) (c_kinds : Nat → Int32) (c_keptMany : Int32) (c_undoMany : Int32) (c_undos : Nat → Int32) (c_spot : Int32) (c_told : Nat → Int32) (c_to : Nat → Int32) (c_stood : Nat → Int32) (c_home : Nat → Int32) (c_lost : Nat → Int32) (c_out : Int32) (c_fewest : Nat → Int32) (c_ways : Nat → Int64) (c_next : Nat → Int64) (c_held : Nat → Int32) (x1 : Int32) (x2 : Int32) {res : Int32} {n_aims : Nat → Int32} {n_undoMany : Int32} {n_undos : Nat → Int32} (hD : DX9_aim x1 x2 c_many c_aims c_undoMany c_undos = some (res, n_aims, n_undoMany, n_undos)) : Met l yX9_aim (WZ yX9_aim cX9_aim 4 (some .int)) (RM 2 46) (PC dC dI cI cJ [.ref (a 0), .int x1, .int x2] (W_X9 a cI cJ c_length c_text c_stands c_homeFar c_nets c_netAt c_netWide c_netFrom c_netTo c_priceX c_priceY c_many c_days c_aims c_speeds c_kinds c_keptMany c_undoMany c_undos c_spot c_told c_to c_stood c_home c_lost c_out c_fewest c_ways c_next c_held)) (QI dC dI (W_X9 a cI cJ c_length c_text c_stands c_homeFar c_nets c_netAt c_netWide c_netFrom c_netTo c_priceX c_priceY c_many c_days c_aims c_speeds c_kinds c_keptMany c_undoMany c_undos c_spot c_told c_to c_stood c_home c_lost c_out c_fewest c_ways c_next c_held) (W_X9 a cI cJ c_length c_text c_stands c_homeFar c_nets c_netAt c_netWide c_netFrom c_netTo c_priceX c_priceY c_many c_days n_aims c_speeds c_kinds c_keptMany n_undoMany n_undos c_spot c_told c_to c_stood c_home c_lost c_out c_fewest c_ways c_next c_held) res) 0 0 (FA (W_X9 a cI cJ c_length c_text c_stands c_homeFar c_nets c_netAt c_netWide c_netFrom c_netTo c_priceX c_priceY c_many c_days c_aims c_speeds c_kinds c_keptMany c_undoMany c_undos c_spot c_told c_to c_stood c_home c_lost c_out c_fewest c_ways c_next c_held)) := by
  refine r_metI (by decide +kernel) (Nat.le_of_ble_eq_true rfl) ?_
  intro p e s m args below meth c A H0 QQ X ret ls hl hG
  have X : Cx p m c cX9_aim 4 s args RX9 dC dI cI cJ meth (some .int) := X
  have hx := X.1.1
  have hb := X.1.2.1
  have hl : lv_has ls 4 [(0, .ref (a 0)), (1, .int x1), (2, .int x2)] := hl
  have h := hD
  unfold DX9_aim at h
  clear hD
  refine lv_aload_n hx hb dX9_aim_0 rfl (lv_at hl 0 rfl) ?_
  refine lv_iload_n hx hb dX9_aim_1 rfl (lv_at hl 1 rfl) ?_
  obtain ⟨r_1, hz_2, h⟩ := bd1_some h
  refine aft_i1 (run_V1 (rest := []) X hG hl.1 (mX9_isThrow l dC dI cI cJ a c_length c_text c_stands c_homeFar c_nets c_netAt c_netWide c_netFrom c_netTo c_priceX c_priceY c_many c_days c_aims c_speeds c_kinds c_keptMany c_undoMany c_undos c_spot c_told c_to c_stood c_home c_lost c_out c_fewest c_ways c_next c_held x1 hz_2) gi_V_X9_182 hd_V_yX9_isThrow ⟨rfl, rfl⟩ rfl ⟨Nat.le_of_ble_eq_true rfl, Nat.le_of_ble_eq_true rfl⟩ 0 rfl rfl rfl rfl (Nat.le_of_ble_eq_true rfl) ⟨Nat.le_of_ble_eq_true rfl, Nat.le_of_ble_eq_true rfl⟩ dX9_aim_2) hG rfl (fun H locs hG => ?_)
  clear hz_2
  refine lv_if_eq (tgt := 20) hx hb dX9_aim_5 (by decide) (fun c_3 => ?_) (fun c_3 => ?_)
  · have h := ite_t h c_3
    refine lv_iconst (v := (-1 : Int32)) hx hb dX9_aim_20 (by decide) ?_
    cases h
    exact ret _ _ _ _ dX9_aim_21 hG
  · have h := ite_f h c_3
    refine lv_iload_n hx hb dX9_aim_8 rfl (lv_at hl 2 rfl) ?_
    refine lv_i2l (v := (x2.toInt64)) hx hb dX9_aim_9 rfl ?_
    refine lv_lconst (v := (0 : Int64)) hx hb dX9_aim_10 (by decide) ?_
    refine lv_ldc2 (v := (23 : Int64)) hx hb X.1.2.2.2.1 (X.1.2.2.2.2 _ w_863) dX9_aim_11 ?_
    obtain ⟨r_4, hz_5, h⟩ := bd1_some h
    refine aft_i (ws' := (W_X9 a cI cJ c_length c_text c_stands c_homeFar c_nets c_netAt c_netWide c_netFrom c_netTo c_priceX c_priceY c_many c_days c_aims c_speeds c_kinds c_keptMany c_undoMany c_undos c_spot c_told c_to c_stood c_home c_lost c_out c_fewest c_ways c_next c_held)) (run_S (rest := []) X hG hl.1 (mX9_in l dC dI cI cJ (x2.toInt64) (0 : Int64) (23 : Int64) hz_5) gi_S_X9_92 hd_S_yX9_in ⟨rfl, rfl⟩ rfl ⟨Nat.le_of_ble_eq_true rfl, Nat.le_of_ble_eq_true rfl⟩ [] (by decide) rfl rfl (Nat.le_of_ble_eq_true rfl) ⟨Nat.le_of_ble_eq_true rfl, Nat.le_of_ble_eq_true rfl⟩ dX9_aim_14) hG [] rfl rfl rfl (fun H locs hG => ?_)
    clear hz_5
    refine lv_if_ne (tgt := 22) hx hb dX9_aim_17 (by decide) (fun c_6 => ?_) (fun c_6 => ?_)
    · have h := ite_f h c_6
      refine lv_aload_n hx hb dX9_aim_22 rfl (lv_at hl 0 rfl) ?_
      refine lv_iconst (v := (0 : Int32)) hx hb dX9_aim_23 (by decide) ?_
      refine lv_iload_n hx hb dX9_aim_24 rfl (lv_at hl 1 rfl) ?_
      refine lv_aload_n hx hb dX9_aim_25 rfl (lv_at hl 0 rfl) ?_
      refine r_get X hG in_X9 rfl 13 (by decide) w_644 0 rfl rfl dX9_aim_26 ?_
      refine lv_iload_n hx hb dX9_aim_29 rfl (lv_at hl 1 rfl) ?_
      obtain ⟨g_7, h⟩ := gd h
      refine r_iald X hG 13 rfl g_7 dX9_aim_30 ?_
      obtain ⟨r_8, k_undoMany_9, k_undos_10, hz_11, h⟩ := bd3_some h
      refine aft_i1 (run_V1 (rest := []) X hG hl.1 (mX9_note l dC dI cI cJ a c_length c_text c_stands c_homeFar c_nets c_netAt c_netWide c_netFrom c_netTo c_priceX c_priceY c_many c_days c_aims c_speeds c_kinds c_keptMany c_undoMany c_undos c_spot c_told c_to c_stood c_home c_lost c_out c_fewest c_ways c_next c_held (0 : Int32) x1 (c_aims x1.toNatClampNeg) hz_11) gi_V_X9_206 hd_V_yX9_note ⟨rfl, rfl⟩ rfl ⟨Nat.le_of_ble_eq_true rfl, Nat.le_of_ble_eq_true rfl⟩ 0 rfl rfl rfl rfl (Nat.le_of_ble_eq_true rfl) ⟨Nat.le_of_ble_eq_true rfl, Nat.le_of_ble_eq_true rfl⟩ dX9_aim_31) hG rfl (fun H locs hG => ?_)
      clear hz_11
      refine lv_istore_n (lv' := [(3, .int r_8), (0, .ref (a 0)), (1, .int x1), (2, .int x2)]) hx hb dX9_aim_34 rfl hl (by decide) rfl (fun ls hl => ?_)
      refine lv_aload_n hx hb dX9_aim_35 rfl (lv_at hl 1 rfl) ?_
      refine r_get X hG in_X9 rfl 13 (by decide) w_644 0 rfl rfl dX9_aim_36 ?_
      refine lv_iload_n hx hb dX9_aim_39 rfl (lv_at hl 2 rfl) ?_
      refine lv_iload_n hx hb dX9_aim_40 rfl (lv_at hl 3 rfl) ?_
      obtain ⟨g_12, h⟩ := gd h
      refine r_iast X hG 13 (ws' := (W_X9 a cI cJ c_length c_text c_stands c_homeFar c_nets c_netAt c_netWide c_netFrom c_netTo c_priceX c_priceY c_many c_days (upd c_aims x1.toNatClampNeg x2) c_speeds c_kinds c_keptMany k_undoMany_9 k_undos_10 c_spot c_told c_to c_stood c_home c_lost c_out c_fewest c_ways c_next c_held)) rfl g_12 rfl dX9_aim_41 (fun H locs hG => ?_)
      refine lv_iload_n hx hb dX9_aim_42 rfl (lv_at hl 0 rfl) ?_
      cases h
      exact ret _ _ _ _ dX9_aim_43 hG
    · have h := ite_t h c_6
      refine lv_iconst (v := (-1 : Int32)) hx hb dX9_aim_20 (by decide) ?_
      cases h
      exact ret _ _ _ _ dX9_aim_21 hG
set_option maxRecDepth 100000 in
set_option maxHeartbeats 4000000 in
theorem mX9_move (l : Launch) (dC : Nat → ClassId) (dI : Nat → Nat → Nat) (cI cJ : ClassId) (a : Nat → Nat) (c_length : Int32) (c_text : Nat → Int32) (c_stands : Nat → Int32) (c_homeFar : Nat → Int32) (c_nets : Nat → Int32) (c_netAt : Nat → Int32) (c_netWide : Nat → Int32) (c_netFrom : Nat → Int32) (c_netTo : Nat → Int32) (c_priceX : Nat → Int32) (c_priceY : Nat → Int32) (c_many : Nat → Int32) (c_days : Nat → Int32) (c_aims : Nat → Int32) (c_speeds : Nat → Int32) (c_kinds : Nat → Int32) (c_keptMany : Int32) (c_undoMany : Int32) (c_undos : Nat → Int32) (c_spot : Int32) (c_told : Nat → Int32) (c_to : Nat → Int32) (c_stood : Nat → Int32) (c_home : Nat → Int32) (c_lost : Nat → Int32) (c_out : Int32) (c_fewest : Nat → Int32) (c_ways : Nat → Int64) (c_next : Nat → Int64) (c_held : Nat → Int32) (x1 : Int32) (x2 : Int32) {res : Int32} {n_days : Nat → Int32} {n_undoMany : Int32} {n_undos : Nat → Int32} (hD : DX9_move x1 x2 c_many c_days c_undoMany c_undos = some (res, n_days, n_undoMany, n_undos)) : Met l yX9_move (WZ yX9_move cX9_move 4 (some .int)) (RM 2 46) (PC dC dI cI cJ [.ref (a 0), .int x1, .int x2] (W_X9 a cI cJ c_length c_text c_stands c_homeFar c_nets c_netAt c_netWide c_netFrom c_netTo c_priceX c_priceY c_many c_days c_aims c_speeds c_kinds c_keptMany c_undoMany c_undos c_spot c_told c_to c_stood c_home c_lost c_out c_fewest c_ways c_next c_held)) (QI dC dI (W_X9 a cI cJ c_length c_text c_stands c_homeFar c_nets c_netAt c_netWide c_netFrom c_netTo c_priceX c_priceY c_many c_days c_aims c_speeds c_kinds c_keptMany c_undoMany c_undos c_spot c_told c_to c_stood c_home c_lost c_out c_fewest c_ways c_next c_held) (W_X9 a cI cJ c_length c_text c_stands c_homeFar c_nets c_netAt c_netWide c_netFrom c_netTo c_priceX c_priceY c_many n_days c_aims c_speeds c_kinds c_keptMany n_undoMany n_undos c_spot c_told c_to c_stood c_home c_lost c_out c_fewest c_ways c_next c_held) res) 0 0 (FA (W_X9 a cI cJ c_length c_text c_stands c_homeFar c_nets c_netAt c_netWide c_netFrom c_netTo c_priceX c_priceY c_many c_days c_aims c_speeds c_kinds c_keptMany c_undoMany c_undos c_spot c_told c_to c_stood c_home c_lost c_out c_fewest c_ways c_next c_held)) := by
  refine r_metI (by decide +kernel) (Nat.le_of_ble_eq_true rfl) ?_
  intro p e s m args below meth c A H0 QQ X ret ls hl hG
  have X : Cx p m c cX9_move 4 s args RX9 dC dI cI cJ meth (some .int) := X
  have hx := X.1.1
  have hb := X.1.2.1
  have hl : lv_has ls 4 [(0, .ref (a 0)), (1, .int x1), (2, .int x2)] := hl
  have h := hD
  unfold DX9_move at h
  clear hD
  refine lv_aload_n hx hb dX9_move_0 rfl (lv_at hl 0 rfl) ?_
  refine lv_iload_n hx hb dX9_move_1 rfl (lv_at hl 1 rfl) ?_
  obtain ⟨r_1, hz_2, h⟩ := bd1_some h
  refine aft_i1 (run_V1 (rest := []) X hG hl.1 (mX9_isThrow l dC dI cI cJ a c_length c_text c_stands c_homeFar c_nets c_netAt c_netWide c_netFrom c_netTo c_priceX c_priceY c_many c_days c_aims c_speeds c_kinds c_keptMany c_undoMany c_undos c_spot c_told c_to c_stood c_home c_lost c_out c_fewest c_ways c_next c_held x1 hz_2) gi_V_X9_182 hd_V_yX9_isThrow ⟨rfl, rfl⟩ rfl ⟨Nat.le_of_ble_eq_true rfl, Nat.le_of_ble_eq_true rfl⟩ 0 rfl rfl rfl rfl (Nat.le_of_ble_eq_true rfl) ⟨Nat.le_of_ble_eq_true rfl, Nat.le_of_ble_eq_true rfl⟩ dX9_move_2) hG rfl (fun H locs hG => ?_)
  clear hz_2
  refine lv_if_eq (tgt := 20) hx hb dX9_move_5 (by decide) (fun c_3 => ?_) (fun c_3 => ?_)
  · have h := ite_t h c_3
    refine lv_iconst (v := (-1 : Int32)) hx hb dX9_move_20 (by decide) ?_
    cases h
    exact ret _ _ _ _ dX9_move_21 hG
  · have h := ite_f h c_3
    refine lv_iload_n hx hb dX9_move_8 rfl (lv_at hl 2 rfl) ?_
    refine lv_i2l (v := (x2.toInt64)) hx hb dX9_move_9 rfl ?_
    refine lv_lconst (v := (0 : Int64)) hx hb dX9_move_10 (by decide) ?_
    refine lv_ldc2 (v := (40 : Int64)) hx hb X.1.2.2.2.1 (X.1.2.2.2.2 _ w_872) dX9_move_11 ?_
    obtain ⟨r_4, hz_5, h⟩ := bd1_some h
    refine aft_i (ws' := (W_X9 a cI cJ c_length c_text c_stands c_homeFar c_nets c_netAt c_netWide c_netFrom c_netTo c_priceX c_priceY c_many c_days c_aims c_speeds c_kinds c_keptMany c_undoMany c_undos c_spot c_told c_to c_stood c_home c_lost c_out c_fewest c_ways c_next c_held)) (run_S (rest := []) X hG hl.1 (mX9_in l dC dI cI cJ (x2.toInt64) (0 : Int64) (40 : Int64) hz_5) gi_S_X9_92 hd_S_yX9_in ⟨rfl, rfl⟩ rfl ⟨Nat.le_of_ble_eq_true rfl, Nat.le_of_ble_eq_true rfl⟩ [] (by decide) rfl rfl (Nat.le_of_ble_eq_true rfl) ⟨Nat.le_of_ble_eq_true rfl, Nat.le_of_ble_eq_true rfl⟩ dX9_move_14) hG [] rfl rfl rfl (fun H locs hG => ?_)
    clear hz_5
    refine lv_if_ne (tgt := 22) hx hb dX9_move_17 (by decide) (fun c_6 => ?_) (fun c_6 => ?_)
    · have h := ite_f h c_6
      refine lv_aload_n hx hb dX9_move_22 rfl (lv_at hl 0 rfl) ?_
      refine lv_iconst (v := (1 : Int32)) hx hb dX9_move_23 (by decide) ?_
      refine lv_iload_n hx hb dX9_move_24 rfl (lv_at hl 1 rfl) ?_
      refine lv_aload_n hx hb dX9_move_25 rfl (lv_at hl 0 rfl) ?_
      refine r_get X hG in_X9 rfl 12 (by decide) w_643 0 rfl rfl dX9_move_26 ?_
      refine lv_iload_n hx hb dX9_move_29 rfl (lv_at hl 1 rfl) ?_
      obtain ⟨g_7, h⟩ := gd h
      refine r_iald X hG 12 rfl g_7 dX9_move_30 ?_
      obtain ⟨r_8, k_undoMany_9, k_undos_10, hz_11, h⟩ := bd3_some h
      refine aft_i1 (run_V1 (rest := []) X hG hl.1 (mX9_note l dC dI cI cJ a c_length c_text c_stands c_homeFar c_nets c_netAt c_netWide c_netFrom c_netTo c_priceX c_priceY c_many c_days c_aims c_speeds c_kinds c_keptMany c_undoMany c_undos c_spot c_told c_to c_stood c_home c_lost c_out c_fewest c_ways c_next c_held (1 : Int32) x1 (c_days x1.toNatClampNeg) hz_11) gi_V_X9_206 hd_V_yX9_note ⟨rfl, rfl⟩ rfl ⟨Nat.le_of_ble_eq_true rfl, Nat.le_of_ble_eq_true rfl⟩ 0 rfl rfl rfl rfl (Nat.le_of_ble_eq_true rfl) ⟨Nat.le_of_ble_eq_true rfl, Nat.le_of_ble_eq_true rfl⟩ dX9_move_31) hG rfl (fun H locs hG => ?_)
      clear hz_11
      refine lv_istore_n (lv' := [(3, .int r_8), (0, .ref (a 0)), (1, .int x1), (2, .int x2)]) hx hb dX9_move_34 rfl hl (by decide) rfl (fun ls hl => ?_)
      refine lv_aload_n hx hb dX9_move_35 rfl (lv_at hl 1 rfl) ?_
      refine r_get X hG in_X9 rfl 12 (by decide) w_643 0 rfl rfl dX9_move_36 ?_
      refine lv_iload_n hx hb dX9_move_39 rfl (lv_at hl 2 rfl) ?_
      refine lv_iload_n hx hb dX9_move_40 rfl (lv_at hl 3 rfl) ?_
      obtain ⟨g_12, h⟩ := gd h
      refine r_iast X hG 12 (ws' := (W_X9 a cI cJ c_length c_text c_stands c_homeFar c_nets c_netAt c_netWide c_netFrom c_netTo c_priceX c_priceY c_many (upd c_days x1.toNatClampNeg x2) c_aims c_speeds c_kinds c_keptMany k_undoMany_9 k_undos_10 c_spot c_told c_to c_stood c_home c_lost c_out c_fewest c_ways c_next c_held)) rfl g_12 rfl dX9_move_41 (fun H locs hG => ?_)
      refine lv_iload_n hx hb dX9_move_42 rfl (lv_at hl 0 rfl) ?_
      cases h
      exact ret _ _ _ _ dX9_move_43 hG
    · have h := ite_t h c_6
      refine lv_iconst (v := (-1 : Int32)) hx hb dX9_move_20 (by decide) ?_
      cases h
      exact ret _ _ _ _ dX9_move_21 hG
set_option maxRecDepth 100000 in
set_option maxHeartbeats 4000000 in
theorem mX9_speed (l : Launch) (dC : Nat → ClassId) (dI : Nat → Nat → Nat) (cI cJ : ClassId) (a : Nat → Nat) (c_length : Int32) (c_text : Nat → Int32) (c_stands : Nat → Int32) (c_homeFar : Nat → Int32) (c_nets : Nat → Int32) (c_netAt : Nat → Int32) (c_netWide : Nat → Int32) (c_netFrom : Nat → Int32) (c_netTo : Nat → Int32) (c_priceX : Nat → Int32) (c_priceY : Nat → Int32) (c_many : Nat → Int32) (c_days : Nat → Int32) (c_aims : Nat → Int32) (c_speeds : Nat → Int32) (c_kinds : Nat → Int32) (c_keptMany : Int32) (c_undoMany : Int32) (c_undos : Nat → Int32) (c_spot : Int32) (c_told : Nat → Int32) (c_to : Nat → Int32) (c_stood : Nat → Int32) (c_home : Nat → Int32) (c_lost : Nat → Int32) (c_out : Int32) (c_fewest : Nat → Int32) (c_ways : Nat → Int64) (c_next : Nat → Int64) (c_held : Nat → Int32) (x1 : Int32) (x2 : Int32) {res : Int32} {n_speeds : Nat → Int32} {n_undoMany : Int32} {n_undos : Nat → Int32} (hD : DX9_speed x1 x2 c_many c_speeds c_undoMany c_undos = some (res, n_speeds, n_undoMany, n_undos)) : Met l yX9_speed (WZ yX9_speed cX9_speed 4 (some .int)) (RM 2 46) (PC dC dI cI cJ [.ref (a 0), .int x1, .int x2] (W_X9 a cI cJ c_length c_text c_stands c_homeFar c_nets c_netAt c_netWide c_netFrom c_netTo c_priceX c_priceY c_many c_days c_aims c_speeds c_kinds c_keptMany c_undoMany c_undos c_spot c_told c_to c_stood c_home c_lost c_out c_fewest c_ways c_next c_held)) (QI dC dI (W_X9 a cI cJ c_length c_text c_stands c_homeFar c_nets c_netAt c_netWide c_netFrom c_netTo c_priceX c_priceY c_many c_days c_aims c_speeds c_kinds c_keptMany c_undoMany c_undos c_spot c_told c_to c_stood c_home c_lost c_out c_fewest c_ways c_next c_held) (W_X9 a cI cJ c_length c_text c_stands c_homeFar c_nets c_netAt c_netWide c_netFrom c_netTo c_priceX c_priceY c_many c_days c_aims n_speeds c_kinds c_keptMany n_undoMany n_undos c_spot c_told c_to c_stood c_home c_lost c_out c_fewest c_ways c_next c_held) res) 0 0 (FA (W_X9 a cI cJ c_length c_text c_stands c_homeFar c_nets c_netAt c_netWide c_netFrom c_netTo c_priceX c_priceY c_many c_days c_aims c_speeds c_kinds c_keptMany c_undoMany c_undos c_spot c_told c_to c_stood c_home c_lost c_out c_fewest c_ways c_next c_held)) := by
  refine r_metI (by decide +kernel) (Nat.le_of_ble_eq_true rfl) ?_
  intro p e s m args below meth c A H0 QQ X ret ls hl hG
  have X : Cx p m c cX9_speed 4 s args RX9 dC dI cI cJ meth (some .int) := X
  have hx := X.1.1
  have hb := X.1.2.1
  have hl : lv_has ls 4 [(0, .ref (a 0)), (1, .int x1), (2, .int x2)] := hl
  have h := hD
  unfold DX9_speed at h
  clear hD
  refine lv_aload_n hx hb dX9_speed_0 rfl (lv_at hl 0 rfl) ?_
  refine lv_iload_n hx hb dX9_speed_1 rfl (lv_at hl 1 rfl) ?_
  obtain ⟨r_1, hz_2, h⟩ := bd1_some h
  refine aft_i1 (run_V1 (rest := []) X hG hl.1 (mX9_isThrow l dC dI cI cJ a c_length c_text c_stands c_homeFar c_nets c_netAt c_netWide c_netFrom c_netTo c_priceX c_priceY c_many c_days c_aims c_speeds c_kinds c_keptMany c_undoMany c_undos c_spot c_told c_to c_stood c_home c_lost c_out c_fewest c_ways c_next c_held x1 hz_2) gi_V_X9_182 hd_V_yX9_isThrow ⟨rfl, rfl⟩ rfl ⟨Nat.le_of_ble_eq_true rfl, Nat.le_of_ble_eq_true rfl⟩ 0 rfl rfl rfl rfl (Nat.le_of_ble_eq_true rfl) ⟨Nat.le_of_ble_eq_true rfl, Nat.le_of_ble_eq_true rfl⟩ dX9_speed_2) hG rfl (fun H locs hG => ?_)
  clear hz_2
  refine lv_if_eq (tgt := 20) hx hb dX9_speed_5 (by decide) (fun c_3 => ?_) (fun c_3 => ?_)
  · have h := ite_t h c_3
    refine lv_iconst (v := (-1 : Int32)) hx hb dX9_speed_20 (by decide) ?_
    cases h
    exact ret _ _ _ _ dX9_speed_21 hG
  · have h := ite_f h c_3
    refine lv_iload_n hx hb dX9_speed_8 rfl (lv_at hl 2 rfl) ?_
    refine lv_i2l (v := (x2.toInt64)) hx hb dX9_speed_9 rfl ?_
    refine lv_lconst (v := (1 : Int64)) hx hb dX9_speed_10 (by decide) ?_
    refine lv_ldc2 (v := (6 : Int64)) hx hb X.1.2.2.2.1 (X.1.2.2.2.2 _ w_760) dX9_speed_11 ?_
    obtain ⟨r_4, hz_5, h⟩ := bd1_some h
    refine aft_i (ws' := (W_X9 a cI cJ c_length c_text c_stands c_homeFar c_nets c_netAt c_netWide c_netFrom c_netTo c_priceX c_priceY c_many c_days c_aims c_speeds c_kinds c_keptMany c_undoMany c_undos c_spot c_told c_to c_stood c_home c_lost c_out c_fewest c_ways c_next c_held)) (run_S (rest := []) X hG hl.1 (mX9_in l dC dI cI cJ (x2.toInt64) (1 : Int64) (6 : Int64) hz_5) gi_S_X9_92 hd_S_yX9_in ⟨rfl, rfl⟩ rfl ⟨Nat.le_of_ble_eq_true rfl, Nat.le_of_ble_eq_true rfl⟩ [] (by decide) rfl rfl (Nat.le_of_ble_eq_true rfl) ⟨Nat.le_of_ble_eq_true rfl, Nat.le_of_ble_eq_true rfl⟩ dX9_speed_14) hG [] rfl rfl rfl (fun H locs hG => ?_)
    clear hz_5
    refine lv_if_ne (tgt := 22) hx hb dX9_speed_17 (by decide) (fun c_6 => ?_) (fun c_6 => ?_)
    · have h := ite_f h c_6
      refine lv_aload_n hx hb dX9_speed_22 rfl (lv_at hl 0 rfl) ?_
      refine lv_iconst (v := (2 : Int32)) hx hb dX9_speed_23 (by decide) ?_
      refine lv_iload_n hx hb dX9_speed_24 rfl (lv_at hl 1 rfl) ?_
      refine lv_aload_n hx hb dX9_speed_25 rfl (lv_at hl 0 rfl) ?_
      refine r_get X hG in_X9 rfl 14 (by decide) w_645 0 rfl rfl dX9_speed_26 ?_
      refine lv_iload_n hx hb dX9_speed_29 rfl (lv_at hl 1 rfl) ?_
      obtain ⟨g_7, h⟩ := gd h
      refine r_iald X hG 14 rfl g_7 dX9_speed_30 ?_
      obtain ⟨r_8, k_undoMany_9, k_undos_10, hz_11, h⟩ := bd3_some h
      refine aft_i1 (run_V1 (rest := []) X hG hl.1 (mX9_note l dC dI cI cJ a c_length c_text c_stands c_homeFar c_nets c_netAt c_netWide c_netFrom c_netTo c_priceX c_priceY c_many c_days c_aims c_speeds c_kinds c_keptMany c_undoMany c_undos c_spot c_told c_to c_stood c_home c_lost c_out c_fewest c_ways c_next c_held (2 : Int32) x1 (c_speeds x1.toNatClampNeg) hz_11) gi_V_X9_206 hd_V_yX9_note ⟨rfl, rfl⟩ rfl ⟨Nat.le_of_ble_eq_true rfl, Nat.le_of_ble_eq_true rfl⟩ 0 rfl rfl rfl rfl (Nat.le_of_ble_eq_true rfl) ⟨Nat.le_of_ble_eq_true rfl, Nat.le_of_ble_eq_true rfl⟩ dX9_speed_31) hG rfl (fun H locs hG => ?_)
      clear hz_11
      refine lv_istore_n (lv' := [(3, .int r_8), (0, .ref (a 0)), (1, .int x1), (2, .int x2)]) hx hb dX9_speed_34 rfl hl (by decide) rfl (fun ls hl => ?_)
      refine lv_aload_n hx hb dX9_speed_35 rfl (lv_at hl 1 rfl) ?_
      refine r_get X hG in_X9 rfl 14 (by decide) w_645 0 rfl rfl dX9_speed_36 ?_
      refine lv_iload_n hx hb dX9_speed_39 rfl (lv_at hl 2 rfl) ?_
      refine lv_iload_n hx hb dX9_speed_40 rfl (lv_at hl 3 rfl) ?_
      obtain ⟨g_12, h⟩ := gd h
      refine r_iast X hG 14 (ws' := (W_X9 a cI cJ c_length c_text c_stands c_homeFar c_nets c_netAt c_netWide c_netFrom c_netTo c_priceX c_priceY c_many c_days c_aims (upd c_speeds x1.toNatClampNeg x2) c_kinds c_keptMany k_undoMany_9 k_undos_10 c_spot c_told c_to c_stood c_home c_lost c_out c_fewest c_ways c_next c_held)) rfl g_12 rfl dX9_speed_41 (fun H locs hG => ?_)
      refine lv_iload_n hx hb dX9_speed_42 rfl (lv_at hl 0 rfl) ?_
      cases h
      exact ret _ _ _ _ dX9_speed_43 hG
    · have h := ite_t h c_6
      refine lv_iconst (v := (-1 : Int32)) hx hb dX9_speed_20 (by decide) ?_
      cases h
      exact ret _ _ _ _ dX9_speed_21 hG
set_option maxRecDepth 100000 in
set_option maxHeartbeats 4000000 in
theorem mX9_undo (l : Launch) (dC : Nat → ClassId) (dI : Nat → Nat → Nat) (cI cJ : ClassId) (a : Nat → Nat) (c_length : Int32) (c_text : Nat → Int32) (c_stands : Nat → Int32) (c_homeFar : Nat → Int32) (c_nets : Nat → Int32) (c_netAt : Nat → Int32) (c_netWide : Nat → Int32) (c_netFrom : Nat → Int32) (c_netTo : Nat → Int32) (c_priceX : Nat → Int32) (c_priceY : Nat → Int32) (c_many : Nat → Int32) (c_days : Nat → Int32) (c_aims : Nat → Int32) (c_speeds : Nat → Int32) (c_kinds : Nat → Int32) (c_keptMany : Int32) (c_undoMany : Int32) (c_undos : Nat → Int32) (c_spot : Int32) (c_told : Nat → Int32) (c_to : Nat → Int32) (c_stood : Nat → Int32) (c_home : Nat → Int32) (c_lost : Nat → Int32) (c_out : Int32) (c_fewest : Nat → Int32) (c_ways : Nat → Int64) (c_next : Nat → Int64) (c_held : Nat → Int32) {res : Int32} {n_days : Nat → Int32} {n_aims : Nat → Int32} {n_speeds : Nat → Int32} {n_undoMany : Int32} (hD : DX9_undo c_days c_aims c_speeds c_undoMany c_undos = some (res, n_days, n_aims, n_speeds, n_undoMany)) : Met l yX9_undo (WZ yX9_undo cX9_undo 4 (some .int)) (RM 0 0) (PC dC dI cI cJ [.ref (a 0)] (W_X9 a cI cJ c_length c_text c_stands c_homeFar c_nets c_netAt c_netWide c_netFrom c_netTo c_priceX c_priceY c_many c_days c_aims c_speeds c_kinds c_keptMany c_undoMany c_undos c_spot c_told c_to c_stood c_home c_lost c_out c_fewest c_ways c_next c_held)) (QI dC dI (W_X9 a cI cJ c_length c_text c_stands c_homeFar c_nets c_netAt c_netWide c_netFrom c_netTo c_priceX c_priceY c_many c_days c_aims c_speeds c_kinds c_keptMany c_undoMany c_undos c_spot c_told c_to c_stood c_home c_lost c_out c_fewest c_ways c_next c_held) (W_X9 a cI cJ c_length c_text c_stands c_homeFar c_nets c_netAt c_netWide c_netFrom c_netTo c_priceX c_priceY c_many n_days n_aims n_speeds c_kinds c_keptMany n_undoMany c_undos c_spot c_told c_to c_stood c_home c_lost c_out c_fewest c_ways c_next c_held) res) 0 0 (FA (W_X9 a cI cJ c_length c_text c_stands c_homeFar c_nets c_netAt c_netWide c_netFrom c_netTo c_priceX c_priceY c_many c_days c_aims c_speeds c_kinds c_keptMany c_undoMany c_undos c_spot c_told c_to c_stood c_home c_lost c_out c_fewest c_ways c_next c_held)) := by
  refine r_metI (by decide +kernel) (Nat.le_of_ble_eq_true rfl) ?_
  intro p e s m args below meth c A H0 QQ X ret ls hl hG
  have X : Cx p m c cX9_undo 4 s args RX9 dC dI cI cJ meth (some .int) := X
  have hx := X.1.1
  have hb := X.1.2.1
  have hl : lv_has ls 4 [(0, .ref (a 0))] := hl
  have h := hD
  unfold DX9_undo at h
  clear hD
  refine lv_aload_n hx hb dX9_undo_0 rfl (lv_at hl 0 rfl) ?_
  refine r_get X hG in_X9 rfl 17 (by decide) w_648 0 rfl rfl dX9_undo_1 ?_
  refine lv_if_ne (tgt := 10) hx hb dX9_undo_4 (by decide) (fun c_1 => ?_) (fun c_1 => ?_)
  · have h := ite_f h c_1
    refine lv_aload_n hx hb dX9_undo_10 rfl (lv_at hl 0 rfl) ?_
    refine lv_dup hx hb dX9_undo_11 rfl ?_
    refine r_get X hG in_X9 rfl 17 (by decide) w_648 0 rfl rfl dX9_undo_12 ?_
    refine lv_iconst (v := (1 : Int32)) hx hb dX9_undo_15 (by decide) ?_
    refine lv_isub hx hb dX9_undo_16 ?_
    refine r_put X hG in_X9 rfl tyX9 tyX9_ok nmX9 17 (by decide) rfl (by decide +kernel) w_648 0 (ws' := (W_X9 a cI cJ c_length c_text c_stands c_homeFar c_nets c_netAt c_netWide c_netFrom c_netTo c_priceX c_priceY c_many c_days c_aims c_speeds c_kinds c_keptMany (c_undoMany - (1 : Int32)) c_undos c_spot c_told c_to c_stood c_home c_lost c_out c_fewest c_ways c_next c_held)) rfl (Nat.le_of_ble_eq_true rfl) rfl dX9_undo_17 (fun H locs hG => ?_)
    refine lv_aload_n hx hb dX9_undo_20 rfl (lv_at hl 0 rfl) ?_
    refine r_get X hG in_X9 rfl 18 (by decide) w_649 0 rfl rfl dX9_undo_21 ?_
    refine lv_iconst (v := (3 : Int32)) hx hb dX9_undo_24 (by decide) ?_
    refine lv_aload_n hx hb dX9_undo_25 rfl (lv_at hl 0 rfl) ?_
    refine r_get X hG in_X9 rfl 17 (by decide) w_648 0 rfl rfl dX9_undo_26 ?_
    refine lv_imul hx hb dX9_undo_29 ?_
    obtain ⟨g_2, h⟩ := gd h
    refine r_iald X hG 16 rfl g_2 dX9_undo_30 ?_
    refine lv_istore_n (lv' := [(1, .int (c_undos ((3 : Int32) * (c_undoMany - (1 : Int32))).toNatClampNeg)), (0, .ref (a 0))]) hx hb dX9_undo_31 rfl hl (by decide) rfl (fun ls hl => ?_)
    refine lv_aload_n hx hb dX9_undo_32 rfl (lv_at hl 1 rfl) ?_
    refine r_get X hG in_X9 rfl 18 (by decide) w_649 0 rfl rfl dX9_undo_33 ?_
    refine lv_iconst (v := (3 : Int32)) hx hb dX9_undo_36 (by decide) ?_
    refine lv_aload_n hx hb dX9_undo_37 rfl (lv_at hl 1 rfl) ?_
    refine r_get X hG in_X9 rfl 17 (by decide) w_648 0 rfl rfl dX9_undo_38 ?_
    refine lv_imul hx hb dX9_undo_41 ?_
    refine lv_iconst (v := (1 : Int32)) hx hb dX9_undo_42 (by decide) ?_
    refine lv_iadd hx hb dX9_undo_43 ?_
    obtain ⟨g_3, h⟩ := gd h
    refine r_iald X hG 16 rfl g_3 dX9_undo_44 ?_
    refine lv_istore_n (lv' := [(2, .int (c_undos (((3 : Int32) * (c_undoMany - (1 : Int32))) + (1 : Int32)).toNatClampNeg)), (1, .int (c_undos ((3 : Int32) * (c_undoMany - (1 : Int32))).toNatClampNeg)), (0, .ref (a 0))]) hx hb dX9_undo_45 rfl hl (by decide) rfl (fun ls hl => ?_)
    refine lv_aload_n hx hb dX9_undo_46 rfl (lv_at hl 2 rfl) ?_
    refine r_get X hG in_X9 rfl 18 (by decide) w_649 0 rfl rfl dX9_undo_47 ?_
    refine lv_iconst (v := (3 : Int32)) hx hb dX9_undo_50 (by decide) ?_
    refine lv_aload_n hx hb dX9_undo_51 rfl (lv_at hl 2 rfl) ?_
    refine r_get X hG in_X9 rfl 17 (by decide) w_648 0 rfl rfl dX9_undo_52 ?_
    refine lv_imul hx hb dX9_undo_55 ?_
    refine lv_iconst (v := (2 : Int32)) hx hb dX9_undo_56 (by decide) ?_
    refine lv_iadd hx hb dX9_undo_57 ?_
    obtain ⟨g_4, h⟩ := gd h
    refine r_iald X hG 16 rfl g_4 dX9_undo_58 ?_
    refine lv_istore_n (lv' := [(3, .int (c_undos (((3 : Int32) * (c_undoMany - (1 : Int32))) + (2 : Int32)).toNatClampNeg)), (2, .int (c_undos (((3 : Int32) * (c_undoMany - (1 : Int32))) + (1 : Int32)).toNatClampNeg)), (1, .int (c_undos ((3 : Int32) * (c_undoMany - (1 : Int32))).toNatClampNeg)), (0, .ref (a 0))]) hx hb dX9_undo_59 rfl hl (by decide) rfl (fun ls hl => ?_)
    refine lv_iload_n hx hb dX9_undo_60 rfl (lv_at hl 2 rfl) ?_
    refine lv_if_ne (tgt := 74) hx hb dX9_undo_61 (by decide) (fun c_5 => ?_) (fun c_5 => ?_)
    · have h := ite_f h c_5
      refine lv_iload_n hx hb dX9_undo_74 rfl (lv_at hl 2 rfl) ?_
      refine lv_iconst (v := (1 : Int32)) hx hb dX9_undo_75 (by decide) ?_
      refine lv_icmp_ne (tgt := 89) hx hb dX9_undo_76 (by decide) (fun c_6 => ?_) (fun c_6 => ?_)
      · have h := ite_f h c_6
        refine lv_aload_n hx hb dX9_undo_89 rfl (lv_at hl 3 rfl) ?_
        refine r_get X hG in_X9 rfl 14 (by decide) w_645 0 rfl rfl dX9_undo_90 ?_
        refine lv_iload_n hx hb dX9_undo_93 rfl (lv_at hl 1 rfl) ?_
        refine lv_iload_n hx hb dX9_undo_94 rfl (lv_at hl 0 rfl) ?_
        obtain ⟨g_7, h⟩ := gd h
        refine r_iast X hG 14 (ws' := (W_X9 a cI cJ c_length c_text c_stands c_homeFar c_nets c_netAt c_netWide c_netFrom c_netTo c_priceX c_priceY c_many c_days c_aims (upd c_speeds (c_undos (((3 : Int32) * (c_undoMany - (1 : Int32))) + (1 : Int32)).toNatClampNeg).toNatClampNeg (c_undos (((3 : Int32) * (c_undoMany - (1 : Int32))) + (2 : Int32)).toNatClampNeg)) c_kinds c_keptMany (c_undoMany - (1 : Int32)) c_undos c_spot c_told c_to c_stood c_home c_lost c_out c_fewest c_ways c_next c_held)) rfl g_7 rfl dX9_undo_95 (fun H locs hG => ?_)
        refine lv_aload_n hx hb dX9_undo_96 rfl (lv_at hl 3 rfl) ?_
        refine r_get X hG in_X9 rfl 17 (by decide) w_648 0 rfl rfl dX9_undo_97 ?_
        cases h
        exact ret _ _ _ _ dX9_undo_100 hG
      · have h := ite_t h c_6
        refine lv_aload_n hx hb dX9_undo_79 rfl (lv_at hl 3 rfl) ?_
        refine r_get X hG in_X9 rfl 12 (by decide) w_643 0 rfl rfl dX9_undo_80 ?_
        refine lv_iload_n hx hb dX9_undo_83 rfl (lv_at hl 1 rfl) ?_
        refine lv_iload_n hx hb dX9_undo_84 rfl (lv_at hl 0 rfl) ?_
        obtain ⟨g_8, h⟩ := gd h
        refine r_iast X hG 12 (ws' := (W_X9 a cI cJ c_length c_text c_stands c_homeFar c_nets c_netAt c_netWide c_netFrom c_netTo c_priceX c_priceY c_many (upd c_days (c_undos (((3 : Int32) * (c_undoMany - (1 : Int32))) + (1 : Int32)).toNatClampNeg).toNatClampNeg (c_undos (((3 : Int32) * (c_undoMany - (1 : Int32))) + (2 : Int32)).toNatClampNeg)) c_aims c_speeds c_kinds c_keptMany (c_undoMany - (1 : Int32)) c_undos c_spot c_told c_to c_stood c_home c_lost c_out c_fewest c_ways c_next c_held)) rfl g_8 rfl dX9_undo_85 (fun H locs hG => ?_)
        refine lv_goto (tgt := 96) hx hb dX9_undo_86 (by decide) ?_
        refine lv_aload_n hx hb dX9_undo_96 rfl (lv_at hl 3 rfl) ?_
        refine r_get X hG in_X9 rfl 17 (by decide) w_648 0 rfl rfl dX9_undo_97 ?_
        cases h
        exact ret _ _ _ _ dX9_undo_100 hG
    · have h := ite_t h c_5
      refine lv_aload_n hx hb dX9_undo_64 rfl (lv_at hl 3 rfl) ?_
      refine r_get X hG in_X9 rfl 13 (by decide) w_644 0 rfl rfl dX9_undo_65 ?_
      refine lv_iload_n hx hb dX9_undo_68 rfl (lv_at hl 1 rfl) ?_
      refine lv_iload_n hx hb dX9_undo_69 rfl (lv_at hl 0 rfl) ?_
      obtain ⟨g_9, h⟩ := gd h
      refine r_iast X hG 13 (ws' := (W_X9 a cI cJ c_length c_text c_stands c_homeFar c_nets c_netAt c_netWide c_netFrom c_netTo c_priceX c_priceY c_many c_days (upd c_aims (c_undos (((3 : Int32) * (c_undoMany - (1 : Int32))) + (1 : Int32)).toNatClampNeg).toNatClampNeg (c_undos (((3 : Int32) * (c_undoMany - (1 : Int32))) + (2 : Int32)).toNatClampNeg)) c_speeds c_kinds c_keptMany (c_undoMany - (1 : Int32)) c_undos c_spot c_told c_to c_stood c_home c_lost c_out c_fewest c_ways c_next c_held)) rfl g_9 rfl dX9_undo_70 (fun H locs hG => ?_)
      refine lv_goto (tgt := 96) hx hb dX9_undo_71 (by decide) ?_
      refine lv_aload_n hx hb dX9_undo_96 rfl (lv_at hl 3 rfl) ?_
      refine r_get X hG in_X9 rfl 17 (by decide) w_648 0 rfl rfl dX9_undo_97 ?_
      cases h
      exact ret _ _ _ _ dX9_undo_100 hG
  · have h := ite_t h c_1
    refine lv_bipush (v := (-2 : Int32)) hx hb dX9_undo_7 (by decide) ?_
    cases h
    exact ret _ _ _ _ dX9_undo_9 hG
set_option maxRecDepth 100000 in
set_option maxHeartbeats 4000000 in
theorem mX9_bestAim (l : Launch) (dC : Nat → ClassId) (dI : Nat → Nat → Nat) (cI cJ : ClassId) (a : Nat → Nat) (c_length : Int32) (c_text : Nat → Int32) (c_stands : Nat → Int32) (c_homeFar : Nat → Int32) (c_nets : Nat → Int32) (c_netAt : Nat → Int32) (c_netWide : Nat → Int32) (c_netFrom : Nat → Int32) (c_netTo : Nat → Int32) (c_priceX : Nat → Int32) (c_priceY : Nat → Int32) (c_many : Nat → Int32) (c_days : Nat → Int32) (c_aims : Nat → Int32) (c_speeds : Nat → Int32) (c_kinds : Nat → Int32) (c_keptMany : Int32) (c_undoMany : Int32) (c_undos : Nat → Int32) (c_spot : Int32) (c_told : Nat → Int32) (c_to : Nat → Int32) (c_stood : Nat → Int32) (c_home : Nat → Int32) (c_lost : Nat → Int32) (c_out : Int32) (c_fewest : Nat → Int32) (c_ways : Nat → Int64) (c_next : Nat → Int64) (c_held : Nat → Int32) (x1 : Int32) (x2 : Int32) {res : Int32} {n_aims : Nat → Int32} {n_to : Nat → Int32} {n_stood : Nat → Int32} {n_home : Nat → Int32} {n_lost : Nat → Int32} {n_out : Int32} (hD : DX9_bestAim x1 x2 c_stands c_homeFar c_nets c_netAt c_netWide c_netFrom c_netTo c_many c_days c_aims c_speeds c_kinds c_to c_stood c_home c_lost c_out = some (res, n_aims, n_to, n_stood, n_home, n_lost, n_out)) : Met l yX9_bestAim (WZ yX9_bestAim cX9_bestAim 8 (some .int)) (RM 5 109) (PC dC dI cI cJ [.ref (a 0), .int x1, .int x2] (W_X9 a cI cJ c_length c_text c_stands c_homeFar c_nets c_netAt c_netWide c_netFrom c_netTo c_priceX c_priceY c_many c_days c_aims c_speeds c_kinds c_keptMany c_undoMany c_undos c_spot c_told c_to c_stood c_home c_lost c_out c_fewest c_ways c_next c_held)) (QI dC dI (W_X9 a cI cJ c_length c_text c_stands c_homeFar c_nets c_netAt c_netWide c_netFrom c_netTo c_priceX c_priceY c_many c_days c_aims c_speeds c_kinds c_keptMany c_undoMany c_undos c_spot c_told c_to c_stood c_home c_lost c_out c_fewest c_ways c_next c_held) (W_X9 a cI cJ c_length c_text c_stands c_homeFar c_nets c_netAt c_netWide c_netFrom c_netTo c_priceX c_priceY c_many c_days n_aims c_speeds c_kinds c_keptMany c_undoMany c_undos c_spot c_told n_to n_stood n_home n_lost n_out c_fewest c_ways c_next c_held) res) 0 0 (FA (W_X9 a cI cJ c_length c_text c_stands c_homeFar c_nets c_netAt c_netWide c_netFrom c_netTo c_priceX c_priceY c_many c_days c_aims c_speeds c_kinds c_keptMany c_undoMany c_undos c_spot c_told c_to c_stood c_home c_lost c_out c_fewest c_ways c_next c_held)) := by
  refine r_metI (by decide +kernel) (Nat.le_of_ble_eq_true rfl) ?_
  intro p e s m args below meth c A H0 QQ X ret ls hl hG
  have X : Cx p m c cX9_bestAim 8 s args RX9 dC dI cI cJ meth (some .int) := X
  have hx := X.1.1
  have hb := X.1.2.1
  have hl : lv_has ls 8 [(0, .ref (a 0)), (1, .int x1), (2, .int x2)] := hl
  have J78 : ∀ (y0 : Int32) (x3 : Int32) (x5 : Int32) (x6 : Int32) (x7 : Int32) (c_aims : Nat → Int32) (c_to : Nat → Int32) (c_stood : Nat → Int32) (c_home : Nat → Int32) (c_lost : Nat → Int32) (c_out : Int32), ∀ (w : (Int32 × Int32 × Int32 × (Nat → Int32) × (Nat → Int32) × (Nat → Int32) × (Nat → Int32) × (Nat → Int32) × Int32) ⊕ (Int32 × Int32 × (Nat → Int32) × (Nat → Int32) × (Nat → Int32) × (Nat → Int32) × (Nat → Int32) × Int32)), DX9_bestAim_J78 c_aims c_to c_stood c_home c_lost c_out y0 x5 x6 x7 = some w → (∀ (x4 : Int32) (x5 : Int32) (x6 : Int32) (c_aims : Nat → Int32) (c_to : Nat → Int32) (c_stood : Nat → Int32) (c_home : Nat → Int32) (c_lost : Nat → Int32) (c_out : Int32), w = .inl (x4, x5, x6, c_aims, c_to, c_stood, c_home, c_lost, c_out) → ∀ (ls : Array Slot) (H : Heap) (locs : List Loc), lv_has ls 8 [(0, .ref (a 0)), (1, .int x1), (2, .int x2), (3, .int x3), (4, .int x4), (5, .int x5), (6, .int x6)] → G dC dI A H0 (W_X9 a cI cJ c_length c_text c_stands c_homeFar c_nets c_netAt c_netWide c_netFrom c_netTo c_priceX c_priceY c_many c_days c_aims c_speeds c_kinds c_keptMany c_undoMany c_undos c_spot c_told c_to c_stood c_home c_lost c_out c_fewest c_ways c_next c_held) H locs → W p l e (RM 5 109) s m args below meth c H locs 0 0 QQ (F0 m 37 ls [])) → (∀ (x4 : Int32) (x5 : Int32) (c_aims : Nat → Int32) (c_to : Nat → Int32) (c_stood : Nat → Int32) (c_home : Nat → Int32) (c_lost : Nat → Int32) (c_out : Int32), w = .inr (x4, x5, c_aims, c_to, c_stood, c_home, c_lost, c_out) → ∀ (ls : Array Slot) (H : Heap) (locs : List Loc), lv_has ls 8 [(0, .ref (a 0)), (1, .int x1), (2, .int x2), (3, .int x3), (4, .int x4), (5, .int x5)] → G dC dI A H0 (W_X9 a cI cJ c_length c_text c_stands c_homeFar c_nets c_netAt c_netWide c_netFrom c_netTo c_priceX c_priceY c_many c_days c_aims c_speeds c_kinds c_keptMany c_undoMany c_undos c_spot c_told c_to c_stood c_home c_lost c_out c_fewest c_ways c_next c_held) H locs → W p l e (RM 5 109) s m args below meth c H locs 0 0 QQ (F0 m 102 ls [])) → ∀ (ls : Array Slot) (H : Heap) (locs : List Loc), lv_has ls 8 [(0, .ref (a 0)), (1, .int x1), (2, .int x2), (3, .int x3), (5, .int x5), (6, .int x6), (7, .int x7)] → G dC dI A H0 (W_X9 a cI cJ c_length c_text c_stands c_homeFar c_nets c_netAt c_netWide c_netFrom c_netTo c_priceX c_priceY c_many c_days c_aims c_speeds c_kinds c_keptMany c_undoMany c_undos c_spot c_told c_to c_stood c_home c_lost c_out c_fewest c_ways c_next c_held) H locs → W p l e (RM 5 109) s m args below meth c H locs 0 0 QQ (F0 m 78 ls [.int y0]) := by
    intro y0 x3 x5 x6 x7 c_aims c_to c_stood c_home c_lost c_out w h KC KX ls H locs hl hG
    unfold DX9_bestAim_J78 at h
    refine lv_istore (lv' := [(4, .int y0), (0, .ref (a 0)), (1, .int x1), (2, .int x2), (3, .int x3), (5, .int x5), (6, .int x6), (7, .int x7)]) hx hb dX9_bestAim_78 hl (by decide) rfl (fun ls hl => ?_)
    refine lv_iload hx hb dX9_bestAim_80 (lv_at hl 7 rfl) ?_
    refine lv_iload hx hb dX9_bestAim_82 (lv_at hl 5 rfl) ?_
    refine lv_icmp_le (tgt := 92) hx hb dX9_bestAim_84 (by decide) (fun c_19 => ?_) (fun c_19 => ?_)
    · have h := ite_t h c_19
      refine lv_iload hx hb dX9_bestAim_92 (lv_at hl 5 rfl) ?_
      refine lv_istore (lv' := [(5, .int x5), (4, .int y0), (0, .ref (a 0)), (1, .int x1), (2, .int x2), (3, .int x3), (6, .int x6), (7, .int x7)]) hx hb dX9_bestAim_94 hl (by decide) rfl (fun ls hl => ?_)
      refine lv_iinc (v := (x6 + (1 : Int32))) (lv' := [(6, .int (x6 + (1 : Int32))), (5, .int x5), (4, .int y0), (0, .ref (a 0)), (1, .int x1), (2, .int x2), (3, .int x3), (7, .int x7)]) hx hb dX9_bestAim_96 hl (k := 6) rfl rfl (by decide) rfl (fun ls hl => ?_)
      refine lv_goto (tgt := 37) hx hb dX9_bestAim_99 (by decide) ?_
      exact KC _ _ _ _ _ _ _ _ _ (Option.some.inj h).symm _ _ _ (lv_sub hl [3, 4, 5, 6, 2, 1, 0] rfl) hG
    · have h := ite_f h c_19
      refine lv_iload hx hb dX9_bestAim_87 (lv_at hl 7 rfl) ?_
      refine lv_goto (tgt := 94) hx hb dX9_bestAim_89 (by decide) ?_
      refine lv_istore (lv' := [(5, .int x7), (4, .int y0), (0, .ref (a 0)), (1, .int x1), (2, .int x2), (3, .int x3), (6, .int x6), (7, .int x7)]) hx hb dX9_bestAim_94 hl (by decide) rfl (fun ls hl => ?_)
      refine lv_iinc (v := (x6 + (1 : Int32))) (lv' := [(6, .int (x6 + (1 : Int32))), (5, .int x7), (4, .int y0), (0, .ref (a 0)), (1, .int x1), (2, .int x2), (3, .int x3), (7, .int x7)]) hx hb dX9_bestAim_96 hl (k := 6) rfl rfl (by decide) rfl (fun ls hl => ?_)
      refine lv_goto (tgt := 37) hx hb dX9_bestAim_99 (by decide) ?_
      exact KC _ _ _ _ _ _ _ _ _ (Option.some.inj h).symm _ _ _ (lv_sub hl [3, 4, 5, 6, 2, 1, 0] rfl) hG
  have L37 : ∀ (x3 : Int32), ∀ (n : Nat) (x4 : Int32) (x5 : Int32) (x6 : Int32) (c_aims : Nat → Int32) (c_to : Nat → Int32) (c_stood : Nat → Int32) (c_home : Nat → Int32) (c_lost : Nat → Int32) (c_out : Int32) (ex4 : Int32) (ex5 : Int32) (ec_aims : Nat → Int32) (ec_to : Nat → Int32) (ec_stood : Nat → Int32) (ec_home : Nat → Int32) (ec_lost : Nat → Int32) (ec_out : Int32), DX9_bestAim_L37 x1 c_stands c_homeFar c_nets c_netAt c_netWide c_netFrom c_netTo c_many c_days c_speeds c_kinds n x4 x5 x6 c_aims c_to c_stood c_home c_lost c_out = some (ex4, ex5, ec_aims, ec_to, ec_stood, ec_home, ec_lost, ec_out) → (∀ (ls : Array Slot) (H : Heap) (locs : List Loc), lv_has ls 8 [(0, .ref (a 0)), (1, .int x1), (2, .int x2), (3, .int x3), (4, .int ex4), (5, .int ex5)] → G dC dI A H0 (W_X9 a cI cJ c_length c_text c_stands c_homeFar c_nets c_netAt c_netWide c_netFrom c_netTo c_priceX c_priceY c_many c_days ec_aims c_speeds c_kinds c_keptMany c_undoMany c_undos c_spot c_told ec_to ec_stood ec_home ec_lost ec_out c_fewest c_ways c_next c_held) H locs → W p l e (RM 5 109) s m args below meth c H locs 0 0 QQ (F0 m 102 ls [])) → ∀ (ls : Array Slot) (H : Heap) (locs : List Loc), lv_has ls 8 [(0, .ref (a 0)), (1, .int x1), (2, .int x2), (3, .int x3), (4, .int x4), (5, .int x5), (6, .int x6)] → G dC dI A H0 (W_X9 a cI cJ c_length c_text c_stands c_homeFar c_nets c_netAt c_netWide c_netFrom c_netTo c_priceX c_priceY c_many c_days c_aims c_speeds c_kinds c_keptMany c_undoMany c_undos c_spot c_told c_to c_stood c_home c_lost c_out c_fewest c_ways c_next c_held) H locs → W p l e (RM 5 109) s m args below meth c H locs 0 0 QQ (F0 m 37 ls []) := by
    intro x3 n
    induction n with
    | zero => intro x4 x5 x6 c_aims c_to c_stood c_home c_lost c_out ex4 ex5 ec_aims ec_to ec_stood ec_home ec_lost ec_out h; exact it_zero h
    | succ n ih =>
      intro x4 x5 x6 c_aims c_to c_stood c_home c_lost c_out ex4 ex5 ec_aims ec_to ec_stood ec_home ec_lost ec_out h0 K0 ls H locs hl hG
      obtain ⟨w, h, hi, hr⟩ := it_succ h0
      have h : DX9_bestAim_L37s x1 c_stands c_homeFar c_nets c_netAt c_netWide c_netFrom c_netTo c_many c_days c_speeds c_kinds x4 x5 x6 c_aims c_to c_stood c_home c_lost c_out = some w := h
      have KC : ∀ (x4 : Int32) (x5 : Int32) (x6 : Int32) (c_aims : Nat → Int32) (c_to : Nat → Int32) (c_stood : Nat → Int32) (c_home : Nat → Int32) (c_lost : Nat → Int32) (c_out : Int32), w = .inl (x4, x5, x6, c_aims, c_to, c_stood, c_home, c_lost, c_out) → ∀ (ls : Array Slot) (H : Heap) (locs : List Loc), lv_has ls 8 [(0, .ref (a 0)), (1, .int x1), (2, .int x2), (3, .int x3), (4, .int x4), (5, .int x5), (6, .int x6)] → G dC dI A H0 (W_X9 a cI cJ c_length c_text c_stands c_homeFar c_nets c_netAt c_netWide c_netFrom c_netTo c_priceX c_priceY c_many c_days c_aims c_speeds c_kinds c_keptMany c_undoMany c_undos c_spot c_told c_to c_stood c_home c_lost c_out c_fewest c_ways c_next c_held) H locs → W p l e (RM 5 109) s m args below meth c H locs 0 0 QQ (F0 m 37 ls []) := fun b0 b1 b2 b3 b4 b5 b6 b7 b8 e ls H locs hl hG => ih b0 b1 b2 b3 b4 b5 b6 b7 b8 ex4 ex5 ec_aims ec_to ec_stood ec_home ec_lost ec_out (hi _ e) K0 ls H locs hl hG
      have KX : ∀ (x4 : Int32) (x5 : Int32) (c_aims : Nat → Int32) (c_to : Nat → Int32) (c_stood : Nat → Int32) (c_home : Nat → Int32) (c_lost : Nat → Int32) (c_out : Int32), w = .inr (x4, x5, c_aims, c_to, c_stood, c_home, c_lost, c_out) → ∀ (ls : Array Slot) (H : Heap) (locs : List Loc), lv_has ls 8 [(0, .ref (a 0)), (1, .int x1), (2, .int x2), (3, .int x3), (4, .int x4), (5, .int x5)] → G dC dI A H0 (W_X9 a cI cJ c_length c_text c_stands c_homeFar c_nets c_netAt c_netWide c_netFrom c_netTo c_priceX c_priceY c_many c_days c_aims c_speeds c_kinds c_keptMany c_undoMany c_undos c_spot c_told c_to c_stood c_home c_lost c_out c_fewest c_ways c_next c_held) H locs → W p l e (RM 5 109) s m args below meth c H locs 0 0 QQ (F0 m 102 ls []) := fun b0 b1 b2 b3 b4 b5 b6 b7 e ls H locs hl hG => by cases hr _ e; exact K0 ls H locs hl hG
      clear h0 hi hr K0 ih
      unfold DX9_bestAim_L37s at h
      refine lv_iload hx hb dX9_bestAim_37 (lv_at hl 6 rfl) ?_
      refine lv_bipush (v := (24 : Int32)) hx hb dX9_bestAim_39 (by decide) ?_
      refine lv_icmp_ge (tgt := 102) hx hb dX9_bestAim_41 (by decide) (fun c_8 => ?_) (fun c_8 => ?_)
      · have h := ite_t h c_8
        exact KX _ _ _ _ _ _ _ _ (Option.some.inj h).symm _ _ _ (lv_sub hl [0, 1, 2, 3, 4, 5] rfl) hG
      · have h := ite_f h c_8
        refine lv_aload_n hx hb dX9_bestAim_44 rfl (lv_at hl 0 rfl) ?_
        refine r_get X hG in_X9 rfl 13 (by decide) w_644 0 rfl rfl dX9_bestAim_45 ?_
        refine lv_iload_n hx hb dX9_bestAim_48 rfl (lv_at hl 1 rfl) ?_
        refine lv_iload hx hb dX9_bestAim_49 (lv_at hl 6 rfl) ?_
        obtain ⟨g_9, h⟩ := gd h
        refine r_iast X hG 13 (ws' := (W_X9 a cI cJ c_length c_text c_stands c_homeFar c_nets c_netAt c_netWide c_netFrom c_netTo c_priceX c_priceY c_many c_days (upd c_aims x1.toNatClampNeg x6) c_speeds c_kinds c_keptMany c_undoMany c_undos c_spot c_told c_to c_stood c_home c_lost c_out c_fewest c_ways c_next c_held)) rfl g_9 rfl dX9_bestAim_51 (fun H locs hG => ?_)
        refine lv_aload_n hx hb dX9_bestAim_52 rfl (lv_at hl 0 rfl) ?_
        refine lv_iconst (v := (0 : Int32)) hx hb dX9_bestAim_53 (by decide) ?_
        obtain ⟨k_to_10, k_stood_11, k_home_12, k_lost_13, k_out_14, hz_15, h⟩ := bd5_some h
        refine aft_v1 (run_V1 (rest := []) X hG hl.1 (mX9_go l dC dI cI cJ a c_length c_text c_stands c_homeFar c_nets c_netAt c_netWide c_netFrom c_netTo c_priceX c_priceY c_many c_days (upd c_aims x1.toNatClampNeg x6) c_speeds c_kinds c_keptMany c_undoMany c_undos c_spot c_told c_to c_stood c_home c_lost c_out c_fewest c_ways c_next c_held (0 : Int32) hz_15) gi_V_X9_185 hd_V_yX9_go ⟨rfl, rfl⟩ rfl ⟨Nat.le_of_ble_eq_true rfl, Nat.le_of_ble_eq_true rfl⟩ 0 rfl rfl rfl rfl (Nat.le_of_ble_eq_true rfl) ⟨Nat.le_of_ble_eq_true rfl, Nat.le_of_ble_eq_true rfl⟩ dX9_bestAim_54) hG rfl (fun H locs hG => ?_)
        clear hz_15
        refine lv_aload_n hx hb dX9_bestAim_57 rfl (lv_at hl 0 rfl) ?_
        refine lv_iconst (v := (0 : Int32)) hx hb dX9_bestAim_58 (by decide) ?_
        obtain ⟨r_16, hz_17, h⟩ := bd1_some h
        refine aft_i1 (run_V1 (rest := []) X hG hl.1 (mX9_howMany l dC dI cI cJ a c_length c_text c_stands c_homeFar c_nets c_netAt c_netWide c_netFrom c_netTo c_priceX c_priceY c_many c_days (upd c_aims x1.toNatClampNeg x6) c_speeds c_kinds c_keptMany c_undoMany c_undos c_spot c_told k_to_10 k_stood_11 k_home_12 k_lost_13 k_out_14 c_fewest c_ways c_next c_held (0 : Int32) hz_17) gi_V_X9_198 hd_V_yX9_howMany ⟨rfl, rfl⟩ rfl ⟨Nat.le_of_ble_eq_true rfl, Nat.le_of_ble_eq_true rfl⟩ 0 rfl rfl rfl rfl (Nat.le_of_ble_eq_true rfl) ⟨Nat.le_of_ble_eq_true rfl, Nat.le_of_ble_eq_true rfl⟩ dX9_bestAim_59) hG rfl (fun H locs hG => ?_)
        clear hz_17
        refine lv_istore (lv' := [(7, .int r_16), (0, .ref (a 0)), (1, .int x1), (2, .int x2), (3, .int x3), (4, .int x4), (5, .int x5), (6, .int x6)]) hx hb dX9_bestAim_62 hl (by decide) rfl (fun ls hl => ?_)
        refine lv_iload hx hb dX9_bestAim_64 (lv_at hl 0 rfl) ?_
        refine lv_iload hx hb dX9_bestAim_66 (lv_at hl 6 rfl) ?_
        refine lv_icmp_le (tgt := 76) hx hb dX9_bestAim_68 (by decide) (fun c_18 => ?_) (fun c_18 => ?_)
        · have h := ite_t h c_18
          refine lv_iload hx hb dX9_bestAim_76 (lv_at hl 5 rfl) ?_
          exact J78 x4 x3 x5 x6 r_16 (upd c_aims x1.toNatClampNeg x6) k_to_10 k_stood_11 k_home_12 k_lost_13 k_out_14 _ h KC KX _ _ _ (lv_sub hl [1, 2, 3, 4, 6, 7, 0] rfl) hG
        · have h := ite_f h c_18
          refine lv_iload hx hb dX9_bestAim_71 (lv_at hl 7 rfl) ?_
          refine lv_goto (tgt := 78) hx hb dX9_bestAim_73 (by decide) ?_
          exact J78 x6 x3 x5 x6 r_16 (upd c_aims x1.toNatClampNeg x6) k_to_10 k_stood_11 k_home_12 k_lost_13 k_out_14 _ h KC KX _ _ _ (lv_sub hl [1, 2, 3, 4, 6, 7, 0] rfl) hG
  have h := hD
  unfold DX9_bestAim at h
  clear hD
  refine lv_aload_n hx hb dX9_bestAim_0 rfl (lv_at hl 0 rfl) ?_
  refine lv_iload_n hx hb dX9_bestAim_1 rfl (lv_at hl 1 rfl) ?_
  obtain ⟨r_1, hz_2, h⟩ := bd1_some h
  refine aft_i1 (run_V1 (rest := []) X hG hl.1 (mX9_isThrow l dC dI cI cJ a c_length c_text c_stands c_homeFar c_nets c_netAt c_netWide c_netFrom c_netTo c_priceX c_priceY c_many c_days c_aims c_speeds c_kinds c_keptMany c_undoMany c_undos c_spot c_told c_to c_stood c_home c_lost c_out c_fewest c_ways c_next c_held x1 hz_2) gi_V_X9_182 hd_V_yX9_isThrow ⟨rfl, rfl⟩ rfl ⟨Nat.le_of_ble_eq_true rfl, Nat.le_of_ble_eq_true rfl⟩ 0 rfl rfl rfl rfl (Nat.le_of_ble_eq_true rfl) ⟨Nat.le_of_ble_eq_true rfl, Nat.le_of_ble_eq_true rfl⟩ dX9_bestAim_2) hG rfl (fun H locs hG => ?_)
  clear hz_2
  refine lv_if_eq (tgt := 18) hx hb dX9_bestAim_5 (by decide) (fun c_3 => ?_) (fun c_3 => ?_)
  · have h := ite_t h c_3
    refine lv_iconst (v := (-1 : Int32)) hx hb dX9_bestAim_18 (by decide) ?_
    cases h
    exact ret _ _ _ _ dX9_bestAim_19 hG
  · have h := ite_f h c_3
    refine lv_iload_n hx hb dX9_bestAim_8 rfl (lv_at hl 2 rfl) ?_
    refine lv_i2l (v := (x2.toInt64)) hx hb dX9_bestAim_9 rfl ?_
    refine lv_lconst (v := (0 : Int64)) hx hb dX9_bestAim_10 (by decide) ?_
    refine lv_lconst (v := (1 : Int64)) hx hb dX9_bestAim_11 (by decide) ?_
    obtain ⟨r_4, hz_5, h⟩ := bd1_some h
    refine aft_i (ws' := (W_X9 a cI cJ c_length c_text c_stands c_homeFar c_nets c_netAt c_netWide c_netFrom c_netTo c_priceX c_priceY c_many c_days c_aims c_speeds c_kinds c_keptMany c_undoMany c_undos c_spot c_told c_to c_stood c_home c_lost c_out c_fewest c_ways c_next c_held)) (run_S (rest := []) X hG hl.1 (mX9_in l dC dI cI cJ (x2.toInt64) (0 : Int64) (1 : Int64) hz_5) gi_S_X9_92 hd_S_yX9_in ⟨rfl, rfl⟩ rfl ⟨Nat.le_of_ble_eq_true rfl, Nat.le_of_ble_eq_true rfl⟩ [] (by decide) rfl rfl (Nat.le_of_ble_eq_true rfl) ⟨Nat.le_of_ble_eq_true rfl, Nat.le_of_ble_eq_true rfl⟩ dX9_bestAim_12) hG [] rfl rfl rfl (fun H locs hG => ?_)
    clear hz_5
    refine lv_if_ne (tgt := 20) hx hb dX9_bestAim_15 (by decide) (fun c_6 => ?_) (fun c_6 => ?_)
    · have h := ite_f h c_6
      refine lv_aload_n hx hb dX9_bestAim_20 rfl (lv_at hl 0 rfl) ?_
      refine r_get X hG in_X9 rfl 13 (by decide) w_644 0 rfl rfl dX9_bestAim_21 ?_
      refine lv_iload_n hx hb dX9_bestAim_24 rfl (lv_at hl 1 rfl) ?_
      obtain ⟨g_7, h⟩ := gd h
      refine r_iald X hG 13 rfl g_7 dX9_bestAim_25 ?_
      refine lv_istore_n (lv' := [(3, .int (c_aims x1.toNatClampNeg)), (0, .ref (a 0)), (1, .int x1), (2, .int x2)]) hx hb dX9_bestAim_26 rfl hl (by decide) rfl (fun ls hl => ?_)
      refine lv_iconst (v := (0 : Int32)) hx hb dX9_bestAim_27 (by decide) ?_
      refine lv_istore (lv' := [(4, .int (0 : Int32)), (3, .int (c_aims x1.toNatClampNeg)), (0, .ref (a 0)), (1, .int x1), (2, .int x2)]) hx hb dX9_bestAim_28 hl (by decide) rfl (fun ls hl => ?_)
      refine lv_bipush (v := (-4 : Int32)) hx hb dX9_bestAim_30 (by decide) ?_
      refine lv_istore (lv' := [(5, .int (-4 : Int32)), (4, .int (0 : Int32)), (3, .int (c_aims x1.toNatClampNeg)), (0, .ref (a 0)), (1, .int x1), (2, .int x2)]) hx hb dX9_bestAim_32 hl (by decide) rfl (fun ls hl => ?_)
      refine lv_iconst (v := (0 : Int32)) hx hb dX9_bestAim_34 (by decide) ?_
      refine lv_istore (lv' := [(6, .int (0 : Int32)), (5, .int (-4 : Int32)), (4, .int (0 : Int32)), (3, .int (c_aims x1.toNatClampNeg)), (0, .ref (a 0)), (1, .int x1), (2, .int x2)]) hx hb dX9_bestAim_35 hl (by decide) rfl (fun ls hl => ?_)
      obtain ⟨z4_20, z5_21, k_aims_22, k_to_23, k_stood_24, k_home_25, k_lost_26, k_out_27, hz, h⟩ := bd8_some h
      refine L37 (c_aims x1.toNatClampNeg) FU (0 : Int32) (-4 : Int32) (0 : Int32) c_aims c_to c_stood c_home c_lost c_out _ _ _ _ _ _ _ _ hz (fun ls H locs hl hG => ?_) _ _ _ (lv_sub hl [4, 5, 6, 3, 2, 1, 0] rfl) hG
      clear hz
      refine lv_aload_n hx hb dX9_bestAim_102 rfl (lv_at hl 0 rfl) ?_
      refine r_get X hG in_X9 rfl 13 (by decide) w_644 0 rfl rfl dX9_bestAim_103 ?_
      refine lv_iload_n hx hb dX9_bestAim_106 rfl (lv_at hl 1 rfl) ?_
      refine lv_iload_n hx hb dX9_bestAim_107 rfl (lv_at hl 3 rfl) ?_
      obtain ⟨g_28, h⟩ := gd h
      refine r_iast X hG 13 (ws' := (W_X9 a cI cJ c_length c_text c_stands c_homeFar c_nets c_netAt c_netWide c_netFrom c_netTo c_priceX c_priceY c_many c_days (upd k_aims_22 x1.toNatClampNeg (c_aims x1.toNatClampNeg)) c_speeds c_kinds c_keptMany c_undoMany c_undos c_spot c_told k_to_23 k_stood_24 k_home_25 k_lost_26 k_out_27 c_fewest c_ways c_next c_held)) rfl g_28 rfl dX9_bestAim_108 (fun H locs hG => ?_)
      refine lv_iload_n hx hb dX9_bestAim_109 rfl (lv_at hl 2 rfl) ?_
      refine lv_if_ne (tgt := 118) hx hb dX9_bestAim_110 (by decide) (fun c_29 => ?_) (fun c_29 => ?_)
      · have h := ite_f h c_29
        refine lv_iload hx hb dX9_bestAim_118 (lv_at hl 5 rfl) ?_
        cases h
        exact ret _ _ _ _ dX9_bestAim_120 hG
      · have h := ite_t h c_29
        refine lv_iload hx hb dX9_bestAim_113 (lv_at hl 4 rfl) ?_
        refine lv_goto (tgt := 120) hx hb dX9_bestAim_115 (by decide) ?_
        cases h
        exact ret _ _ _ _ dX9_bestAim_120 hG
    · have h := ite_t h c_6
      refine lv_iconst (v := (-1 : Int32)) hx hb dX9_bestAim_18 (by decide) ?_
      cases h
      exact ret _ _ _ _ dX9_bestAim_19 hG
set_option maxRecDepth 100000 in
set_option maxHeartbeats 4000000 in
theorem mX9_bestDay (l : Launch) (dC : Nat → ClassId) (dI : Nat → Nat → Nat) (cI cJ : ClassId) (a : Nat → Nat) (c_length : Int32) (c_text : Nat → Int32) (c_stands : Nat → Int32) (c_homeFar : Nat → Int32) (c_nets : Nat → Int32) (c_netAt : Nat → Int32) (c_netWide : Nat → Int32) (c_netFrom : Nat → Int32) (c_netTo : Nat → Int32) (c_priceX : Nat → Int32) (c_priceY : Nat → Int32) (c_many : Nat → Int32) (c_days : Nat → Int32) (c_aims : Nat → Int32) (c_speeds : Nat → Int32) (c_kinds : Nat → Int32) (c_keptMany : Int32) (c_undoMany : Int32) (c_undos : Nat → Int32) (c_spot : Int32) (c_told : Nat → Int32) (c_to : Nat → Int32) (c_stood : Nat → Int32) (c_home : Nat → Int32) (c_lost : Nat → Int32) (c_out : Int32) (c_fewest : Nat → Int32) (c_ways : Nat → Int64) (c_next : Nat → Int64) (c_held : Nat → Int32) (x1 : Int32) (x2 : Int32) {res : Int32} {n_days : Nat → Int32} {n_to : Nat → Int32} {n_stood : Nat → Int32} {n_home : Nat → Int32} {n_lost : Nat → Int32} {n_out : Int32} (hD : DX9_bestDay x1 x2 c_stands c_homeFar c_nets c_netAt c_netWide c_netFrom c_netTo c_priceX c_priceY c_many c_days c_aims c_speeds c_kinds c_to c_stood c_home c_lost c_out = some (res, n_days, n_to, n_stood, n_home, n_lost, n_out)) : Met l yX9_bestDay (WZ yX9_bestDay cX9_bestDay 8 (some .int)) (RM 5 107) (PC dC dI cI cJ [.ref (a 0), .int x1, .int x2] (W_X9 a cI cJ c_length c_text c_stands c_homeFar c_nets c_netAt c_netWide c_netFrom c_netTo c_priceX c_priceY c_many c_days c_aims c_speeds c_kinds c_keptMany c_undoMany c_undos c_spot c_told c_to c_stood c_home c_lost c_out c_fewest c_ways c_next c_held)) (QI dC dI (W_X9 a cI cJ c_length c_text c_stands c_homeFar c_nets c_netAt c_netWide c_netFrom c_netTo c_priceX c_priceY c_many c_days c_aims c_speeds c_kinds c_keptMany c_undoMany c_undos c_spot c_told c_to c_stood c_home c_lost c_out c_fewest c_ways c_next c_held) (W_X9 a cI cJ c_length c_text c_stands c_homeFar c_nets c_netAt c_netWide c_netFrom c_netTo c_priceX c_priceY c_many n_days c_aims c_speeds c_kinds c_keptMany c_undoMany c_undos c_spot c_told n_to n_stood n_home n_lost n_out c_fewest c_ways c_next c_held) res) 0 0 (FA (W_X9 a cI cJ c_length c_text c_stands c_homeFar c_nets c_netAt c_netWide c_netFrom c_netTo c_priceX c_priceY c_many c_days c_aims c_speeds c_kinds c_keptMany c_undoMany c_undos c_spot c_told c_to c_stood c_home c_lost c_out c_fewest c_ways c_next c_held)) := by
  refine r_metI (by decide +kernel) (Nat.le_of_ble_eq_true rfl) ?_
  intro p e s m args below meth c A H0 QQ X ret ls hl hG
  have X : Cx p m c cX9_bestDay 8 s args RX9 dC dI cI cJ meth (some .int) := X
  have hx := X.1.1
  have hb := X.1.2.1
  have hl : lv_has ls 8 [(0, .ref (a 0)), (1, .int x1), (2, .int x2)] := hl
  have J78 : ∀ (y0 : Int32) (x3 : Int32) (x5 : Int32) (x6 : Int32) (x7 : Int32) (c_days : Nat → Int32) (c_to : Nat → Int32) (c_stood : Nat → Int32) (c_home : Nat → Int32) (c_lost : Nat → Int32) (c_out : Int32), ∀ (w : (Int32 × Int32 × Int32 × (Nat → Int32) × (Nat → Int32) × (Nat → Int32) × (Nat → Int32) × (Nat → Int32) × Int32) ⊕ (Int32 × Int32 × (Nat → Int32) × (Nat → Int32) × (Nat → Int32) × (Nat → Int32) × (Nat → Int32) × Int32)), DX9_bestDay_J78 c_days c_to c_stood c_home c_lost c_out y0 x5 x6 x7 = some w → (∀ (x4 : Int32) (x5 : Int32) (x6 : Int32) (c_days : Nat → Int32) (c_to : Nat → Int32) (c_stood : Nat → Int32) (c_home : Nat → Int32) (c_lost : Nat → Int32) (c_out : Int32), w = .inl (x4, x5, x6, c_days, c_to, c_stood, c_home, c_lost, c_out) → ∀ (ls : Array Slot) (H : Heap) (locs : List Loc), lv_has ls 8 [(0, .ref (a 0)), (1, .int x1), (2, .int x2), (3, .int x3), (4, .int x4), (5, .int x5), (6, .int x6)] → G dC dI A H0 (W_X9 a cI cJ c_length c_text c_stands c_homeFar c_nets c_netAt c_netWide c_netFrom c_netTo c_priceX c_priceY c_many c_days c_aims c_speeds c_kinds c_keptMany c_undoMany c_undos c_spot c_told c_to c_stood c_home c_lost c_out c_fewest c_ways c_next c_held) H locs → W p l e (RM 5 107) s m args below meth c H locs 0 0 QQ (F0 m 37 ls [])) → (∀ (x4 : Int32) (x5 : Int32) (c_days : Nat → Int32) (c_to : Nat → Int32) (c_stood : Nat → Int32) (c_home : Nat → Int32) (c_lost : Nat → Int32) (c_out : Int32), w = .inr (x4, x5, c_days, c_to, c_stood, c_home, c_lost, c_out) → ∀ (ls : Array Slot) (H : Heap) (locs : List Loc), lv_has ls 8 [(0, .ref (a 0)), (1, .int x1), (2, .int x2), (3, .int x3), (4, .int x4), (5, .int x5)] → G dC dI A H0 (W_X9 a cI cJ c_length c_text c_stands c_homeFar c_nets c_netAt c_netWide c_netFrom c_netTo c_priceX c_priceY c_many c_days c_aims c_speeds c_kinds c_keptMany c_undoMany c_undos c_spot c_told c_to c_stood c_home c_lost c_out c_fewest c_ways c_next c_held) H locs → W p l e (RM 5 107) s m args below meth c H locs 0 0 QQ (F0 m 102 ls [])) → ∀ (ls : Array Slot) (H : Heap) (locs : List Loc), lv_has ls 8 [(0, .ref (a 0)), (1, .int x1), (2, .int x2), (3, .int x3), (5, .int x5), (6, .int x6), (7, .int x7)] → G dC dI A H0 (W_X9 a cI cJ c_length c_text c_stands c_homeFar c_nets c_netAt c_netWide c_netFrom c_netTo c_priceX c_priceY c_many c_days c_aims c_speeds c_kinds c_keptMany c_undoMany c_undos c_spot c_told c_to c_stood c_home c_lost c_out c_fewest c_ways c_next c_held) H locs → W p l e (RM 5 107) s m args below meth c H locs 0 0 QQ (F0 m 78 ls [.int y0]) := by
    intro y0 x3 x5 x6 x7 c_days c_to c_stood c_home c_lost c_out w h KC KX ls H locs hl hG
    unfold DX9_bestDay_J78 at h
    refine lv_istore (lv' := [(4, .int y0), (0, .ref (a 0)), (1, .int x1), (2, .int x2), (3, .int x3), (5, .int x5), (6, .int x6), (7, .int x7)]) hx hb dX9_bestDay_78 hl (by decide) rfl (fun ls hl => ?_)
    refine lv_iload hx hb dX9_bestDay_80 (lv_at hl 7 rfl) ?_
    refine lv_iload hx hb dX9_bestDay_82 (lv_at hl 5 rfl) ?_
    refine lv_icmp_le (tgt := 92) hx hb dX9_bestDay_84 (by decide) (fun c_19 => ?_) (fun c_19 => ?_)
    · have h := ite_t h c_19
      refine lv_iload hx hb dX9_bestDay_92 (lv_at hl 5 rfl) ?_
      refine lv_istore (lv' := [(5, .int x5), (4, .int y0), (0, .ref (a 0)), (1, .int x1), (2, .int x2), (3, .int x3), (6, .int x6), (7, .int x7)]) hx hb dX9_bestDay_94 hl (by decide) rfl (fun ls hl => ?_)
      refine lv_iinc (v := (x6 + (1 : Int32))) (lv' := [(6, .int (x6 + (1 : Int32))), (5, .int x5), (4, .int y0), (0, .ref (a 0)), (1, .int x1), (2, .int x2), (3, .int x3), (7, .int x7)]) hx hb dX9_bestDay_96 hl (k := 6) rfl rfl (by decide) rfl (fun ls hl => ?_)
      refine lv_goto (tgt := 37) hx hb dX9_bestDay_99 (by decide) ?_
      exact KC _ _ _ _ _ _ _ _ _ (Option.some.inj h).symm _ _ _ (lv_sub hl [3, 4, 5, 6, 2, 1, 0] rfl) hG
    · have h := ite_f h c_19
      refine lv_iload hx hb dX9_bestDay_87 (lv_at hl 7 rfl) ?_
      refine lv_goto (tgt := 94) hx hb dX9_bestDay_89 (by decide) ?_
      refine lv_istore (lv' := [(5, .int x7), (4, .int y0), (0, .ref (a 0)), (1, .int x1), (2, .int x2), (3, .int x3), (6, .int x6), (7, .int x7)]) hx hb dX9_bestDay_94 hl (by decide) rfl (fun ls hl => ?_)
      refine lv_iinc (v := (x6 + (1 : Int32))) (lv' := [(6, .int (x6 + (1 : Int32))), (5, .int x7), (4, .int y0), (0, .ref (a 0)), (1, .int x1), (2, .int x2), (3, .int x3), (7, .int x7)]) hx hb dX9_bestDay_96 hl (k := 6) rfl rfl (by decide) rfl (fun ls hl => ?_)
      refine lv_goto (tgt := 37) hx hb dX9_bestDay_99 (by decide) ?_
      exact KC _ _ _ _ _ _ _ _ _ (Option.some.inj h).symm _ _ _ (lv_sub hl [3, 4, 5, 6, 2, 1, 0] rfl) hG
  have L37 : ∀ (x3 : Int32), ∀ (n : Nat) (x4 : Int32) (x5 : Int32) (x6 : Int32) (c_days : Nat → Int32) (c_to : Nat → Int32) (c_stood : Nat → Int32) (c_home : Nat → Int32) (c_lost : Nat → Int32) (c_out : Int32) (ex4 : Int32) (ex5 : Int32) (ec_days : Nat → Int32) (ec_to : Nat → Int32) (ec_stood : Nat → Int32) (ec_home : Nat → Int32) (ec_lost : Nat → Int32) (ec_out : Int32), DX9_bestDay_L37 x1 c_stands c_homeFar c_nets c_netAt c_netWide c_netFrom c_netTo c_priceX c_priceY c_many c_aims c_speeds c_kinds n x4 x5 x6 c_days c_to c_stood c_home c_lost c_out = some (ex4, ex5, ec_days, ec_to, ec_stood, ec_home, ec_lost, ec_out) → (∀ (ls : Array Slot) (H : Heap) (locs : List Loc), lv_has ls 8 [(0, .ref (a 0)), (1, .int x1), (2, .int x2), (3, .int x3), (4, .int ex4), (5, .int ex5)] → G dC dI A H0 (W_X9 a cI cJ c_length c_text c_stands c_homeFar c_nets c_netAt c_netWide c_netFrom c_netTo c_priceX c_priceY c_many ec_days c_aims c_speeds c_kinds c_keptMany c_undoMany c_undos c_spot c_told ec_to ec_stood ec_home ec_lost ec_out c_fewest c_ways c_next c_held) H locs → W p l e (RM 5 107) s m args below meth c H locs 0 0 QQ (F0 m 102 ls [])) → ∀ (ls : Array Slot) (H : Heap) (locs : List Loc), lv_has ls 8 [(0, .ref (a 0)), (1, .int x1), (2, .int x2), (3, .int x3), (4, .int x4), (5, .int x5), (6, .int x6)] → G dC dI A H0 (W_X9 a cI cJ c_length c_text c_stands c_homeFar c_nets c_netAt c_netWide c_netFrom c_netTo c_priceX c_priceY c_many c_days c_aims c_speeds c_kinds c_keptMany c_undoMany c_undos c_spot c_told c_to c_stood c_home c_lost c_out c_fewest c_ways c_next c_held) H locs → W p l e (RM 5 107) s m args below meth c H locs 0 0 QQ (F0 m 37 ls []) := by
    intro x3 n
    induction n with
    | zero => intro x4 x5 x6 c_days c_to c_stood c_home c_lost c_out ex4 ex5 ec_days ec_to ec_stood ec_home ec_lost ec_out h; exact it_zero h
    | succ n ih =>
      intro x4 x5 x6 c_days c_to c_stood c_home c_lost c_out ex4 ex5 ec_days ec_to ec_stood ec_home ec_lost ec_out h0 K0 ls H locs hl hG
      obtain ⟨w, h, hi, hr⟩ := it_succ h0
      have h : DX9_bestDay_L37s x1 c_stands c_homeFar c_nets c_netAt c_netWide c_netFrom c_netTo c_priceX c_priceY c_many c_aims c_speeds c_kinds x4 x5 x6 c_days c_to c_stood c_home c_lost c_out = some w := h
      have KC : ∀ (x4 : Int32) (x5 : Int32) (x6 : Int32) (c_days : Nat → Int32) (c_to : Nat → Int32) (c_stood : Nat → Int32) (c_home : Nat → Int32) (c_lost : Nat → Int32) (c_out : Int32), w = .inl (x4, x5, x6, c_days, c_to, c_stood, c_home, c_lost, c_out) → ∀ (ls : Array Slot) (H : Heap) (locs : List Loc), lv_has ls 8 [(0, .ref (a 0)), (1, .int x1), (2, .int x2), (3, .int x3), (4, .int x4), (5, .int x5), (6, .int x6)] → G dC dI A H0 (W_X9 a cI cJ c_length c_text c_stands c_homeFar c_nets c_netAt c_netWide c_netFrom c_netTo c_priceX c_priceY c_many c_days c_aims c_speeds c_kinds c_keptMany c_undoMany c_undos c_spot c_told c_to c_stood c_home c_lost c_out c_fewest c_ways c_next c_held) H locs → W p l e (RM 5 107) s m args below meth c H locs 0 0 QQ (F0 m 37 ls []) := fun b0 b1 b2 b3 b4 b5 b6 b7 b8 e ls H locs hl hG => ih b0 b1 b2 b3 b4 b5 b6 b7 b8 ex4 ex5 ec_days ec_to ec_stood ec_home ec_lost ec_out (hi _ e) K0 ls H locs hl hG
      have KX : ∀ (x4 : Int32) (x5 : Int32) (c_days : Nat → Int32) (c_to : Nat → Int32) (c_stood : Nat → Int32) (c_home : Nat → Int32) (c_lost : Nat → Int32) (c_out : Int32), w = .inr (x4, x5, c_days, c_to, c_stood, c_home, c_lost, c_out) → ∀ (ls : Array Slot) (H : Heap) (locs : List Loc), lv_has ls 8 [(0, .ref (a 0)), (1, .int x1), (2, .int x2), (3, .int x3), (4, .int x4), (5, .int x5)] → G dC dI A H0 (W_X9 a cI cJ c_length c_text c_stands c_homeFar c_nets c_netAt c_netWide c_netFrom c_netTo c_priceX c_priceY c_many c_days c_aims c_speeds c_kinds c_keptMany c_undoMany c_undos c_spot c_told c_to c_stood c_home c_lost c_out c_fewest c_ways c_next c_held) H locs → W p l e (RM 5 107) s m args below meth c H locs 0 0 QQ (F0 m 102 ls []) := fun b0 b1 b2 b3 b4 b5 b6 b7 e ls H locs hl hG => by cases hr _ e; exact K0 ls H locs hl hG
      clear h0 hi hr K0 ih
      unfold DX9_bestDay_L37s at h
      refine lv_iload hx hb dX9_bestDay_37 (lv_at hl 6 rfl) ?_
      refine lv_bipush (v := (40 : Int32)) hx hb dX9_bestDay_39 (by decide) ?_
      refine lv_icmp_gt (tgt := 102) hx hb dX9_bestDay_41 (by decide) (fun c_8 => ?_) (fun c_8 => ?_)
      · have h := ite_t h c_8
        exact KX _ _ _ _ _ _ _ _ (Option.some.inj h).symm _ _ _ (lv_sub hl [0, 1, 2, 3, 4, 5] rfl) hG
      · have h := ite_f h c_8
        refine lv_aload_n hx hb dX9_bestDay_44 rfl (lv_at hl 0 rfl) ?_
        refine r_get X hG in_X9 rfl 12 (by decide) w_643 0 rfl rfl dX9_bestDay_45 ?_
        refine lv_iload_n hx hb dX9_bestDay_48 rfl (lv_at hl 1 rfl) ?_
        refine lv_iload hx hb dX9_bestDay_49 (lv_at hl 6 rfl) ?_
        obtain ⟨g_9, h⟩ := gd h
        refine r_iast X hG 12 (ws' := (W_X9 a cI cJ c_length c_text c_stands c_homeFar c_nets c_netAt c_netWide c_netFrom c_netTo c_priceX c_priceY c_many (upd c_days x1.toNatClampNeg x6) c_aims c_speeds c_kinds c_keptMany c_undoMany c_undos c_spot c_told c_to c_stood c_home c_lost c_out c_fewest c_ways c_next c_held)) rfl g_9 rfl dX9_bestDay_51 (fun H locs hG => ?_)
        refine lv_aload_n hx hb dX9_bestDay_52 rfl (lv_at hl 0 rfl) ?_
        refine lv_iconst (v := (0 : Int32)) hx hb dX9_bestDay_53 (by decide) ?_
        obtain ⟨k_to_10, k_stood_11, k_home_12, k_lost_13, k_out_14, hz_15, h⟩ := bd5_some h
        refine aft_v1 (run_V1 (rest := []) X hG hl.1 (mX9_go l dC dI cI cJ a c_length c_text c_stands c_homeFar c_nets c_netAt c_netWide c_netFrom c_netTo c_priceX c_priceY c_many (upd c_days x1.toNatClampNeg x6) c_aims c_speeds c_kinds c_keptMany c_undoMany c_undos c_spot c_told c_to c_stood c_home c_lost c_out c_fewest c_ways c_next c_held (0 : Int32) hz_15) gi_V_X9_185 hd_V_yX9_go ⟨rfl, rfl⟩ rfl ⟨Nat.le_of_ble_eq_true rfl, Nat.le_of_ble_eq_true rfl⟩ 0 rfl rfl rfl rfl (Nat.le_of_ble_eq_true rfl) ⟨Nat.le_of_ble_eq_true rfl, Nat.le_of_ble_eq_true rfl⟩ dX9_bestDay_54) hG rfl (fun H locs hG => ?_)
        clear hz_15
        refine lv_aload_n hx hb dX9_bestDay_57 rfl (lv_at hl 0 rfl) ?_
        refine lv_iload_n hx hb dX9_bestDay_58 rfl (lv_at hl 1 rfl) ?_
        obtain ⟨r_16, hz_17, h⟩ := bd1_some h
        refine aft_i1 (run_V1 (rest := []) X hG hl.1 (mX9_paidOf l dC dI cI cJ a c_length c_text c_stands c_homeFar c_nets c_netAt c_netWide c_netFrom c_netTo c_priceX c_priceY c_many (upd c_days x1.toNatClampNeg x6) c_aims c_speeds c_kinds c_keptMany c_undoMany c_undos c_spot c_told k_to_10 k_stood_11 k_home_12 k_lost_13 k_out_14 c_fewest c_ways c_next c_held x1 hz_17) gi_V_X9_188 hd_V_yX9_paidOf ⟨rfl, rfl⟩ rfl ⟨Nat.le_of_ble_eq_true rfl, Nat.le_of_ble_eq_true rfl⟩ 0 rfl rfl rfl rfl (Nat.le_of_ble_eq_true rfl) ⟨Nat.le_of_ble_eq_true rfl, Nat.le_of_ble_eq_true rfl⟩ dX9_bestDay_59) hG rfl (fun H locs hG => ?_)
        clear hz_17
        refine lv_istore (lv' := [(7, .int r_16), (0, .ref (a 0)), (1, .int x1), (2, .int x2), (3, .int x3), (4, .int x4), (5, .int x5), (6, .int x6)]) hx hb dX9_bestDay_62 hl (by decide) rfl (fun ls hl => ?_)
        refine lv_iload hx hb dX9_bestDay_64 (lv_at hl 0 rfl) ?_
        refine lv_iload hx hb dX9_bestDay_66 (lv_at hl 6 rfl) ?_
        refine lv_icmp_le (tgt := 76) hx hb dX9_bestDay_68 (by decide) (fun c_18 => ?_) (fun c_18 => ?_)
        · have h := ite_t h c_18
          refine lv_iload hx hb dX9_bestDay_76 (lv_at hl 5 rfl) ?_
          exact J78 x4 x3 x5 x6 r_16 (upd c_days x1.toNatClampNeg x6) k_to_10 k_stood_11 k_home_12 k_lost_13 k_out_14 _ h KC KX _ _ _ (lv_sub hl [1, 2, 3, 4, 6, 7, 0] rfl) hG
        · have h := ite_f h c_18
          refine lv_iload hx hb dX9_bestDay_71 (lv_at hl 7 rfl) ?_
          refine lv_goto (tgt := 78) hx hb dX9_bestDay_73 (by decide) ?_
          exact J78 x6 x3 x5 x6 r_16 (upd c_days x1.toNatClampNeg x6) k_to_10 k_stood_11 k_home_12 k_lost_13 k_out_14 _ h KC KX _ _ _ (lv_sub hl [1, 2, 3, 4, 6, 7, 0] rfl) hG
  have h := hD
  unfold DX9_bestDay at h
  clear hD
  refine lv_aload_n hx hb dX9_bestDay_0 rfl (lv_at hl 0 rfl) ?_
  refine lv_iload_n hx hb dX9_bestDay_1 rfl (lv_at hl 1 rfl) ?_
  obtain ⟨r_1, hz_2, h⟩ := bd1_some h
  refine aft_i1 (run_V1 (rest := []) X hG hl.1 (mX9_isThrow l dC dI cI cJ a c_length c_text c_stands c_homeFar c_nets c_netAt c_netWide c_netFrom c_netTo c_priceX c_priceY c_many c_days c_aims c_speeds c_kinds c_keptMany c_undoMany c_undos c_spot c_told c_to c_stood c_home c_lost c_out c_fewest c_ways c_next c_held x1 hz_2) gi_V_X9_182 hd_V_yX9_isThrow ⟨rfl, rfl⟩ rfl ⟨Nat.le_of_ble_eq_true rfl, Nat.le_of_ble_eq_true rfl⟩ 0 rfl rfl rfl rfl (Nat.le_of_ble_eq_true rfl) ⟨Nat.le_of_ble_eq_true rfl, Nat.le_of_ble_eq_true rfl⟩ dX9_bestDay_2) hG rfl (fun H locs hG => ?_)
  clear hz_2
  refine lv_if_eq (tgt := 18) hx hb dX9_bestDay_5 (by decide) (fun c_3 => ?_) (fun c_3 => ?_)
  · have h := ite_t h c_3
    refine lv_iconst (v := (-1 : Int32)) hx hb dX9_bestDay_18 (by decide) ?_
    cases h
    exact ret _ _ _ _ dX9_bestDay_19 hG
  · have h := ite_f h c_3
    refine lv_iload_n hx hb dX9_bestDay_8 rfl (lv_at hl 2 rfl) ?_
    refine lv_i2l (v := (x2.toInt64)) hx hb dX9_bestDay_9 rfl ?_
    refine lv_lconst (v := (0 : Int64)) hx hb dX9_bestDay_10 (by decide) ?_
    refine lv_lconst (v := (1 : Int64)) hx hb dX9_bestDay_11 (by decide) ?_
    obtain ⟨r_4, hz_5, h⟩ := bd1_some h
    refine aft_i (ws' := (W_X9 a cI cJ c_length c_text c_stands c_homeFar c_nets c_netAt c_netWide c_netFrom c_netTo c_priceX c_priceY c_many c_days c_aims c_speeds c_kinds c_keptMany c_undoMany c_undos c_spot c_told c_to c_stood c_home c_lost c_out c_fewest c_ways c_next c_held)) (run_S (rest := []) X hG hl.1 (mX9_in l dC dI cI cJ (x2.toInt64) (0 : Int64) (1 : Int64) hz_5) gi_S_X9_92 hd_S_yX9_in ⟨rfl, rfl⟩ rfl ⟨Nat.le_of_ble_eq_true rfl, Nat.le_of_ble_eq_true rfl⟩ [] (by decide) rfl rfl (Nat.le_of_ble_eq_true rfl) ⟨Nat.le_of_ble_eq_true rfl, Nat.le_of_ble_eq_true rfl⟩ dX9_bestDay_12) hG [] rfl rfl rfl (fun H locs hG => ?_)
    clear hz_5
    refine lv_if_ne (tgt := 20) hx hb dX9_bestDay_15 (by decide) (fun c_6 => ?_) (fun c_6 => ?_)
    · have h := ite_f h c_6
      refine lv_aload_n hx hb dX9_bestDay_20 rfl (lv_at hl 0 rfl) ?_
      refine r_get X hG in_X9 rfl 12 (by decide) w_643 0 rfl rfl dX9_bestDay_21 ?_
      refine lv_iload_n hx hb dX9_bestDay_24 rfl (lv_at hl 1 rfl) ?_
      obtain ⟨g_7, h⟩ := gd h
      refine r_iald X hG 12 rfl g_7 dX9_bestDay_25 ?_
      refine lv_istore_n (lv' := [(3, .int (c_days x1.toNatClampNeg)), (0, .ref (a 0)), (1, .int x1), (2, .int x2)]) hx hb dX9_bestDay_26 rfl hl (by decide) rfl (fun ls hl => ?_)
      refine lv_bipush (v := (-4 : Int32)) hx hb dX9_bestDay_27 (by decide) ?_
      refine lv_istore (lv' := [(4, .int (-4 : Int32)), (3, .int (c_days x1.toNatClampNeg)), (0, .ref (a 0)), (1, .int x1), (2, .int x2)]) hx hb dX9_bestDay_29 hl (by decide) rfl (fun ls hl => ?_)
      refine lv_iconst (v := (0 : Int32)) hx hb dX9_bestDay_31 (by decide) ?_
      refine lv_istore (lv' := [(5, .int (0 : Int32)), (4, .int (-4 : Int32)), (3, .int (c_days x1.toNatClampNeg)), (0, .ref (a 0)), (1, .int x1), (2, .int x2)]) hx hb dX9_bestDay_32 hl (by decide) rfl (fun ls hl => ?_)
      refine lv_iconst (v := (0 : Int32)) hx hb dX9_bestDay_34 (by decide) ?_
      refine lv_istore (lv' := [(6, .int (0 : Int32)), (5, .int (0 : Int32)), (4, .int (-4 : Int32)), (3, .int (c_days x1.toNatClampNeg)), (0, .ref (a 0)), (1, .int x1), (2, .int x2)]) hx hb dX9_bestDay_35 hl (by decide) rfl (fun ls hl => ?_)
      obtain ⟨z4_20, z5_21, k_days_22, k_to_23, k_stood_24, k_home_25, k_lost_26, k_out_27, hz, h⟩ := bd8_some h
      refine L37 (c_days x1.toNatClampNeg) FU (-4 : Int32) (0 : Int32) (0 : Int32) c_days c_to c_stood c_home c_lost c_out _ _ _ _ _ _ _ _ hz (fun ls H locs hl hG => ?_) _ _ _ (lv_sub hl [4, 5, 6, 3, 2, 1, 0] rfl) hG
      clear hz
      refine lv_aload_n hx hb dX9_bestDay_102 rfl (lv_at hl 0 rfl) ?_
      refine r_get X hG in_X9 rfl 12 (by decide) w_643 0 rfl rfl dX9_bestDay_103 ?_
      refine lv_iload_n hx hb dX9_bestDay_106 rfl (lv_at hl 1 rfl) ?_
      refine lv_iload_n hx hb dX9_bestDay_107 rfl (lv_at hl 3 rfl) ?_
      obtain ⟨g_28, h⟩ := gd h
      refine r_iast X hG 12 (ws' := (W_X9 a cI cJ c_length c_text c_stands c_homeFar c_nets c_netAt c_netWide c_netFrom c_netTo c_priceX c_priceY c_many (upd k_days_22 x1.toNatClampNeg (c_days x1.toNatClampNeg)) c_aims c_speeds c_kinds c_keptMany c_undoMany c_undos c_spot c_told k_to_23 k_stood_24 k_home_25 k_lost_26 k_out_27 c_fewest c_ways c_next c_held)) rfl g_28 rfl dX9_bestDay_108 (fun H locs hG => ?_)
      refine lv_iload hx hb dX9_bestDay_109 (lv_at hl 4 rfl) ?_
      refine lv_if_ge (tgt := 119) hx hb dX9_bestDay_111 (by decide) (fun c_29 => ?_) (fun c_29 => ?_)
      · have h := ite_t h c_29
        refine lv_iload_n hx hb dX9_bestDay_119 rfl (lv_at hl 2 rfl) ?_
        refine lv_if_ne (tgt := 128) hx hb dX9_bestDay_120 (by decide) (fun c_30 => ?_) (fun c_30 => ?_)
        · have h := ite_f h c_30
          refine lv_iload hx hb dX9_bestDay_128 (lv_at hl 5 rfl) ?_
          cases h
          exact ret _ _ _ _ dX9_bestDay_130 hG
        · have h := ite_t h c_30
          refine lv_iload hx hb dX9_bestDay_123 (lv_at hl 4 rfl) ?_
          refine lv_goto (tgt := 130) hx hb dX9_bestDay_125 (by decide) ?_
          cases h
          exact ret _ _ _ _ dX9_bestDay_130 hG
      · have h := ite_f h c_29
        refine lv_bipush (v := (-4 : Int32)) hx hb dX9_bestDay_114 (by decide) ?_
        refine lv_goto (tgt := 130) hx hb dX9_bestDay_116 (by decide) ?_
        cases h
        exact ret _ _ _ _ dX9_bestDay_130 hG
    · have h := ite_t h c_6
      refine lv_iconst (v := (-1 : Int32)) hx hb dX9_bestDay_18 (by decide) ?_
      cases h
      exact ret _ _ _ _ dX9_bestDay_19 hG
set_option maxRecDepth 100000 in
set_option maxHeartbeats 4000000 in
theorem mX9_net (l : Launch) (dC : Nat → ClassId) (dI : Nat → Nat → Nat) (cI cJ : ClassId) (a : Nat → Nat) (c_length : Int32) (c_text : Nat → Int32) (c_stands : Nat → Int32) (c_homeFar : Nat → Int32) (c_nets : Nat → Int32) (c_netAt : Nat → Int32) (c_netWide : Nat → Int32) (c_netFrom : Nat → Int32) (c_netTo : Nat → Int32) (c_priceX : Nat → Int32) (c_priceY : Nat → Int32) (c_many : Nat → Int32) (c_days : Nat → Int32) (c_aims : Nat → Int32) (c_speeds : Nat → Int32) (c_kinds : Nat → Int32) (c_keptMany : Int32) (c_undoMany : Int32) (c_undos : Nat → Int32) (c_spot : Int32) (c_told : Nat → Int32) (c_to : Nat → Int32) (c_stood : Nat → Int32) (c_home : Nat → Int32) (c_lost : Nat → Int32) (c_out : Int32) (c_fewest : Nat → Int32) (c_ways : Nat → Int64) (c_next : Nat → Int64) (c_held : Nat → Int32) (x1 : Int32) (x2 : Int32) {res : Int32} {n_nets : Nat → Int32} {n_netAt : Nat → Int32} {n_netWide : Nat → Int32} {n_netFrom : Nat → Int32} {n_netTo : Nat → Int32} {n_to : Nat → Int32} {n_stood : Nat → Int32} {n_home : Nat → Int32} {n_lost : Nat → Int32} {n_out : Int32} (hD : DX9_net x1 x2 c_stands c_homeFar c_nets c_netAt c_netWide c_netFrom c_netTo c_many c_days c_aims c_speeds c_kinds c_to c_stood c_home c_lost c_out = some (res, n_nets, n_netAt, n_netWide, n_netFrom, n_netTo, n_to, n_stood, n_home, n_lost, n_out)) : Met l yX9_net (WZ yX9_net cX9_net 8 (some .int)) (RM 5 109) (PC dC dI cI cJ [.ref (a 0), .int x1, .int x2] (W_X9 a cI cJ c_length c_text c_stands c_homeFar c_nets c_netAt c_netWide c_netFrom c_netTo c_priceX c_priceY c_many c_days c_aims c_speeds c_kinds c_keptMany c_undoMany c_undos c_spot c_told c_to c_stood c_home c_lost c_out c_fewest c_ways c_next c_held)) (QI dC dI (W_X9 a cI cJ c_length c_text c_stands c_homeFar c_nets c_netAt c_netWide c_netFrom c_netTo c_priceX c_priceY c_many c_days c_aims c_speeds c_kinds c_keptMany c_undoMany c_undos c_spot c_told c_to c_stood c_home c_lost c_out c_fewest c_ways c_next c_held) (W_X9 a cI cJ c_length c_text c_stands c_homeFar n_nets n_netAt n_netWide n_netFrom n_netTo c_priceX c_priceY c_many c_days c_aims c_speeds c_kinds c_keptMany c_undoMany c_undos c_spot c_told n_to n_stood n_home n_lost n_out c_fewest c_ways c_next c_held) res) 0 0 (FA (W_X9 a cI cJ c_length c_text c_stands c_homeFar c_nets c_netAt c_netWide c_netFrom c_netTo c_priceX c_priceY c_many c_days c_aims c_speeds c_kinds c_keptMany c_undoMany c_undos c_spot c_told c_to c_stood c_home c_lost c_out c_fewest c_ways c_next c_held)) := by
  refine r_metI (by decide +kernel) (Nat.le_of_ble_eq_true rfl) ?_
  intro p e s m args below meth c A H0 QQ X ret ls hl hG
  have X : Cx p m c cX9_net 8 s args RX9 dC dI cI cJ meth (some .int) := X
  have hx := X.1.1
  have hb := X.1.2.1
  have hl : lv_has ls 8 [(0, .ref (a 0)), (1, .int x1), (2, .int x2)] := hl
  have J115 : ∀ (y0 : Int32) (x3 : Int32) (x5 : Int32) (x6 : Int32) (x7 : Int32) (c_nets : Nat → Int32) (c_netAt : Nat → Int32) (c_netWide : Nat → Int32) (c_netFrom : Nat → Int32) (c_netTo : Nat → Int32) (c_to : Nat → Int32) (c_stood : Nat → Int32) (c_home : Nat → Int32) (c_lost : Nat → Int32) (c_out : Int32), ∀ (w : (Int32 × Int32 × Int32 × (Nat → Int32)) ⊕ (Int32 × Int32 × (Nat → Int32))), DX9_net_J115 c_netAt y0 x5 x6 x7 = some w → (∀ (x4 : Int32) (x5 : Int32) (x6 : Int32) (c_netAt : Nat → Int32), w = .inl (x4, x5, x6, c_netAt) → ∀ (ls : Array Slot) (H : Heap) (locs : List Loc), lv_has ls 8 [(0, .ref (a 0)), (2, .int x2), (3, .int x3), (4, .int x4), (5, .int x5), (6, .int x6)] → G dC dI A H0 (W_X9 a cI cJ c_length c_text c_stands c_homeFar c_nets c_netAt c_netWide c_netFrom c_netTo c_priceX c_priceY c_many c_days c_aims c_speeds c_kinds c_keptMany c_undoMany c_undos c_spot c_told c_to c_stood c_home c_lost c_out c_fewest c_ways c_next c_held) H locs → W p l e (RM 5 109) s m args below meth c H locs 0 0 QQ (F0 m 79 ls [])) → (∀ (x4 : Int32) (x5 : Int32) (c_netAt : Nat → Int32), w = .inr (x4, x5, c_netAt) → ∀ (ls : Array Slot) (H : Heap) (locs : List Loc), lv_has ls 8 [(0, .ref (a 0)), (2, .int x2), (4, .int x4), (5, .int x5)] → G dC dI A H0 (W_X9 a cI cJ c_length c_text c_stands c_homeFar c_nets c_netAt c_netWide c_netFrom c_netTo c_priceX c_priceY c_many c_days c_aims c_speeds c_kinds c_keptMany c_undoMany c_undos c_spot c_told c_to c_stood c_home c_lost c_out c_fewest c_ways c_next c_held) H locs → W p l e (RM 5 109) s m args below meth c H locs 0 0 QQ (F0 m 139 ls [])) → ∀ (ls : Array Slot) (H : Heap) (locs : List Loc), lv_has ls 8 [(0, .ref (a 0)), (2, .int x2), (3, .int x3), (5, .int x5), (6, .int x6), (7, .int x7)] → G dC dI A H0 (W_X9 a cI cJ c_length c_text c_stands c_homeFar c_nets c_netAt c_netWide c_netFrom c_netTo c_priceX c_priceY c_many c_days c_aims c_speeds c_kinds c_keptMany c_undoMany c_undos c_spot c_told c_to c_stood c_home c_lost c_out c_fewest c_ways c_next c_held) H locs → W p l e (RM 5 109) s m args below meth c H locs 0 0 QQ (F0 m 115 ls [.int y0]) := by
    intro y0 x3 x5 x6 x7 c_nets c_netAt c_netWide c_netFrom c_netTo c_to c_stood c_home c_lost c_out w h KC KX ls H locs hl hG
    unfold DX9_net_J115 at h
    refine lv_istore (lv' := [(4, .int y0), (0, .ref (a 0)), (2, .int x2), (3, .int x3), (5, .int x5), (6, .int x6), (7, .int x7)]) hx hb dX9_net_115 hl (by decide) rfl (fun ls hl => ?_)
    refine lv_iload hx hb dX9_net_117 (lv_at hl 6 rfl) ?_
    refine lv_iload hx hb dX9_net_119 (lv_at hl 4 rfl) ?_
    refine lv_icmp_le (tgt := 129) hx hb dX9_net_121 (by decide) (fun c_21 => ?_) (fun c_21 => ?_)
    · have h := ite_t h c_21
      refine lv_iload hx hb dX9_net_129 (lv_at hl 4 rfl) ?_
      refine lv_istore (lv' := [(5, .int x5), (4, .int y0), (0, .ref (a 0)), (2, .int x2), (3, .int x3), (6, .int x6), (7, .int x7)]) hx hb dX9_net_131 hl (by decide) rfl (fun ls hl => ?_)
      refine lv_iinc (v := (x6 + (1 : Int32))) (lv' := [(6, .int (x6 + (1 : Int32))), (5, .int x5), (4, .int y0), (0, .ref (a 0)), (2, .int x2), (3, .int x3), (7, .int x7)]) hx hb dX9_net_133 hl (k := 5) rfl rfl (by decide) rfl (fun ls hl => ?_)
      refine lv_goto (tgt := 79) hx hb dX9_net_136 (by decide) ?_
      exact KC _ _ _ _ (Option.some.inj h).symm _ _ _ (lv_sub hl [3, 4, 5, 2, 1, 0] rfl) hG
    · have h := ite_f h c_21
      refine lv_iload hx hb dX9_net_124 (lv_at hl 6 rfl) ?_
      refine lv_goto (tgt := 131) hx hb dX9_net_126 (by decide) ?_
      refine lv_istore (lv' := [(5, .int x7), (4, .int y0), (0, .ref (a 0)), (2, .int x2), (3, .int x3), (6, .int x6), (7, .int x7)]) hx hb dX9_net_131 hl (by decide) rfl (fun ls hl => ?_)
      refine lv_iinc (v := (x6 + (1 : Int32))) (lv' := [(6, .int (x6 + (1 : Int32))), (5, .int x7), (4, .int y0), (0, .ref (a 0)), (2, .int x2), (3, .int x3), (7, .int x7)]) hx hb dX9_net_133 hl (k := 5) rfl rfl (by decide) rfl (fun ls hl => ?_)
      refine lv_goto (tgt := 79) hx hb dX9_net_136 (by decide) ?_
      exact KC _ _ _ _ (Option.some.inj h).symm _ _ _ (lv_sub hl [3, 4, 5, 2, 1, 0] rfl) hG
  have L79 : ∀ (x3 : Int32) (c_nets : Nat → Int32) (c_netWide : Nat → Int32) (c_netFrom : Nat → Int32) (c_netTo : Nat → Int32) (c_to : Nat → Int32) (c_stood : Nat → Int32) (c_home : Nat → Int32) (c_lost : Nat → Int32) (c_out : Int32), ∀ (n : Nat) (x4 : Int32) (x5 : Int32) (x6 : Int32) (c_netAt : Nat → Int32) (ex4 : Int32) (ex5 : Int32) (ec_netAt : Nat → Int32), DX9_net_L79 c_nets c_netWide c_netFrom c_netTo c_many c_days c_kinds c_to c_home c_lost x3 n x4 x5 x6 c_netAt = some (ex4, ex5, ec_netAt) → (∀ (ls : Array Slot) (H : Heap) (locs : List Loc), lv_has ls 8 [(0, .ref (a 0)), (2, .int x2), (4, .int ex4), (5, .int ex5)] → G dC dI A H0 (W_X9 a cI cJ c_length c_text c_stands c_homeFar c_nets ec_netAt c_netWide c_netFrom c_netTo c_priceX c_priceY c_many c_days c_aims c_speeds c_kinds c_keptMany c_undoMany c_undos c_spot c_told c_to c_stood c_home c_lost c_out c_fewest c_ways c_next c_held) H locs → W p l e (RM 5 109) s m args below meth c H locs 0 0 QQ (F0 m 139 ls [])) → ∀ (ls : Array Slot) (H : Heap) (locs : List Loc), lv_has ls 8 [(0, .ref (a 0)), (2, .int x2), (3, .int x3), (4, .int x4), (5, .int x5), (6, .int x6)] → G dC dI A H0 (W_X9 a cI cJ c_length c_text c_stands c_homeFar c_nets c_netAt c_netWide c_netFrom c_netTo c_priceX c_priceY c_many c_days c_aims c_speeds c_kinds c_keptMany c_undoMany c_undos c_spot c_told c_to c_stood c_home c_lost c_out c_fewest c_ways c_next c_held) H locs → W p l e (RM 5 109) s m args below meth c H locs 0 0 QQ (F0 m 79 ls []) := by
    intro x3 c_nets c_netWide c_netFrom c_netTo c_to c_stood c_home c_lost c_out n
    induction n with
    | zero => intro x4 x5 x6 c_netAt ex4 ex5 ec_netAt h; exact it_zero h
    | succ n ih =>
      intro x4 x5 x6 c_netAt ex4 ex5 ec_netAt h0 K0 ls H locs hl hG
      obtain ⟨w, h, hi, hr⟩ := it_succ h0
      have h : DX9_net_L79s c_nets c_netWide c_netFrom c_netTo c_many c_days c_kinds c_to c_home c_lost x3 x4 x5 x6 c_netAt = some w := h
      have KC : ∀ (x4 : Int32) (x5 : Int32) (x6 : Int32) (c_netAt : Nat → Int32), w = .inl (x4, x5, x6, c_netAt) → ∀ (ls : Array Slot) (H : Heap) (locs : List Loc), lv_has ls 8 [(0, .ref (a 0)), (2, .int x2), (3, .int x3), (4, .int x4), (5, .int x5), (6, .int x6)] → G dC dI A H0 (W_X9 a cI cJ c_length c_text c_stands c_homeFar c_nets c_netAt c_netWide c_netFrom c_netTo c_priceX c_priceY c_many c_days c_aims c_speeds c_kinds c_keptMany c_undoMany c_undos c_spot c_told c_to c_stood c_home c_lost c_out c_fewest c_ways c_next c_held) H locs → W p l e (RM 5 109) s m args below meth c H locs 0 0 QQ (F0 m 79 ls []) := fun b0 b1 b2 b3 e ls H locs hl hG => ih b0 b1 b2 b3 ex4 ex5 ec_netAt (hi _ e) K0 ls H locs hl hG
      have KX : ∀ (x4 : Int32) (x5 : Int32) (c_netAt : Nat → Int32), w = .inr (x4, x5, c_netAt) → ∀ (ls : Array Slot) (H : Heap) (locs : List Loc), lv_has ls 8 [(0, .ref (a 0)), (2, .int x2), (4, .int x4), (5, .int x5)] → G dC dI A H0 (W_X9 a cI cJ c_length c_text c_stands c_homeFar c_nets c_netAt c_netWide c_netFrom c_netTo c_priceX c_priceY c_many c_days c_aims c_speeds c_kinds c_keptMany c_undoMany c_undos c_spot c_told c_to c_stood c_home c_lost c_out c_fewest c_ways c_next c_held) H locs → W p l e (RM 5 109) s m args below meth c H locs 0 0 QQ (F0 m 139 ls []) := fun b0 b1 b2 e ls H locs hl hG => by cases hr _ e; exact K0 ls H locs hl hG
      clear h0 hi hr K0 ih
      unfold DX9_net_L79s at h
      refine lv_iload hx hb dX9_net_79 (lv_at hl 5 rfl) ?_
      refine lv_bipush (v := (24 : Int32)) hx hb dX9_net_81 (by decide) ?_
      refine lv_icmp_ge (tgt := 139) hx hb dX9_net_83 (by decide) (fun c_16 => ?_) (fun c_16 => ?_)
      · have h := ite_t h c_16
        exact KX _ _ _ (Option.some.inj h).symm _ _ _ (lv_sub hl [0, 1, 3, 4] rfl) hG
      · have h := ite_f h c_16
        refine lv_aload_n hx hb dX9_net_86 rfl (lv_at hl 0 rfl) ?_
        refine r_get X hG in_X9 rfl 5 (by decide) w_636 0 rfl rfl dX9_net_87 ?_
        refine lv_iload_n hx hb dX9_net_90 rfl (lv_at hl 2 rfl) ?_
        refine lv_iload hx hb dX9_net_91 (lv_at hl 5 rfl) ?_
        obtain ⟨g_17, h⟩ := gd h
        refine r_iast X hG 5 (ws' := (W_X9 a cI cJ c_length c_text c_stands c_homeFar c_nets (upd c_netAt x3.toNatClampNeg x6) c_netWide c_netFrom c_netTo c_priceX c_priceY c_many c_days c_aims c_speeds c_kinds c_keptMany c_undoMany c_undos c_spot c_told c_to c_stood c_home c_lost c_out c_fewest c_ways c_next c_held)) rfl g_17 rfl dX9_net_93 (fun H locs hG => ?_)
        refine lv_aload_n hx hb dX9_net_94 rfl (lv_at hl 0 rfl) ?_
        refine lv_iconst (v := (0 : Int32)) hx hb dX9_net_95 (by decide) ?_
        obtain ⟨r_18, hz_19, h⟩ := bd1_some h
        refine aft_i1 (run_V1 (rest := []) X hG hl.1 (mX9_howMany l dC dI cI cJ a c_length c_text c_stands c_homeFar c_nets (upd c_netAt x3.toNatClampNeg x6) c_netWide c_netFrom c_netTo c_priceX c_priceY c_many c_days c_aims c_speeds c_kinds c_keptMany c_undoMany c_undos c_spot c_told c_to c_stood c_home c_lost c_out c_fewest c_ways c_next c_held (0 : Int32) hz_19) gi_V_X9_198 hd_V_yX9_howMany ⟨rfl, rfl⟩ rfl ⟨Nat.le_of_ble_eq_true rfl, Nat.le_of_ble_eq_true rfl⟩ 0 rfl rfl rfl rfl (Nat.le_of_ble_eq_true rfl) ⟨Nat.le_of_ble_eq_true rfl, Nat.le_of_ble_eq_true rfl⟩ dX9_net_96) hG rfl (fun H locs hG => ?_)
        clear hz_19
        refine lv_istore (lv' := [(7, .int r_18), (0, .ref (a 0)), (2, .int x2), (3, .int x3), (4, .int x4), (5, .int x5), (6, .int x6)]) hx hb dX9_net_99 hl (by decide) rfl (fun ls hl => ?_)
        refine lv_iload hx hb dX9_net_101 (lv_at hl 0 rfl) ?_
        refine lv_iload hx hb dX9_net_103 (lv_at hl 5 rfl) ?_
        refine lv_icmp_le (tgt := 113) hx hb dX9_net_105 (by decide) (fun c_20 => ?_) (fun c_20 => ?_)
        · have h := ite_t h c_20
          refine lv_iload hx hb dX9_net_113 (lv_at hl 4 rfl) ?_
          exact J115 x4 x3 x5 x6 r_18 c_nets (upd c_netAt x3.toNatClampNeg x6) c_netWide c_netFrom c_netTo c_to c_stood c_home c_lost c_out _ h KC KX _ _ _ (lv_sub hl [1, 2, 3, 5, 6, 0] rfl) hG
        · have h := ite_f h c_20
          refine lv_iload hx hb dX9_net_108 (lv_at hl 6 rfl) ?_
          refine lv_goto (tgt := 115) hx hb dX9_net_110 (by decide) ?_
          exact J115 x6 x3 x5 x6 r_18 c_nets (upd c_netAt x3.toNatClampNeg x6) c_netWide c_netFrom c_netTo c_to c_stood c_home c_lost c_out _ h KC KX _ _ _ (lv_sub hl [1, 2, 3, 5, 6, 0] rfl) hG
  have h := hD
  unfold DX9_net at h
  clear hD
  refine lv_iload_n hx hb dX9_net_0 rfl (lv_at hl 1 rfl) ?_
  refine lv_i2l (v := (x1.toInt64)) hx hb dX9_net_1 rfl ?_
  refine lv_lconst (v := (0 : Int64)) hx hb dX9_net_2 (by decide) ?_
  refine lv_ldc2 (v := (3 : Int64)) hx hb X.1.2.2.2.1 (X.1.2.2.2.2 _ w_850) dX9_net_3 ?_
  obtain ⟨r_1, hz_2, h⟩ := bd1_some h
  refine aft_i (ws' := (W_X9 a cI cJ c_length c_text c_stands c_homeFar c_nets c_netAt c_netWide c_netFrom c_netTo c_priceX c_priceY c_many c_days c_aims c_speeds c_kinds c_keptMany c_undoMany c_undos c_spot c_told c_to c_stood c_home c_lost c_out c_fewest c_ways c_next c_held)) (run_S (rest := []) X hG hl.1 (mX9_in l dC dI cI cJ (x1.toInt64) (0 : Int64) (3 : Int64) hz_2) gi_S_X9_92 hd_S_yX9_in ⟨rfl, rfl⟩ rfl ⟨Nat.le_of_ble_eq_true rfl, Nat.le_of_ble_eq_true rfl⟩ [] (by decide) rfl rfl (Nat.le_of_ble_eq_true rfl) ⟨Nat.le_of_ble_eq_true rfl, Nat.le_of_ble_eq_true rfl⟩ dX9_net_6) hG [] rfl rfl rfl (fun H locs hG => ?_)
  clear hz_2
  refine lv_if_eq (tgt := 22) hx hb dX9_net_9 (by decide) (fun c_3 => ?_) (fun c_3 => ?_)
  · have h := ite_t h c_3
    refine lv_iconst (v := (-1 : Int32)) hx hb dX9_net_22 (by decide) ?_
    cases h
    exact ret _ _ _ _ dX9_net_23 hG
  · have h := ite_f h c_3
    refine lv_iload_n hx hb dX9_net_12 rfl (lv_at hl 2 rfl) ?_
    refine lv_i2l (v := (x2.toInt64)) hx hb dX9_net_13 rfl ?_
    refine lv_lconst (v := (0 : Int64)) hx hb dX9_net_14 (by decide) ?_
    refine lv_lconst (v := (1 : Int64)) hx hb dX9_net_15 (by decide) ?_
    obtain ⟨r_4, hz_5, h⟩ := bd1_some h
    refine aft_i (ws' := (W_X9 a cI cJ c_length c_text c_stands c_homeFar c_nets c_netAt c_netWide c_netFrom c_netTo c_priceX c_priceY c_many c_days c_aims c_speeds c_kinds c_keptMany c_undoMany c_undos c_spot c_told c_to c_stood c_home c_lost c_out c_fewest c_ways c_next c_held)) (run_S (rest := []) X hG hl.1 (mX9_in l dC dI cI cJ (x2.toInt64) (0 : Int64) (1 : Int64) hz_5) gi_S_X9_92 hd_S_yX9_in ⟨rfl, rfl⟩ rfl ⟨Nat.le_of_ble_eq_true rfl, Nat.le_of_ble_eq_true rfl⟩ [] (by decide) rfl rfl (Nat.le_of_ble_eq_true rfl) ⟨Nat.le_of_ble_eq_true rfl, Nat.le_of_ble_eq_true rfl⟩ dX9_net_16) hG [] rfl rfl rfl (fun H locs hG => ?_)
    clear hz_5
    refine lv_if_ne (tgt := 24) hx hb dX9_net_19 (by decide) (fun c_6 => ?_) (fun c_6 => ?_)
    · have h := ite_f h c_6
      refine lv_aload_n hx hb dX9_net_24 rfl (lv_at hl 0 rfl) ?_
      refine lv_iconst (v := (0 : Int32)) hx hb dX9_net_25 (by decide) ?_
      obtain ⟨k_to_7, k_stood_8, k_home_9, k_lost_10, k_out_11, hz_12, h⟩ := bd5_some h
      refine aft_v1 (run_V1 (rest := []) X hG hl.1 (mX9_go l dC dI cI cJ a c_length c_text c_stands c_homeFar c_nets c_netAt c_netWide c_netFrom c_netTo c_priceX c_priceY c_many c_days c_aims c_speeds c_kinds c_keptMany c_undoMany c_undos c_spot c_told c_to c_stood c_home c_lost c_out c_fewest c_ways c_next c_held (0 : Int32) hz_12) gi_V_X9_185 hd_V_yX9_go ⟨rfl, rfl⟩ rfl ⟨Nat.le_of_ble_eq_true rfl, Nat.le_of_ble_eq_true rfl⟩ 0 rfl rfl rfl rfl (Nat.le_of_ble_eq_true rfl) ⟨Nat.le_of_ble_eq_true rfl, Nat.le_of_ble_eq_true rfl⟩ dX9_net_26) hG rfl (fun H locs hG => ?_)
      clear hz_12
      refine lv_aload_n hx hb dX9_net_29 rfl (lv_at hl 0 rfl) ?_
      refine r_get X hG in_X9 rfl 4 (by decide) w_635 0 rfl rfl dX9_net_30 ?_
      refine lv_iconst (v := (0 : Int32)) hx hb dX9_net_33 (by decide) ?_
      refine r_iald X hG 4 rfl (vpd (by decide)) dX9_net_34 ?_
      refine lv_istore_n (lv' := [(3, .int (c_nets (0 : Int32).toNatClampNeg)), (0, .ref (a 0)), (1, .int x1), (2, .int x2)]) hx hb dX9_net_35 rfl hl (by decide) rfl (fun ls hl => ?_)
      refine lv_aload_n hx hb dX9_net_36 rfl (lv_at hl 1 rfl) ?_
      refine r_get X hG in_X9 rfl 6 (by decide) w_637 0 rfl rfl dX9_net_37 ?_
      refine lv_iload_n hx hb dX9_net_40 rfl (lv_at hl 0 rfl) ?_
      refine lv_iload_n hx hb dX9_net_41 rfl (lv_at hl 2 rfl) ?_
      obtain ⟨g_13, h⟩ := gd h
      refine r_iast X hG 6 (ws' := (W_X9 a cI cJ c_length c_text c_stands c_homeFar c_nets c_netAt (upd c_netWide (c_nets (0 : Int32).toNatClampNeg).toNatClampNeg x1) c_netFrom c_netTo c_priceX c_priceY c_many c_days c_aims c_speeds c_kinds c_keptMany c_undoMany c_undos c_spot c_told k_to_7 k_stood_8 k_home_9 k_lost_10 k_out_11 c_fewest c_ways c_next c_held)) rfl g_13 rfl dX9_net_42 (fun H locs hG => ?_)
      refine lv_aload_n hx hb dX9_net_43 rfl (lv_at hl 1 rfl) ?_
      refine r_get X hG in_X9 rfl 7 (by decide) w_638 0 rfl rfl dX9_net_44 ?_
      refine lv_iload_n hx hb dX9_net_47 rfl (lv_at hl 0 rfl) ?_
      refine lv_iconst (v := (0 : Int32)) hx hb dX9_net_48 (by decide) ?_
      obtain ⟨g_14, h⟩ := gd h
      refine r_iast X hG 7 (ws' := (W_X9 a cI cJ c_length c_text c_stands c_homeFar c_nets c_netAt (upd c_netWide (c_nets (0 : Int32).toNatClampNeg).toNatClampNeg x1) (upd c_netFrom (c_nets (0 : Int32).toNatClampNeg).toNatClampNeg (0 : Int32)) c_netTo c_priceX c_priceY c_many c_days c_aims c_speeds c_kinds c_keptMany c_undoMany c_undos c_spot c_told k_to_7 k_stood_8 k_home_9 k_lost_10 k_out_11 c_fewest c_ways c_next c_held)) rfl g_14 rfl dX9_net_49 (fun H locs hG => ?_)
      refine lv_aload_n hx hb dX9_net_50 rfl (lv_at hl 1 rfl) ?_
      refine r_get X hG in_X9 rfl 8 (by decide) w_639 0 rfl rfl dX9_net_51 ?_
      refine lv_iload_n hx hb dX9_net_54 rfl (lv_at hl 0 rfl) ?_
      refine lv_sipush (v := (10000 : Int32)) hx hb dX9_net_55 (by decide) ?_
      obtain ⟨g_15, h⟩ := gd h
      refine r_iast X hG 8 (ws' := (W_X9 a cI cJ c_length c_text c_stands c_homeFar c_nets c_netAt (upd c_netWide (c_nets (0 : Int32).toNatClampNeg).toNatClampNeg x1) (upd c_netFrom (c_nets (0 : Int32).toNatClampNeg).toNatClampNeg (0 : Int32)) (upd c_netTo (c_nets (0 : Int32).toNatClampNeg).toNatClampNeg (10000 : Int32)) c_priceX c_priceY c_many c_days c_aims c_speeds c_kinds c_keptMany c_undoMany c_undos c_spot c_told k_to_7 k_stood_8 k_home_9 k_lost_10 k_out_11 c_fewest c_ways c_next c_held)) rfl g_15 rfl dX9_net_58 (fun H locs hG => ?_)
      refine lv_aload_n hx hb dX9_net_59 rfl (lv_at hl 1 rfl) ?_
      refine r_get X hG in_X9 rfl 4 (by decide) w_635 0 rfl rfl dX9_net_60 ?_
      refine lv_iconst (v := (0 : Int32)) hx hb dX9_net_63 (by decide) ?_
      refine lv_dup2_11 hx hb dX9_net_64 rfl rfl ?_
      refine r_iald X hG 4 rfl (vpd (by decide)) dX9_net_65 ?_
      refine lv_iconst (v := (1 : Int32)) hx hb dX9_net_66 (by decide) ?_
      refine lv_iadd hx hb dX9_net_67 ?_
      refine r_iast X hG 4 (ws' := (W_X9 a cI cJ c_length c_text c_stands c_homeFar (upd c_nets (0 : Int32).toNatClampNeg ((c_nets (0 : Int32).toNatClampNeg) + (1 : Int32))) c_netAt (upd c_netWide (c_nets (0 : Int32).toNatClampNeg).toNatClampNeg x1) (upd c_netFrom (c_nets (0 : Int32).toNatClampNeg).toNatClampNeg (0 : Int32)) (upd c_netTo (c_nets (0 : Int32).toNatClampNeg).toNatClampNeg (10000 : Int32)) c_priceX c_priceY c_many c_days c_aims c_speeds c_kinds c_keptMany c_undoMany c_undos c_spot c_told k_to_7 k_stood_8 k_home_9 k_lost_10 k_out_11 c_fewest c_ways c_next c_held)) rfl (vpd (by decide)) rfl dX9_net_68 (fun H locs hG => ?_)
      refine lv_iconst (v := (0 : Int32)) hx hb dX9_net_69 (by decide) ?_
      refine lv_istore (lv' := [(4, .int (0 : Int32)), (3, .int (c_nets (0 : Int32).toNatClampNeg)), (0, .ref (a 0)), (1, .int x1), (2, .int x2)]) hx hb dX9_net_70 hl (by decide) rfl (fun ls hl => ?_)
      refine lv_bipush (v := (-4 : Int32)) hx hb dX9_net_72 (by decide) ?_
      refine lv_istore (lv' := [(5, .int (-4 : Int32)), (4, .int (0 : Int32)), (3, .int (c_nets (0 : Int32).toNatClampNeg)), (0, .ref (a 0)), (1, .int x1), (2, .int x2)]) hx hb dX9_net_74 hl (by decide) rfl (fun ls hl => ?_)
      refine lv_iconst (v := (0 : Int32)) hx hb dX9_net_76 (by decide) ?_
      refine lv_istore (lv' := [(6, .int (0 : Int32)), (5, .int (-4 : Int32)), (4, .int (0 : Int32)), (3, .int (c_nets (0 : Int32).toNatClampNeg)), (0, .ref (a 0)), (1, .int x1), (2, .int x2)]) hx hb dX9_net_77 hl (by decide) rfl (fun ls hl => ?_)
      obtain ⟨z4_22, z5_23, k_netAt_24, hz, h⟩ := bd3_some h
      refine L79 (c_nets (0 : Int32).toNatClampNeg) (upd c_nets (0 : Int32).toNatClampNeg ((c_nets (0 : Int32).toNatClampNeg) + (1 : Int32))) (upd c_netWide (c_nets (0 : Int32).toNatClampNeg).toNatClampNeg x1) (upd c_netFrom (c_nets (0 : Int32).toNatClampNeg).toNatClampNeg (0 : Int32)) (upd c_netTo (c_nets (0 : Int32).toNatClampNeg).toNatClampNeg (10000 : Int32)) k_to_7 k_stood_8 k_home_9 k_lost_10 k_out_11 FU (0 : Int32) (-4 : Int32) (0 : Int32) c_netAt _ _ _ hz (fun ls H locs hl hG => ?_) _ _ _ (lv_sub hl [4, 6, 3, 2, 1, 0] rfl) hG
      clear hz
      refine lv_aload_n hx hb dX9_net_139 rfl (lv_at hl 0 rfl) ?_
      refine r_get X hG in_X9 rfl 4 (by decide) w_635 0 rfl rfl dX9_net_140 ?_
      refine lv_iconst (v := (0 : Int32)) hx hb dX9_net_143 (by decide) ?_
      refine lv_dup2_11 hx hb dX9_net_144 rfl rfl ?_
      refine r_iald X hG 4 rfl (vpd (by decide)) dX9_net_145 ?_
      refine lv_iconst (v := (1 : Int32)) hx hb dX9_net_146 (by decide) ?_
      refine lv_isub hx hb dX9_net_147 ?_
      refine r_iast X hG 4 (ws' := (W_X9 a cI cJ c_length c_text c_stands c_homeFar (upd (upd c_nets (0 : Int32).toNatClampNeg ((c_nets (0 : Int32).toNatClampNeg) + (1 : Int32))) (0 : Int32).toNatClampNeg (((upd c_nets (0 : Int32).toNatClampNeg ((c_nets (0 : Int32).toNatClampNeg) + (1 : Int32))) (0 : Int32).toNatClampNeg) - (1 : Int32))) k_netAt_24 (upd c_netWide (c_nets (0 : Int32).toNatClampNeg).toNatClampNeg x1) (upd c_netFrom (c_nets (0 : Int32).toNatClampNeg).toNatClampNeg (0 : Int32)) (upd c_netTo (c_nets (0 : Int32).toNatClampNeg).toNatClampNeg (10000 : Int32)) c_priceX c_priceY c_many c_days c_aims c_speeds c_kinds c_keptMany c_undoMany c_undos c_spot c_told k_to_7 k_stood_8 k_home_9 k_lost_10 k_out_11 c_fewest c_ways c_next c_held)) rfl (vpd (by decide)) rfl dX9_net_148 (fun H locs hG => ?_)
      refine lv_iload_n hx hb dX9_net_149 rfl (lv_at hl 1 rfl) ?_
      refine lv_if_ne (tgt := 158) hx hb dX9_net_150 (by decide) (fun c_25 => ?_) (fun c_25 => ?_)
      · have h := ite_f h c_25
        refine lv_iload hx hb dX9_net_158 (lv_at hl 3 rfl) ?_
        cases h
        exact ret _ _ _ _ dX9_net_160 hG
      · have h := ite_t h c_25
        refine lv_iload hx hb dX9_net_153 (lv_at hl 2 rfl) ?_
        refine lv_goto (tgt := 160) hx hb dX9_net_155 (by decide) ?_
        cases h
        exact ret _ _ _ _ dX9_net_160 hG
    · have h := ite_t h c_6
      refine lv_iconst (v := (-1 : Int32)) hx hb dX9_net_22 (by decide) ?_
      cases h
      exact ret _ _ _ _ dX9_net_23 hG
set_option maxRecDepth 100000 in
set_option maxHeartbeats 4000000 in
theorem mX9_bits (l : Launch) (dC : Nat → ClassId) (dI : Nat → Nat → Nat) (cI cJ : ClassId) (x0 : Int32) {res : Int32} (hD : DX9_bits x0 = some res) : Met l yX9_bits (WZ yX9_bits cX9_bits 3 (some .int)) (RM 0 0) (PC dC dI cI cJ [.int x0] []) (QI dC dI [] [] res) 0 0 (FA []) := by
  refine r_metI (by decide +kernel) (Nat.le_of_ble_eq_true rfl) ?_
  intro p e s m args below meth c A H0 QQ X ret ls hl hG
  have X : Cx p m c cX9_bits 3 s args RX9 dC dI cI cJ meth (some .int) := X
  have hx := X.1.1
  have hb := X.1.2.1
  have hl : lv_has ls 3 [(0, .int x0)] := hl
  have L4 : ∀ (n : Nat) (x1 : Int32) (x2 : Int32) (ex1 : Int32), DX9_bits_L4 n x1 x2 = some ex1 → (∀ (ls : Array Slot) (H : Heap) (locs : List Loc), lv_has ls 3 [(1, .int ex1)] → G dC dI A H0 [] H locs → W p l e (RM 0 0) s m args below meth c H locs 0 0 QQ (F0 m 20 ls [])) → ∀ (ls : Array Slot) (H : Heap) (locs : List Loc), lv_has ls 3 [(1, .int x1), (2, .int x2)] → G dC dI A H0 [] H locs → W p l e (RM 0 0) s m args below meth c H locs 0 0 QQ (F0 m 4 ls []) := by
    intro  n
    induction n with
    | zero => intro x1 x2 ex1 h; exact it_zero h
    | succ n ih =>
      intro x1 x2 ex1 h0 K0 ls H locs hl hG
      obtain ⟨w, h, hi, hr⟩ := it_succ h0
      have h : DX9_bits_L4s x1 x2 = some w := h
      have KC : ∀ (x1 : Int32) (x2 : Int32), w = .inl (x1, x2) → ∀ (ls : Array Slot) (H : Heap) (locs : List Loc), lv_has ls 3 [(1, .int x1), (2, .int x2)] → G dC dI A H0 [] H locs → W p l e (RM 0 0) s m args below meth c H locs 0 0 QQ (F0 m 4 ls []) := fun b0 b1 e ls H locs hl hG => ih b0 b1 ex1 (hi _ e) K0 ls H locs hl hG
      have KX : ∀ (x1 : Int32), w = .inr x1 → ∀ (ls : Array Slot) (H : Heap) (locs : List Loc), lv_has ls 3 [(1, .int x1)] → G dC dI A H0 [] H locs → W p l e (RM 0 0) s m args below meth c H locs 0 0 QQ (F0 m 20 ls []) := fun b0 e ls H locs hl hG => by cases hr _ e; exact K0 ls H locs hl hG
      clear h0 hi hr K0 ih
      unfold DX9_bits_L4s at h
      refine lv_iload_n hx hb dX9_bits_4 rfl (lv_at hl 1 rfl) ?_
      refine lv_if_eq (tgt := 20) hx hb dX9_bits_5 (by decide) (fun c_1 => ?_) (fun c_1 => ?_)
      · have h := ite_t h c_1
        exact KX _ (Option.some.inj h).symm _ _ _ (lv_sub hl [0] rfl) hG
      · have h := ite_f h c_1
        refine lv_iinc (v := (x1 + (1 : Int32))) (lv' := [(1, .int (x1 + (1 : Int32))), (2, .int x2)]) hx hb dX9_bits_8 hl (k := 0) rfl rfl (by decide) rfl (fun ls hl => ?_)
        refine lv_iload_n hx hb dX9_bits_11 rfl (lv_at hl 1 rfl) ?_
        refine lv_iload_n hx hb dX9_bits_12 rfl (lv_at hl 1 rfl) ?_
        refine lv_iconst (v := (1 : Int32)) hx hb dX9_bits_13 (by decide) ?_
        refine lv_isub hx hb dX9_bits_14 ?_
        refine lv_iand hx hb dX9_bits_15 ?_
        refine lv_istore_n (lv' := [(2, .int (x2 &&& (x2 - (1 : Int32)))), (1, .int (x1 + (1 : Int32)))]) hx hb dX9_bits_16 rfl hl (by decide) rfl (fun ls hl => ?_)
        refine lv_goto (tgt := 4) hx hb dX9_bits_17 (by decide) ?_
        exact KC _ _ (Option.some.inj h).symm _ _ _ (lv_sub hl [1, 0] rfl) hG
  have h := hD
  unfold DX9_bits at h
  clear hD
  refine lv_iconst (v := (0 : Int32)) hx hb dX9_bits_0 (by decide) ?_
  refine lv_istore_n (lv' := [(1, .int (0 : Int32)), (0, .int x0)]) hx hb dX9_bits_1 rfl hl (by decide) rfl (fun ls hl => ?_)
  refine lv_iload_n hx hb dX9_bits_2 rfl (lv_at hl 1 rfl) ?_
  refine lv_istore_n (lv' := [(2, .int x0), (1, .int (0 : Int32)), (0, .int x0)]) hx hb dX9_bits_3 rfl hl (by decide) rfl (fun ls hl => ?_)
  obtain ⟨z1_2, hz, h⟩ := bd1_some h
  refine L4  FU (0 : Int32) x0 _ hz (fun ls H locs hl hG => ?_) _ _ _ (lv_sub hl [1, 0] rfl) hG
  clear hz
  refine lv_iload_n hx hb dX9_bits_20 rfl (lv_at hl 0 rfl) ?_
  cases h
  exact ret _ _ _ _ dX9_bits_21 hG
set_option maxRecDepth 100000 in
set_option maxHeartbeats 4000000 in
theorem mX9_clear (l : Launch) (dC : Nat → ClassId) (dI : Nat → Nat → Nat) (cI cJ : ClassId) (a : Nat → Nat) (c_length : Int32) (c_text : Nat → Int32) (c_stands : Nat → Int32) (c_homeFar : Nat → Int32) (c_nets : Nat → Int32) (c_netAt : Nat → Int32) (c_netWide : Nat → Int32) (c_netFrom : Nat → Int32) (c_netTo : Nat → Int32) (c_priceX : Nat → Int32) (c_priceY : Nat → Int32) (c_many : Nat → Int32) (c_days : Nat → Int32) (c_aims : Nat → Int32) (c_speeds : Nat → Int32) (c_kinds : Nat → Int32) (c_keptMany : Int32) (c_undoMany : Int32) (c_undos : Nat → Int32) (c_spot : Int32) (c_told : Nat → Int32) (c_to : Nat → Int32) (c_stood : Nat → Int32) (c_home : Nat → Int32) (c_lost : Nat → Int32) (c_out : Int32) (c_fewest : Nat → Int32) (c_ways : Nat → Int64) (c_next : Nat → Int64) (c_held : Nat → Int32) {res : Int32} {n_to : Nat → Int32} {n_stood : Nat → Int32} {n_home : Nat → Int32} {n_lost : Nat → Int32} {n_out : Int32} (hD : DX9_clear c_stands c_homeFar c_many c_days c_aims c_speeds c_kinds c_to c_stood c_home c_lost c_out = some (res, n_to, n_stood, n_home, n_lost, n_out)) : Met l yX9_clear (WZ yX9_clear cX9_clear 5 (some .int)) (RM 4 91) (PC dC dI cI cJ [.ref (a 0)] (W_X9 a cI cJ c_length c_text c_stands c_homeFar c_nets c_netAt c_netWide c_netFrom c_netTo c_priceX c_priceY c_many c_days c_aims c_speeds c_kinds c_keptMany c_undoMany c_undos c_spot c_told c_to c_stood c_home c_lost c_out c_fewest c_ways c_next c_held)) (QI dC dI (W_X9 a cI cJ c_length c_text c_stands c_homeFar c_nets c_netAt c_netWide c_netFrom c_netTo c_priceX c_priceY c_many c_days c_aims c_speeds c_kinds c_keptMany c_undoMany c_undos c_spot c_told c_to c_stood c_home c_lost c_out c_fewest c_ways c_next c_held) (W_X9 a cI cJ c_length c_text c_stands c_homeFar c_nets c_netAt c_netWide c_netFrom c_netTo c_priceX c_priceY c_many c_days c_aims c_speeds c_kinds c_keptMany c_undoMany c_undos c_spot c_told n_to n_stood n_home n_lost n_out c_fewest c_ways c_next c_held) res) 0 0 (FA (W_X9 a cI cJ c_length c_text c_stands c_homeFar c_nets c_netAt c_netWide c_netFrom c_netTo c_priceX c_priceY c_many c_days c_aims c_speeds c_kinds c_keptMany c_undoMany c_undos c_spot c_told c_to c_stood c_home c_lost c_out c_fewest c_ways c_next c_held)) := by
  refine r_metI (by decide +kernel) (Nat.le_of_ble_eq_true rfl) ?_
  intro p e s m args below meth c A H0 QQ X ret ls hl hG
  have X : Cx p m c cX9_clear 5 s args RX9 dC dI cI cJ meth (some .int) := X
  have hx := X.1.1
  have hb := X.1.2.1
  have hl : lv_has ls 5 [(0, .ref (a 0))] := hl
  have L42 : ∀ (x1 : Int32) (x2 : Int32) (c_to : Nat → Int32) (c_stood : Nat → Int32) (c_home : Nat → Int32) (c_lost : Nat → Int32) (c_out : Int32), ∀ (n : Nat) (x3 : Int32) (x4 : Int32) (ex3 : Int32), DX9_clear_L42 c_many c_lost n x3 x4 = some ex3 → (∀ (ls : Array Slot) (H : Heap) (locs : List Loc), lv_has ls 5 [(0, .ref (a 0)), (1, .int x1), (2, .int x2), (3, .int ex3)] → G dC dI A H0 (W_X9 a cI cJ c_length c_text c_stands c_homeFar c_nets c_netAt c_netWide c_netFrom c_netTo c_priceX c_priceY c_many c_days c_aims c_speeds c_kinds c_keptMany c_undoMany c_undos c_spot c_told c_to c_stood c_home c_lost c_out c_fewest c_ways c_next c_held) H locs → W p l e (RM 4 91) s m args below meth c H locs 0 0 QQ (F0 m 82 ls [])) → ∀ (ls : Array Slot) (H : Heap) (locs : List Loc), lv_has ls 5 [(0, .ref (a 0)), (1, .int x1), (2, .int x2), (3, .int x3), (4, .int x4)] → G dC dI A H0 (W_X9 a cI cJ c_length c_text c_stands c_homeFar c_nets c_netAt c_netWide c_netFrom c_netTo c_priceX c_priceY c_many c_days c_aims c_speeds c_kinds c_keptMany c_undoMany c_undos c_spot c_told c_to c_stood c_home c_lost c_out c_fewest c_ways c_next c_held) H locs → W p l e (RM 4 91) s m args below meth c H locs 0 0 QQ (F0 m 42 ls []) := by
    intro x1 x2 c_to c_stood c_home c_lost c_out n
    induction n with
    | zero => intro x3 x4 ex3 h; exact it_zero h
    | succ n ih =>
      intro x3 x4 ex3 h0 K0 ls H locs hl hG
      obtain ⟨w, h, hi, hr⟩ := it_succ h0
      have h : DX9_clear_L42s c_many c_lost x3 x4 = some w := h
      have KC : ∀ (x3 : Int32) (x4 : Int32), w = .inl (x3, x4) → ∀ (ls : Array Slot) (H : Heap) (locs : List Loc), lv_has ls 5 [(0, .ref (a 0)), (1, .int x1), (2, .int x2), (3, .int x3), (4, .int x4)] → G dC dI A H0 (W_X9 a cI cJ c_length c_text c_stands c_homeFar c_nets c_netAt c_netWide c_netFrom c_netTo c_priceX c_priceY c_many c_days c_aims c_speeds c_kinds c_keptMany c_undoMany c_undos c_spot c_told c_to c_stood c_home c_lost c_out c_fewest c_ways c_next c_held) H locs → W p l e (RM 4 91) s m args below meth c H locs 0 0 QQ (F0 m 42 ls []) := fun b0 b1 e ls H locs hl hG => ih b0 b1 ex3 (hi _ e) K0 ls H locs hl hG
      have KX : ∀ (x3 : Int32), w = .inr x3 → ∀ (ls : Array Slot) (H : Heap) (locs : List Loc), lv_has ls 5 [(0, .ref (a 0)), (1, .int x1), (2, .int x2), (3, .int x3)] → G dC dI A H0 (W_X9 a cI cJ c_length c_text c_stands c_homeFar c_nets c_netAt c_netWide c_netFrom c_netTo c_priceX c_priceY c_many c_days c_aims c_speeds c_kinds c_keptMany c_undoMany c_undos c_spot c_told c_to c_stood c_home c_lost c_out c_fewest c_ways c_next c_held) H locs → W p l e (RM 4 91) s m args below meth c H locs 0 0 QQ (F0 m 82 ls []) := fun b0 e ls H locs hl hG => by cases hr _ e; exact K0 ls H locs hl hG
      clear h0 hi hr K0 ih
      unfold DX9_clear_L42s at h
      refine lv_iload hx hb dX9_clear_42 (lv_at hl 4 rfl) ?_
      refine lv_aload_n hx hb dX9_clear_44 rfl (lv_at hl 0 rfl) ?_
      refine r_get X hG in_X9 rfl 11 (by decide) w_642 0 rfl rfl dX9_clear_45 ?_
      refine lv_iconst (v := (0 : Int32)) hx hb dX9_clear_48 (by decide) ?_
      refine r_iald X hG 11 rfl (vpd (by decide)) dX9_clear_49 ?_
      refine lv_icmp_ge (tgt := 82) hx hb dX9_clear_50 (by decide) (fun c_9 => ?_) (fun c_9 => ?_)
      · have h := ite_t h c_9
        exact KX _ (Option.some.inj h).symm _ _ _ (lv_sub hl [0, 1, 2, 3] rfl) hG
      · have h := ite_f h c_9
        refine lv_iload_n hx hb dX9_clear_53 rfl (lv_at hl 3 rfl) ?_
        refine lv_if_eq (tgt := 74) hx hb dX9_clear_54 (by decide) (fun c_10 => ?_) (fun c_10 => ?_)
        · have h := ite_t h c_10
          refine lv_iconst (v := (0 : Int32)) hx hb dX9_clear_74 (by decide) ?_
          refine lv_istore_n (lv' := [(3, .int (0 : Int32)), (0, .ref (a 0)), (1, .int x1), (2, .int x2), (4, .int x4)]) hx hb dX9_clear_75 rfl hl (by decide) rfl (fun ls hl => ?_)
          refine lv_iinc (v := (x4 + (1 : Int32))) (lv' := [(4, .int (x4 + (1 : Int32))), (3, .int (0 : Int32)), (0, .ref (a 0)), (1, .int x1), (2, .int x2)]) hx hb dX9_clear_76 hl (k := 4) rfl rfl (by decide) rfl (fun ls hl => ?_)
          refine lv_goto (tgt := 42) hx hb dX9_clear_79 (by decide) ?_
          exact KC _ _ (Option.some.inj h).symm _ _ _ (lv_sub hl [2, 3, 4, 1, 0] rfl) hG
        · have h := ite_f h c_10
          refine lv_aload_n hx hb dX9_clear_57 rfl (lv_at hl 0 rfl) ?_
          refine r_get X hG in_X9 rfl 24 (by decide) w_655 0 rfl rfl dX9_clear_58 ?_
          refine lv_iload hx hb dX9_clear_61 (lv_at hl 4 rfl) ?_
          obtain ⟨g_11, h⟩ := gd h
          refine r_iald X hG 21 rfl g_11 dX9_clear_63 ?_
          refine lv_sipush (v := (10000 : Int32)) hx hb dX9_clear_64 (by decide) ?_
          refine lv_icmp_ne (tgt := 74) hx hb dX9_clear_67 (by decide) (fun c_12 => ?_) (fun c_12 => ?_)
          · have h := ite_f h c_12
            refine lv_iconst (v := (0 : Int32)) hx hb dX9_clear_74 (by decide) ?_
            refine lv_istore_n (lv' := [(3, .int (0 : Int32)), (0, .ref (a 0)), (1, .int x1), (2, .int x2), (4, .int x4)]) hx hb dX9_clear_75 rfl hl (by decide) rfl (fun ls hl => ?_)
            refine lv_iinc (v := (x4 + (1 : Int32))) (lv' := [(4, .int (x4 + (1 : Int32))), (3, .int (0 : Int32)), (0, .ref (a 0)), (1, .int x1), (2, .int x2)]) hx hb dX9_clear_76 hl (k := 4) rfl rfl (by decide) rfl (fun ls hl => ?_)
            refine lv_goto (tgt := 42) hx hb dX9_clear_79 (by decide) ?_
            exact KC _ _ (Option.some.inj h).symm _ _ _ (lv_sub hl [2, 3, 4, 1, 0] rfl) hG
          · have h := ite_t h c_12
            refine lv_iconst (v := (1 : Int32)) hx hb dX9_clear_70 (by decide) ?_
            refine lv_goto (tgt := 75) hx hb dX9_clear_71 (by decide) ?_
            refine lv_istore_n (lv' := [(3, .int (1 : Int32)), (0, .ref (a 0)), (1, .int x1), (2, .int x2), (4, .int x4)]) hx hb dX9_clear_75 rfl hl (by decide) rfl (fun ls hl => ?_)
            refine lv_iinc (v := (x4 + (1 : Int32))) (lv' := [(4, .int (x4 + (1 : Int32))), (3, .int (1 : Int32)), (0, .ref (a 0)), (1, .int x1), (2, .int x2)]) hx hb dX9_clear_76 hl (k := 4) rfl rfl (by decide) rfl (fun ls hl => ?_)
            refine lv_goto (tgt := 42) hx hb dX9_clear_79 (by decide) ?_
            exact KC _ _ (Option.some.inj h).symm _ _ _ (lv_sub hl [2, 3, 4, 1, 0] rfl) hG
  have L5 : ∀ (n : Nat) (x1 : Int32) (x2 : Int32) (c_to : Nat → Int32) (c_stood : Nat → Int32) (c_home : Nat → Int32) (c_lost : Nat → Int32) (c_out : Int32) (ex1 : Int32) (ec_to : Nat → Int32) (ec_stood : Nat → Int32) (ec_home : Nat → Int32) (ec_lost : Nat → Int32) (ec_out : Int32), DX9_clear_L5 c_stands c_homeFar c_many c_days c_aims c_speeds c_kinds n x1 x2 c_to c_stood c_home c_lost c_out = some (ex1, ec_to, ec_stood, ec_home, ec_lost, ec_out) → (∀ (ls : Array Slot) (H : Heap) (locs : List Loc), lv_has ls 5 [(1, .int ex1)] → G dC dI A H0 (W_X9 a cI cJ c_length c_text c_stands c_homeFar c_nets c_netAt c_netWide c_netFrom c_netTo c_priceX c_priceY c_many c_days c_aims c_speeds c_kinds c_keptMany c_undoMany c_undos c_spot c_told ec_to ec_stood ec_home ec_lost ec_out c_fewest c_ways c_next c_held) H locs → W p l e (RM 4 91) s m args below meth c H locs 0 0 QQ (F0 m 98 ls [])) → ∀ (ls : Array Slot) (H : Heap) (locs : List Loc), lv_has ls 5 [(0, .ref (a 0)), (1, .int x1), (2, .int x2)] → G dC dI A H0 (W_X9 a cI cJ c_length c_text c_stands c_homeFar c_nets c_netAt c_netWide c_netFrom c_netTo c_priceX c_priceY c_many c_days c_aims c_speeds c_kinds c_keptMany c_undoMany c_undos c_spot c_told c_to c_stood c_home c_lost c_out c_fewest c_ways c_next c_held) H locs → W p l e (RM 4 91) s m args below meth c H locs 0 0 QQ (F0 m 5 ls []) := by
    intro  n
    induction n with
    | zero => intro x1 x2 c_to c_stood c_home c_lost c_out ex1 ec_to ec_stood ec_home ec_lost ec_out h; exact it_zero h
    | succ n ih =>
      intro x1 x2 c_to c_stood c_home c_lost c_out ex1 ec_to ec_stood ec_home ec_lost ec_out h0 K0 ls H locs hl hG
      obtain ⟨w, h, hi, hr⟩ := it_succ h0
      have h : DX9_clear_L5s c_stands c_homeFar c_many c_days c_aims c_speeds c_kinds x1 x2 c_to c_stood c_home c_lost c_out = some w := h
      have KC : ∀ (x1 : Int32) (x2 : Int32) (c_to : Nat → Int32) (c_stood : Nat → Int32) (c_home : Nat → Int32) (c_lost : Nat → Int32) (c_out : Int32), w = .inl (x1, x2, c_to, c_stood, c_home, c_lost, c_out) → ∀ (ls : Array Slot) (H : Heap) (locs : List Loc), lv_has ls 5 [(0, .ref (a 0)), (1, .int x1), (2, .int x2)] → G dC dI A H0 (W_X9 a cI cJ c_length c_text c_stands c_homeFar c_nets c_netAt c_netWide c_netFrom c_netTo c_priceX c_priceY c_many c_days c_aims c_speeds c_kinds c_keptMany c_undoMany c_undos c_spot c_told c_to c_stood c_home c_lost c_out c_fewest c_ways c_next c_held) H locs → W p l e (RM 4 91) s m args below meth c H locs 0 0 QQ (F0 m 5 ls []) := fun b0 b1 b2 b3 b4 b5 b6 e ls H locs hl hG => ih b0 b1 b2 b3 b4 b5 b6 ex1 ec_to ec_stood ec_home ec_lost ec_out (hi _ e) K0 ls H locs hl hG
      have KX : ∀ (x1 : Int32) (c_to : Nat → Int32) (c_stood : Nat → Int32) (c_home : Nat → Int32) (c_lost : Nat → Int32) (c_out : Int32), w = .inr (x1, c_to, c_stood, c_home, c_lost, c_out) → ∀ (ls : Array Slot) (H : Heap) (locs : List Loc), lv_has ls 5 [(1, .int x1)] → G dC dI A H0 (W_X9 a cI cJ c_length c_text c_stands c_homeFar c_nets c_netAt c_netWide c_netFrom c_netTo c_priceX c_priceY c_many c_days c_aims c_speeds c_kinds c_keptMany c_undoMany c_undos c_spot c_told c_to c_stood c_home c_lost c_out c_fewest c_ways c_next c_held) H locs → W p l e (RM 4 91) s m args below meth c H locs 0 0 QQ (F0 m 98 ls []) := fun b0 b1 b2 b3 b4 b5 e ls H locs hl hG => by cases hr _ e; exact K0 ls H locs hl hG
      clear h0 hi hr K0 ih
      unfold DX9_clear_L5s at h
      refine lv_iload_n hx hb dX9_clear_5 rfl (lv_at hl 2 rfl) ?_
      refine lv_iconst (v := (1 : Int32)) hx hb dX9_clear_6 (by decide) ?_
      refine lv_aload_n hx hb dX9_clear_7 rfl (lv_at hl 0 rfl) ?_
      refine r_get X hG in_X9 rfl 11 (by decide) w_642 0 rfl rfl dX9_clear_8 ?_
      refine lv_iconst (v := (0 : Int32)) hx hb dX9_clear_11 (by decide) ?_
      refine r_iald X hG 11 rfl (vpd (by decide)) dX9_clear_12 ?_
      refine lv_ishl hx hb dX9_clear_13 ?_
      refine lv_icmp_ge (tgt := 98) hx hb dX9_clear_14 (by decide) (fun c_1 => ?_) (fun c_1 => ?_)
      · have h := ite_t h c_1
        exact KX _ _ _ _ _ _ (Option.some.inj h).symm _ _ _ (lv_sub hl [1] rfl) hG
      · have h := ite_f h c_1
        refine lv_iload_n hx hb dX9_clear_17 rfl (lv_at hl 1 rfl) ?_
        refine lv_if_lt (tgt := 32) hx hb dX9_clear_18 (by decide) (fun c_2 => ?_) (fun c_2 => ?_)
        · have h := ite_t h c_2
          refine lv_aload_n hx hb dX9_clear_32 rfl (lv_at hl 0 rfl) ?_
          refine lv_iload_n hx hb dX9_clear_33 rfl (lv_at hl 2 rfl) ?_
          obtain ⟨k_to_3, k_stood_4, k_home_5, k_lost_6, k_out_7, hz_8, h⟩ := bd5_some h
          refine aft_v1 (run_V1 (rest := []) X hG hl.1 (mX9_go l dC dI cI cJ a c_length c_text c_stands c_homeFar c_nets c_netAt c_netWide c_netFrom c_netTo c_priceX c_priceY c_many c_days c_aims c_speeds c_kinds c_keptMany c_undoMany c_undos c_spot c_told c_to c_stood c_home c_lost c_out c_fewest c_ways c_next c_held x2 hz_8) gi_V_X9_185 hd_V_yX9_go ⟨rfl, rfl⟩ rfl ⟨Nat.le_of_ble_eq_true rfl, Nat.le_of_ble_eq_true rfl⟩ 0 rfl rfl rfl rfl (Nat.le_of_ble_eq_true rfl) ⟨Nat.le_of_ble_eq_true rfl, Nat.le_of_ble_eq_true rfl⟩ dX9_clear_34) hG rfl (fun H locs hG => ?_)
          clear hz_8
          refine lv_iconst (v := (1 : Int32)) hx hb dX9_clear_37 (by decide) ?_
          refine lv_istore_n (lv' := [(3, .int (1 : Int32)), (0, .ref (a 0)), (1, .int x1), (2, .int x2)]) hx hb dX9_clear_38 rfl hl (by decide) rfl (fun ls hl => ?_)
          refine lv_iconst (v := (0 : Int32)) hx hb dX9_clear_39 (by decide) ?_
          refine lv_istore (lv' := [(4, .int (0 : Int32)), (3, .int (1 : Int32)), (0, .ref (a 0)), (1, .int x1), (2, .int x2)]) hx hb dX9_clear_40 hl (by decide) rfl (fun ls hl => ?_)
          obtain ⟨z3_13, hz, h⟩ := bd1_some h
          refine L42 x1 x2 k_to_3 k_stood_4 k_home_5 k_lost_6 k_out_7 FU (1 : Int32) (0 : Int32) _ hz (fun ls H locs hl hG => ?_) _ _ _ (lv_sub hl [2, 3, 4, 1, 0] rfl) hG
          clear hz
          refine lv_iload_n hx hb dX9_clear_82 rfl (lv_at hl 3 rfl) ?_
          refine lv_if_eq (tgt := 90) hx hb dX9_clear_83 (by decide) (fun c_14 => ?_) (fun c_14 => ?_)
          · have h := ite_t h c_14
            refine lv_iload_n hx hb dX9_clear_90 rfl (lv_at hl 1 rfl) ?_
            refine lv_istore_n (lv' := [(1, .int x1), (0, .ref (a 0)), (2, .int x2), (3, .int z3_13)]) hx hb dX9_clear_91 rfl hl (by decide) rfl (fun ls hl => ?_)
            refine lv_iinc (v := (x2 + (1 : Int32))) (lv' := [(2, .int (x2 + (1 : Int32))), (1, .int x1), (0, .ref (a 0)), (3, .int z3_13)]) hx hb dX9_clear_92 hl (k := 2) rfl rfl (by decide) rfl (fun ls hl => ?_)
            refine lv_goto (tgt := 5) hx hb dX9_clear_95 (by decide) ?_
            exact KC _ _ _ _ _ _ _ (Option.some.inj h).symm _ _ _ (lv_sub hl [2, 1, 0] rfl) hG
          · have h := ite_f h c_14
            refine lv_iload_n hx hb dX9_clear_86 rfl (lv_at hl 2 rfl) ?_
            refine lv_goto (tgt := 91) hx hb dX9_clear_87 (by decide) ?_
            refine lv_istore_n (lv' := [(1, .int x2), (0, .ref (a 0)), (2, .int x2), (3, .int z3_13)]) hx hb dX9_clear_91 rfl hl (by decide) rfl (fun ls hl => ?_)
            refine lv_iinc (v := (x2 + (1 : Int32))) (lv' := [(2, .int (x2 + (1 : Int32))), (1, .int x2), (0, .ref (a 0)), (3, .int z3_13)]) hx hb dX9_clear_92 hl (k := 2) rfl rfl (by decide) rfl (fun ls hl => ?_)
            refine lv_goto (tgt := 5) hx hb dX9_clear_95 (by decide) ?_
            exact KC _ _ _ _ _ _ _ (Option.some.inj h).symm _ _ _ (lv_sub hl [2, 1, 0] rfl) hG
        · have h := ite_f h c_2
          refine lv_iload_n hx hb dX9_clear_21 rfl (lv_at hl 2 rfl) ?_
          obtain ⟨r_15, hz_16, h⟩ := bd1_some h
          refine aft_i (ws' := (W_X9 a cI cJ c_length c_text c_stands c_homeFar c_nets c_netAt c_netWide c_netFrom c_netTo c_priceX c_priceY c_many c_days c_aims c_speeds c_kinds c_keptMany c_undoMany c_undos c_spot c_told c_to c_stood c_home c_lost c_out c_fewest c_ways c_next c_held)) (run_S (rest := []) X hG hl.1 (mX9_bits l dC dI cI cJ x2 hz_16) gi_S_X9_212 hd_S_yX9_bits ⟨rfl, rfl⟩ rfl ⟨Nat.le_of_ble_eq_true rfl, Nat.le_of_ble_eq_true rfl⟩ [] (by decide) rfl rfl (Nat.le_of_ble_eq_true rfl) ⟨Nat.le_of_ble_eq_true rfl, Nat.le_of_ble_eq_true rfl⟩ dX9_clear_22) hG [] rfl rfl rfl (fun H locs hG => ?_)
          clear hz_16
          refine lv_iload_n hx hb dX9_clear_25 rfl (lv_at hl 1 rfl) ?_
          obtain ⟨r_17, hz_18, h⟩ := bd1_some h
          refine aft_i (ws' := (W_X9 a cI cJ c_length c_text c_stands c_homeFar c_nets c_netAt c_netWide c_netFrom c_netTo c_priceX c_priceY c_many c_days c_aims c_speeds c_kinds c_keptMany c_undoMany c_undos c_spot c_told c_to c_stood c_home c_lost c_out c_fewest c_ways c_next c_held)) (run_S (rest := [.int r_15]) X hG hl.1 (mX9_bits l dC dI cI cJ x1 hz_18) gi_S_X9_212 hd_S_yX9_bits ⟨rfl, rfl⟩ rfl ⟨Nat.le_of_ble_eq_true rfl, Nat.le_of_ble_eq_true rfl⟩ [] (by decide) rfl rfl (Nat.le_of_ble_eq_true rfl) ⟨Nat.le_of_ble_eq_true rfl, Nat.le_of_ble_eq_true rfl⟩ dX9_clear_26) hG [] rfl rfl rfl (fun H locs hG => ?_)
          clear hz_18
          refine lv_icmp_ge (tgt := 92) hx hb dX9_clear_29 (by decide) (fun c_19 => ?_) (fun c_19 => ?_)
          · have h := ite_t h c_19
            refine lv_iinc (v := (x2 + (1 : Int32))) (lv' := [(2, .int (x2 + (1 : Int32))), (0, .ref (a 0)), (1, .int x1)]) hx hb dX9_clear_92 hl (k := 2) rfl rfl (by decide) rfl (fun ls hl => ?_)
            refine lv_goto (tgt := 5) hx hb dX9_clear_95 (by decide) ?_
            exact KC _ _ _ _ _ _ _ (Option.some.inj h).symm _ _ _ (lv_sub hl [1, 2, 0] rfl) hG
          · have h := ite_f h c_19
            refine lv_aload_n hx hb dX9_clear_32 rfl (lv_at hl 0 rfl) ?_
            refine lv_iload_n hx hb dX9_clear_33 rfl (lv_at hl 2 rfl) ?_
            obtain ⟨k_to_20, k_stood_21, k_home_22, k_lost_23, k_out_24, hz_25, h⟩ := bd5_some h
            refine aft_v1 (run_V1 (rest := []) X hG hl.1 (mX9_go l dC dI cI cJ a c_length c_text c_stands c_homeFar c_nets c_netAt c_netWide c_netFrom c_netTo c_priceX c_priceY c_many c_days c_aims c_speeds c_kinds c_keptMany c_undoMany c_undos c_spot c_told c_to c_stood c_home c_lost c_out c_fewest c_ways c_next c_held x2 hz_25) gi_V_X9_185 hd_V_yX9_go ⟨rfl, rfl⟩ rfl ⟨Nat.le_of_ble_eq_true rfl, Nat.le_of_ble_eq_true rfl⟩ 0 rfl rfl rfl rfl (Nat.le_of_ble_eq_true rfl) ⟨Nat.le_of_ble_eq_true rfl, Nat.le_of_ble_eq_true rfl⟩ dX9_clear_34) hG rfl (fun H locs hG => ?_)
            clear hz_25
            refine lv_iconst (v := (1 : Int32)) hx hb dX9_clear_37 (by decide) ?_
            refine lv_istore_n (lv' := [(3, .int (1 : Int32)), (0, .ref (a 0)), (1, .int x1), (2, .int x2)]) hx hb dX9_clear_38 rfl hl (by decide) rfl (fun ls hl => ?_)
            refine lv_iconst (v := (0 : Int32)) hx hb dX9_clear_39 (by decide) ?_
            refine lv_istore (lv' := [(4, .int (0 : Int32)), (3, .int (1 : Int32)), (0, .ref (a 0)), (1, .int x1), (2, .int x2)]) hx hb dX9_clear_40 hl (by decide) rfl (fun ls hl => ?_)
            obtain ⟨z3_26, hz, h⟩ := bd1_some h
            refine L42 x1 x2 k_to_20 k_stood_21 k_home_22 k_lost_23 k_out_24 FU (1 : Int32) (0 : Int32) _ hz (fun ls H locs hl hG => ?_) _ _ _ (lv_sub hl [2, 3, 4, 1, 0] rfl) hG
            clear hz
            refine lv_iload_n hx hb dX9_clear_82 rfl (lv_at hl 3 rfl) ?_
            refine lv_if_eq (tgt := 90) hx hb dX9_clear_83 (by decide) (fun c_27 => ?_) (fun c_27 => ?_)
            · have h := ite_t h c_27
              refine lv_iload_n hx hb dX9_clear_90 rfl (lv_at hl 1 rfl) ?_
              refine lv_istore_n (lv' := [(1, .int x1), (0, .ref (a 0)), (2, .int x2), (3, .int z3_26)]) hx hb dX9_clear_91 rfl hl (by decide) rfl (fun ls hl => ?_)
              refine lv_iinc (v := (x2 + (1 : Int32))) (lv' := [(2, .int (x2 + (1 : Int32))), (1, .int x1), (0, .ref (a 0)), (3, .int z3_26)]) hx hb dX9_clear_92 hl (k := 2) rfl rfl (by decide) rfl (fun ls hl => ?_)
              refine lv_goto (tgt := 5) hx hb dX9_clear_95 (by decide) ?_
              exact KC _ _ _ _ _ _ _ (Option.some.inj h).symm _ _ _ (lv_sub hl [2, 1, 0] rfl) hG
            · have h := ite_f h c_27
              refine lv_iload_n hx hb dX9_clear_86 rfl (lv_at hl 2 rfl) ?_
              refine lv_goto (tgt := 91) hx hb dX9_clear_87 (by decide) ?_
              refine lv_istore_n (lv' := [(1, .int x2), (0, .ref (a 0)), (2, .int x2), (3, .int z3_26)]) hx hb dX9_clear_91 rfl hl (by decide) rfl (fun ls hl => ?_)
              refine lv_iinc (v := (x2 + (1 : Int32))) (lv' := [(2, .int (x2 + (1 : Int32))), (1, .int x2), (0, .ref (a 0)), (3, .int z3_26)]) hx hb dX9_clear_92 hl (k := 2) rfl rfl (by decide) rfl (fun ls hl => ?_)
              refine lv_goto (tgt := 5) hx hb dX9_clear_95 (by decide) ?_
              exact KC _ _ _ _ _ _ _ (Option.some.inj h).symm _ _ _ (lv_sub hl [2, 1, 0] rfl) hG
  have h := hD
  unfold DX9_clear at h
  clear hD
  refine lv_bipush (v := (-4 : Int32)) hx hb dX9_clear_0 (by decide) ?_
  refine lv_istore_n (lv' := [(1, .int (-4 : Int32)), (0, .ref (a 0))]) hx hb dX9_clear_2 rfl hl (by decide) rfl (fun ls hl => ?_)
  refine lv_iconst (v := (0 : Int32)) hx hb dX9_clear_3 (by decide) ?_
  refine lv_istore_n (lv' := [(2, .int (0 : Int32)), (1, .int (-4 : Int32)), (0, .ref (a 0))]) hx hb dX9_clear_4 rfl hl (by decide) rfl (fun ls hl => ?_)
  obtain ⟨z1_28, k_to_29, k_stood_30, k_home_31, k_lost_32, k_out_33, hz, h⟩ := bd6_some h
  refine L5  FU (-4 : Int32) (0 : Int32) c_to c_stood c_home c_lost c_out _ _ _ _ _ _ hz (fun ls H locs hl hG => ?_) _ _ _ (lv_sub hl [2, 1, 0] rfl) hG
  clear hz
  refine lv_iload_n hx hb dX9_clear_98 rfl (lv_at hl 0 rfl) ?_
  cases h
  exact ret _ _ _ _ dX9_clear_99 hG
set_option maxRecDepth 100000 in
set_option maxHeartbeats 4000000 in
theorem mX9_stray (l : Launch) (dC : Nat → ClassId) (dI : Nat → Nat → Nat) (cI cJ : ClassId) (a : Nat → Nat) (c_length : Int32) (c_text : Nat → Int32) (c_stands : Nat → Int32) (c_homeFar : Nat → Int32) (c_nets : Nat → Int32) (c_netAt : Nat → Int32) (c_netWide : Nat → Int32) (c_netFrom : Nat → Int32) (c_netTo : Nat → Int32) (c_priceX : Nat → Int32) (c_priceY : Nat → Int32) (c_many : Nat → Int32) (c_days : Nat → Int32) (c_aims : Nat → Int32) (c_speeds : Nat → Int32) (c_kinds : Nat → Int32) (c_keptMany : Int32) (c_undoMany : Int32) (c_undos : Nat → Int32) (c_spot : Int32) (c_told : Nat → Int32) (c_to : Nat → Int32) (c_stood : Nat → Int32) (c_home : Nat → Int32) (c_lost : Nat → Int32) (c_out : Int32) (c_fewest : Nat → Int32) (c_ways : Nat → Int64) (c_next : Nat → Int64) (c_held : Nat → Int32) (x1 : Int32) (x2 : Int32) (x3 : Int32) {res : Int32} {n_to : Nat → Int32} {n_stood : Nat → Int32} {n_home : Nat → Int32} {n_lost : Nat → Int32} {n_out : Int32} (hD : DX9_stray x1 x2 x3 c_stands c_homeFar c_many c_days c_aims c_speeds c_kinds c_to c_stood c_home c_lost c_out = some (res, n_to, n_stood, n_home, n_lost, n_out)) : Met l yX9_stray (WZ yX9_stray cX9_stray 7 (some .int)) (RM 4 91) (PC dC dI cI cJ [.ref (a 0), .int x1, .int x2, .int x3] (W_X9 a cI cJ c_length c_text c_stands c_homeFar c_nets c_netAt c_netWide c_netFrom c_netTo c_priceX c_priceY c_many c_days c_aims c_speeds c_kinds c_keptMany c_undoMany c_undos c_spot c_told c_to c_stood c_home c_lost c_out c_fewest c_ways c_next c_held)) (QI dC dI (W_X9 a cI cJ c_length c_text c_stands c_homeFar c_nets c_netAt c_netWide c_netFrom c_netTo c_priceX c_priceY c_many c_days c_aims c_speeds c_kinds c_keptMany c_undoMany c_undos c_spot c_told c_to c_stood c_home c_lost c_out c_fewest c_ways c_next c_held) (W_X9 a cI cJ c_length c_text c_stands c_homeFar c_nets c_netAt c_netWide c_netFrom c_netTo c_priceX c_priceY c_many c_days c_aims c_speeds c_kinds c_keptMany c_undoMany c_undos c_spot c_told n_to n_stood n_home n_lost n_out c_fewest c_ways c_next c_held) res) 0 0 (FA (W_X9 a cI cJ c_length c_text c_stands c_homeFar c_nets c_netAt c_netWide c_netFrom c_netTo c_priceX c_priceY c_many c_days c_aims c_speeds c_kinds c_keptMany c_undoMany c_undos c_spot c_told c_to c_stood c_home c_lost c_out c_fewest c_ways c_next c_held)) := by
  refine r_metI (by decide +kernel) (Nat.le_of_ble_eq_true rfl) ?_
  intro p e s m args below meth c A H0 QQ X ret ls hl hG
  have X : Cx p m c cX9_stray 7 s args RX9 dC dI cI cJ meth (some .int) := X
  have hx := X.1.1
  have hb := X.1.2.1
  have hl : lv_has ls 7 [(0, .ref (a 0)), (1, .int x1), (2, .int x2), (3, .int x3)] := hl
  have J104 : ∀ (y0 : Int32) (x4 : Int32) (x5 : Int32) (c_to : Nat → Int32) (c_stood : Nat → Int32) (c_home : Nat → Int32) (c_lost : Nat → Int32) (c_out : Int32), ∀ (w : (Int32 × Int32) ⊕ (Int32)), DX9_stray_J104 y0 x4 x5 = some w → (∀ (x4 : Int32) (x5 : Int32), w = .inl (x4, x5) → ∀ (ls : Array Slot) (H : Heap) (locs : List Loc), lv_has ls 7 [(0, .ref (a 0)), (1, .int x1), (2, .int x2), (3, .int x3), (4, .int x4), (5, .int x5)] → G dC dI A H0 (W_X9 a cI cJ c_length c_text c_stands c_homeFar c_nets c_netAt c_netWide c_netFrom c_netTo c_priceX c_priceY c_many c_days c_aims c_speeds c_kinds c_keptMany c_undoMany c_undos c_spot c_told c_to c_stood c_home c_lost c_out c_fewest c_ways c_next c_held) H locs → W p l e (RM 4 91) s m args below meth c H locs 0 0 QQ (F0 m 44 ls [])) → (∀ (x4 : Int32), w = .inr x4 → ∀ (ls : Array Slot) (H : Heap) (locs : List Loc), lv_has ls 7 [(4, .int x4)] → G dC dI A H0 (W_X9 a cI cJ c_length c_text c_stands c_homeFar c_nets c_netAt c_netWide c_netFrom c_netTo c_priceX c_priceY c_many c_days c_aims c_speeds c_kinds c_keptMany c_undoMany c_undos c_spot c_told c_to c_stood c_home c_lost c_out c_fewest c_ways c_next c_held) H locs → W p l e (RM 4 91) s m args below meth c H locs 0 0 QQ (F0 m 130 ls [])) → ∀ (ls : Array Slot) (H : Heap) (locs : List Loc), lv_has ls 7 [(0, .ref (a 0)), (1, .int x1), (2, .int x2), (3, .int x3), (4, .int x4), (5, .int x5)] → G dC dI A H0 (W_X9 a cI cJ c_length c_text c_stands c_homeFar c_nets c_netAt c_netWide c_netFrom c_netTo c_priceX c_priceY c_many c_days c_aims c_speeds c_kinds c_keptMany c_undoMany c_undos c_spot c_told c_to c_stood c_home c_lost c_out c_fewest c_ways c_next c_held) H locs → W p l e (RM 4 91) s m args below meth c H locs 0 0 QQ (F0 m 104 ls [.int y0]) := by
    intro y0 x4 x5 c_to c_stood c_home c_lost c_out w h KC KX ls H locs hl hG
    unfold DX9_stray_J104 at h
    refine lv_istore (lv' := [(6, .int y0), (0, .ref (a 0)), (1, .int x1), (2, .int x2), (3, .int x3), (4, .int x4), (5, .int x5)]) hx hb dX9_stray_104 hl (by decide) rfl (fun ls hl => ?_)
    refine lv_iload hx hb dX9_stray_106 (lv_at hl 5 rfl) ?_
    refine lv_iload hx hb dX9_stray_108 (lv_at hl 0 rfl) ?_
    refine lv_if_eq (tgt := 120) hx hb dX9_stray_110 (by decide) (fun c_19 => ?_) (fun c_19 => ?_)
    · have h := ite_t h c_19
      refine lv_iconst (v := (0 : Int32)) hx hb dX9_stray_120 (by decide) ?_
      refine lv_ior hx hb dX9_stray_121 ?_
      refine lv_istore (lv' := [(4, .int (x4 ||| (0 : Int32))), (6, .int y0), (0, .ref (a 0)), (1, .int x1), (2, .int x2), (3, .int x3), (5, .int x5)]) hx hb dX9_stray_122 hl (by decide) rfl (fun ls hl => ?_)
      refine lv_iinc (v := (x5 + (1 : Int32))) (lv' := [(5, .int (x5 + (1 : Int32))), (4, .int (x4 ||| (0 : Int32))), (6, .int y0), (0, .ref (a 0)), (1, .int x1), (2, .int x2), (3, .int x3)]) hx hb dX9_stray_124 hl (k := 6) rfl rfl (by decide) rfl (fun ls hl => ?_)
      refine lv_goto (tgt := 44) hx hb dX9_stray_127 (by decide) ?_
      exact KC _ _ (Option.some.inj h).symm _ _ _ (lv_sub hl [3, 4, 5, 6, 1, 0] rfl) hG
    · have h := ite_f h c_19
      refine lv_iconst (v := (1 : Int32)) hx hb dX9_stray_113 (by decide) ?_
      refine lv_iload hx hb dX9_stray_114 (lv_at hl 6 rfl) ?_
      refine lv_ishl hx hb dX9_stray_116 ?_
      refine lv_goto (tgt := 121) hx hb dX9_stray_117 (by decide) ?_
      refine lv_ior hx hb dX9_stray_121 ?_
      refine lv_istore (lv' := [(4, .int (x4 ||| ((1 : Int32) <<< (x5 &&& 31)))), (6, .int y0), (0, .ref (a 0)), (1, .int x1), (2, .int x2), (3, .int x3), (5, .int x5)]) hx hb dX9_stray_122 hl (by decide) rfl (fun ls hl => ?_)
      refine lv_iinc (v := (x5 + (1 : Int32))) (lv' := [(5, .int (x5 + (1 : Int32))), (4, .int (x4 ||| ((1 : Int32) <<< (x5 &&& 31)))), (6, .int y0), (0, .ref (a 0)), (1, .int x1), (2, .int x2), (3, .int x3)]) hx hb dX9_stray_124 hl (k := 6) rfl rfl (by decide) rfl (fun ls hl => ?_)
      refine lv_goto (tgt := 44) hx hb dX9_stray_127 (by decide) ?_
      exact KC _ _ (Option.some.inj h).symm _ _ _ (lv_sub hl [3, 4, 5, 6, 1, 0] rfl) hG
  have L44 : ∀ (c_to : Nat → Int32) (c_stood : Nat → Int32) (c_home : Nat → Int32) (c_lost : Nat → Int32) (c_out : Int32), ∀ (n : Nat) (x4 : Int32) (x5 : Int32) (ex4 : Int32), DX9_stray_L44 x1 x2 x3 c_many c_days c_speeds c_to c_home n x4 x5 = some ex4 → (∀ (ls : Array Slot) (H : Heap) (locs : List Loc), lv_has ls 7 [(4, .int ex4)] → G dC dI A H0 (W_X9 a cI cJ c_length c_text c_stands c_homeFar c_nets c_netAt c_netWide c_netFrom c_netTo c_priceX c_priceY c_many c_days c_aims c_speeds c_kinds c_keptMany c_undoMany c_undos c_spot c_told c_to c_stood c_home c_lost c_out c_fewest c_ways c_next c_held) H locs → W p l e (RM 4 91) s m args below meth c H locs 0 0 QQ (F0 m 130 ls [])) → ∀ (ls : Array Slot) (H : Heap) (locs : List Loc), lv_has ls 7 [(0, .ref (a 0)), (1, .int x1), (2, .int x2), (3, .int x3), (4, .int x4), (5, .int x5)] → G dC dI A H0 (W_X9 a cI cJ c_length c_text c_stands c_homeFar c_nets c_netAt c_netWide c_netFrom c_netTo c_priceX c_priceY c_many c_days c_aims c_speeds c_kinds c_keptMany c_undoMany c_undos c_spot c_told c_to c_stood c_home c_lost c_out c_fewest c_ways c_next c_held) H locs → W p l e (RM 4 91) s m args below meth c H locs 0 0 QQ (F0 m 44 ls []) := by
    intro c_to c_stood c_home c_lost c_out n
    induction n with
    | zero => intro x4 x5 ex4 h; exact it_zero h
    | succ n ih =>
      intro x4 x5 ex4 h0 K0 ls H locs hl hG
      obtain ⟨w, h, hi, hr⟩ := it_succ h0
      have h : DX9_stray_L44s x1 x2 x3 c_many c_days c_speeds c_to c_home x4 x5 = some w := h
      have KC : ∀ (x4 : Int32) (x5 : Int32), w = .inl (x4, x5) → ∀ (ls : Array Slot) (H : Heap) (locs : List Loc), lv_has ls 7 [(0, .ref (a 0)), (1, .int x1), (2, .int x2), (3, .int x3), (4, .int x4), (5, .int x5)] → G dC dI A H0 (W_X9 a cI cJ c_length c_text c_stands c_homeFar c_nets c_netAt c_netWide c_netFrom c_netTo c_priceX c_priceY c_many c_days c_aims c_speeds c_kinds c_keptMany c_undoMany c_undos c_spot c_told c_to c_stood c_home c_lost c_out c_fewest c_ways c_next c_held) H locs → W p l e (RM 4 91) s m args below meth c H locs 0 0 QQ (F0 m 44 ls []) := fun b0 b1 e ls H locs hl hG => ih b0 b1 ex4 (hi _ e) K0 ls H locs hl hG
      have KX : ∀ (x4 : Int32), w = .inr x4 → ∀ (ls : Array Slot) (H : Heap) (locs : List Loc), lv_has ls 7 [(4, .int x4)] → G dC dI A H0 (W_X9 a cI cJ c_length c_text c_stands c_homeFar c_nets c_netAt c_netWide c_netFrom c_netTo c_priceX c_priceY c_many c_days c_aims c_speeds c_kinds c_keptMany c_undoMany c_undos c_spot c_told c_to c_stood c_home c_lost c_out c_fewest c_ways c_next c_held) H locs → W p l e (RM 4 91) s m args below meth c H locs 0 0 QQ (F0 m 130 ls []) := fun b0 e ls H locs hl hG => by cases hr _ e; exact K0 ls H locs hl hG
      clear h0 hi hr K0 ih
      unfold DX9_stray_L44s at h
      refine lv_iload hx hb dX9_stray_44 (lv_at hl 5 rfl) ?_
      refine lv_aload_n hx hb dX9_stray_46 rfl (lv_at hl 0 rfl) ?_
      refine r_get X hG in_X9 rfl 11 (by decide) w_642 0 rfl rfl dX9_stray_47 ?_
      refine lv_iconst (v := (0 : Int32)) hx hb dX9_stray_50 (by decide) ?_
      refine r_iald X hG 11 rfl (vpd (by decide)) dX9_stray_51 ?_
      refine lv_icmp_ge (tgt := 130) hx hb dX9_stray_52 (by decide) (fun c_16 => ?_) (fun c_16 => ?_)
      · have h := ite_t h c_16
        exact KX _ (Option.some.inj h).symm _ _ _ (lv_sub hl [4] rfl) hG
      · have h := ite_f h c_16
        refine lv_iload_n hx hb dX9_stray_55 rfl (lv_at hl 3 rfl) ?_
        refine lv_aload_n hx hb dX9_stray_56 rfl (lv_at hl 0 rfl) ?_
        refine r_get X hG in_X9 rfl 12 (by decide) w_643 0 rfl rfl dX9_stray_57 ?_
        refine lv_iload hx hb dX9_stray_60 (lv_at hl 5 rfl) ?_
        obtain ⟨g_17, h⟩ := gd h
        refine r_iald X hG 12 rfl g_17 dX9_stray_62 ?_
        refine lv_icmp_lt (tgt := 103) hx hb dX9_stray_63 (by decide) (fun c_18 => ?_) (fun c_18 => ?_)
        · have h := ite_t h c_18
          refine lv_iconst (v := (0 : Int32)) hx hb dX9_stray_103 (by decide) ?_
          exact J104 (0 : Int32) x4 x5 c_to c_stood c_home c_lost c_out _ h KC KX _ _ _ (lv_sub hl [0, 1, 2, 3, 4, 5] rfl) hG
        · have h := ite_f h c_18
          refine lv_iload_n hx hb dX9_stray_66 rfl (lv_at hl 3 rfl) ?_
          refine lv_aload_n hx hb dX9_stray_67 rfl (lv_at hl 0 rfl) ?_
          refine r_get X hG in_X9 rfl 23 (by decide) w_654 0 rfl rfl dX9_stray_68 ?_
          refine lv_iload hx hb dX9_stray_71 (lv_at hl 5 rfl) ?_
          obtain ⟨g_20, h⟩ := gd h
          refine r_iald X hG 20 rfl g_20 dX9_stray_73 ?_
          refine lv_icmp_ge (tgt := 103) hx hb dX9_stray_74 (by decide) (fun c_21 => ?_) (fun c_21 => ?_)
          · have h := ite_t h c_21
            refine lv_iconst (v := (0 : Int32)) hx hb dX9_stray_103 (by decide) ?_
            exact J104 (0 : Int32) x4 x5 c_to c_stood c_home c_lost c_out _ h KC KX _ _ _ (lv_sub hl [0, 1, 2, 3, 4, 5] rfl) hG
          · have h := ite_f h c_21
            refine lv_aload_n hx hb dX9_stray_77 rfl (lv_at hl 0 rfl) ?_
            refine r_get X hG in_X9 rfl 21 (by decide) w_652 0 rfl rfl dX9_stray_78 ?_
            refine lv_iload hx hb dX9_stray_81 (lv_at hl 5 rfl) ?_
            obtain ⟨g_22, h⟩ := gd h
            refine r_iald X hG 18 rfl g_22 dX9_stray_83 ?_
            refine lv_iload_n hx hb dX9_stray_84 rfl (lv_at hl 2 rfl) ?_
            refine lv_icmp_ne (tgt := 103) hx hb dX9_stray_85 (by decide) (fun c_23 => ?_) (fun c_23 => ?_)
            · have h := ite_f h c_23
              refine lv_iconst (v := (0 : Int32)) hx hb dX9_stray_103 (by decide) ?_
              exact J104 (0 : Int32) x4 x5 c_to c_stood c_home c_lost c_out _ h KC KX _ _ _ (lv_sub hl [0, 1, 2, 3, 4, 5] rfl) hG
            · have h := ite_t h c_23
              refine lv_aload_n hx hb dX9_stray_88 rfl (lv_at hl 0 rfl) ?_
              refine lv_iload hx hb dX9_stray_89 (lv_at hl 5 rfl) ?_
              refine lv_iload_n hx hb dX9_stray_91 rfl (lv_at hl 3 rfl) ?_
              obtain ⟨r_24, hz_25, h⟩ := bd1_some h
              refine aft_i1 (run_V1 (rest := []) X hG hl.1 (mX9_farOf l dC dI cI cJ a c_length c_text c_stands c_homeFar c_nets c_netAt c_netWide c_netFrom c_netTo c_priceX c_priceY c_many c_days c_aims c_speeds c_kinds c_keptMany c_undoMany c_undos c_spot c_told c_to c_stood c_home c_lost c_out c_fewest c_ways c_next c_held x5 x3 hz_25) gi_V_X9_154 hd_V_yX9_farOf ⟨rfl, rfl⟩ rfl ⟨Nat.le_of_ble_eq_true rfl, Nat.le_of_ble_eq_true rfl⟩ 0 rfl rfl rfl rfl (Nat.le_of_ble_eq_true rfl) ⟨Nat.le_of_ble_eq_true rfl, Nat.le_of_ble_eq_true rfl⟩ dX9_stray_92) hG rfl (fun H locs hG => ?_)
              clear hz_25
              refine lv_iload_n hx hb dX9_stray_95 rfl (lv_at hl 1 rfl) ?_
              refine lv_icmp_ne (tgt := 103) hx hb dX9_stray_96 (by decide) (fun c_26 => ?_) (fun c_26 => ?_)
              · have h := ite_f h c_26
                refine lv_iconst (v := (0 : Int32)) hx hb dX9_stray_103 (by decide) ?_
                exact J104 (0 : Int32) x4 x5 c_to c_stood c_home c_lost c_out _ h KC KX _ _ _ (lv_sub hl [0, 1, 2, 3, 4, 5] rfl) hG
              · have h := ite_t h c_26
                refine lv_iconst (v := (1 : Int32)) hx hb dX9_stray_99 (by decide) ?_
                refine lv_goto (tgt := 104) hx hb dX9_stray_100 (by decide) ?_
                exact J104 (1 : Int32) x4 x5 c_to c_stood c_home c_lost c_out _ h KC KX _ _ _ (lv_sub hl [0, 1, 2, 3, 4, 5] rfl) hG
  have h := hD
  unfold DX9_stray at h
  clear hD
  refine lv_iload_n hx hb dX9_stray_0 rfl (lv_at hl 1 rfl) ?_
  refine lv_i2l (v := (x1.toInt64)) hx hb dX9_stray_1 rfl ?_
  refine lv_lconst (v := (0 : Int64)) hx hb dX9_stray_2 (by decide) ?_
  refine lv_ldc2 (v := (60 : Int64)) hx hb X.1.2.2.2.1 (X.1.2.2.2.2 _ w_759) dX9_stray_3 ?_
  obtain ⟨r_1, hz_2, h⟩ := bd1_some h
  refine aft_i (ws' := (W_X9 a cI cJ c_length c_text c_stands c_homeFar c_nets c_netAt c_netWide c_netFrom c_netTo c_priceX c_priceY c_many c_days c_aims c_speeds c_kinds c_keptMany c_undoMany c_undos c_spot c_told c_to c_stood c_home c_lost c_out c_fewest c_ways c_next c_held)) (run_S (rest := []) X hG hl.1 (mX9_in l dC dI cI cJ (x1.toInt64) (0 : Int64) (60 : Int64) hz_2) gi_S_X9_92 hd_S_yX9_in ⟨rfl, rfl⟩ rfl ⟨Nat.le_of_ble_eq_true rfl, Nat.le_of_ble_eq_true rfl⟩ [] (by decide) rfl rfl (Nat.le_of_ble_eq_true rfl) ⟨Nat.le_of_ble_eq_true rfl, Nat.le_of_ble_eq_true rfl⟩ dX9_stray_6) hG [] rfl rfl rfl (fun H locs hG => ?_)
  clear hz_2
  refine lv_if_eq (tgt := 31) hx hb dX9_stray_9 (by decide) (fun c_3 => ?_) (fun c_3 => ?_)
  · have h := ite_t h c_3
    refine lv_iconst (v := (-1 : Int32)) hx hb dX9_stray_31 (by decide) ?_
    cases h
    exact ret _ _ _ _ dX9_stray_32 hG
  · have h := ite_f h c_3
    refine lv_iload_n hx hb dX9_stray_12 rfl (lv_at hl 2 rfl) ?_
    refine lv_i2l (v := (x2.toInt64)) hx hb dX9_stray_13 rfl ?_
    refine lv_lconst (v := (0 : Int64)) hx hb dX9_stray_14 (by decide) ?_
    refine lv_ldc2 (v := (23 : Int64)) hx hb X.1.2.2.2.1 (X.1.2.2.2.2 _ w_863) dX9_stray_15 ?_
    obtain ⟨r_4, hz_5, h⟩ := bd1_some h
    refine aft_i (ws' := (W_X9 a cI cJ c_length c_text c_stands c_homeFar c_nets c_netAt c_netWide c_netFrom c_netTo c_priceX c_priceY c_many c_days c_aims c_speeds c_kinds c_keptMany c_undoMany c_undos c_spot c_told c_to c_stood c_home c_lost c_out c_fewest c_ways c_next c_held)) (run_S (rest := []) X hG hl.1 (mX9_in l dC dI cI cJ (x2.toInt64) (0 : Int64) (23 : Int64) hz_5) gi_S_X9_92 hd_S_yX9_in ⟨rfl, rfl⟩ rfl ⟨Nat.le_of_ble_eq_true rfl, Nat.le_of_ble_eq_true rfl⟩ [] (by decide) rfl rfl (Nat.le_of_ble_eq_true rfl) ⟨Nat.le_of_ble_eq_true rfl, Nat.le_of_ble_eq_true rfl⟩ dX9_stray_18) hG [] rfl rfl rfl (fun H locs hG => ?_)
    clear hz_5
    refine lv_if_eq (tgt := 31) hx hb dX9_stray_21 (by decide) (fun c_6 => ?_) (fun c_6 => ?_)
    · have h := ite_t h c_6
      refine lv_iconst (v := (-1 : Int32)) hx hb dX9_stray_31 (by decide) ?_
      cases h
      exact ret _ _ _ _ dX9_stray_32 hG
    · have h := ite_f h c_6
      refine lv_iload_n hx hb dX9_stray_24 rfl (lv_at hl 3 rfl) ?_
      obtain ⟨r_7, hz_8, h⟩ := bd1_some h
      refine aft_i (ws' := (W_X9 a cI cJ c_length c_text c_stands c_homeFar c_nets c_netAt c_netWide c_netFrom c_netTo c_priceX c_priceY c_many c_days c_aims c_speeds c_kinds c_keptMany c_undoMany c_undos c_spot c_told c_to c_stood c_home c_lost c_out c_fewest c_ways c_next c_held)) (run_S (rest := []) X hG hl.1 (mX9_isDay l dC dI cI cJ x3 hz_8) gi_S_X9_193 hd_S_yX9_isDay ⟨rfl, rfl⟩ rfl ⟨Nat.le_of_ble_eq_true rfl, Nat.le_of_ble_eq_true rfl⟩ [] (by decide) rfl rfl (Nat.le_of_ble_eq_true rfl) ⟨Nat.le_of_ble_eq_true rfl, Nat.le_of_ble_eq_true rfl⟩ dX9_stray_25) hG [] rfl rfl rfl (fun H locs hG => ?_)
      clear hz_8
      refine lv_if_ne (tgt := 33) hx hb dX9_stray_28 (by decide) (fun c_9 => ?_) (fun c_9 => ?_)
      · have h := ite_f h c_9
        refine lv_aload_n hx hb dX9_stray_33 rfl (lv_at hl 0 rfl) ?_
        refine lv_iconst (v := (0 : Int32)) hx hb dX9_stray_34 (by decide) ?_
        obtain ⟨k_to_10, k_stood_11, k_home_12, k_lost_13, k_out_14, hz_15, h⟩ := bd5_some h
        refine aft_v1 (run_V1 (rest := []) X hG hl.1 (mX9_go l dC dI cI cJ a c_length c_text c_stands c_homeFar c_nets c_netAt c_netWide c_netFrom c_netTo c_priceX c_priceY c_many c_days c_aims c_speeds c_kinds c_keptMany c_undoMany c_undos c_spot c_told c_to c_stood c_home c_lost c_out c_fewest c_ways c_next c_held (0 : Int32) hz_15) gi_V_X9_185 hd_V_yX9_go ⟨rfl, rfl⟩ rfl ⟨Nat.le_of_ble_eq_true rfl, Nat.le_of_ble_eq_true rfl⟩ 0 rfl rfl rfl rfl (Nat.le_of_ble_eq_true rfl) ⟨Nat.le_of_ble_eq_true rfl, Nat.le_of_ble_eq_true rfl⟩ dX9_stray_35) hG rfl (fun H locs hG => ?_)
        clear hz_15
        refine lv_iconst (v := (0 : Int32)) hx hb dX9_stray_38 (by decide) ?_
        refine lv_istore (lv' := [(4, .int (0 : Int32)), (0, .ref (a 0)), (1, .int x1), (2, .int x2), (3, .int x3)]) hx hb dX9_stray_39 hl (by decide) rfl (fun ls hl => ?_)
        refine lv_iconst (v := (0 : Int32)) hx hb dX9_stray_41 (by decide) ?_
        refine lv_istore (lv' := [(5, .int (0 : Int32)), (4, .int (0 : Int32)), (0, .ref (a 0)), (1, .int x1), (2, .int x2), (3, .int x3)]) hx hb dX9_stray_42 hl (by decide) rfl (fun ls hl => ?_)
        obtain ⟨z4_27, hz, h⟩ := bd1_some h
        refine L44 k_to_10 k_stood_11 k_home_12 k_lost_13 k_out_14 FU (0 : Int32) (0 : Int32) _ hz (fun ls H locs hl hG => ?_) _ _ _ (lv_sub hl [2, 3, 4, 5, 1, 0] rfl) hG
        clear hz
        refine lv_iload hx hb dX9_stray_130 (lv_at hl 0 rfl) ?_
        cases h
        exact ret _ _ _ _ dX9_stray_132 hG
      · have h := ite_t h c_9
        refine lv_iconst (v := (-1 : Int32)) hx hb dX9_stray_31 (by decide) ?_
        cases h
        exact ret _ _ _ _ dX9_stray_32 hG
