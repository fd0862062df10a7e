/-! CONTRACTS, laid by wip/gen/lay.py: yX9_clear, yX9_stray, yX9_isMeeter, yX9_meeters -/
set_option maxRecDepth 100000 in
set_option maxHeartbeats 4000000 in
theorem mX9_clear (l : Launch) (dC : Nat → ClassId) (dI : Nat → Nat → Nat) (cI cJ : ClassId) (a : Nat → Nat) (c_length : Int32) (c_text : Nat → Int32) (c_stands : Nat → Int32) (c_homeFar : Nat → Int32) (c_nets : Nat → Int32) (c_netAt : Nat → Int32) (c_netWide : Nat → Int32) (c_netFrom : Nat → Int32) (c_netTo : Nat → Int32) (c_priceX : Nat → Int32) (c_priceY : Nat → Int32) (c_many : Nat → Int32) (c_days : Nat → Int32) (c_aims : Nat → Int32) (c_speeds : Nat → Int32) (c_kinds : Nat → Int32) (c_keptMany : Int32) (c_undoMany : Int32) (c_undos : Nat → Int32) (c_spot : Int32) (c_told : Nat → Int32) (c_to : Nat → Int32) (c_stood : Nat → Int32) (c_home : Nat → Int32) (c_lost : Nat → Int32) (c_out : Int32) (c_fewest : Nat → Int32) (c_ways : Nat → Int64) (c_next : Nat → Int64) (c_held : Nat → Int32) {res : Int32} {n_to : Nat → Int32} {n_stood : Nat → Int32} {n_home : Nat → Int32} {n_lost : Nat → Int32} {n_out : Int32} (hD : DX9_clear c_stands c_homeFar c_many c_days c_aims c_speeds c_kinds c_to c_stood c_home c_lost c_out = some (res, n_to, n_stood, n_home, n_lost, n_out)) : Met l yX9_clear (WZ yX9_clear cX9_clear 5 (some .int)) (RM 4 91) (PC dC dI cI cJ [.ref (a 0)] (W_X9 a cI cJ c_length c_text c_stands c_homeFar c_nets c_netAt c_netWide c_netFrom c_netTo c_priceX c_priceY c_many c_days c_aims c_speeds c_kinds c_keptMany c_undoMany c_undos c_spot c_told c_to c_stood c_home c_lost c_out c_fewest c_ways c_next c_held)) (QI dC dI (W_X9 a cI cJ c_length c_text c_stands c_homeFar c_nets c_netAt c_netWide c_netFrom c_netTo c_priceX c_priceY c_many c_days c_aims c_speeds c_kinds c_keptMany c_undoMany c_undos c_spot c_told c_to c_stood c_home c_lost c_out c_fewest c_ways c_next c_held) (W_X9 a cI cJ c_length c_text c_stands c_homeFar c_nets c_netAt c_netWide c_netFrom c_netTo c_priceX c_priceY c_many c_days c_aims c_speeds c_kinds c_keptMany c_undoMany c_undos c_spot c_told n_to n_stood n_home n_lost n_out c_fewest c_ways c_next c_held) res) 0 0 (FA (W_X9 a cI cJ c_length c_text c_stands c_homeFar c_nets c_netAt c_netWide c_netFrom c_netTo c_priceX c_priceY c_many c_days c_aims c_speeds c_kinds c_keptMany c_undoMany c_undos c_spot c_told c_to c_stood c_home c_lost c_out c_fewest c_ways c_next c_held)) := by
  refine r_metI (by decide +kernel) (Nat.le_of_ble_eq_true rfl) ?_
  intro p e s m args below meth c A H0 QQ X ret ls hl hG
  have X : Cx p m c cX9_clear 5 s args RX9 dC dI cI cJ meth (some .int) := X
  have hx := X.1.1
  have hb := X.1.2.1
  have hl : lv_has ls 5 [(0, .ref (a 0))] := hl
  have L42 : ∀ (x1 : Int32) (x2 : Int32) (c_to : Nat → Int32) (c_stood : Nat → Int32) (c_home : Nat → Int32) (c_lost : Nat → Int32) (c_out : Int32), ∀ (n : Nat) (x3 : Int32) (x4 : Int32) (ex3 : Int32), DX9_clear_L42 c_many c_lost n x3 x4 = some ex3 → (∀ (ls : Array Slot) (H : Heap) (locs : List Loc), lv_has ls 5 [(0, .ref (a 0)), (1, .int x1), (2, .int x2), (3, .int ex3)] → G dC dI A H0 (W_X9 a cI cJ c_length c_text c_stands c_homeFar c_nets c_netAt c_netWide c_netFrom c_netTo c_priceX c_priceY c_many c_days c_aims c_speeds c_kinds c_keptMany c_undoMany c_undos c_spot c_told c_to c_stood c_home c_lost c_out c_fewest c_ways c_next c_held) H locs → W p l e (RM 4 91) s m args below meth c H locs 0 0 QQ (F0 m 82 ls [])) → ∀ (ls : Array Slot) (H : Heap) (locs : List Loc), lv_has ls 5 [(0, .ref (a 0)), (1, .int x1), (2, .int x2), (3, .int x3), (4, .int x4)] → G dC dI A H0 (W_X9 a cI cJ c_length c_text c_stands c_homeFar c_nets c_netAt c_netWide c_netFrom c_netTo c_priceX c_priceY c_many c_days c_aims c_speeds c_kinds c_keptMany c_undoMany c_undos c_spot c_told c_to c_stood c_home c_lost c_out c_fewest c_ways c_next c_held) H locs → W p l e (RM 4 91) s m args below meth c H locs 0 0 QQ (F0 m 42 ls []) := by
    intro x1 x2 c_to c_stood c_home c_lost c_out n
    induction n with
    | zero => intro x3 x4 ex3 h; exact it_zero h
    | succ n ih =>
      intro x3 x4 ex3 h0 K0 ls H locs hl hG
      obtain ⟨w, h, hi, hr⟩ := it_succ h0
      have h : DX9_clear_L42s c_many c_lost x3 x4 = some w := h
      have KC : ∀ (x3 : Int32) (x4 : Int32), w = .inl (x3, x4) → ∀ (ls : Array Slot) (H : Heap) (locs : List Loc), lv_has ls 5 [(0, .ref (a 0)), (1, .int x1), (2, .int x2), (3, .int x3), (4, .int x4)] → G dC dI A H0 (W_X9 a cI cJ c_length c_text c_stands c_homeFar c_nets c_netAt c_netWide c_netFrom c_netTo c_priceX c_priceY c_many c_days c_aims c_speeds c_kinds c_keptMany c_undoMany c_undos c_spot c_told c_to c_stood c_home c_lost c_out c_fewest c_ways c_next c_held) H locs → W p l e (RM 4 91) s m args below meth c H locs 0 0 QQ (F0 m 42 ls []) := fun b0 b1 e ls H locs hl hG => ih b0 b1 ex3 (hi _ e) K0 ls H locs hl hG
      have KX : ∀ (x3 : Int32), w = .inr x3 → ∀ (ls : Array Slot) (H : Heap) (locs : List Loc), lv_has ls 5 [(0, .ref (a 0)), (1, .int x1), (2, .int x2), (3, .int x3)] → G dC dI A H0 (W_X9 a cI cJ c_length c_text c_stands c_homeFar c_nets c_netAt c_netWide c_netFrom c_netTo c_priceX c_priceY c_many c_days c_aims c_speeds c_kinds c_keptMany c_undoMany c_undos c_spot c_told c_to c_stood c_home c_lost c_out c_fewest c_ways c_next c_held) H locs → W p l e (RM 4 91) s m args below meth c H locs 0 0 QQ (F0 m 82 ls []) := fun b0 e ls H locs hl hG => by cases hr _ e; exact K0 ls H locs hl hG
      clear h0 hi hr K0 ih
      unfold DX9_clear_L42s at h
      refine lv_iload hx hb dX9_clear_42 (lv_at hl 4 rfl) ?_
      refine lv_aload_n hx hb dX9_clear_44 rfl (lv_at hl 0 rfl) ?_
      refine r_get X hG in_X9 rfl 11 (by decide) w_642 0 rfl rfl dX9_clear_45 ?_
      refine lv_iconst (v := (0 : Int32)) hx hb dX9_clear_48 (by decide) ?_
      refine r_iald X hG 11 rfl (vpd (by decide)) dX9_clear_49 ?_
      refine lv_icmp_ge (tgt := 82) hx hb dX9_clear_50 (by decide) (fun c_9 => ?_) (fun c_9 => ?_)
      · have h := ite_t h c_9
        exact KX _ (Option.some.inj h).symm _ _ _ (lv_sub hl [0, 1, 2, 3] rfl) hG
      · have h := ite_f h c_9
        refine lv_iload_n hx hb dX9_clear_53 rfl (lv_at hl 3 rfl) ?_
        refine lv_if_eq (tgt := 74) hx hb dX9_clear_54 (by decide) (fun c_10 => ?_) (fun c_10 => ?_)
        · have h := ite_t h c_10
          refine lv_iconst (v := (0 : Int32)) hx hb dX9_clear_74 (by decide) ?_
          refine lv_istore_n (lv' := [(3, .int (0 : Int32)), (0, .ref (a 0)), (1, .int x1), (2, .int x2), (4, .int x4)]) hx hb dX9_clear_75 rfl hl (by decide) rfl (fun ls hl => ?_)
          refine lv_iinc (v := (x4 + (1 : Int32))) (lv' := [(4, .int (x4 + (1 : Int32))), (3, .int (0 : Int32)), (0, .ref (a 0)), (1, .int x1), (2, .int x2)]) hx hb dX9_clear_76 hl (k := 4) rfl rfl (by decide) rfl (fun ls hl => ?_)
          refine lv_goto (tgt := 42) hx hb dX9_clear_79 (by decide) ?_
          exact KC _ _ (Option.some.inj h).symm _ _ _ (lv_sub hl [2, 3, 4, 1, 0] rfl) hG
        · have h := ite_f h c_10
          refine lv_aload_n hx hb dX9_clear_57 rfl (lv_at hl 0 rfl) ?_
          refine r_get X hG in_X9 rfl 24 (by decide) w_655 0 rfl rfl dX9_clear_58 ?_
          refine lv_iload hx hb dX9_clear_61 (lv_at hl 4 rfl) ?_
          obtain ⟨g_11, h⟩ := gd h
          refine r_iald X hG 21 rfl g_11 dX9_clear_63 ?_
          refine lv_sipush (v := (10000 : Int32)) hx hb dX9_clear_64 (by decide) ?_
          refine lv_icmp_ne (tgt := 74) hx hb dX9_clear_67 (by decide) (fun c_12 => ?_) (fun c_12 => ?_)
          · have h := ite_f h c_12
            refine lv_iconst (v := (0 : Int32)) hx hb dX9_clear_74 (by decide) ?_
            refine lv_istore_n (lv' := [(3, .int (0 : Int32)), (0, .ref (a 0)), (1, .int x1), (2, .int x2), (4, .int x4)]) hx hb dX9_clear_75 rfl hl (by decide) rfl (fun ls hl => ?_)
            refine lv_iinc (v := (x4 + (1 : Int32))) (lv' := [(4, .int (x4 + (1 : Int32))), (3, .int (0 : Int32)), (0, .ref (a 0)), (1, .int x1), (2, .int x2)]) hx hb dX9_clear_76 hl (k := 4) rfl rfl (by decide) rfl (fun ls hl => ?_)
            refine lv_goto (tgt := 42) hx hb dX9_clear_79 (by decide) ?_
            exact KC _ _ (Option.some.inj h).symm _ _ _ (lv_sub hl [2, 3, 4, 1, 0] rfl) hG
          · have h := ite_t h c_12
            refine lv_iconst (v := (1 : Int32)) hx hb dX9_clear_70 (by decide) ?_
            refine lv_goto (tgt := 75) hx hb dX9_clear_71 (by decide) ?_
            refine lv_istore_n (lv' := [(3, .int (1 : Int32)), (0, .ref (a 0)), (1, .int x1), (2, .int x2), (4, .int x4)]) hx hb dX9_clear_75 rfl hl (by decide) rfl (fun ls hl => ?_)
            refine lv_iinc (v := (x4 + (1 : Int32))) (lv' := [(4, .int (x4 + (1 : Int32))), (3, .int (1 : Int32)), (0, .ref (a 0)), (1, .int x1), (2, .int x2)]) hx hb dX9_clear_76 hl (k := 4) rfl rfl (by decide) rfl (fun ls hl => ?_)
            refine lv_goto (tgt := 42) hx hb dX9_clear_79 (by decide) ?_
            exact KC _ _ (Option.some.inj h).symm _ _ _ (lv_sub hl [2, 3, 4, 1, 0] rfl) hG
  have L5 : ∀ (n : Nat) (x1 : Int32) (x2 : Int32) (c_to : Nat → Int32) (c_stood : Nat → Int32) (c_home : Nat → Int32) (c_lost : Nat → Int32) (c_out : Int32) (ex1 : Int32) (ec_to : Nat → Int32) (ec_stood : Nat → Int32) (ec_home : Nat → Int32) (ec_lost : Nat → Int32) (ec_out : Int32), DX9_clear_L5 c_stands c_homeFar c_many c_days c_aims c_speeds c_kinds n x1 x2 c_to c_stood c_home c_lost c_out = some (ex1, ec_to, ec_stood, ec_home, ec_lost, ec_out) → (∀ (ls : Array Slot) (H : Heap) (locs : List Loc), lv_has ls 5 [(1, .int ex1)] → G dC dI A H0 (W_X9 a cI cJ c_length c_text c_stands c_homeFar c_nets c_netAt c_netWide c_netFrom c_netTo c_priceX c_priceY c_many c_days c_aims c_speeds c_kinds c_keptMany c_undoMany c_undos c_spot c_told ec_to ec_stood ec_home ec_lost ec_out c_fewest c_ways c_next c_held) H locs → W p l e (RM 4 91) s m args below meth c H locs 0 0 QQ (F0 m 98 ls [])) → ∀ (ls : Array Slot) (H : Heap) (locs : List Loc), lv_has ls 5 [(0, .ref (a 0)), (1, .int x1), (2, .int x2)] → G dC dI A H0 (W_X9 a cI cJ c_length c_text c_stands c_homeFar c_nets c_netAt c_netWide c_netFrom c_netTo c_priceX c_priceY c_many c_days c_aims c_speeds c_kinds c_keptMany c_undoMany c_undos c_spot c_told c_to c_stood c_home c_lost c_out c_fewest c_ways c_next c_held) H locs → W p l e (RM 4 91) s m args below meth c H locs 0 0 QQ (F0 m 5 ls []) := by
    intro  n
    induction n with
    | zero => intro x1 x2 c_to c_stood c_home c_lost c_out ex1 ec_to ec_stood ec_home ec_lost ec_out h; exact it_zero h
    | succ n ih =>
      intro x1 x2 c_to c_stood c_home c_lost c_out ex1 ec_to ec_stood ec_home ec_lost ec_out h0 K0 ls H locs hl hG
      obtain ⟨w, h, hi, hr⟩ := it_succ h0
      have h : DX9_clear_L5s c_stands c_homeFar c_many c_days c_aims c_speeds c_kinds x1 x2 c_to c_stood c_home c_lost c_out = some w := h
      have KC : ∀ (x1 : Int32) (x2 : Int32) (c_to : Nat → Int32) (c_stood : Nat → Int32) (c_home : Nat → Int32) (c_lost : Nat → Int32) (c_out : Int32), w = .inl (x1, x2, c_to, c_stood, c_home, c_lost, c_out) → ∀ (ls : Array Slot) (H : Heap) (locs : List Loc), lv_has ls 5 [(0, .ref (a 0)), (1, .int x1), (2, .int x2)] → G dC dI A H0 (W_X9 a cI cJ c_length c_text c_stands c_homeFar c_nets c_netAt c_netWide c_netFrom c_netTo c_priceX c_priceY c_many c_days c_aims c_speeds c_kinds c_keptMany c_undoMany c_undos c_spot c_told c_to c_stood c_home c_lost c_out c_fewest c_ways c_next c_held) H locs → W p l e (RM 4 91) s m args below meth c H locs 0 0 QQ (F0 m 5 ls []) := fun b0 b1 b2 b3 b4 b5 b6 e ls H locs hl hG => ih b0 b1 b2 b3 b4 b5 b6 ex1 ec_to ec_stood ec_home ec_lost ec_out (hi _ e) K0 ls H locs hl hG
      have KX : ∀ (x1 : Int32) (c_to : Nat → Int32) (c_stood : Nat → Int32) (c_home : Nat → Int32) (c_lost : Nat → Int32) (c_out : Int32), w = .inr (x1, c_to, c_stood, c_home, c_lost, c_out) → ∀ (ls : Array Slot) (H : Heap) (locs : List Loc), lv_has ls 5 [(1, .int x1)] → G dC dI A H0 (W_X9 a cI cJ c_length c_text c_stands c_homeFar c_nets c_netAt c_netWide c_netFrom c_netTo c_priceX c_priceY c_many c_days c_aims c_speeds c_kinds c_keptMany c_undoMany c_undos c_spot c_told c_to c_stood c_home c_lost c_out c_fewest c_ways c_next c_held) H locs → W p l e (RM 4 91) s m args below meth c H locs 0 0 QQ (F0 m 98 ls []) := fun b0 b1 b2 b3 b4 b5 e ls H locs hl hG => by cases hr _ e; exact K0 ls H locs hl hG
      clear h0 hi hr K0 ih
      unfold DX9_clear_L5s at h
      refine lv_iload_n hx hb dX9_clear_5 rfl (lv_at hl 2 rfl) ?_
      refine lv_iconst (v := (1 : Int32)) hx hb dX9_clear_6 (by decide) ?_
      refine lv_aload_n hx hb dX9_clear_7 rfl (lv_at hl 0 rfl) ?_
      refine r_get X hG in_X9 rfl 11 (by decide) w_642 0 rfl rfl dX9_clear_8 ?_
      refine lv_iconst (v := (0 : Int32)) hx hb dX9_clear_11 (by decide) ?_
      refine r_iald X hG 11 rfl (vpd (by decide)) dX9_clear_12 ?_
      refine lv_ishl hx hb dX9_clear_13 ?_
      refine lv_icmp_ge (tgt := 98) hx hb dX9_clear_14 (by decide) (fun c_1 => ?_) (fun c_1 => ?_)
      · have h := ite_t h c_1
        exact KX _ _ _ _ _ _ (Option.some.inj h).symm _ _ _ (lv_sub hl [1] rfl) hG
      · have h := ite_f h c_1
        refine lv_iload_n hx hb dX9_clear_17 rfl (lv_at hl 1 rfl) ?_
        refine lv_if_lt (tgt := 32) hx hb dX9_clear_18 (by decide) (fun c_2 => ?_) (fun c_2 => ?_)
        · have h := ite_t h c_2
          refine lv_aload_n hx hb dX9_clear_32 rfl (lv_at hl 0 rfl) ?_
          refine lv_iload_n hx hb dX9_clear_33 rfl (lv_at hl 2 rfl) ?_
          obtain ⟨k_to_3, k_stood_4, k_home_5, k_lost_6, k_out_7, hz_8, h⟩ := bd5_some h
          refine aft_v1 (run_V1 (rest := []) X hG hl.1 (mX9_go l dC dI cI cJ a c_length c_text c_stands c_homeFar c_nets c_netAt c_netWide c_netFrom c_netTo c_priceX c_priceY c_many c_days c_aims c_speeds c_kinds c_keptMany c_undoMany c_undos c_spot c_told c_to c_stood c_home c_lost c_out c_fewest c_ways c_next c_held x2 hz_8) gi_V_X9_185 hd_V_yX9_go ⟨rfl, rfl⟩ rfl ⟨Nat.le_of_ble_eq_true rfl, Nat.le_of_ble_eq_true rfl⟩ 0 rfl rfl rfl rfl (Nat.le_of_ble_eq_true rfl) ⟨Nat.le_of_ble_eq_true rfl, Nat.le_of_ble_eq_true rfl⟩ dX9_clear_34) hG rfl (fun H locs hG => ?_)
          clear hz_8
          refine lv_iconst (v := (1 : Int32)) hx hb dX9_clear_37 (by decide) ?_
          refine lv_istore_n (lv' := [(3, .int (1 : Int32)), (0, .ref (a 0)), (1, .int x1), (2, .int x2)]) hx hb dX9_clear_38 rfl hl (by decide) rfl (fun ls hl => ?_)
          refine lv_iconst (v := (0 : Int32)) hx hb dX9_clear_39 (by decide) ?_
          refine lv_istore (lv' := [(4, .int (0 : Int32)), (3, .int (1 : Int32)), (0, .ref (a 0)), (1, .int x1), (2, .int x2)]) hx hb dX9_clear_40 hl (by decide) rfl (fun ls hl => ?_)
          obtain ⟨z3_13, hz, h⟩ := bd1_some h
          refine L42 x1 x2 k_to_3 k_stood_4 k_home_5 k_lost_6 k_out_7 FU (1 : Int32) (0 : Int32) _ hz (fun ls H locs hl hG => ?_) _ _ _ (lv_sub hl [2, 3, 4, 1, 0] rfl) hG
          clear hz
          refine lv_iload_n hx hb dX9_clear_82 rfl (lv_at hl 3 rfl) ?_
          refine lv_if_eq (tgt := 90) hx hb dX9_clear_83 (by decide) (fun c_14 => ?_) (fun c_14 => ?_)
          · have h := ite_t h c_14
            refine lv_iload_n hx hb dX9_clear_90 rfl (lv_at hl 1 rfl) ?_
            refine lv_istore_n (lv' := [(1, .int x1), (0, .ref (a 0)), (2, .int x2), (3, .int z3_13)]) hx hb dX9_clear_91 rfl hl (by decide) rfl (fun ls hl => ?_)
            refine lv_iinc (v := (x2 + (1 : Int32))) (lv' := [(2, .int (x2 + (1 : Int32))), (1, .int x1), (0, .ref (a 0)), (3, .int z3_13)]) hx hb dX9_clear_92 hl (k := 2) rfl rfl (by decide) rfl (fun ls hl => ?_)
            refine lv_goto (tgt := 5) hx hb dX9_clear_95 (by decide) ?_
            exact KC _ _ _ _ _ _ _ (Option.some.inj h).symm _ _ _ (lv_sub hl [2, 1, 0] rfl) hG
          · have h := ite_f h c_14
            refine lv_iload_n hx hb dX9_clear_86 rfl (lv_at hl 2 rfl) ?_
            refine lv_goto (tgt := 91) hx hb dX9_clear_87 (by decide) ?_
            refine lv_istore_n (lv' := [(1, .int x2), (0, .ref (a 0)), (2, .int x2), (3, .int z3_13)]) hx hb dX9_clear_91 rfl hl (by decide) rfl (fun ls hl => ?_)
            refine lv_iinc (v := (x2 + (1 : Int32))) (lv' := [(2, .int (x2 + (1 : Int32))), (1, .int x2), (0, .ref (a 0)), (3, .int z3_13)]) hx hb dX9_clear_92 hl (k := 2) rfl rfl (by decide) rfl (fun ls hl => ?_)
            refine lv_goto (tgt := 5) hx hb dX9_clear_95 (by decide) ?_
            exact KC _ _ _ _ _ _ _ (Option.some.inj h).symm _ _ _ (lv_sub hl [2, 1, 0] rfl) hG
        · have h := ite_f h c_2
          refine lv_iload_n hx hb dX9_clear_21 rfl (lv_at hl 2 rfl) ?_
          obtain ⟨r_15, hz_16, h⟩ := bd1_some h
          refine aft_i (ws' := (W_X9 a cI cJ c_length c_text c_stands c_homeFar c_nets c_netAt c_netWide c_netFrom c_netTo c_priceX c_priceY c_many c_days c_aims c_speeds c_kinds c_keptMany c_undoMany c_undos c_spot c_told c_to c_stood c_home c_lost c_out c_fewest c_ways c_next c_held)) (run_S (rest := []) X hG hl.1 (mX9_bits l dC dI cI cJ x2 hz_16) gi_S_X9_212 hd_S_yX9_bits ⟨rfl, rfl⟩ rfl ⟨Nat.le_of_ble_eq_true rfl, Nat.le_of_ble_eq_true rfl⟩ [] (by decide) rfl rfl (Nat.le_of_ble_eq_true rfl) ⟨Nat.le_of_ble_eq_true rfl, Nat.le_of_ble_eq_true rfl⟩ dX9_clear_22) hG [] rfl rfl rfl (fun H locs hG => ?_)
          clear hz_16
          refine lv_iload_n hx hb dX9_clear_25 rfl (lv_at hl 1 rfl) ?_
          obtain ⟨r_17, hz_18, h⟩ := bd1_some h
          refine aft_i (ws' := (W_X9 a cI cJ c_length c_text c_stands c_homeFar c_nets c_netAt c_netWide c_netFrom c_netTo c_priceX c_priceY c_many c_days c_aims c_speeds c_kinds c_keptMany c_undoMany c_undos c_spot c_told c_to c_stood c_home c_lost c_out c_fewest c_ways c_next c_held)) (run_S (rest := [.int r_15]) X hG hl.1 (mX9_bits l dC dI cI cJ x1 hz_18) gi_S_X9_212 hd_S_yX9_bits ⟨rfl, rfl⟩ rfl ⟨Nat.le_of_ble_eq_true rfl, Nat.le_of_ble_eq_true rfl⟩ [] (by decide) rfl rfl (Nat.le_of_ble_eq_true rfl) ⟨Nat.le_of_ble_eq_true rfl, Nat.le_of_ble_eq_true rfl⟩ dX9_clear_26) hG [] rfl rfl rfl (fun H locs hG => ?_)
          clear hz_18
          refine lv_icmp_ge (tgt := 92) hx hb dX9_clear_29 (by decide) (fun c_19 => ?_) (fun c_19 => ?_)
          · have h := ite_t h c_19
            refine lv_iinc (v := (x2 + (1 : Int32))) (lv' := [(2, .int (x2 + (1 : Int32))), (0, .ref (a 0)), (1, .int x1)]) hx hb dX9_clear_92 hl (k := 2) rfl rfl (by decide) rfl (fun ls hl => ?_)
            refine lv_goto (tgt := 5) hx hb dX9_clear_95 (by decide) ?_
            exact KC _ _ _ _ _ _ _ (Option.some.inj h).symm _ _ _ (lv_sub hl [1, 2, 0] rfl) hG
          · have h := ite_f h c_19
            refine lv_aload_n hx hb dX9_clear_32 rfl (lv_at hl 0 rfl) ?_
            refine lv_iload_n hx hb dX9_clear_33 rfl (lv_at hl 2 rfl) ?_
            obtain ⟨k_to_20, k_stood_21, k_home_22, k_lost_23, k_out_24, hz_25, h⟩ := bd5_some h
            refine aft_v1 (run_V1 (rest := []) X hG hl.1 (mX9_go l dC dI cI cJ a c_length c_text c_stands c_homeFar c_nets c_netAt c_netWide c_netFrom c_netTo c_priceX c_priceY c_many c_days c_aims c_speeds c_kinds c_keptMany c_undoMany c_undos c_spot c_told c_to c_stood c_home c_lost c_out c_fewest c_ways c_next c_held x2 hz_25) gi_V_X9_185 hd_V_yX9_go ⟨rfl, rfl⟩ rfl ⟨Nat.le_of_ble_eq_true rfl, Nat.le_of_ble_eq_true rfl⟩ 0 rfl rfl rfl rfl (Nat.le_of_ble_eq_true rfl) ⟨Nat.le_of_ble_eq_true rfl, Nat.le_of_ble_eq_true rfl⟩ dX9_clear_34) hG rfl (fun H locs hG => ?_)
            clear hz_25
            refine lv_iconst (v := (1 : Int32)) hx hb dX9_clear_37 (by decide) ?_
            refine lv_istore_n (lv' := [(3, .int (1 : Int32)), (0, .ref (a 0)), (1, .int x1), (2, .int x2)]) hx hb dX9_clear_38 rfl hl (by decide) rfl (fun ls hl => ?_)
            refine lv_iconst (v := (0 : Int32)) hx hb dX9_clear_39 (by decide) ?_
            refine lv_istore (lv' := [(4, .int (0 : Int32)), (3, .int (1 : Int32)), (0, .ref (a 0)), (1, .int x1), (2, .int x2)]) hx hb dX9_clear_40 hl (by decide) rfl (fun ls hl => ?_)
            obtain ⟨z3_26, hz, h⟩ := bd1_some h
            refine L42 x1 x2 k_to_20 k_stood_21 k_home_22 k_lost_23 k_out_24 FU (1 : Int32) (0 : Int32) _ hz (fun ls H locs hl hG => ?_) _ _ _ (lv_sub hl [2, 3, 4, 1, 0] rfl) hG
            clear hz
            refine lv_iload_n hx hb dX9_clear_82 rfl (lv_at hl 3 rfl) ?_
            refine lv_if_eq (tgt := 90) hx hb dX9_clear_83 (by decide) (fun c_27 => ?_) (fun c_27 => ?_)
            · have h := ite_t h c_27
              refine lv_iload_n hx hb dX9_clear_90 rfl (lv_at hl 1 rfl) ?_
              refine lv_istore_n (lv' := [(1, .int x1), (0, .ref (a 0)), (2, .int x2), (3, .int z3_26)]) hx hb dX9_clear_91 rfl hl (by decide) rfl (fun ls hl => ?_)
              refine lv_iinc (v := (x2 + (1 : Int32))) (lv' := [(2, .int (x2 + (1 : Int32))), (1, .int x1), (0, .ref (a 0)), (3, .int z3_26)]) hx hb dX9_clear_92 hl (k := 2) rfl rfl (by decide) rfl (fun ls hl => ?_)
              refine lv_goto (tgt := 5) hx hb dX9_clear_95 (by decide) ?_
              exact KC _ _ _ _ _ _ _ (Option.some.inj h).symm _ _ _ (lv_sub hl [2, 1, 0] rfl) hG
            · have h := ite_f h c_27
              refine lv_iload_n hx hb dX9_clear_86 rfl (lv_at hl 2 rfl) ?_
              refine lv_goto (tgt := 91) hx hb dX9_clear_87 (by decide) ?_
              refine lv_istore_n (lv' := [(1, .int x2), (0, .ref (a 0)), (2, .int x2), (3, .int z3_26)]) hx hb dX9_clear_91 rfl hl (by decide) rfl (fun ls hl => ?_)
              refine lv_iinc (v := (x2 + (1 : Int32))) (lv' := [(2, .int (x2 + (1 : Int32))), (1, .int x2), (0, .ref (a 0)), (3, .int z3_26)]) hx hb dX9_clear_92 hl (k := 2) rfl rfl (by decide) rfl (fun ls hl => ?_)
              refine lv_goto (tgt := 5) hx hb dX9_clear_95 (by decide) ?_
              exact KC _ _ _ _ _ _ _ (Option.some.inj h).symm _ _ _ (lv_sub hl [2, 1, 0] rfl) hG
  have h := hD
  unfold DX9_clear at h
  clear hD
  refine lv_bipush (v := (-4 : Int32)) hx hb dX9_clear_0 (by decide) ?_
  refine lv_istore_n (lv' := [(1, .int (-4 : Int32)), (0, .ref (a 0))]) hx hb dX9_clear_2 rfl hl (by decide) rfl (fun ls hl => ?_)
  refine lv_iconst (v := (0 : Int32)) hx hb dX9_clear_3 (by decide) ?_
  refine lv_istore_n (lv' := [(2, .int (0 : Int32)), (1, .int (-4 : Int32)), (0, .ref (a 0))]) hx hb dX9_clear_4 rfl hl (by decide) rfl (fun ls hl => ?_)
  obtain ⟨z1_28, k_to_29, k_stood_30, k_home_31, k_lost_32, k_out_33, hz, h⟩ := bd6_some h
  refine L5  FU (-4 : Int32) (0 : Int32) c_to c_stood c_home c_lost c_out _ _ _ _ _ _ hz (fun ls H locs hl hG => ?_) _ _ _ (lv_sub hl [2, 1, 0] rfl) hG
  clear hz
  refine lv_iload_n hx hb dX9_clear_98 rfl (lv_at hl 0 rfl) ?_
  cases h
  exact ret _ _ _ _ dX9_clear_99 hG
set_option maxRecDepth 100000 in
set_option maxHeartbeats 4000000 in
theorem mX9_stray (l : Launch) (dC : Nat → ClassId) (dI : Nat → Nat → Nat) (cI cJ : ClassId) (a : Nat → Nat) (c_length : Int32) (c_text : Nat → Int32) (c_stands : Nat → Int32) (c_homeFar : Nat → Int32) (c_nets : Nat → Int32) (c_netAt : Nat → Int32) (c_netWide : Nat → Int32) (c_netFrom : Nat → Int32) (c_netTo : Nat → Int32) (c_priceX : Nat → Int32) (c_priceY : Nat → Int32) (c_many : Nat → Int32) (c_days : Nat → Int32) (c_aims : Nat → Int32) (c_speeds : Nat → Int32) (c_kinds : Nat → Int32) (c_keptMany : Int32) (c_undoMany : Int32) (c_undos : Nat → Int32) (c_spot : Int32) (c_told : Nat → Int32) (c_to : Nat → Int32) (c_stood : Nat → Int32) (c_home : Nat → Int32) (c_lost : Nat → Int32) (c_out : Int32) (c_fewest : Nat → Int32) (c_ways : Nat → Int64) (c_next : Nat → Int64) (c_held : Nat → Int32) (x1 : Int32) (x2 : Int32) (x3 : Int32) {res : Int32} {n_to : Nat → Int32} {n_stood : Nat → Int32} {n_home : Nat → Int32} {n_lost : Nat → Int32} {n_out : Int32} (hD : DX9_stray x1 x2 x3 c_stands c_homeFar c_many c_days c_aims c_speeds c_kinds c_to c_stood c_home c_lost c_out = some (res, n_to, n_stood, n_home, n_lost, n_out)) : Met l yX9_stray (WZ yX9_stray cX9_stray 7 (some .int)) (RM 4 91) (PC dC dI cI cJ [.ref (a 0), .int x1, .int x2, .int x3] (W_X9 a cI cJ c_length c_text c_stands c_homeFar c_nets c_netAt c_netWide c_netFrom c_netTo c_priceX c_priceY c_many c_days c_aims c_speeds c_kinds c_keptMany c_undoMany c_undos c_spot c_told c_to c_stood c_home c_lost c_out c_fewest c_ways c_next c_held)) (QI dC dI (W_X9 a cI cJ c_length c_text c_stands c_homeFar c_nets c_netAt c_netWide c_netFrom c_netTo c_priceX c_priceY c_many c_days c_aims c_speeds c_kinds c_keptMany c_undoMany c_undos c_spot c_told c_to c_stood c_home c_lost c_out c_fewest c_ways c_next c_held) (W_X9 a cI cJ c_length c_text c_stands c_homeFar c_nets c_netAt c_netWide c_netFrom c_netTo c_priceX c_priceY c_many c_days c_aims c_speeds c_kinds c_keptMany c_undoMany c_undos c_spot c_told n_to n_stood n_home n_lost n_out c_fewest c_ways c_next c_held) res) 0 0 (FA (W_X9 a cI cJ c_length c_text c_stands c_homeFar c_nets c_netAt c_netWide c_netFrom c_netTo c_priceX c_priceY c_many c_days c_aims c_speeds c_kinds c_keptMany c_undoMany c_undos c_spot c_told c_to c_stood c_home c_lost c_out c_fewest c_ways c_next c_held)) := by
  refine r_metI (by decide +kernel) (Nat.le_of_ble_eq_true rfl) ?_
  intro p e s m args below meth c A H0 QQ X ret ls hl hG
  have X : Cx p m c cX9_stray 7 s args RX9 dC dI cI cJ meth (some .int) := X
  have hx := X.1.1
  have hb := X.1.2.1
  have hl : lv_has ls 7 [(0, .ref (a 0)), (1, .int x1), (2, .int x2), (3, .int x3)] := hl
  have J104 : ∀ (y0 : Int32) (x4 : Int32) (x5 : Int32) (c_to : Nat → Int32) (c_stood : Nat → Int32) (c_home : Nat → Int32) (c_lost : Nat → Int32) (c_out : Int32), ∀ (w : (Int32 × Int32) ⊕ (Int32)), DX9_stray_J104 y0 x4 x5 = some w → (∀ (x4 : Int32) (x5 : Int32), w = .inl (x4, x5) → ∀ (ls : Array Slot) (H : Heap) (locs : List Loc), lv_has ls 7 [(0, .ref (a 0)), (1, .int x1), (2, .int x2), (3, .int x3), (4, .int x4), (5, .int x5)] → G dC dI A H0 (W_X9 a cI cJ c_length c_text c_stands c_homeFar c_nets c_netAt c_netWide c_netFrom c_netTo c_priceX c_priceY c_many c_days c_aims c_speeds c_kinds c_keptMany c_undoMany c_undos c_spot c_told c_to c_stood c_home c_lost c_out c_fewest c_ways c_next c_held) H locs → W p l e (RM 4 91) s m args below meth c H locs 0 0 QQ (F0 m 44 ls [])) → (∀ (x4 : Int32), w = .inr x4 → ∀ (ls : Array Slot) (H : Heap) (locs : List Loc), lv_has ls 7 [(4, .int x4)] → G dC dI A H0 (W_X9 a cI cJ c_length c_text c_stands c_homeFar c_nets c_netAt c_netWide c_netFrom c_netTo c_priceX c_priceY c_many c_days c_aims c_speeds c_kinds c_keptMany c_undoMany c_undos c_spot c_told c_to c_stood c_home c_lost c_out c_fewest c_ways c_next c_held) H locs → W p l e (RM 4 91) s m args below meth c H locs 0 0 QQ (F0 m 130 ls [])) → ∀ (ls : Array Slot) (H : Heap) (locs : List Loc), lv_has ls 7 [(0, .ref (a 0)), (1, .int x1), (2, .int x2), (3, .int x3), (4, .int x4), (5, .int x5)] → G dC dI A H0 (W_X9 a cI cJ c_length c_text c_stands c_homeFar c_nets c_netAt c_netWide c_netFrom c_netTo c_priceX c_priceY c_many c_days c_aims c_speeds c_kinds c_keptMany c_undoMany c_undos c_spot c_told c_to c_stood c_home c_lost c_out c_fewest c_ways c_next c_held) H locs → W p l e (RM 4 91) s m args below meth c H locs 0 0 QQ (F0 m 104 ls [.int y0]) := by
    intro y0 x4 x5 c_to c_stood c_home c_lost c_out w h KC KX ls H locs hl hG
    unfold DX9_stray_J104 at h
    refine lv_istore (lv' := [(6, .int y0), (0, .ref (a 0)), (1, .int x1), (2, .int x2), (3, .int x3), (4, .int x4), (5, .int x5)]) hx hb dX9_stray_104 hl (by decide) rfl (fun ls hl => ?_)
    refine lv_iload hx hb dX9_stray_106 (lv_at hl 5 rfl) ?_
    refine lv_iload hx hb dX9_stray_108 (lv_at hl 0 rfl) ?_
    refine lv_if_eq (tgt := 120) hx hb dX9_stray_110 (by decide) (fun c_19 => ?_) (fun c_19 => ?_)
    · have h := ite_t h c_19
      refine lv_iconst (v := (0 : Int32)) hx hb dX9_stray_120 (by decide) ?_
      refine lv_ior hx hb dX9_stray_121 ?_
      refine lv_istore (lv' := [(4, .int (x4 ||| (0 : Int32))), (6, .int y0), (0, .ref (a 0)), (1, .int x1), (2, .int x2), (3, .int x3), (5, .int x5)]) hx hb dX9_stray_122 hl (by decide) rfl (fun ls hl => ?_)
      refine lv_iinc (v := (x5 + (1 : Int32))) (lv' := [(5, .int (x5 + (1 : Int32))), (4, .int (x4 ||| (0 : Int32))), (6, .int y0), (0, .ref (a 0)), (1, .int x1), (2, .int x2), (3, .int x3)]) hx hb dX9_stray_124 hl (k := 6) rfl rfl (by decide) rfl (fun ls hl => ?_)
      refine lv_goto (tgt := 44) hx hb dX9_stray_127 (by decide) ?_
      exact KC _ _ (Option.some.inj h).symm _ _ _ (lv_sub hl [3, 4, 5, 6, 1, 0] rfl) hG
    · have h := ite_f h c_19
      refine lv_iconst (v := (1 : Int32)) hx hb dX9_stray_113 (by decide) ?_
      refine lv_iload hx hb dX9_stray_114 (lv_at hl 6 rfl) ?_
      refine lv_ishl hx hb dX9_stray_116 ?_
      refine lv_goto (tgt := 121) hx hb dX9_stray_117 (by decide) ?_
      refine lv_ior hx hb dX9_stray_121 ?_
      refine lv_istore (lv' := [(4, .int (x4 ||| ((1 : Int32) <<< (x5 &&& 31)))), (6, .int y0), (0, .ref (a 0)), (1, .int x1), (2, .int x2), (3, .int x3), (5, .int x5)]) hx hb dX9_stray_122 hl (by decide) rfl (fun ls hl => ?_)
      refine lv_iinc (v := (x5 + (1 : Int32))) (lv' := [(5, .int (x5 + (1 : Int32))), (4, .int (x4 ||| ((1 : Int32) <<< (x5 &&& 31)))), (6, .int y0), (0, .ref (a 0)), (1, .int x1), (2, .int x2), (3, .int x3)]) hx hb dX9_stray_124 hl (k := 6) rfl rfl (by decide) rfl (fun ls hl => ?_)
      refine lv_goto (tgt := 44) hx hb dX9_stray_127 (by decide) ?_
      exact KC _ _ (Option.some.inj h).symm _ _ _ (lv_sub hl [3, 4, 5, 6, 1, 0] rfl) hG
  have L44 : ∀ (c_to : Nat → Int32) (c_stood : Nat → Int32) (c_home : Nat → Int32) (c_lost : Nat → Int32) (c_out : Int32), ∀ (n : Nat) (x4 : Int32) (x5 : Int32) (ex4 : Int32), DX9_stray_L44 x1 x2 x3 c_many c_days c_speeds c_to c_home n x4 x5 = some ex4 → (∀ (ls : Array Slot) (H : Heap) (locs : List Loc), lv_has ls 7 [(4, .int ex4)] → G dC dI A H0 (W_X9 a cI cJ c_length c_text c_stands c_homeFar c_nets c_netAt c_netWide c_netFrom c_netTo c_priceX c_priceY c_many c_days c_aims c_speeds c_kinds c_keptMany c_undoMany c_undos c_spot c_told c_to c_stood c_home c_lost c_out c_fewest c_ways c_next c_held) H locs → W p l e (RM 4 91) s m args below meth c H locs 0 0 QQ (F0 m 130 ls [])) → ∀ (ls : Array Slot) (H : Heap) (locs : List Loc), lv_has ls 7 [(0, .ref (a 0)), (1, .int x1), (2, .int x2), (3, .int x3), (4, .int x4), (5, .int x5)] → G dC dI A H0 (W_X9 a cI cJ c_length c_text c_stands c_homeFar c_nets c_netAt c_netWide c_netFrom c_netTo c_priceX c_priceY c_many c_days c_aims c_speeds c_kinds c_keptMany c_undoMany c_undos c_spot c_told c_to c_stood c_home c_lost c_out c_fewest c_ways c_next c_held) H locs → W p l e (RM 4 91) s m args below meth c H locs 0 0 QQ (F0 m 44 ls []) := by
    intro c_to c_stood c_home c_lost c_out n
    induction n with
    | zero => intro x4 x5 ex4 h; exact it_zero h
    | succ n ih =>
      intro x4 x5 ex4 h0 K0 ls H locs hl hG
      obtain ⟨w, h, hi, hr⟩ := it_succ h0
      have h : DX9_stray_L44s x1 x2 x3 c_many c_days c_speeds c_to c_home x4 x5 = some w := h
      have KC : ∀ (x4 : Int32) (x5 : Int32), w = .inl (x4, x5) → ∀ (ls : Array Slot) (H : Heap) (locs : List Loc), lv_has ls 7 [(0, .ref (a 0)), (1, .int x1), (2, .int x2), (3, .int x3), (4, .int x4), (5, .int x5)] → G dC dI A H0 (W_X9 a cI cJ c_length c_text c_stands c_homeFar c_nets c_netAt c_netWide c_netFrom c_netTo c_priceX c_priceY c_many c_days c_aims c_speeds c_kinds c_keptMany c_undoMany c_undos c_spot c_told c_to c_stood c_home c_lost c_out c_fewest c_ways c_next c_held) H locs → W p l e (RM 4 91) s m args below meth c H locs 0 0 QQ (F0 m 44 ls []) := fun b0 b1 e ls H locs hl hG => ih b0 b1 ex4 (hi _ e) K0 ls H locs hl hG
      have KX : ∀ (x4 : Int32), w = .inr x4 → ∀ (ls : Array Slot) (H : Heap) (locs : List Loc), lv_has ls 7 [(4, .int x4)] → G dC dI A H0 (W_X9 a cI cJ c_length c_text c_stands c_homeFar c_nets c_netAt c_netWide c_netFrom c_netTo c_priceX c_priceY c_many c_days c_aims c_speeds c_kinds c_keptMany c_undoMany c_undos c_spot c_told c_to c_stood c_home c_lost c_out c_fewest c_ways c_next c_held) H locs → W p l e (RM 4 91) s m args below meth c H locs 0 0 QQ (F0 m 130 ls []) := fun b0 e ls H locs hl hG => by cases hr _ e; exact K0 ls H locs hl hG
      clear h0 hi hr K0 ih
      unfold DX9_stray_L44s at h
      refine lv_iload hx hb dX9_stray_44 (lv_at hl 5 rfl) ?_
      refine lv_aload_n hx hb dX9_stray_46 rfl (lv_at hl 0 rfl) ?_
      refine r_get X hG in_X9 rfl 11 (by decide) w_642 0 rfl rfl dX9_stray_47 ?_
      refine lv_iconst (v := (0 : Int32)) hx hb dX9_stray_50 (by decide) ?_
      refine r_iald X hG 11 rfl (vpd (by decide)) dX9_stray_51 ?_
      refine lv_icmp_ge (tgt := 130) hx hb dX9_stray_52 (by decide) (fun c_16 => ?_) (fun c_16 => ?_)
      · have h := ite_t h c_16
        exact KX _ (Option.some.inj h).symm _ _ _ (lv_sub hl [4] rfl) hG
      · have h := ite_f h c_16
        refine lv_iload_n hx hb dX9_stray_55 rfl (lv_at hl 3 rfl) ?_
        refine lv_aload_n hx hb dX9_stray_56 rfl (lv_at hl 0 rfl) ?_
        refine r_get X hG in_X9 rfl 12 (by decide) w_643 0 rfl rfl dX9_stray_57 ?_
        refine lv_iload hx hb dX9_stray_60 (lv_at hl 5 rfl) ?_
        obtain ⟨g_17, h⟩ := gd h
        refine r_iald X hG 12 rfl g_17 dX9_stray_62 ?_
        refine lv_icmp_lt (tgt := 103) hx hb dX9_stray_63 (by decide) (fun c_18 => ?_) (fun c_18 => ?_)
        · have h := ite_t h c_18
          refine lv_iconst (v := (0 : Int32)) hx hb dX9_stray_103 (by decide) ?_
          exact J104 (0 : Int32) x4 x5 c_to c_stood c_home c_lost c_out _ h KC KX _ _ _ (lv_sub hl [0, 1, 2, 3, 4, 5] rfl) hG
        · have h := ite_f h c_18
          refine lv_iload_n hx hb dX9_stray_66 rfl (lv_at hl 3 rfl) ?_
          refine lv_aload_n hx hb dX9_stray_67 rfl (lv_at hl 0 rfl) ?_
          refine r_get X hG in_X9 rfl 23 (by decide) w_654 0 rfl rfl dX9_stray_68 ?_
          refine lv_iload hx hb dX9_stray_71 (lv_at hl 5 rfl) ?_
          obtain ⟨g_20, h⟩ := gd h
          refine r_iald X hG 20 rfl g_20 dX9_stray_73 ?_
          refine lv_icmp_ge (tgt := 103) hx hb dX9_stray_74 (by decide) (fun c_21 => ?_) (fun c_21 => ?_)
          · have h := ite_t h c_21
            refine lv_iconst (v := (0 : Int32)) hx hb dX9_stray_103 (by decide) ?_
            exact J104 (0 : Int32) x4 x5 c_to c_stood c_home c_lost c_out _ h KC KX _ _ _ (lv_sub hl [0, 1, 2, 3, 4, 5] rfl) hG
          · have h := ite_f h c_21
            refine lv_aload_n hx hb dX9_stray_77 rfl (lv_at hl 0 rfl) ?_
            refine r_get X hG in_X9 rfl 21 (by decide) w_652 0 rfl rfl dX9_stray_78 ?_
            refine lv_iload hx hb dX9_stray_81 (lv_at hl 5 rfl) ?_
            obtain ⟨g_22, h⟩ := gd h
            refine r_iald X hG 18 rfl g_22 dX9_stray_83 ?_
            refine lv_iload_n hx hb dX9_stray_84 rfl (lv_at hl 2 rfl) ?_
            refine lv_icmp_ne (tgt := 103) hx hb dX9_stray_85 (by decide) (fun c_23 => ?_) (fun c_23 => ?_)
            · have h := ite_f h c_23
              refine lv_iconst (v := (0 : Int32)) hx hb dX9_stray_103 (by decide) ?_
              exact J104 (0 : Int32) x4 x5 c_to c_stood c_home c_lost c_out _ h KC KX _ _ _ (lv_sub hl [0, 1, 2, 3, 4, 5] rfl) hG
            · have h := ite_t h c_23
              refine lv_aload_n hx hb dX9_stray_88 rfl (lv_at hl 0 rfl) ?_
              refine lv_iload hx hb dX9_stray_89 (lv_at hl 5 rfl) ?_
              refine lv_iload_n hx hb dX9_stray_91 rfl (lv_at hl 3 rfl) ?_
              obtain ⟨r_24, hz_25, h⟩ := bd1_some h
              refine aft_i1 (run_V1 (rest := []) X hG hl.1 (mX9_farOf l dC dI cI cJ a c_length c_text c_stands c_homeFar c_nets c_netAt c_netWide c_netFrom c_netTo c_priceX c_priceY c_many c_days c_aims c_speeds c_kinds c_keptMany c_undoMany c_undos c_spot c_told c_to c_stood c_home c_lost c_out c_fewest c_ways c_next c_held x5 x3 hz_25) gi_V_X9_154 hd_V_yX9_farOf ⟨rfl, rfl⟩ rfl ⟨Nat.le_of_ble_eq_true rfl, Nat.le_of_ble_eq_true rfl⟩ 0 rfl rfl rfl rfl (Nat.le_of_ble_eq_true rfl) ⟨Nat.le_of_ble_eq_true rfl, Nat.le_of_ble_eq_true rfl⟩ dX9_stray_92) hG rfl (fun H locs hG => ?_)
              clear hz_25
              refine lv_iload_n hx hb dX9_stray_95 rfl (lv_at hl 1 rfl) ?_
              refine lv_icmp_ne (tgt := 103) hx hb dX9_stray_96 (by decide) (fun c_26 => ?_) (fun c_26 => ?_)
              · have h := ite_f h c_26
                refine lv_iconst (v := (0 : Int32)) hx hb dX9_stray_103 (by decide) ?_
                exact J104 (0 : Int32) x4 x5 c_to c_stood c_home c_lost c_out _ h KC KX _ _ _ (lv_sub hl [0, 1, 2, 3, 4, 5] rfl) hG
              · have h := ite_t h c_26
                refine lv_iconst (v := (1 : Int32)) hx hb dX9_stray_99 (by decide) ?_
                refine lv_goto (tgt := 104) hx hb dX9_stray_100 (by decide) ?_
                exact J104 (1 : Int32) x4 x5 c_to c_stood c_home c_lost c_out _ h KC KX _ _ _ (lv_sub hl [0, 1, 2, 3, 4, 5] rfl) hG
  have h := hD
  unfold DX9_stray at h
  clear hD
  refine lv_iload_n hx hb dX9_stray_0 rfl (lv_at hl 1 rfl) ?_
  refine lv_i2l (v := (x1.toInt64)) hx hb dX9_stray_1 rfl ?_
  refine lv_lconst (v := (0 : Int64)) hx hb dX9_stray_2 (by decide) ?_
  refine lv_ldc2 (v := (60 : Int64)) hx hb X.1.2.2.2.1 (X.1.2.2.2.2 _ w_759) dX9_stray_3 ?_
  obtain ⟨r_1, hz_2, h⟩ := bd1_some h
  refine aft_i (ws' := (W_X9 a cI cJ c_length c_text c_stands c_homeFar c_nets c_netAt c_netWide c_netFrom c_netTo c_priceX c_priceY c_many c_days c_aims c_speeds c_kinds c_keptMany c_undoMany c_undos c_spot c_told c_to c_stood c_home c_lost c_out c_fewest c_ways c_next c_held)) (run_S (rest := []) X hG hl.1 (mX9_in l dC dI cI cJ (x1.toInt64) (0 : Int64) (60 : Int64) hz_2) gi_S_X9_92 hd_S_yX9_in ⟨rfl, rfl⟩ rfl ⟨Nat.le_of_ble_eq_true rfl, Nat.le_of_ble_eq_true rfl⟩ [] (by decide) rfl rfl (Nat.le_of_ble_eq_true rfl) ⟨Nat.le_of_ble_eq_true rfl, Nat.le_of_ble_eq_true rfl⟩ dX9_stray_6) hG [] rfl rfl rfl (fun H locs hG => ?_)
  clear hz_2
  refine lv_if_eq (tgt := 31) hx hb dX9_stray_9 (by decide) (fun c_3 => ?_) (fun c_3 => ?_)
  · have h := ite_t h c_3
    refine lv_iconst (v := (-1 : Int32)) hx hb dX9_stray_31 (by decide) ?_
    cases h
    exact ret _ _ _ _ dX9_stray_32 hG
  · have h := ite_f h c_3
    refine lv_iload_n hx hb dX9_stray_12 rfl (lv_at hl 2 rfl) ?_
    refine lv_i2l (v := (x2.toInt64)) hx hb dX9_stray_13 rfl ?_
    refine lv_lconst (v := (0 : Int64)) hx hb dX9_stray_14 (by decide) ?_
    refine lv_ldc2 (v := (23 : Int64)) hx hb X.1.2.2.2.1 (X.1.2.2.2.2 _ w_863) dX9_stray_15 ?_
    obtain ⟨r_4, hz_5, h⟩ := bd1_some h
    refine aft_i (ws' := (W_X9 a cI cJ c_length c_text c_stands c_homeFar c_nets c_netAt c_netWide c_netFrom c_netTo c_priceX c_priceY c_many c_days c_aims c_speeds c_kinds c_keptMany c_undoMany c_undos c_spot c_told c_to c_stood c_home c_lost c_out c_fewest c_ways c_next c_held)) (run_S (rest := []) X hG hl.1 (mX9_in l dC dI cI cJ (x2.toInt64) (0 : Int64) (23 : Int64) hz_5) gi_S_X9_92 hd_S_yX9_in ⟨rfl, rfl⟩ rfl ⟨Nat.le_of_ble_eq_true rfl, Nat.le_of_ble_eq_true rfl⟩ [] (by decide) rfl rfl (Nat.le_of_ble_eq_true rfl) ⟨Nat.le_of_ble_eq_true rfl, Nat.le_of_ble_eq_true rfl⟩ dX9_stray_18) hG [] rfl rfl rfl (fun H locs hG => ?_)
    clear hz_5
    refine lv_if_eq (tgt := 31) hx hb dX9_stray_21 (by decide) (fun c_6 => ?_) (fun c_6 => ?_)
    · have h := ite_t h c_6
      refine lv_iconst (v := (-1 : Int32)) hx hb dX9_stray_31 (by decide) ?_
      cases h
      exact ret _ _ _ _ dX9_stray_32 hG
    · have h := ite_f h c_6
      refine lv_iload_n hx hb dX9_stray_24 rfl (lv_at hl 3 rfl) ?_
      obtain ⟨r_7, hz_8, h⟩ := bd1_some h
      refine aft_i (ws' := (W_X9 a cI cJ c_length c_text c_stands c_homeFar c_nets c_netAt c_netWide c_netFrom c_netTo c_priceX c_priceY c_many c_days c_aims c_speeds c_kinds c_keptMany c_undoMany c_undos c_spot c_told c_to c_stood c_home c_lost c_out c_fewest c_ways c_next c_held)) (run_S (rest := []) X hG hl.1 (mX9_isDay l dC dI cI cJ x3 hz_8) gi_S_X9_193 hd_S_yX9_isDay ⟨rfl, rfl⟩ rfl ⟨Nat.le_of_ble_eq_true rfl, Nat.le_of_ble_eq_true rfl⟩ [] (by decide) rfl rfl (Nat.le_of_ble_eq_true rfl) ⟨Nat.le_of_ble_eq_true rfl, Nat.le_of_ble_eq_true rfl⟩ dX9_stray_25) hG [] rfl rfl rfl (fun H locs hG => ?_)
      clear hz_8
      refine lv_if_ne (tgt := 33) hx hb dX9_stray_28 (by decide) (fun c_9 => ?_) (fun c_9 => ?_)
      · have h := ite_f h c_9
        refine lv_aload_n hx hb dX9_stray_33 rfl (lv_at hl 0 rfl) ?_
        refine lv_iconst (v := (0 : Int32)) hx hb dX9_stray_34 (by decide) ?_
        obtain ⟨k_to_10, k_stood_11, k_home_12, k_lost_13, k_out_14, hz_15, h⟩ := bd5_some h
        refine aft_v1 (run_V1 (rest := []) X hG hl.1 (mX9_go l dC dI cI cJ a c_length c_text c_stands c_homeFar c_nets c_netAt c_netWide c_netFrom c_netTo c_priceX c_priceY c_many c_days c_aims c_speeds c_kinds c_keptMany c_undoMany c_undos c_spot c_told c_to c_stood c_home c_lost c_out c_fewest c_ways c_next c_held (0 : Int32) hz_15) gi_V_X9_185 hd_V_yX9_go ⟨rfl, rfl⟩ rfl ⟨Nat.le_of_ble_eq_true rfl, Nat.le_of_ble_eq_true rfl⟩ 0 rfl rfl rfl rfl (Nat.le_of_ble_eq_true rfl) ⟨Nat.le_of_ble_eq_true rfl, Nat.le_of_ble_eq_true rfl⟩ dX9_stray_35) hG rfl (fun H locs hG => ?_)
        clear hz_15
        refine lv_iconst (v := (0 : Int32)) hx hb dX9_stray_38 (by decide) ?_
        refine lv_istore (lv' := [(4, .int (0 : Int32)), (0, .ref (a 0)), (1, .int x1), (2, .int x2), (3, .int x3)]) hx hb dX9_stray_39 hl (by decide) rfl (fun ls hl => ?_)
        refine lv_iconst (v := (0 : Int32)) hx hb dX9_stray_41 (by decide) ?_
        refine lv_istore (lv' := [(5, .int (0 : Int32)), (4, .int (0 : Int32)), (0, .ref (a 0)), (1, .int x1), (2, .int x2), (3, .int x3)]) hx hb dX9_stray_42 hl (by decide) rfl (fun ls hl => ?_)
        obtain ⟨z4_27, hz, h⟩ := bd1_some h
        refine L44 k_to_10 k_stood_11 k_home_12 k_lost_13 k_out_14 FU (0 : Int32) (0 : Int32) _ hz (fun ls H locs hl hG => ?_) _ _ _ (lv_sub hl [2, 3, 4, 5, 1, 0] rfl) hG
        clear hz
        refine lv_iload hx hb dX9_stray_130 (lv_at hl 0 rfl) ?_
        cases h
        exact ret _ _ _ _ dX9_stray_132 hG
      · have h := ite_t h c_9
        refine lv_iconst (v := (-1 : Int32)) hx hb dX9_stray_31 (by decide) ?_
        cases h
        exact ret _ _ _ _ dX9_stray_32 hG
set_option maxRecDepth 100000 in
set_option maxHeartbeats 4000000 in
theorem mX9_isMeeter (l : Launch) (dC : Nat → ClassId) (dI : Nat → Nat → Nat) (cI cJ : ClassId) (a : Nat → Nat) (c_length : Int32) (c_text : Nat → Int32) (c_stands : Nat → Int32) (c_homeFar : Nat → Int32) (c_nets : Nat → Int32) (c_netAt : Nat → Int32) (c_netWide : Nat → Int32) (c_netFrom : Nat → Int32) (c_netTo : Nat → Int32) (c_priceX : Nat → Int32) (c_priceY : Nat → Int32) (c_many : Nat → Int32) (c_days : Nat → Int32) (c_aims : Nat → Int32) (c_speeds : Nat → Int32) (c_kinds : Nat → Int32) (c_keptMany : Int32) (c_undoMany : Int32) (c_undos : Nat → Int32) (c_spot : Int32) (c_told : Nat → Int32) (c_to : Nat → Int32) (c_stood : Nat → Int32) (c_home : Nat → Int32) (c_lost : Nat → Int32) (c_out : Int32) (c_fewest : Nat → Int32) (c_ways : Nat → Int64) (c_next : Nat → Int64) (c_held : Nat → Int32) (x1 : Int32) (x2 : Int32) (x3 : Int32) {res : Int32} (hD : DX9_isMeeter x1 x2 x3 c_homeFar c_days c_speeds = some res) : Met l yX9_isMeeter (WZ yX9_isMeeter cX9_isMeeter 8 (some .boolean)) (RM 1 22) (PC dC dI cI cJ [.ref (a 0), .int x1, .int x2, .int x3] (W_X9 a cI cJ c_length c_text c_stands c_homeFar c_nets c_netAt c_netWide c_netFrom c_netTo c_priceX c_priceY c_many c_days c_aims c_speeds c_kinds c_keptMany c_undoMany c_undos c_spot c_told c_to c_stood c_home c_lost c_out c_fewest c_ways c_next c_held)) (QI dC dI (W_X9 a cI cJ c_length c_text c_stands c_homeFar c_nets c_netAt c_netWide c_netFrom c_netTo c_priceX c_priceY c_many c_days c_aims c_speeds c_kinds c_keptMany c_undoMany c_undos c_spot c_told c_to c_stood c_home c_lost c_out c_fewest c_ways c_next c_held) (W_X9 a cI cJ c_length c_text c_stands c_homeFar c_nets c_netAt c_netWide c_netFrom c_netTo c_priceX c_priceY c_many c_days c_aims c_speeds c_kinds c_keptMany c_undoMany c_undos c_spot c_told c_to c_stood c_home c_lost c_out c_fewest c_ways c_next c_held) res) 0 0 (FA (W_X9 a cI cJ c_length c_text c_stands c_homeFar c_nets c_netAt c_netWide c_netFrom c_netTo c_priceX c_priceY c_many c_days c_aims c_speeds c_kinds c_keptMany c_undoMany c_undos c_spot c_told c_to c_stood c_home c_lost c_out c_fewest c_ways c_next c_held)) := by
  refine r_metZ (by decide +kernel) (Nat.le_of_ble_eq_true rfl) ?_
  intro p e s m args below meth c A H0 QQ X ret ls hl hG
  have X : Cx p m c cX9_isMeeter 8 s args RX9 dC dI cI cJ meth (some .boolean) := X
  have hx := X.1.1
  have hb := X.1.2.1
  have hl : lv_has ls 8 [(0, .ref (a 0)), (1, .int x1), (2, .int x2), (3, .int x3)] := hl
  have L51 : ∀ (x4 : Int32) (x5 : Int32), ∀ (n : Nat) (x6 : Int32) (x7 : Int32) (ex6 : Int32), DX9_isMeeter_L51 x1 x2 x3 c_days c_speeds x4 x5 n x6 x7 = some ex6 → (∀ (ls : Array Slot) (H : Heap) (locs : List Loc), lv_has ls 8 [(6, .int ex6)] → G dC dI A H0 (W_X9 a cI cJ c_length c_text c_stands c_homeFar c_nets c_netAt c_netWide c_netFrom c_netTo c_priceX c_priceY c_many c_days c_aims c_speeds c_kinds c_keptMany c_undoMany c_undos c_spot c_told c_to c_stood c_home c_lost c_out c_fewest c_ways c_next c_held) H locs → W p l e (RM 1 22) s m args below meth c H locs 0 0 QQ (F0 m 99 ls [])) → ∀ (ls : Array Slot) (H : Heap) (locs : List Loc), lv_has ls 8 [(0, .ref (a 0)), (1, .int x1), (2, .int x2), (3, .int x3), (4, .int x4), (5, .int x5), (6, .int x6), (7, .int x7)] → G dC dI A H0 (W_X9 a cI cJ c_length c_text c_stands c_homeFar c_nets c_netAt c_netWide c_netFrom c_netTo c_priceX c_priceY c_many c_days c_aims c_speeds c_kinds c_keptMany c_undoMany c_undos c_spot c_told c_to c_stood c_home c_lost c_out c_fewest c_ways c_next c_held) H locs → W p l e (RM 1 22) s m args below meth c H locs 0 0 QQ (F0 m 51 ls []) := by
    intro x4 x5 n
    induction n with
    | zero => intro x6 x7 ex6 h; exact it_zero h
    | succ n ih =>
      intro x6 x7 ex6 h0 K0 ls H locs hl hG
      obtain ⟨w, h, hi, hr⟩ := it_succ h0
      have h : DX9_isMeeter_L51s x1 x2 x3 c_days c_speeds x4 x5 x6 x7 = some w := h
      have KC : ∀ (x6 : Int32) (x7 : Int32), w = .inl (x6, x7) → ∀ (ls : Array Slot) (H : Heap) (locs : List Loc), lv_has ls 8 [(0, .ref (a 0)), (1, .int x1), (2, .int x2), (3, .int x3), (4, .int x4), (5, .int x5), (6, .int x6), (7, .int x7)] → G dC dI A H0 (W_X9 a cI cJ c_length c_text c_stands c_homeFar c_nets c_netAt c_netWide c_netFrom c_netTo c_priceX c_priceY c_many c_days c_aims c_speeds c_kinds c_keptMany c_undoMany c_undos c_spot c_told c_to c_stood c_home c_lost c_out c_fewest c_ways c_next c_held) H locs → W p l e (RM 1 22) s m args below meth c H locs 0 0 QQ (F0 m 51 ls []) := fun b0 b1 e ls H locs hl hG => ih b0 b1 ex6 (hi _ e) K0 ls H locs hl hG
      have KX : ∀ (x6 : Int32), w = .inr x6 → ∀ (ls : Array Slot) (H : Heap) (locs : List Loc), lv_has ls 8 [(6, .int x6)] → G dC dI A H0 (W_X9 a cI cJ c_length c_text c_stands c_homeFar c_nets c_netAt c_netWide c_netFrom c_netTo c_priceX c_priceY c_many c_days c_aims c_speeds c_kinds c_keptMany c_undoMany c_undos c_spot c_told c_to c_stood c_home c_lost c_out c_fewest c_ways c_next c_held) H locs → W p l e (RM 1 22) s m args below meth c H locs 0 0 QQ (F0 m 99 ls []) := fun b0 e ls H locs hl hG => by cases hr _ e; exact K0 ls H locs hl hG
      clear h0 hi hr K0 ih
      unfold DX9_isMeeter_L51s at h
      refine lv_iload hx hb dX9_isMeeter_51 (lv_at hl 7 rfl) ?_
      refine lv_iload hx hb dX9_isMeeter_53 (lv_at hl 4 rfl) ?_
      refine lv_icmp_ge (tgt := 99) hx hb dX9_isMeeter_55 (by decide) (fun c_10 => ?_) (fun c_10 => ?_)
      · have h := ite_t h c_10
        exact KX _ (Option.some.inj h).symm _ _ _ (lv_sub hl [6] rfl) hG
      · have h := ite_f h c_10
        refine lv_iload hx hb dX9_isMeeter_58 (lv_at hl 7 rfl) ?_
        refine lv_iload hx hb dX9_isMeeter_60 (lv_at hl 5 rfl) ?_
        refine lv_icmp_ge (tgt := 99) hx hb dX9_isMeeter_62 (by decide) (fun c_11 => ?_) (fun c_11 => ?_)
        · have h := ite_t h c_11
          exact KX _ (Option.some.inj h).symm _ _ _ (lv_sub hl [6] rfl) hG
        · have h := ite_f h c_11
          refine lv_iload hx hb dX9_isMeeter_65 (lv_at hl 6 rfl) ?_
          refine lv_if_ne (tgt := 86) hx hb dX9_isMeeter_67 (by decide) (fun c_12 => ?_) (fun c_12 => ?_)
          · have h := ite_f h c_12
            refine lv_iconst (v := (1 : Int32)) hx hb dX9_isMeeter_86 (by decide) ?_
            refine lv_goto (tgt := 91) hx hb dX9_isMeeter_87 (by decide) ?_
            refine lv_istore (lv' := [(6, .int (1 : Int32)), (0, .ref (a 0)), (1, .int x1), (2, .int x2), (3, .int x3), (4, .int x4), (5, .int x5), (7, .int x7)]) hx hb dX9_isMeeter_91 hl (by decide) rfl (fun ls hl => ?_)
            refine lv_iinc (v := (x7 + (1 : Int32))) (lv' := [(7, .int (x7 + (1 : Int32))), (6, .int (1 : Int32)), (0, .ref (a 0)), (1, .int x1), (2, .int x2), (3, .int x3), (4, .int x4), (5, .int x5)]) hx hb dX9_isMeeter_93 hl (k := 7) rfl rfl (by decide) rfl (fun ls hl => ?_)
            refine lv_goto (tgt := 51) hx hb dX9_isMeeter_96 (by decide) ?_
            exact KC _ _ (Option.some.inj h).symm _ _ _ (lv_sub hl [2, 3, 4, 5, 6, 7, 1, 0] rfl) hG
          · have h := ite_t h c_12
            refine lv_aload_n hx hb dX9_isMeeter_70 rfl (lv_at hl 0 rfl) ?_
            refine lv_iload_n hx hb dX9_isMeeter_71 rfl (lv_at hl 1 rfl) ?_
            refine lv_iload hx hb dX9_isMeeter_72 (lv_at hl 7 rfl) ?_
            obtain ⟨r_13, hz_14, h⟩ := bd1_some h
            refine aft_i1 (run_V1 (rest := []) X hG hl.1 (mX9_farOf l dC dI cI cJ a c_length c_text c_stands c_homeFar c_nets c_netAt c_netWide c_netFrom c_netTo c_priceX c_priceY c_many c_days c_aims c_speeds c_kinds c_keptMany c_undoMany c_undos c_spot c_told c_to c_stood c_home c_lost c_out c_fewest c_ways c_next c_held x1 x7 hz_14) gi_V_X9_154 hd_V_yX9_farOf ⟨rfl, rfl⟩ rfl ⟨Nat.le_of_ble_eq_true rfl, Nat.le_of_ble_eq_true rfl⟩ 0 rfl rfl rfl rfl (Nat.le_of_ble_eq_true rfl) ⟨Nat.le_of_ble_eq_true rfl, Nat.le_of_ble_eq_true rfl⟩ dX9_isMeeter_74) hG rfl (fun H locs hG => ?_)
            clear hz_14
            refine lv_iload_n hx hb dX9_isMeeter_77 rfl (lv_at hl 3 rfl) ?_
            refine lv_iload hx hb dX9_isMeeter_78 (lv_at hl 7 rfl) ?_
            refine lv_iload_n hx hb dX9_isMeeter_80 rfl (lv_at hl 2 rfl) ?_
            refine lv_isub hx hb dX9_isMeeter_81 ?_
            refine lv_imul hx hb dX9_isMeeter_82 ?_
            refine lv_icmp_ne (tgt := 90) hx hb dX9_isMeeter_83 (by decide) (fun c_15 => ?_) (fun c_15 => ?_)
            · have h := ite_f h c_15
              refine lv_iconst (v := (0 : Int32)) hx hb dX9_isMeeter_90 (by decide) ?_
              refine lv_istore (lv' := [(6, .int (0 : Int32)), (0, .ref (a 0)), (1, .int x1), (2, .int x2), (3, .int x3), (4, .int x4), (5, .int x5), (7, .int x7)]) hx hb dX9_isMeeter_91 hl (by decide) rfl (fun ls hl => ?_)
              refine lv_iinc (v := (x7 + (1 : Int32))) (lv' := [(7, .int (x7 + (1 : Int32))), (6, .int (0 : Int32)), (0, .ref (a 0)), (1, .int x1), (2, .int x2), (3, .int x3), (4, .int x4), (5, .int x5)]) hx hb dX9_isMeeter_93 hl (k := 7) rfl rfl (by decide) rfl (fun ls hl => ?_)
              refine lv_goto (tgt := 51) hx hb dX9_isMeeter_96 (by decide) ?_
              exact KC _ _ (Option.some.inj h).symm _ _ _ (lv_sub hl [2, 3, 4, 5, 6, 7, 1, 0] rfl) hG
            · have h := ite_t h c_15
              refine lv_iconst (v := (1 : Int32)) hx hb dX9_isMeeter_86 (by decide) ?_
              refine lv_goto (tgt := 91) hx hb dX9_isMeeter_87 (by decide) ?_
              refine lv_istore (lv' := [(6, .int (1 : Int32)), (0, .ref (a 0)), (1, .int x1), (2, .int x2), (3, .int x3), (4, .int x4), (5, .int x5), (7, .int x7)]) hx hb dX9_isMeeter_91 hl (by decide) rfl (fun ls hl => ?_)
              refine lv_iinc (v := (x7 + (1 : Int32))) (lv' := [(7, .int (x7 + (1 : Int32))), (6, .int (1 : Int32)), (0, .ref (a 0)), (1, .int x1), (2, .int x2), (3, .int x3), (4, .int x4), (5, .int x5)]) hx hb dX9_isMeeter_93 hl (k := 7) rfl rfl (by decide) rfl (fun ls hl => ?_)
              refine lv_goto (tgt := 51) hx hb dX9_isMeeter_96 (by decide) ?_
              exact KC _ _ (Option.some.inj h).symm _ _ _ (lv_sub hl [2, 3, 4, 5, 6, 7, 1, 0] rfl) hG
  have h := hD
  unfold DX9_isMeeter at h
  clear hD
  refine lv_aload_n hx hb dX9_isMeeter_0 rfl (lv_at hl 0 rfl) ?_
  refine lv_aload_n hx hb dX9_isMeeter_1 rfl (lv_at hl 0 rfl) ?_
  refine r_get X hG in_X9 rfl 12 (by decide) w_643 0 rfl rfl dX9_isMeeter_2 ?_
  refine lv_iload_n hx hb dX9_isMeeter_5 rfl (lv_at hl 1 rfl) ?_
  obtain ⟨g_1, h⟩ := gd h
  refine r_iald X hG 12 rfl g_1 dX9_isMeeter_6 ?_
  refine lv_aload_n hx hb dX9_isMeeter_7 rfl (lv_at hl 0 rfl) ?_
  refine r_get X hG in_X9 rfl 14 (by decide) w_645 0 rfl rfl dX9_isMeeter_8 ?_
  refine lv_iload_n hx hb dX9_isMeeter_11 rfl (lv_at hl 1 rfl) ?_
  obtain ⟨g_2, h⟩ := gd h
  refine r_iald X hG 14 rfl g_2 dX9_isMeeter_12 ?_
  obtain ⟨r_3, hz_4, h⟩ := bd1_some h
  refine aft_i1 (run_V1 (rest := []) X hG hl.1 (mX9_homeDay l dC dI cI cJ a c_length c_text c_stands c_homeFar c_nets c_netAt c_netWide c_netFrom c_netTo c_priceX c_priceY c_many c_days c_aims c_speeds c_kinds c_keptMany c_undoMany c_undos c_spot c_told c_to c_stood c_home c_lost c_out c_fewest c_ways c_next c_held (c_days x1.toNatClampNeg) (c_speeds x1.toNatClampNeg) hz_4) gi_V_X9_161 hd_V_yX9_homeDay ⟨rfl, rfl⟩ rfl ⟨Nat.le_of_ble_eq_true rfl, Nat.le_of_ble_eq_true rfl⟩ 0 rfl rfl rfl rfl (Nat.le_of_ble_eq_true rfl) ⟨Nat.le_of_ble_eq_true rfl, Nat.le_of_ble_eq_true rfl⟩ dX9_isMeeter_13) hG rfl (fun H locs hG => ?_)
  clear hz_4
  refine lv_istore (lv' := [(4, .int r_3), (0, .ref (a 0)), (1, .int x1), (2, .int x2), (3, .int x3)]) hx hb dX9_isMeeter_16 hl (by decide) rfl (fun ls hl => ?_)
  refine lv_aload_n hx hb dX9_isMeeter_18 rfl (lv_at hl 1 rfl) ?_
  refine lv_iload_n hx hb dX9_isMeeter_19 rfl (lv_at hl 3 rfl) ?_
  refine lv_iload_n hx hb dX9_isMeeter_20 rfl (lv_at hl 4 rfl) ?_
  obtain ⟨r_5, hz_6, h⟩ := bd1_some h
  refine aft_i1 (run_V1 (rest := []) X hG hl.1 (mX9_homeDay l dC dI cI cJ a c_length c_text c_stands c_homeFar c_nets c_netAt c_netWide c_netFrom c_netTo c_priceX c_priceY c_many c_days c_aims c_speeds c_kinds c_keptMany c_undoMany c_undos c_spot c_told c_to c_stood c_home c_lost c_out c_fewest c_ways c_next c_held x2 x3 hz_6) gi_V_X9_161 hd_V_yX9_homeDay ⟨rfl, rfl⟩ rfl ⟨Nat.le_of_ble_eq_true rfl, Nat.le_of_ble_eq_true rfl⟩ 0 rfl rfl rfl rfl (Nat.le_of_ble_eq_true rfl) ⟨Nat.le_of_ble_eq_true rfl, Nat.le_of_ble_eq_true rfl⟩ dX9_isMeeter_21) hG rfl (fun H locs hG => ?_)
  clear hz_6
  refine lv_istore (lv' := [(5, .int r_5), (4, .int r_3), (0, .ref (a 0)), (1, .int x1), (2, .int x2), (3, .int x3)]) hx hb dX9_isMeeter_24 hl (by decide) rfl (fun ls hl => ?_)
  refine lv_iconst (v := (0 : Int32)) hx hb dX9_isMeeter_26 (by decide) ?_
  refine lv_istore (lv' := [(6, .int (0 : Int32)), (5, .int r_5), (4, .int r_3), (0, .ref (a 0)), (1, .int x1), (2, .int x2), (3, .int x3)]) hx hb dX9_isMeeter_27 hl (by decide) rfl (fun ls hl => ?_)
  refine lv_iload_n hx hb dX9_isMeeter_29 rfl (lv_at hl 5 rfl) ?_
  refine lv_aload_n hx hb dX9_isMeeter_30 rfl (lv_at hl 3 rfl) ?_
  refine r_get X hG in_X9 rfl 12 (by decide) w_643 0 rfl rfl dX9_isMeeter_31 ?_
  refine lv_iload_n hx hb dX9_isMeeter_34 rfl (lv_at hl 4 rfl) ?_
  obtain ⟨g_7, h⟩ := gd h
  refine r_iald X hG 12 rfl g_7 dX9_isMeeter_35 ?_
  refine lv_icmp_le (tgt := 43) hx hb dX9_isMeeter_36 (by decide) (fun c_8 => ?_) (fun c_8 => ?_)
  · have h := ite_t h c_8
    refine lv_aload_n hx hb dX9_isMeeter_43 rfl (lv_at hl 3 rfl) ?_
    refine r_get X hG in_X9 rfl 12 (by decide) w_643 0 rfl rfl dX9_isMeeter_44 ?_
    refine lv_iload_n hx hb dX9_isMeeter_47 rfl (lv_at hl 4 rfl) ?_
    obtain ⟨g_9, h⟩ := gd h
    refine r_iald X hG 12 rfl g_9 dX9_isMeeter_48 ?_
    refine lv_istore (lv' := [(7, .int (c_days x1.toNatClampNeg)), (6, .int (0 : Int32)), (5, .int r_5), (4, .int r_3), (0, .ref (a 0)), (1, .int x1), (2, .int x2), (3, .int x3)]) hx hb dX9_isMeeter_49 hl (by decide) rfl (fun ls hl => ?_)
    obtain ⟨z6_16, hz, h⟩ := bd1_some h
    refine L51 r_3 r_5 FU (0 : Int32) (c_days x1.toNatClampNeg) _ hz (fun ls H locs hl hG => ?_) _ _ _ (lv_sub hl [4, 5, 6, 7, 3, 2, 1, 0] rfl) hG
    clear hz
    refine lv_iload hx hb dX9_isMeeter_99 (lv_at hl 0 rfl) ?_
    obtain ⟨g_17, h⟩ := gd h
    cases h
    exact ret _ _ _ _ dX9_isMeeter_101 (Decidable.not_not.mp g_17) hG
  · have h := ite_f h c_8
    refine lv_iload_n hx hb dX9_isMeeter_39 rfl (lv_at hl 5 rfl) ?_
    refine lv_goto (tgt := 49) hx hb dX9_isMeeter_40 (by decide) ?_
    refine lv_istore (lv' := [(7, .int x2), (6, .int (0 : Int32)), (5, .int r_5), (4, .int r_3), (0, .ref (a 0)), (1, .int x1), (2, .int x2), (3, .int x3)]) hx hb dX9_isMeeter_49 hl (by decide) rfl (fun ls hl => ?_)
    obtain ⟨z6_18, hz, h⟩ := bd1_some h
    refine L51 r_3 r_5 FU (0 : Int32) x2 _ hz (fun ls H locs hl hG => ?_) _ _ _ (lv_sub hl [4, 5, 6, 7, 3, 2, 1, 0] rfl) hG
    clear hz
    refine lv_iload hx hb dX9_isMeeter_99 (lv_at hl 0 rfl) ?_
    obtain ⟨g_19, h⟩ := gd h
    cases h
    exact ret _ _ _ _ dX9_isMeeter_101 (Decidable.not_not.mp g_19) hG
set_option maxRecDepth 100000 in
set_option maxHeartbeats 4000000 in
theorem mX9_meeters (l : Launch) (dC : Nat → ClassId) (dI : Nat → Nat → Nat) (cI cJ : ClassId) (a : Nat → Nat) (c_length : Int32) (c_text : Nat → Int32) (c_stands : Nat → Int32) (c_homeFar : Nat → Int32) (c_nets : Nat → Int32) (c_netAt : Nat → Int32) (c_netWide : Nat → Int32) (c_netFrom : Nat → Int32) (c_netTo : Nat → Int32) (c_priceX : Nat → Int32) (c_priceY : Nat → Int32) (c_many : Nat → Int32) (c_days : Nat → Int32) (c_aims : Nat → Int32) (c_speeds : Nat → Int32) (c_kinds : Nat → Int32) (c_keptMany : Int32) (c_undoMany : Int32) (c_undos : Nat → Int32) (c_spot : Int32) (c_told : Nat → Int32) (c_to : Nat → Int32) (c_stood : Nat → Int32) (c_home : Nat → Int32) (c_lost : Nat → Int32) (c_out : Int32) (c_fewest : Nat → Int32) (c_ways : Nat → Int64) (c_next : Nat → Int64) (c_held : Nat → Int32) (x1 : Int32) (x2 : Int32) {res : Int32} (hD : DX9_meeters x1 x2 c_homeFar c_many c_days c_speeds = some res) : Met l yX9_meeters (WZ yX9_meeters cX9_meeters 7 (some .int)) (RM 2 49) (PC dC dI cI cJ [.ref (a 0), .int x1, .int x2] (W_X9 a cI cJ c_length c_text c_stands c_homeFar c_nets c_netAt c_netWide c_netFrom c_netTo c_priceX c_priceY c_many c_days c_aims c_speeds c_kinds c_keptMany c_undoMany c_undos c_spot c_told c_to c_stood c_home c_lost c_out c_fewest c_ways c_next c_held)) (QI dC dI (W_X9 a cI cJ c_length c_text c_stands c_homeFar c_nets c_netAt c_netWide c_netFrom c_netTo c_priceX c_priceY c_many c_days c_aims c_speeds c_kinds c_keptMany c_undoMany c_undos c_spot c_told c_to c_stood c_home c_lost c_out c_fewest c_ways c_next c_held) (W_X9 a cI cJ c_length c_text c_stands c_homeFar c_nets c_netAt c_netWide c_netFrom c_netTo c_priceX c_priceY c_many c_days c_aims c_speeds c_kinds c_keptMany c_undoMany c_undos c_spot c_told c_to c_stood c_home c_lost c_out c_fewest c_ways c_next c_held) res) 0 0 (FA (W_X9 a cI cJ c_length c_text c_stands c_homeFar c_nets c_netAt c_netWide c_netFrom c_netTo c_priceX c_priceY c_many c_days c_aims c_speeds c_kinds c_keptMany c_undoMany c_undos c_spot c_told c_to c_stood c_home c_lost c_out c_fewest c_ways c_next c_held)) := by
  refine r_metI (by decide +kernel) (Nat.le_of_ble_eq_true rfl) ?_
  intro p e s m args below meth c A H0 QQ X ret ls hl hG
  have X : Cx p m c cX9_meeters 7 s args RX9 dC dI cI cJ meth (some .int) := X
  have hx := X.1.1
  have hb := X.1.2.1
  have hl : lv_has ls 7 [(0, .ref (a 0)), (1, .int x1), (2, .int x2)] := hl
  have L39 : ∀ (x5 : Int32), ∀ (n : Nat) (x3 : Int32) (x4 : Int32) (x6 : Int32) (ex3 : Int32) (ex4 : Int32), DX9_meeters_L39 x1 c_homeFar c_days c_speeds x5 n x3 x4 x6 = some (ex3, ex4) → (∀ (ls : Array Slot) (H : Heap) (locs : List Loc), lv_has ls 7 [(0, .ref (a 0)), (1, .int x1), (2, .int x2), (3, .int ex3), (4, .int ex4), (5, .int x5)] → G dC dI A H0 (W_X9 a cI cJ c_length c_text c_stands c_homeFar c_nets c_netAt c_netWide c_netFrom c_netTo c_priceX c_priceY c_many c_days c_aims c_speeds c_kinds c_keptMany c_undoMany c_undos c_spot c_told c_to c_stood c_home c_lost c_out c_fewest c_ways c_next c_held) H locs → W p l e (RM 2 49) s m args below meth c H locs 0 0 QQ (F0 m 86 ls [])) → ∀ (ls : Array Slot) (H : Heap) (locs : List Loc), lv_has ls 7 [(0, .ref (a 0)), (1, .int x1), (2, .int x2), (3, .int x3), (4, .int x4), (5, .int x5), (6, .int x6)] → G dC dI A H0 (W_X9 a cI cJ c_length c_text c_stands c_homeFar c_nets c_netAt c_netWide c_netFrom c_netTo c_priceX c_priceY c_many c_days c_aims c_speeds c_kinds c_keptMany c_undoMany c_undos c_spot c_told c_to c_stood c_home c_lost c_out c_fewest c_ways c_next c_held) H locs → W p l e (RM 2 49) s m args below meth c H locs 0 0 QQ (F0 m 39 ls []) := by
    intro x5 n
    induction n with
    | zero => intro x3 x4 x6 ex3 ex4 h; exact it_zero h
    | succ n ih =>
      intro x3 x4 x6 ex3 ex4 h0 K0 ls H locs hl hG
      obtain ⟨w, h, hi, hr⟩ := it_succ h0
      have h : DX9_meeters_L39s x1 c_homeFar c_days c_speeds x5 x3 x4 x6 = some w := h
      have KC : ∀ (x3 : Int32) (x4 : Int32) (x6 : Int32), w = .inl (x3, x4, x6) → ∀ (ls : Array Slot) (H : Heap) (locs : List Loc), lv_has ls 7 [(0, .ref (a 0)), (1, .int x1), (2, .int x2), (3, .int x3), (4, .int x4), (5, .int x5), (6, .int x6)] → G dC dI A H0 (W_X9 a cI cJ c_length c_text c_stands c_homeFar c_nets c_netAt c_netWide c_netFrom c_netTo c_priceX c_priceY c_many c_days c_aims c_speeds c_kinds c_keptMany c_undoMany c_undos c_spot c_told c_to c_stood c_home c_lost c_out c_fewest c_ways c_next c_held) H locs → W p l e (RM 2 49) s m args below meth c H locs 0 0 QQ (F0 m 39 ls []) := fun b0 b1 b2 e ls H locs hl hG => ih b0 b1 b2 ex3 ex4 (hi _ e) K0 ls H locs hl hG
      have KX : ∀ (x3 : Int32) (x4 : Int32), w = .inr (x3, x4) → ∀ (ls : Array Slot) (H : Heap) (locs : List Loc), lv_has ls 7 [(0, .ref (a 0)), (1, .int x1), (2, .int x2), (3, .int x3), (4, .int x4), (5, .int x5)] → G dC dI A H0 (W_X9 a cI cJ c_length c_text c_stands c_homeFar c_nets c_netAt c_netWide c_netFrom c_netTo c_priceX c_priceY c_many c_days c_aims c_speeds c_kinds c_keptMany c_undoMany c_undos c_spot c_told c_to c_stood c_home c_lost c_out c_fewest c_ways c_next c_held) H locs → W p l e (RM 2 49) s m args below meth c H locs 0 0 QQ (F0 m 86 ls []) := fun b0 b1 e ls H locs hl hG => by cases hr _ e; exact K0 ls H locs hl hG
      clear h0 hi hr K0 ih
      unfold DX9_meeters_L39s at h
      refine lv_iload hx hb dX9_meeters_39 (lv_at hl 6 rfl) ?_
      refine lv_bipush (v := (6 : Int32)) hx hb dX9_meeters_41 (by decide) ?_
      refine lv_icmp_gt (tgt := 86) hx hb dX9_meeters_43 (by decide) (fun c_8 => ?_) (fun c_8 => ?_)
      · have h := ite_t h c_8
        exact KX _ _ (Option.some.inj h).symm _ _ _ (lv_sub hl [0, 1, 2, 3, 4, 5] rfl) hG
      · have h := ite_f h c_8
        refine lv_aload_n hx hb dX9_meeters_46 rfl (lv_at hl 0 rfl) ?_
        refine lv_iload_n hx hb dX9_meeters_47 rfl (lv_at hl 1 rfl) ?_
        refine lv_iload hx hb dX9_meeters_48 (lv_at hl 5 rfl) ?_
        refine lv_iload hx hb dX9_meeters_50 (lv_at hl 6 rfl) ?_
        obtain ⟨r_9, hz_10, h⟩ := bd1_some h
        refine aft_i1 (run_V1 (rest := []) X hG hl.1 (mX9_isMeeter l dC dI cI cJ a c_length c_text c_stands c_homeFar c_nets c_netAt c_netWide c_netFrom c_netTo c_priceX c_priceY c_many c_days c_aims c_speeds c_kinds c_keptMany c_undoMany c_undos c_spot c_told c_to c_stood c_home c_lost c_out c_fewest c_ways c_next c_held x1 x5 x6 hz_10) gi_V_X9_215 hd_V_yX9_isMeeter ⟨rfl, rfl⟩ rfl ⟨Nat.le_of_ble_eq_true rfl, Nat.le_of_ble_eq_true rfl⟩ 0 rfl rfl rfl rfl (Nat.le_of_ble_eq_true rfl) ⟨Nat.le_of_ble_eq_true rfl, Nat.le_of_ble_eq_true rfl⟩ dX9_meeters_52) hG rfl (fun H locs hG => ?_)
        clear hz_10
        refine lv_if_eq (tgt := 80) hx hb dX9_meeters_55 (by decide) (fun c_11 => ?_) (fun c_11 => ?_)
        · have h := ite_t h c_11
          refine lv_iinc (v := (x6 + (1 : Int32))) (lv' := [(6, .int (x6 + (1 : Int32))), (0, .ref (a 0)), (1, .int x1), (2, .int x2), (3, .int x3), (4, .int x4), (5, .int x5)]) hx hb dX9_meeters_80 hl (k := 6) rfl rfl (by decide) rfl (fun ls hl => ?_)
          refine lv_goto (tgt := 39) hx hb dX9_meeters_83 (by decide) ?_
          exact KC _ _ _ (Option.some.inj h).symm _ _ _ (lv_sub hl [1, 2, 3, 4, 5, 6, 0] rfl) hG
        · have h := ite_f h c_11
          refine lv_iload_n hx hb dX9_meeters_58 rfl (lv_at hl 3 rfl) ?_
          refine lv_if_ne (tgt := 73) hx hb dX9_meeters_59 (by decide) (fun c_12 => ?_) (fun c_12 => ?_)
          · have h := ite_f h c_12
            refine lv_iload hx hb dX9_meeters_73 (lv_at hl 4 rfl) ?_
            refine lv_istore (lv' := [(4, .int x4), (0, .ref (a 0)), (1, .int x1), (2, .int x2), (3, .int x3), (5, .int x5), (6, .int x6)]) hx hb dX9_meeters_75 hl (by decide) rfl (fun ls hl => ?_)
            refine lv_iinc (v := (x3 + (1 : Int32))) (lv' := [(3, .int (x3 + (1 : Int32))), (4, .int x4), (0, .ref (a 0)), (1, .int x1), (2, .int x2), (5, .int x5), (6, .int x6)]) hx hb dX9_meeters_77 hl (k := 4) rfl rfl (by decide) rfl (fun ls hl => ?_)
            refine lv_iinc (v := (x6 + (1 : Int32))) (lv' := [(6, .int (x6 + (1 : Int32))), (3, .int (x3 + (1 : Int32))), (4, .int x4), (0, .ref (a 0)), (1, .int x1), (2, .int x2), (5, .int x5)]) hx hb dX9_meeters_80 hl (k := 6) rfl rfl (by decide) rfl (fun ls hl => ?_)
            refine lv_goto (tgt := 39) hx hb dX9_meeters_83 (by decide) ?_
            exact KC _ _ _ (Option.some.inj h).symm _ _ _ (lv_sub hl [3, 4, 5, 1, 2, 6, 0] rfl) hG
          · have h := ite_t h c_12
            refine lv_bipush (v := (10 : Int32)) hx hb dX9_meeters_62 (by decide) ?_
            refine lv_iload hx hb dX9_meeters_64 (lv_at hl 5 rfl) ?_
            refine lv_imul hx hb dX9_meeters_66 ?_
            refine lv_iload hx hb dX9_meeters_67 (lv_at hl 6 rfl) ?_
            refine lv_iadd hx hb dX9_meeters_69 ?_
            refine lv_goto (tgt := 75) hx hb dX9_meeters_70 (by decide) ?_
            refine lv_istore (lv' := [(4, .int (((10 : Int32) * x5) + x6)), (0, .ref (a 0)), (1, .int x1), (2, .int x2), (3, .int x3), (5, .int x5), (6, .int x6)]) hx hb dX9_meeters_75 hl (by decide) rfl (fun ls hl => ?_)
            refine lv_iinc (v := (x3 + (1 : Int32))) (lv' := [(3, .int (x3 + (1 : Int32))), (4, .int (((10 : Int32) * x5) + x6)), (0, .ref (a 0)), (1, .int x1), (2, .int x2), (5, .int x5), (6, .int x6)]) hx hb dX9_meeters_77 hl (k := 4) rfl rfl (by decide) rfl (fun ls hl => ?_)
            refine lv_iinc (v := (x6 + (1 : Int32))) (lv' := [(6, .int (x6 + (1 : Int32))), (3, .int (x3 + (1 : Int32))), (4, .int (((10 : Int32) * x5) + x6)), (0, .ref (a 0)), (1, .int x1), (2, .int x2), (5, .int x5)]) hx hb dX9_meeters_80 hl (k := 6) rfl rfl (by decide) rfl (fun ls hl => ?_)
            refine lv_goto (tgt := 39) hx hb dX9_meeters_83 (by decide) ?_
            exact KC _ _ _ (Option.some.inj h).symm _ _ _ (lv_sub hl [3, 4, 5, 1, 2, 6, 0] rfl) hG
  have L29 : ∀ (n : Nat) (x3 : Int32) (x4 : Int32) (x5 : Int32) (ex3 : Int32) (ex4 : Int32), DX9_meeters_L29 x1 c_homeFar c_days c_speeds n x3 x4 x5 = some (ex3, ex4) → (∀ (ls : Array Slot) (H : Heap) (locs : List Loc), lv_has ls 7 [(2, .int x2), (3, .int ex3), (4, .int ex4)] → G dC dI A H0 (W_X9 a cI cJ c_length c_text c_stands c_homeFar c_nets c_netAt c_netWide c_netFrom c_netTo c_priceX c_priceY c_many c_days c_aims c_speeds c_kinds c_keptMany c_undoMany c_undos c_spot c_told c_to c_stood c_home c_lost c_out c_fewest c_ways c_next c_held) H locs → W p l e (RM 2 49) s m args below meth c H locs 0 0 QQ (F0 m 92 ls [])) → ∀ (ls : Array Slot) (H : Heap) (locs : List Loc), lv_has ls 7 [(0, .ref (a 0)), (1, .int x1), (2, .int x2), (3, .int x3), (4, .int x4), (5, .int x5)] → G dC dI A H0 (W_X9 a cI cJ c_length c_text c_stands c_homeFar c_nets c_netAt c_netWide c_netFrom c_netTo c_priceX c_priceY c_many c_days c_aims c_speeds c_kinds c_keptMany c_undoMany c_undos c_spot c_told c_to c_stood c_home c_lost c_out c_fewest c_ways c_next c_held) H locs → W p l e (RM 2 49) s m args below meth c H locs 0 0 QQ (F0 m 29 ls []) := by
    intro  n
    induction n with
    | zero => intro x3 x4 x5 ex3 ex4 h; exact it_zero h
    | succ n ih =>
      intro x3 x4 x5 ex3 ex4 h0 K0 ls H locs hl hG
      obtain ⟨w, h, hi, hr⟩ := it_succ h0
      have h : DX9_meeters_L29s x1 c_homeFar c_days c_speeds x3 x4 x5 = some w := h
      have KC : ∀ (x3 : Int32) (x4 : Int32) (x5 : Int32), w = .inl (x3, x4, x5) → ∀ (ls : Array Slot) (H : Heap) (locs : List Loc), lv_has ls 7 [(0, .ref (a 0)), (1, .int x1), (2, .int x2), (3, .int x3), (4, .int x4), (5, .int x5)] → G dC dI A H0 (W_X9 a cI cJ c_length c_text c_stands c_homeFar c_nets c_netAt c_netWide c_netFrom c_netTo c_priceX c_priceY c_many c_days c_aims c_speeds c_kinds c_keptMany c_undoMany c_undos c_spot c_told c_to c_stood c_home c_lost c_out c_fewest c_ways c_next c_held) H locs → W p l e (RM 2 49) s m args below meth c H locs 0 0 QQ (F0 m 29 ls []) := fun b0 b1 b2 e ls H locs hl hG => ih b0 b1 b2 ex3 ex4 (hi _ e) K0 ls H locs hl hG
      have KX : ∀ (x3 : Int32) (x4 : Int32), w = .inr (x3, x4) → ∀ (ls : Array Slot) (H : Heap) (locs : List Loc), lv_has ls 7 [(2, .int x2), (3, .int x3), (4, .int x4)] → G dC dI A H0 (W_X9 a cI cJ c_length c_text c_stands c_homeFar c_nets c_netAt c_netWide c_netFrom c_netTo c_priceX c_priceY c_many c_days c_aims c_speeds c_kinds c_keptMany c_undoMany c_undos c_spot c_told c_to c_stood c_home c_lost c_out c_fewest c_ways c_next c_held) H locs → W p l e (RM 2 49) s m args below meth c H locs 0 0 QQ (F0 m 92 ls []) := fun b0 b1 e ls H locs hl hG => by cases hr _ e; exact K0 ls H locs hl hG
      clear h0 hi hr K0 ih
      unfold DX9_meeters_L29s at h
      refine lv_iload hx hb dX9_meeters_29 (lv_at hl 5 rfl) ?_
      refine lv_bipush (v := (40 : Int32)) hx hb dX9_meeters_31 (by decide) ?_
      refine lv_icmp_gt (tgt := 92) hx hb dX9_meeters_33 (by decide) (fun c_7 => ?_) (fun c_7 => ?_)
      · have h := ite_t h c_7
        exact KX _ _ (Option.some.inj h).symm _ _ _ (lv_sub hl [2, 3, 4] rfl) hG
      · have h := ite_f h c_7
        refine lv_iconst (v := (1 : Int32)) hx hb dX9_meeters_36 (by decide) ?_
        refine lv_istore (lv' := [(6, .int (1 : Int32)), (0, .ref (a 0)), (1, .int x1), (2, .int x2), (3, .int x3), (4, .int x4), (5, .int x5)]) hx hb dX9_meeters_37 hl (by decide) rfl (fun ls hl => ?_)
        obtain ⟨z3_13, z4_14, hz, h⟩ := bd2_some h
        refine L39 x5 FU x3 x4 (1 : Int32) _ _ hz (fun ls H locs hl hG => ?_) _ _ _ (lv_sub hl [1, 2, 3, 4, 5, 6, 0] rfl) hG
        clear hz
        refine lv_iinc (v := (x5 + (1 : Int32))) (lv' := [(5, .int (x5 + (1 : Int32))), (0, .ref (a 0)), (1, .int x1), (2, .int x2), (3, .int z3_13), (4, .int z4_14)]) hx hb dX9_meeters_86 hl (k := 5) rfl rfl (by decide) rfl (fun ls hl => ?_)
        refine lv_goto (tgt := 29) hx hb dX9_meeters_89 (by decide) ?_
        exact KC _ _ _ (Option.some.inj h).symm _ _ _ (lv_sub hl [1, 2, 3, 4, 5, 0] rfl) hG
  have h := hD
  unfold DX9_meeters at h
  clear hD
  refine lv_aload_n hx hb dX9_meeters_0 rfl (lv_at hl 0 rfl) ?_
  refine lv_iload_n hx hb dX9_meeters_1 rfl (lv_at hl 1 rfl) ?_
  obtain ⟨r_1, hz_2, h⟩ := bd1_some h
  refine aft_i1 (run_V1 (rest := []) X hG hl.1 (mX9_isThrow l dC dI cI cJ a c_length c_text c_stands c_homeFar c_nets c_netAt c_netWide c_netFrom c_netTo c_priceX c_priceY c_many c_days c_aims c_speeds c_kinds c_keptMany c_undoMany c_undos c_spot c_told c_to c_stood c_home c_lost c_out c_fewest c_ways c_next c_held x1 hz_2) gi_V_X9_182 hd_V_yX9_isThrow ⟨rfl, rfl⟩ rfl ⟨Nat.le_of_ble_eq_true rfl, Nat.le_of_ble_eq_true rfl⟩ 0 rfl rfl rfl rfl (Nat.le_of_ble_eq_true rfl) ⟨Nat.le_of_ble_eq_true rfl, Nat.le_of_ble_eq_true rfl⟩ dX9_meeters_2) hG rfl (fun H locs hG => ?_)
  clear hz_2
  refine lv_if_eq (tgt := 18) hx hb dX9_meeters_5 (by decide) (fun c_3 => ?_) (fun c_3 => ?_)
  · have h := ite_t h c_3
    refine lv_iconst (v := (-1 : Int32)) hx hb dX9_meeters_18 (by decide) ?_
    cases h
    exact ret _ _ _ _ dX9_meeters_19 hG
  · have h := ite_f h c_3
    refine lv_iload_n hx hb dX9_meeters_8 rfl (lv_at hl 2 rfl) ?_
    refine lv_i2l (v := (x2.toInt64)) hx hb dX9_meeters_9 rfl ?_
    refine lv_lconst (v := (0 : Int64)) hx hb dX9_meeters_10 (by decide) ?_
    refine lv_lconst (v := (1 : Int64)) hx hb dX9_meeters_11 (by decide) ?_
    obtain ⟨r_4, hz_5, h⟩ := bd1_some h
    refine aft_i (ws' := (W_X9 a cI cJ c_length c_text c_stands c_homeFar c_nets c_netAt c_netWide c_netFrom c_netTo c_priceX c_priceY c_many c_days c_aims c_speeds c_kinds c_keptMany c_undoMany c_undos c_spot c_told c_to c_stood c_home c_lost c_out c_fewest c_ways c_next c_held)) (run_S (rest := []) X hG hl.1 (mX9_in l dC dI cI cJ (x2.toInt64) (0 : Int64) (1 : Int64) hz_5) gi_S_X9_92 hd_S_yX9_in ⟨rfl, rfl⟩ rfl ⟨Nat.le_of_ble_eq_true rfl, Nat.le_of_ble_eq_true rfl⟩ [] (by decide) rfl rfl (Nat.le_of_ble_eq_true rfl) ⟨Nat.le_of_ble_eq_true rfl, Nat.le_of_ble_eq_true rfl⟩ dX9_meeters_12) hG [] rfl rfl rfl (fun H locs hG => ?_)
    clear hz_5
    refine lv_if_ne (tgt := 20) hx hb dX9_meeters_15 (by decide) (fun c_6 => ?_) (fun c_6 => ?_)
    · have h := ite_f h c_6
      refine lv_iconst (v := (0 : Int32)) hx hb dX9_meeters_20 (by decide) ?_
      refine lv_istore_n (lv' := [(3, .int (0 : Int32)), (0, .ref (a 0)), (1, .int x1), (2, .int x2)]) hx hb dX9_meeters_21 rfl hl (by decide) rfl (fun ls hl => ?_)
      refine lv_bipush (v := (-4 : Int32)) hx hb dX9_meeters_22 (by decide) ?_
      refine lv_istore (lv' := [(4, .int (-4 : Int32)), (3, .int (0 : Int32)), (0, .ref (a 0)), (1, .int x1), (2, .int x2)]) hx hb dX9_meeters_24 hl (by decide) rfl (fun ls hl => ?_)
      refine lv_iconst (v := (0 : Int32)) hx hb dX9_meeters_26 (by decide) ?_
      refine lv_istore (lv' := [(5, .int (0 : Int32)), (4, .int (-4 : Int32)), (3, .int (0 : Int32)), (0, .ref (a 0)), (1, .int x1), (2, .int x2)]) hx hb dX9_meeters_27 hl (by decide) rfl (fun ls hl => ?_)
      obtain ⟨z3_15, z4_16, hz, h⟩ := bd2_some h
      refine L29  FU (0 : Int32) (-4 : Int32) (0 : Int32) _ _ hz (fun ls H locs hl hG => ?_) _ _ _ (lv_sub hl [3, 4, 5, 2, 1, 0] rfl) hG
      clear hz
      refine lv_iload_n hx hb dX9_meeters_92 rfl (lv_at hl 0 rfl) ?_
      refine lv_if_ne (tgt := 100) hx hb dX9_meeters_93 (by decide) (fun c_17 => ?_) (fun c_17 => ?_)
      · have h := ite_f h c_17
        refine lv_iload hx hb dX9_meeters_100 (lv_at hl 2 rfl) ?_
        cases h
        exact ret _ _ _ _ dX9_meeters_102 hG
      · have h := ite_t h c_17
        refine lv_iload_n hx hb dX9_meeters_96 rfl (lv_at hl 1 rfl) ?_
        refine lv_goto (tgt := 102) hx hb dX9_meeters_97 (by decide) ?_
        cases h
        exact ret _ _ _ _ dX9_meeters_102 hG
    · have h := ite_t h c_6
      refine lv_iconst (v := (-1 : Int32)) hx hb dX9_meeters_18 (by decide) ?_
      cases h
      exact ret _ _ _ _ dX9_meeters_19 hG
