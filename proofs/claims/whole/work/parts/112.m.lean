/-! CONTRACTS, laid by wip/gen/lay.py: yX9_meetOn, yX9_go, yX9_apart, yX9_placeOf, yX9_isCaught, yX9_howOf, yX9_priceOf, yX9_paidOf -/
set_option maxRecDepth 100000 in
set_option maxHeartbeats 4000000 in
theorem mX9_meetOn (l : Launch) (dC : Nat → ClassId) (dI : Nat → Nat → Nat) (cI cJ : ClassId) (a : Nat → Nat) (c_length : Int32) (c_text : Nat → Int32) (c_stands : Nat → Int32) (c_homeFar : Nat → Int32) (c_nets : Nat → Int32) (c_netAt : Nat → Int32) (c_netWide : Nat → Int32) (c_netFrom : Nat → Int32) (c_netTo : Nat → Int32) (c_priceX : Nat → Int32) (c_priceY : Nat → Int32) (c_many : Nat → Int32) (c_days : Nat → Int32) (c_aims : Nat → Int32) (c_speeds : Nat → Int32) (c_kinds : Nat → Int32) (c_keptMany : Int32) (c_undoMany : Int32) (c_undos : Nat → Int32) (c_spot : Int32) (c_told : Nat → Int32) (c_to : Nat → Int32) (c_stood : Nat → Int32) (c_home : Nat → Int32) (c_lost : Nat → Int32) (c_out : Int32) (c_fewest : Nat → Int32) (c_ways : Nat → Int64) (c_next : Nat → Int64) (c_held : Nat → Int32) (x1 : Int32) {n_lost : Nat → Int32} (hD : DX9_meetOn x1 c_many c_days c_speeds c_to c_home c_lost c_out = some n_lost) : Met l yX9_meetOn (WZ yX9_meetOn cX9_meetOn 6 none) (RM 2 43) (PC dC dI cI cJ [.ref (a 0), .int x1] (W_X9 a cI cJ c_length c_text c_stands c_homeFar c_nets c_netAt c_netWide c_netFrom c_netTo c_priceX c_priceY c_many c_days c_aims c_speeds c_kinds c_keptMany c_undoMany c_undos c_spot c_told c_to c_stood c_home c_lost c_out c_fewest c_ways c_next c_held)) (QV dC dI (W_X9 a cI cJ c_length c_text c_stands c_homeFar c_nets c_netAt c_netWide c_netFrom c_netTo c_priceX c_priceY c_many c_days c_aims c_speeds c_kinds c_keptMany c_undoMany c_undos c_spot c_told c_to c_stood c_home c_lost c_out c_fewest c_ways c_next c_held) (W_X9 a cI cJ c_length c_text c_stands c_homeFar c_nets c_netAt c_netWide c_netFrom c_netTo c_priceX c_priceY c_many c_days c_aims c_speeds c_kinds c_keptMany c_undoMany c_undos c_spot c_told c_to c_stood c_home n_lost c_out c_fewest c_ways c_next c_held)) 0 0 (FA (W_X9 a cI cJ c_length c_text c_stands c_homeFar c_nets c_netAt c_netWide c_netFrom c_netTo c_priceX c_priceY c_many c_days c_aims c_speeds c_kinds c_keptMany c_undoMany c_undos c_spot c_told c_to c_stood c_home c_lost c_out c_fewest c_ways c_next c_held)) := by
  refine r_metV (by decide +kernel) (Nat.le_of_ble_eq_true rfl) ?_
  intro p e s m args below meth c A H0 QQ X ret ls hl hG
  have X : Cx p m c cX9_meetOn 6 s args RX9 dC dI cI cJ meth none := X
  have hx := X.1.1
  have hb := X.1.2.1
  have hl : lv_has ls 6 [(0, .ref (a 0)), (1, .int x1)] := hl
  have J79 : ∀ (y0 : Int32) (x2 : Int32) (x3 : Int32) (x4 : Int32) (c_lost : Nat → Int32), ∀ (w : (Int32 × Int32) ⊕ (Int32)), DX9_meetOn_J79 y0 x2 x3 x4 = some w → (∀ (x2 : Int32) (x4 : Int32), w = .inl (x2, x4) → ∀ (ls : Array Slot) (H : Heap) (locs : List Loc), lv_has ls 6 [(0, .ref (a 0)), (1, .int x1), (2, .int x2), (3, .int x3), (4, .int x4)] → G dC dI A H0 (W_X9 a cI cJ c_length c_text c_stands c_homeFar c_nets c_netAt c_netWide c_netFrom c_netTo c_priceX c_priceY c_many c_days c_aims c_speeds c_kinds c_keptMany c_undoMany c_undos c_spot c_told c_to c_stood c_home c_lost c_out c_fewest c_ways c_next c_held) H locs → W p l e (RM 2 43) s m args below meth c H locs 0 0 QQ (F0 m 17 ls [])) → (∀ (x2 : Int32), w = .inr x2 → ∀ (ls : Array Slot) (H : Heap) (locs : List Loc), lv_has ls 6 [(0, .ref (a 0)), (1, .int x1), (2, .int x2), (3, .int x3)] → G dC dI A H0 (W_X9 a cI cJ c_length c_text c_stands c_homeFar c_nets c_netAt c_netWide c_netFrom c_netTo c_priceX c_priceY c_many c_days c_aims c_speeds c_kinds c_keptMany c_undoMany c_undos c_spot c_told c_to c_stood c_home c_lost c_out c_fewest c_ways c_next c_held) H locs → W p l e (RM 2 43) s m args below meth c H locs 0 0 QQ (F0 m 107 ls [])) → ∀ (ls : Array Slot) (H : Heap) (locs : List Loc), lv_has ls 6 [(0, .ref (a 0)), (1, .int x1), (2, .int x2), (3, .int x3), (4, .int x4)] → G dC dI A H0 (W_X9 a cI cJ c_length c_text c_stands c_homeFar c_nets c_netAt c_netWide c_netFrom c_netTo c_priceX c_priceY c_many c_days c_aims c_speeds c_kinds c_keptMany c_undoMany c_undos c_spot c_told c_to c_stood c_home c_lost c_out c_fewest c_ways c_next c_held) H locs → W p l e (RM 2 43) s m args below meth c H locs 0 0 QQ (F0 m 79 ls [.int y0]) := by
    intro y0 x2 x3 x4 c_lost w h KC KX ls H locs hl hG
    unfold DX9_meetOn_J79 at h
    refine lv_istore (lv' := [(5, .int y0), (0, .ref (a 0)), (1, .int x1), (2, .int x2), (3, .int x3), (4, .int x4)]) hx hb dX9_meetOn_79 hl (by decide) rfl (fun ls hl => ?_)
    refine lv_iload_n hx hb dX9_meetOn_81 rfl (lv_at hl 3 rfl) ?_
    refine lv_iload hx hb dX9_meetOn_82 (lv_at hl 0 rfl) ?_
    refine lv_if_eq (tgt := 98) hx hb dX9_meetOn_84 (by decide) (fun c_6 => ?_) (fun c_6 => ?_)
    · have h := ite_t h c_6
      refine lv_iconst (v := (0 : Int32)) hx hb dX9_meetOn_98 (by decide) ?_
      refine lv_ior hx hb dX9_meetOn_99 ?_
      refine lv_istore_n (lv' := [(2, .int (x2 ||| (0 : Int32))), (5, .int y0), (0, .ref (a 0)), (1, .int x1), (3, .int x3), (4, .int x4)]) hx hb dX9_meetOn_100 rfl hl (by decide) rfl (fun ls hl => ?_)
      refine lv_iinc (v := (x4 + (1 : Int32))) (lv' := [(4, .int (x4 + (1 : Int32))), (2, .int (x2 ||| (0 : Int32))), (5, .int y0), (0, .ref (a 0)), (1, .int x1), (3, .int x3)]) hx hb dX9_meetOn_101 hl (k := 5) rfl rfl (by decide) rfl (fun ls hl => ?_)
      refine lv_goto (tgt := 17) hx hb dX9_meetOn_104 (by decide) ?_
      exact KC _ _ (Option.some.inj h).symm _ _ _ (lv_sub hl [3, 4, 1, 5, 0] rfl) hG
    · have h := ite_f h c_6
      refine lv_iconst (v := (1 : Int32)) hx hb dX9_meetOn_87 (by decide) ?_
      refine lv_iload_n hx hb dX9_meetOn_88 rfl (lv_at hl 4 rfl) ?_
      refine lv_ishl hx hb dX9_meetOn_89 ?_
      refine lv_iconst (v := (1 : Int32)) hx hb dX9_meetOn_90 (by decide) ?_
      refine lv_iload hx hb dX9_meetOn_91 (lv_at hl 5 rfl) ?_
      refine lv_ishl hx hb dX9_meetOn_93 ?_
      refine lv_ior hx hb dX9_meetOn_94 ?_
      refine lv_goto (tgt := 99) hx hb dX9_meetOn_95 (by decide) ?_
      refine lv_ior hx hb dX9_meetOn_99 ?_
      refine lv_istore_n (lv' := [(2, .int (x2 ||| (((1 : Int32) <<< (x3 &&& 31)) ||| ((1 : Int32) <<< (x4 &&& 31))))), (5, .int y0), (0, .ref (a 0)), (1, .int x1), (3, .int x3), (4, .int x4)]) hx hb dX9_meetOn_100 rfl hl (by decide) rfl (fun ls hl => ?_)
      refine lv_iinc (v := (x4 + (1 : Int32))) (lv' := [(4, .int (x4 + (1 : Int32))), (2, .int (x2 ||| (((1 : Int32) <<< (x3 &&& 31)) ||| ((1 : Int32) <<< (x4 &&& 31))))), (5, .int y0), (0, .ref (a 0)), (1, .int x1), (3, .int x3)]) hx hb dX9_meetOn_101 hl (k := 5) rfl rfl (by decide) rfl (fun ls hl => ?_)
      refine lv_goto (tgt := 17) hx hb dX9_meetOn_104 (by decide) ?_
      exact KC _ _ (Option.some.inj h).symm _ _ _ (lv_sub hl [3, 4, 1, 5, 0] rfl) hG
  have L17 : ∀ (x3 : Int32) (c_lost : Nat → Int32), ∀ (n : Nat) (x2 : Int32) (x4 : Int32) (ex2 : Int32), DX9_meetOn_L17 x1 c_days c_speeds c_to c_home c_lost c_out x3 n x2 x4 = some ex2 → (∀ (ls : Array Slot) (H : Heap) (locs : List Loc), lv_has ls 6 [(0, .ref (a 0)), (1, .int x1), (2, .int ex2), (3, .int x3)] → G dC dI A H0 (W_X9 a cI cJ c_length c_text c_stands c_homeFar c_nets c_netAt c_netWide c_netFrom c_netTo c_priceX c_priceY c_many c_days c_aims c_speeds c_kinds c_keptMany c_undoMany c_undos c_spot c_told c_to c_stood c_home c_lost c_out c_fewest c_ways c_next c_held) H locs → W p l e (RM 2 43) s m args below meth c H locs 0 0 QQ (F0 m 107 ls [])) → ∀ (ls : Array Slot) (H : Heap) (locs : List Loc), lv_has ls 6 [(0, .ref (a 0)), (1, .int x1), (2, .int x2), (3, .int x3), (4, .int x4)] → G dC dI A H0 (W_X9 a cI cJ c_length c_text c_stands c_homeFar c_nets c_netAt c_netWide c_netFrom c_netTo c_priceX c_priceY c_many c_days c_aims c_speeds c_kinds c_keptMany c_undoMany c_undos c_spot c_told c_to c_stood c_home c_lost c_out c_fewest c_ways c_next c_held) H locs → W p l e (RM 2 43) s m args below meth c H locs 0 0 QQ (F0 m 17 ls []) := by
    intro x3 c_lost n
    induction n with
    | zero => intro x2 x4 ex2 h; exact it_zero h
    | succ n ih =>
      intro x2 x4 ex2 h0 K0 ls H locs hl hG
      obtain ⟨w, h, hi, hr⟩ := it_succ h0
      have h : DX9_meetOn_L17s x1 c_days c_speeds c_to c_home c_lost c_out x3 x2 x4 = some w := h
      have KC : ∀ (x2 : Int32) (x4 : Int32), w = .inl (x2, x4) → ∀ (ls : Array Slot) (H : Heap) (locs : List Loc), lv_has ls 6 [(0, .ref (a 0)), (1, .int x1), (2, .int x2), (3, .int x3), (4, .int x4)] → G dC dI A H0 (W_X9 a cI cJ c_length c_text c_stands c_homeFar c_nets c_netAt c_netWide c_netFrom c_netTo c_priceX c_priceY c_many c_days c_aims c_speeds c_kinds c_keptMany c_undoMany c_undos c_spot c_told c_to c_stood c_home c_lost c_out c_fewest c_ways c_next c_held) H locs → W p l e (RM 2 43) s m args below meth c H locs 0 0 QQ (F0 m 17 ls []) := fun b0 b1 e ls H locs hl hG => ih b0 b1 ex2 (hi _ e) K0 ls H locs hl hG
      have KX : ∀ (x2 : Int32), w = .inr x2 → ∀ (ls : Array Slot) (H : Heap) (locs : List Loc), lv_has ls 6 [(0, .ref (a 0)), (1, .int x1), (2, .int x2), (3, .int x3)] → G dC dI A H0 (W_X9 a cI cJ c_length c_text c_stands c_homeFar c_nets c_netAt c_netWide c_netFrom c_netTo c_priceX c_priceY c_many c_days c_aims c_speeds c_kinds c_keptMany c_undoMany c_undos c_spot c_told c_to c_stood c_home c_lost c_out c_fewest c_ways c_next c_held) H locs → W p l e (RM 2 43) s m args below meth c H locs 0 0 QQ (F0 m 107 ls []) := fun b0 e ls H locs hl hG => by cases hr _ e; exact K0 ls H locs hl hG
      clear h0 hi hr K0 ih
      unfold DX9_meetOn_L17s at h
      refine lv_iload hx hb dX9_meetOn_17 (lv_at hl 4 rfl) ?_
      refine lv_iload_n hx hb dX9_meetOn_19 rfl (lv_at hl 3 rfl) ?_
      refine lv_icmp_ge (tgt := 107) hx hb dX9_meetOn_20 (by decide) (fun c_2 => ?_) (fun c_2 => ?_)
      · have h := ite_t h c_2
        exact KX _ (Option.some.inj h).symm _ _ _ (lv_sub hl [0, 1, 2, 3] rfl) hG
      · have h := ite_f h c_2
        refine lv_aload_n hx hb dX9_meetOn_23 rfl (lv_at hl 0 rfl) ?_
        refine lv_iload_n hx hb dX9_meetOn_24 rfl (lv_at hl 3 rfl) ?_
        refine lv_iload_n hx hb dX9_meetOn_25 rfl (lv_at hl 1 rfl) ?_
        obtain ⟨r_3, hz_4, h⟩ := bd1_some h
        refine aft_i1 (run_V1 (rest := []) X hG hl.1 (mX9_isOnWay l dC dI cI cJ a c_length c_text c_stands c_homeFar c_nets c_netAt c_netWide c_netFrom c_netTo c_priceX c_priceY c_many c_days c_aims c_speeds c_kinds c_keptMany c_undoMany c_undos c_spot c_told c_to c_stood c_home c_lost c_out c_fewest c_ways c_next c_held x3 x1 hz_4) gi_V_X9_151 hd_V_yX9_isOnWay ⟨rfl, rfl⟩ rfl ⟨Nat.le_of_ble_eq_true rfl, Nat.le_of_ble_eq_true rfl⟩ 0 rfl rfl rfl rfl (Nat.le_of_ble_eq_true rfl) ⟨Nat.le_of_ble_eq_true rfl, Nat.le_of_ble_eq_true rfl⟩ dX9_meetOn_26) hG rfl (fun H locs hG => ?_)
        clear hz_4
        refine lv_if_eq (tgt := 78) hx hb dX9_meetOn_29 (by decide) (fun c_5 => ?_) (fun c_5 => ?_)
        · have h := ite_t h c_5
          refine lv_iconst (v := (0 : Int32)) hx hb dX9_meetOn_78 (by decide) ?_
          exact J79 (0 : Int32) x2 x3 x4 c_lost _ h KC KX _ _ _ (lv_sub hl [0, 1, 2, 3, 4] rfl) hG
        · have h := ite_f h c_5
          refine lv_aload_n hx hb dX9_meetOn_32 rfl (lv_at hl 0 rfl) ?_
          refine lv_iload hx hb dX9_meetOn_33 (lv_at hl 4 rfl) ?_
          refine lv_iload_n hx hb dX9_meetOn_35 rfl (lv_at hl 1 rfl) ?_
          obtain ⟨r_7, hz_8, h⟩ := bd1_some h
          refine aft_i1 (run_V1 (rest := []) X hG hl.1 (mX9_isOnWay l dC dI cI cJ a c_length c_text c_stands c_homeFar c_nets c_netAt c_netWide c_netFrom c_netTo c_priceX c_priceY c_many c_days c_aims c_speeds c_kinds c_keptMany c_undoMany c_undos c_spot c_told c_to c_stood c_home c_lost c_out c_fewest c_ways c_next c_held x4 x1 hz_8) gi_V_X9_151 hd_V_yX9_isOnWay ⟨rfl, rfl⟩ rfl ⟨Nat.le_of_ble_eq_true rfl, Nat.le_of_ble_eq_true rfl⟩ 0 rfl rfl rfl rfl (Nat.le_of_ble_eq_true rfl) ⟨Nat.le_of_ble_eq_true rfl, Nat.le_of_ble_eq_true rfl⟩ dX9_meetOn_36) hG rfl (fun H locs hG => ?_)
          clear hz_8
          refine lv_if_eq (tgt := 78) hx hb dX9_meetOn_39 (by decide) (fun c_9 => ?_) (fun c_9 => ?_)
          · have h := ite_t h c_9
            refine lv_iconst (v := (0 : Int32)) hx hb dX9_meetOn_78 (by decide) ?_
            exact J79 (0 : Int32) x2 x3 x4 c_lost _ h KC KX _ _ _ (lv_sub hl [0, 1, 2, 3, 4] rfl) hG
          · have h := ite_f h c_9
            refine lv_aload_n hx hb dX9_meetOn_42 rfl (lv_at hl 0 rfl) ?_
            refine r_get X hG in_X9 rfl 21 (by decide) w_652 0 rfl rfl dX9_meetOn_43 ?_
            refine lv_iload_n hx hb dX9_meetOn_46 rfl (lv_at hl 3 rfl) ?_
            obtain ⟨g_10, h⟩ := gd h
            refine r_iald X hG 18 rfl g_10 dX9_meetOn_47 ?_
            refine lv_aload_n hx hb dX9_meetOn_48 rfl (lv_at hl 0 rfl) ?_
            refine r_get X hG in_X9 rfl 21 (by decide) w_652 0 rfl rfl dX9_meetOn_49 ?_
            refine lv_iload hx hb dX9_meetOn_52 (lv_at hl 4 rfl) ?_
            obtain ⟨g_11, h⟩ := gd h
            refine r_iald X hG 18 rfl g_11 dX9_meetOn_54 ?_
            refine lv_icmp_ne (tgt := 78) hx hb dX9_meetOn_55 (by decide) (fun c_12 => ?_) (fun c_12 => ?_)
            · have h := ite_f h c_12
              refine lv_iconst (v := (0 : Int32)) hx hb dX9_meetOn_78 (by decide) ?_
              exact J79 (0 : Int32) x2 x3 x4 c_lost _ h KC KX _ _ _ (lv_sub hl [0, 1, 2, 3, 4] rfl) hG
            · have h := ite_t h c_12
              refine lv_aload_n hx hb dX9_meetOn_58 rfl (lv_at hl 0 rfl) ?_
              refine lv_iload_n hx hb dX9_meetOn_59 rfl (lv_at hl 3 rfl) ?_
              refine lv_iload_n hx hb dX9_meetOn_60 rfl (lv_at hl 1 rfl) ?_
              obtain ⟨r_13, hz_14, h⟩ := bd1_some h
              refine aft_i1 (run_V1 (rest := []) X hG hl.1 (mX9_farOf l dC dI cI cJ a c_length c_text c_stands c_homeFar c_nets c_netAt c_netWide c_netFrom c_netTo c_priceX c_priceY c_many c_days c_aims c_speeds c_kinds c_keptMany c_undoMany c_undos c_spot c_told c_to c_stood c_home c_lost c_out c_fewest c_ways c_next c_held x3 x1 hz_14) gi_V_X9_154 hd_V_yX9_farOf ⟨rfl, rfl⟩ rfl ⟨Nat.le_of_ble_eq_true rfl, Nat.le_of_ble_eq_true rfl⟩ 0 rfl rfl rfl rfl (Nat.le_of_ble_eq_true rfl) ⟨Nat.le_of_ble_eq_true rfl, Nat.le_of_ble_eq_true rfl⟩ dX9_meetOn_61) hG rfl (fun H locs hG => ?_)
              clear hz_14
              refine lv_aload_n hx hb dX9_meetOn_64 rfl (lv_at hl 0 rfl) ?_
              refine lv_iload hx hb dX9_meetOn_65 (lv_at hl 4 rfl) ?_
              refine lv_iload_n hx hb dX9_meetOn_67 rfl (lv_at hl 1 rfl) ?_
              obtain ⟨r_15, hz_16, h⟩ := bd1_some h
              refine aft_i1 (run_V1 (rest := [.int r_13]) X hG hl.1 (mX9_farOf l dC dI cI cJ a c_length c_text c_stands c_homeFar c_nets c_netAt c_netWide c_netFrom c_netTo c_priceX c_priceY c_many c_days c_aims c_speeds c_kinds c_keptMany c_undoMany c_undos c_spot c_told c_to c_stood c_home c_lost c_out c_fewest c_ways c_next c_held x4 x1 hz_16) gi_V_X9_154 hd_V_yX9_farOf ⟨rfl, rfl⟩ rfl ⟨Nat.le_of_ble_eq_true rfl, Nat.le_of_ble_eq_true rfl⟩ 0 rfl rfl rfl rfl (Nat.le_of_ble_eq_true rfl) ⟨Nat.le_of_ble_eq_true rfl, Nat.le_of_ble_eq_true rfl⟩ dX9_meetOn_68) hG rfl (fun H locs hG => ?_)
              clear hz_16
              refine lv_icmp_ne (tgt := 78) hx hb dX9_meetOn_71 (by decide) (fun c_17 => ?_) (fun c_17 => ?_)
              · have h := ite_f h c_17
                refine lv_iconst (v := (0 : Int32)) hx hb dX9_meetOn_78 (by decide) ?_
                exact J79 (0 : Int32) x2 x3 x4 c_lost _ h KC KX _ _ _ (lv_sub hl [0, 1, 2, 3, 4] rfl) hG
              · have h := ite_t h c_17
                refine lv_iconst (v := (1 : Int32)) hx hb dX9_meetOn_74 (by decide) ?_
                refine lv_goto (tgt := 79) hx hb dX9_meetOn_75 (by decide) ?_
                exact J79 (1 : Int32) x2 x3 x4 c_lost _ h KC KX _ _ _ (lv_sub hl [0, 1, 2, 3, 4] rfl) hG
  have L4 : ∀ (c_lost : Nat → Int32), ∀ (n : Nat) (x2 : Int32) (x3 : Int32) (ex2 : Int32), DX9_meetOn_L4 x1 c_many c_days c_speeds c_to c_home c_lost c_out n x2 x3 = some ex2 → (∀ (ls : Array Slot) (H : Heap) (locs : List Loc), lv_has ls 6 [(0, .ref (a 0)), (1, .int x1), (2, .int ex2)] → G dC dI A H0 (W_X9 a cI cJ c_length c_text c_stands c_homeFar c_nets c_netAt c_netWide c_netFrom c_netTo c_priceX c_priceY c_many c_days c_aims c_speeds c_kinds c_keptMany c_undoMany c_undos c_spot c_told c_to c_stood c_home c_lost c_out c_fewest c_ways c_next c_held) H locs → W p l e (RM 2 43) s m args below meth c H locs 0 0 QQ (F0 m 113 ls [])) → ∀ (ls : Array Slot) (H : Heap) (locs : List Loc), lv_has ls 6 [(0, .ref (a 0)), (1, .int x1), (2, .int x2), (3, .int x3)] → G dC dI A H0 (W_X9 a cI cJ c_length c_text c_stands c_homeFar c_nets c_netAt c_netWide c_netFrom c_netTo c_priceX c_priceY c_many c_days c_aims c_speeds c_kinds c_keptMany c_undoMany c_undos c_spot c_told c_to c_stood c_home c_lost c_out c_fewest c_ways c_next c_held) H locs → W p l e (RM 2 43) s m args below meth c H locs 0 0 QQ (F0 m 4 ls []) := by
    intro c_lost n
    induction n with
    | zero => intro x2 x3 ex2 h; exact it_zero h
    | succ n ih =>
      intro x2 x3 ex2 h0 K0 ls H locs hl hG
      obtain ⟨w, h, hi, hr⟩ := it_succ h0
      have h : DX9_meetOn_L4s x1 c_many c_days c_speeds c_to c_home c_lost c_out x2 x3 = some w := h
      have KC : ∀ (x2 : Int32) (x3 : Int32), w = .inl (x2, x3) → ∀ (ls : Array Slot) (H : Heap) (locs : List Loc), lv_has ls 6 [(0, .ref (a 0)), (1, .int x1), (2, .int x2), (3, .int x3)] → G dC dI A H0 (W_X9 a cI cJ c_length c_text c_stands c_homeFar c_nets c_netAt c_netWide c_netFrom c_netTo c_priceX c_priceY c_many c_days c_aims c_speeds c_kinds c_keptMany c_undoMany c_undos c_spot c_told c_to c_stood c_home c_lost c_out c_fewest c_ways c_next c_held) H locs → W p l e (RM 2 43) s m args below meth c H locs 0 0 QQ (F0 m 4 ls []) := fun b0 b1 e ls H locs hl hG => ih b0 b1 ex2 (hi _ e) K0 ls H locs hl hG
      have KX : ∀ (x2 : Int32), w = .inr x2 → ∀ (ls : Array Slot) (H : Heap) (locs : List Loc), lv_has ls 6 [(0, .ref (a 0)), (1, .int x1), (2, .int x2)] → G dC dI A H0 (W_X9 a cI cJ c_length c_text c_stands c_homeFar c_nets c_netAt c_netWide c_netFrom c_netTo c_priceX c_priceY c_many c_days c_aims c_speeds c_kinds c_keptMany c_undoMany c_undos c_spot c_told c_to c_stood c_home c_lost c_out c_fewest c_ways c_next c_held) H locs → W p l e (RM 2 43) s m args below meth c H locs 0 0 QQ (F0 m 113 ls []) := fun b0 e ls H locs hl hG => by cases hr _ e; exact K0 ls H locs hl hG
      clear h0 hi hr K0 ih
      unfold DX9_meetOn_L4s at h
      refine lv_iload_n hx hb dX9_meetOn_4 rfl (lv_at hl 3 rfl) ?_
      refine lv_aload_n hx hb dX9_meetOn_5 rfl (lv_at hl 0 rfl) ?_
      refine r_get X hG in_X9 rfl 11 (by decide) w_642 0 rfl rfl dX9_meetOn_6 ?_
      refine lv_iconst (v := (0 : Int32)) hx hb dX9_meetOn_9 (by decide) ?_
      refine r_iald X hG 11 rfl (vpd (by decide)) dX9_meetOn_10 ?_
      refine lv_icmp_ge (tgt := 113) hx hb dX9_meetOn_11 (by decide) (fun c_1 => ?_) (fun c_1 => ?_)
      · have h := ite_t h c_1
        exact KX _ (Option.some.inj h).symm _ _ _ (lv_sub hl [0, 1, 2] rfl) hG
      · have h := ite_f h c_1
        refine lv_iconst (v := (0 : Int32)) hx hb dX9_meetOn_14 (by decide) ?_
        refine lv_istore (lv' := [(4, .int (0 : Int32)), (0, .ref (a 0)), (1, .int x1), (2, .int x2), (3, .int x3)]) hx hb dX9_meetOn_15 hl (by decide) rfl (fun ls hl => ?_)
        obtain ⟨z2_18, hz, h⟩ := bd1_some h
        refine L17 x3 c_lost FU x2 (0 : Int32) _ hz (fun ls H locs hl hG => ?_) _ _ _ (lv_sub hl [1, 2, 3, 4, 0] rfl) hG
        clear hz
        refine lv_iinc (v := (x3 + (1 : Int32))) (lv' := [(3, .int (x3 + (1 : Int32))), (0, .ref (a 0)), (1, .int x1), (2, .int z2_18)]) hx hb dX9_meetOn_107 hl (k := 3) rfl rfl (by decide) rfl (fun ls hl => ?_)
        refine lv_goto (tgt := 4) hx hb dX9_meetOn_110 (by decide) ?_
        exact KC _ _ (Option.some.inj h).symm _ _ _ (lv_sub hl [1, 2, 3, 0] rfl) hG
  have L115 : ∀ (x2 : Int32), ∀ (n : Nat) (x3 : Int32) (c_lost : Nat → Int32) (ec_lost : Nat → Int32), DX9_meetOn_L115 x1 c_many x2 n x3 c_lost = some ec_lost → (∀ (ls : Array Slot) (H : Heap) (locs : List Loc), lv_has ls 6 [] → G dC dI A H0 (W_X9 a cI cJ c_length c_text c_stands c_homeFar c_nets c_netAt c_netWide c_netFrom c_netTo c_priceX c_priceY c_many c_days c_aims c_speeds c_kinds c_keptMany c_undoMany c_undos c_spot c_told c_to c_stood c_home ec_lost c_out c_fewest c_ways c_next c_held) H locs → W p l e (RM 2 43) s m args below meth c H locs 0 0 QQ (F0 m 155 ls [])) → ∀ (ls : Array Slot) (H : Heap) (locs : List Loc), lv_has ls 6 [(0, .ref (a 0)), (1, .int x1), (2, .int x2), (3, .int x3)] → G dC dI A H0 (W_X9 a cI cJ c_length c_text c_stands c_homeFar c_nets c_netAt c_netWide c_netFrom c_netTo c_priceX c_priceY c_many c_days c_aims c_speeds c_kinds c_keptMany c_undoMany c_undos c_spot c_told c_to c_stood c_home c_lost c_out c_fewest c_ways c_next c_held) H locs → W p l e (RM 2 43) s m args below meth c H locs 0 0 QQ (F0 m 115 ls []) := by
    intro x2 n
    induction n with
    | zero => intro x3 c_lost ec_lost h; exact it_zero h
    | succ n ih =>
      intro x3 c_lost ec_lost h0 K0 ls H locs hl hG
      obtain ⟨w, h, hi, hr⟩ := it_succ h0
      have h : DX9_meetOn_L115s x1 c_many x2 x3 c_lost = some w := h
      have KC : ∀ (x3 : Int32) (c_lost : Nat → Int32), w = .inl (x3, c_lost) → ∀ (ls : Array Slot) (H : Heap) (locs : List Loc), lv_has ls 6 [(0, .ref (a 0)), (1, .int x1), (2, .int x2), (3, .int x3)] → G dC dI A H0 (W_X9 a cI cJ c_length c_text c_stands c_homeFar c_nets c_netAt c_netWide c_netFrom c_netTo c_priceX c_priceY c_many c_days c_aims c_speeds c_kinds c_keptMany c_undoMany c_undos c_spot c_told c_to c_stood c_home c_lost c_out c_fewest c_ways c_next c_held) H locs → W p l e (RM 2 43) s m args below meth c H locs 0 0 QQ (F0 m 115 ls []) := fun b0 b1 e ls H locs hl hG => ih b0 b1 ec_lost (hi _ e) K0 ls H locs hl hG
      have KX : ∀ (c_lost : Nat → Int32), w = .inr c_lost → ∀ (ls : Array Slot) (H : Heap) (locs : List Loc), lv_has ls 6 [] → G dC dI A H0 (W_X9 a cI cJ c_length c_text c_stands c_homeFar c_nets c_netAt c_netWide c_netFrom c_netTo c_priceX c_priceY c_many c_days c_aims c_speeds c_kinds c_keptMany c_undoMany c_undos c_spot c_told c_to c_stood c_home c_lost c_out c_fewest c_ways c_next c_held) H locs → W p l e (RM 2 43) s m args below meth c H locs 0 0 QQ (F0 m 155 ls []) := fun b0 e ls H locs hl hG => by cases hr _ e; exact K0 ls H locs hl hG
      clear h0 hi hr K0 ih
      unfold DX9_meetOn_L115s at h
      refine lv_iload_n hx hb dX9_meetOn_115 rfl (lv_at hl 3 rfl) ?_
      refine lv_aload_n hx hb dX9_meetOn_116 rfl (lv_at hl 0 rfl) ?_
      refine r_get X hG in_X9 rfl 11 (by decide) w_642 0 rfl rfl dX9_meetOn_117 ?_
      refine lv_iconst (v := (0 : Int32)) hx hb dX9_meetOn_120 (by decide) ?_
      refine r_iald X hG 11 rfl (vpd (by decide)) dX9_meetOn_121 ?_
      refine lv_icmp_ge (tgt := 155) hx hb dX9_meetOn_122 (by decide) (fun c_20 => ?_) (fun c_20 => ?_)
      · have h := ite_t h c_20
        exact KX _ (Option.some.inj h).symm _ _ _ (lv_sub hl [] rfl) hG
      · have h := ite_f h c_20
        refine lv_aload_n hx hb dX9_meetOn_125 rfl (lv_at hl 0 rfl) ?_
        refine r_get X hG in_X9 rfl 24 (by decide) w_655 0 rfl rfl dX9_meetOn_126 ?_
        refine lv_iload_n hx hb dX9_meetOn_129 rfl (lv_at hl 3 rfl) ?_
        refine lv_iload_n hx hb dX9_meetOn_130 rfl (lv_at hl 2 rfl) ?_
        refine lv_iload_n hx hb dX9_meetOn_131 rfl (lv_at hl 3 rfl) ?_
        obtain ⟨r_21, hz_22, h⟩ := bd1_some h
        refine aft_i (ws' := (W_X9 a cI cJ c_length c_text c_stands c_homeFar c_nets c_netAt c_netWide c_netFrom c_netTo c_priceX c_priceY c_many c_days c_aims c_speeds c_kinds c_keptMany c_undoMany c_undos c_spot c_told c_to c_stood c_home c_lost c_out c_fewest c_ways c_next c_held)) (run_S (rest := [.int x3, .ref (a 21)]) X hG hl.1 (mX9_has l dC dI cI cJ x2 x3 hz_22) gi_S_X9_144 hd_S_yX9_has ⟨rfl, rfl⟩ rfl ⟨Nat.le_of_ble_eq_true rfl, Nat.le_of_ble_eq_true rfl⟩ [] (by decide) rfl rfl (Nat.le_of_ble_eq_true rfl) ⟨Nat.le_of_ble_eq_true rfl, Nat.le_of_ble_eq_true rfl⟩ dX9_meetOn_132) hG [] rfl rfl rfl (fun H locs hG => ?_)
        clear hz_22
        refine lv_if_eq (tgt := 142) hx hb dX9_meetOn_135 (by decide) (fun c_23 => ?_) (fun c_23 => ?_)
        · have h := ite_t h c_23
          refine lv_aload_n hx hb dX9_meetOn_142 rfl (lv_at hl 0 rfl) ?_
          refine r_get X hG in_X9 rfl 24 (by decide) w_655 0 rfl rfl dX9_meetOn_143 ?_
          refine lv_iload_n hx hb dX9_meetOn_146 rfl (lv_at hl 3 rfl) ?_
          obtain ⟨g_24, h⟩ := gd h
          refine r_iald X hG 21 rfl g_24 dX9_meetOn_147 ?_
          obtain ⟨g_25, h⟩ := gd h
          refine r_iast X hG 21 (ws' := (W_X9 a cI cJ c_length c_text c_stands c_homeFar c_nets c_netAt c_netWide c_netFrom c_netTo c_priceX c_priceY c_many c_days c_aims c_speeds c_kinds c_keptMany c_undoMany c_undos c_spot c_told c_to c_stood c_home (upd c_lost x3.toNatClampNeg (c_lost x3.toNatClampNeg)) c_out c_fewest c_ways c_next c_held)) rfl g_25 rfl dX9_meetOn_148 (fun H locs hG => ?_)
          refine lv_iinc (v := (x3 + (1 : Int32))) (lv' := [(3, .int (x3 + (1 : Int32))), (0, .ref (a 0)), (1, .int x1), (2, .int x2)]) hx hb dX9_meetOn_149 hl (k := 3) rfl rfl (by decide) rfl (fun ls hl => ?_)
          refine lv_goto (tgt := 115) hx hb dX9_meetOn_152 (by decide) ?_
          exact KC _ _ (Option.some.inj h).symm _ _ _ (lv_sub hl [1, 2, 3, 0] rfl) hG
        · have h := ite_f h c_23
          refine lv_iload_n hx hb dX9_meetOn_138 rfl (lv_at hl 1 rfl) ?_
          refine lv_goto (tgt := 148) hx hb dX9_meetOn_139 (by decide) ?_
          obtain ⟨g_26, h⟩ := gd h
          refine r_iast X hG 21 (ws' := (W_X9 a cI cJ c_length c_text c_stands c_homeFar c_nets c_netAt c_netWide c_netFrom c_netTo c_priceX c_priceY c_many c_days c_aims c_speeds c_kinds c_keptMany c_undoMany c_undos c_spot c_told c_to c_stood c_home (upd c_lost x3.toNatClampNeg x1) c_out c_fewest c_ways c_next c_held)) rfl g_26 rfl dX9_meetOn_148 (fun H locs hG => ?_)
          refine lv_iinc (v := (x3 + (1 : Int32))) (lv' := [(3, .int (x3 + (1 : Int32))), (0, .ref (a 0)), (1, .int x1), (2, .int x2)]) hx hb dX9_meetOn_149 hl (k := 3) rfl rfl (by decide) rfl (fun ls hl => ?_)
          refine lv_goto (tgt := 115) hx hb dX9_meetOn_152 (by decide) ?_
          exact KC _ _ (Option.some.inj h).symm _ _ _ (lv_sub hl [1, 2, 3, 0] rfl) hG
  have h := hD
  unfold DX9_meetOn at h
  clear hD
  refine lv_iconst (v := (0 : Int32)) hx hb dX9_meetOn_0 (by decide) ?_
  refine lv_istore_n (lv' := [(2, .int (0 : Int32)), (0, .ref (a 0)), (1, .int x1)]) hx hb dX9_meetOn_1 rfl hl (by decide) rfl (fun ls hl => ?_)
  refine lv_iconst (v := (0 : Int32)) hx hb dX9_meetOn_2 (by decide) ?_
  refine lv_istore_n (lv' := [(3, .int (0 : Int32)), (2, .int (0 : Int32)), (0, .ref (a 0)), (1, .int x1)]) hx hb dX9_meetOn_3 rfl hl (by decide) rfl (fun ls hl => ?_)
  obtain ⟨z2_19, hz, h⟩ := bd1_some h
  refine L4 c_lost FU (0 : Int32) (0 : Int32) _ hz (fun ls H locs hl hG => ?_) _ _ _ (lv_sub hl [2, 3, 1, 0] rfl) hG
  clear hz
  refine lv_iconst (v := (0 : Int32)) hx hb dX9_meetOn_113 (by decide) ?_
  refine lv_istore_n (lv' := [(3, .int (0 : Int32)), (0, .ref (a 0)), (1, .int x1), (2, .int z2_19)]) hx hb dX9_meetOn_114 rfl hl (by decide) rfl (fun ls hl => ?_)
  obtain ⟨k_lost_27, hz, h⟩ := bd1_some h
  refine L115 z2_19 FU (0 : Int32) c_lost _ hz (fun ls H locs hl hG => ?_) _ _ _ (lv_sub hl [1, 2, 3, 0] rfl) hG
  clear hz
  cases h
  exact ret _ _ _ _ dX9_meetOn_155 hG
set_option maxRecDepth 100000 in
set_option maxHeartbeats 4000000 in
theorem mX9_go (l : Launch) (dC : Nat → ClassId) (dI : Nat → Nat → Nat) (cI cJ : ClassId) (a : Nat → Nat) (c_length : Int32) (c_text : Nat → Int32) (c_stands : Nat → Int32) (c_homeFar : Nat → Int32) (c_nets : Nat → Int32) (c_netAt : Nat → Int32) (c_netWide : Nat → Int32) (c_netFrom : Nat → Int32) (c_netTo : Nat → Int32) (c_priceX : Nat → Int32) (c_priceY : Nat → Int32) (c_many : Nat → Int32) (c_days : Nat → Int32) (c_aims : Nat → Int32) (c_speeds : Nat → Int32) (c_kinds : Nat → Int32) (c_keptMany : Int32) (c_undoMany : Int32) (c_undos : Nat → Int32) (c_spot : Int32) (c_told : Nat → Int32) (c_to : Nat → Int32) (c_stood : Nat → Int32) (c_home : Nat → Int32) (c_lost : Nat → Int32) (c_out : Int32) (c_fewest : Nat → Int32) (c_ways : Nat → Int64) (c_next : Nat → Int64) (c_held : Nat → Int32) (x1 : Int32) {n_to : Nat → Int32} {n_stood : Nat → Int32} {n_home : Nat → Int32} {n_lost : Nat → Int32} {n_out : Int32} (hD : DX9_go x1 c_stands c_homeFar c_many c_days c_aims c_speeds c_kinds c_to c_stood c_home c_lost = some (n_to, n_stood, n_home, n_lost, n_out)) : Met l yX9_go (WZ yX9_go cX9_go 4 none) (RM 3 68) (PC dC dI cI cJ [.ref (a 0), .int x1] (W_X9 a cI cJ c_length c_text c_stands c_homeFar c_nets c_netAt c_netWide c_netFrom c_netTo c_priceX c_priceY c_many c_days c_aims c_speeds c_kinds c_keptMany c_undoMany c_undos c_spot c_told c_to c_stood c_home c_lost c_out c_fewest c_ways c_next c_held)) (QV dC dI (W_X9 a cI cJ c_length c_text c_stands c_homeFar c_nets c_netAt c_netWide c_netFrom c_netTo c_priceX c_priceY c_many c_days c_aims c_speeds c_kinds c_keptMany c_undoMany c_undos c_spot c_told c_to c_stood c_home c_lost c_out c_fewest c_ways c_next c_held) (W_X9 a cI cJ c_length c_text c_stands c_homeFar c_nets c_netAt c_netWide c_netFrom c_netTo c_priceX c_priceY c_many c_days c_aims c_speeds c_kinds c_keptMany c_undoMany c_undos c_spot c_told n_to n_stood n_home n_lost n_out c_fewest c_ways c_next c_held)) 0 0 (FA (W_X9 a cI cJ c_length c_text c_stands c_homeFar c_nets c_netAt c_netWide c_netFrom c_netTo c_priceX c_priceY c_many c_days c_aims c_speeds c_kinds c_keptMany c_undoMany c_undos c_spot c_told c_to c_stood c_home c_lost c_out c_fewest c_ways c_next c_held)) := by
  refine r_metV (by decide +kernel) (Nat.le_of_ble_eq_true rfl) ?_
  intro p e s m args below meth c A H0 QQ X ret ls hl hG
  have X : Cx p m c cX9_go 4 s args RX9 dC dI cI cJ meth none := X
  have hx := X.1.1
  have hb := X.1.2.1
  have hl : lv_has ls 4 [(0, .ref (a 0)), (1, .int x1)] := hl
  have L14 : ∀ (c_to : Nat → Int32) (c_stood : Nat → Int32) (c_out : Int32), ∀ (n : Nat) (x2 : Int32) (c_home : Nat → Int32) (c_lost : Nat → Int32) (ec_home : Nat → Int32) (ec_lost : Nat → Int32), DX9_go_L14 c_homeFar c_many c_days c_speeds n x2 c_home c_lost = some (ec_home, ec_lost) → (∀ (ls : Array Slot) (H : Heap) (locs : List Loc), lv_has ls 4 [(0, .ref (a 0))] → G dC dI A H0 (W_X9 a cI cJ c_length c_text c_stands c_homeFar c_nets c_netAt c_netWide c_netFrom c_netTo c_priceX c_priceY c_many c_days c_aims c_speeds c_kinds c_keptMany c_undoMany c_undos c_spot c_told c_to c_stood ec_home ec_lost c_out c_fewest c_ways c_next c_held) H locs → W p l e (RM 3 68) s m args below meth c H locs 0 0 QQ (F0 m 61 ls [])) → ∀ (ls : Array Slot) (H : Heap) (locs : List Loc), lv_has ls 4 [(0, .ref (a 0)), (2, .int x2)] → G dC dI A H0 (W_X9 a cI cJ c_length c_text c_stands c_homeFar c_nets c_netAt c_netWide c_netFrom c_netTo c_priceX c_priceY c_many c_days c_aims c_speeds c_kinds c_keptMany c_undoMany c_undos c_spot c_told c_to c_stood c_home c_lost c_out c_fewest c_ways c_next c_held) H locs → W p l e (RM 3 68) s m args below meth c H locs 0 0 QQ (F0 m 14 ls []) := by
    intro c_to c_stood c_out n
    induction n with
    | zero => intro x2 c_home c_lost ec_home ec_lost h; exact it_zero h
    | succ n ih =>
      intro x2 c_home c_lost ec_home ec_lost h0 K0 ls H locs hl hG
      obtain ⟨w, h, hi, hr⟩ := it_succ h0
      have h : DX9_go_L14s c_homeFar c_many c_days c_speeds x2 c_home c_lost = some w := h
      have KC : ∀ (x2 : Int32) (c_home : Nat → Int32) (c_lost : Nat → Int32), w = .inl (x2, c_home, c_lost) → ∀ (ls : Array Slot) (H : Heap) (locs : List Loc), lv_has ls 4 [(0, .ref (a 0)), (2, .int x2)] → G dC dI A H0 (W_X9 a cI cJ c_length c_text c_stands c_homeFar c_nets c_netAt c_netWide c_netFrom c_netTo c_priceX c_priceY c_many c_days c_aims c_speeds c_kinds c_keptMany c_undoMany c_undos c_spot c_told c_to c_stood c_home c_lost c_out c_fewest c_ways c_next c_held) H locs → W p l e (RM 3 68) s m args below meth c H locs 0 0 QQ (F0 m 14 ls []) := fun b0 b1 b2 e ls H locs hl hG => ih b0 b1 b2 ec_home ec_lost (hi _ e) K0 ls H locs hl hG
      have KX : ∀ (c_home : Nat → Int32) (c_lost : Nat → Int32), w = .inr (c_home, c_lost) → ∀ (ls : Array Slot) (H : Heap) (locs : List Loc), lv_has ls 4 [(0, .ref (a 0))] → G dC dI A H0 (W_X9 a cI cJ c_length c_text c_stands c_homeFar c_nets c_netAt c_netWide c_netFrom c_netTo c_priceX c_priceY c_many c_days c_aims c_speeds c_kinds c_keptMany c_undoMany c_undos c_spot c_told c_to c_stood c_home c_lost c_out c_fewest c_ways c_next c_held) H locs → W p l e (RM 3 68) s m args below meth c H locs 0 0 QQ (F0 m 61 ls []) := fun b0 b1 e ls H locs hl hG => by cases hr _ e; exact K0 ls H locs hl hG
      clear h0 hi hr K0 ih
      unfold DX9_go_L14s at h
      refine lv_iload_n hx hb dX9_go_14 rfl (lv_at hl 1 rfl) ?_
      refine lv_aload_n hx hb dX9_go_15 rfl (lv_at hl 0 rfl) ?_
      refine r_get X hG in_X9 rfl 11 (by decide) w_642 0 rfl rfl dX9_go_16 ?_
      refine lv_iconst (v := (0 : Int32)) hx hb dX9_go_19 (by decide) ?_
      refine r_iald X hG 11 rfl (vpd (by decide)) dX9_go_20 ?_
      refine lv_icmp_ge (tgt := 61) hx hb dX9_go_21 (by decide) (fun c_5 => ?_) (fun c_5 => ?_)
      · have h := ite_t h c_5
        exact KX _ _ (Option.some.inj h).symm _ _ _ (lv_sub hl [0] rfl) hG
      · have h := ite_f h c_5
        refine lv_aload_n hx hb dX9_go_24 rfl (lv_at hl 0 rfl) ?_
        refine r_get X hG in_X9 rfl 23 (by decide) w_654 0 rfl rfl dX9_go_25 ?_
        refine lv_iload_n hx hb dX9_go_28 rfl (lv_at hl 1 rfl) ?_
        refine lv_aload_n hx hb dX9_go_29 rfl (lv_at hl 0 rfl) ?_
        refine lv_aload_n hx hb dX9_go_30 rfl (lv_at hl 0 rfl) ?_
        refine r_get X hG in_X9 rfl 12 (by decide) w_643 0 rfl rfl dX9_go_31 ?_
        refine lv_iload_n hx hb dX9_go_34 rfl (lv_at hl 1 rfl) ?_
        obtain ⟨g_6, h⟩ := gd h
        refine r_iald X hG 12 rfl g_6 dX9_go_35 ?_
        refine lv_aload_n hx hb dX9_go_36 rfl (lv_at hl 0 rfl) ?_
        refine r_get X hG in_X9 rfl 14 (by decide) w_645 0 rfl rfl dX9_go_37 ?_
        refine lv_iload_n hx hb dX9_go_40 rfl (lv_at hl 1 rfl) ?_
        obtain ⟨g_7, h⟩ := gd h
        refine r_iald X hG 14 rfl g_7 dX9_go_41 ?_
        obtain ⟨r_8, hz_9, h⟩ := bd1_some h
        refine aft_i1 (run_V1 (rest := [.int x2, .ref (a 20)]) X hG hl.1 (mX9_homeDay l dC dI cI cJ a c_length c_text c_stands c_homeFar c_nets c_netAt c_netWide c_netFrom c_netTo c_priceX c_priceY c_many c_days c_aims c_speeds c_kinds c_keptMany c_undoMany c_undos c_spot c_told c_to c_stood c_home c_lost c_out c_fewest c_ways c_next c_held (c_days x2.toNatClampNeg) (c_speeds x2.toNatClampNeg) hz_9) gi_V_X9_161 hd_V_yX9_homeDay ⟨rfl, rfl⟩ rfl ⟨Nat.le_of_ble_eq_true rfl, Nat.le_of_ble_eq_true rfl⟩ 0 rfl rfl rfl rfl (Nat.le_of_ble_eq_true rfl) ⟨Nat.le_of_ble_eq_true rfl, Nat.le_of_ble_eq_true rfl⟩ dX9_go_42) hG rfl (fun H locs hG => ?_)
        clear hz_9
        obtain ⟨g_10, h⟩ := gd h
        refine r_iast X hG 20 (ws' := (W_X9 a cI cJ c_length c_text c_stands c_homeFar c_nets c_netAt c_netWide c_netFrom c_netTo c_priceX c_priceY c_many c_days c_aims c_speeds c_kinds c_keptMany c_undoMany c_undos c_spot c_told c_to c_stood (upd c_home x2.toNatClampNeg r_8) c_lost c_out c_fewest c_ways c_next c_held)) rfl g_10 rfl dX9_go_45 (fun H locs hG => ?_)
        refine lv_aload_n hx hb dX9_go_46 rfl (lv_at hl 0 rfl) ?_
        refine r_get X hG in_X9 rfl 24 (by decide) w_655 0 rfl rfl dX9_go_47 ?_
        refine lv_iload_n hx hb dX9_go_50 rfl (lv_at hl 1 rfl) ?_
        refine lv_sipush (v := (10000 : Int32)) hx hb dX9_go_51 (by decide) ?_
        obtain ⟨g_11, h⟩ := gd h
        refine r_iast X hG 21 (ws' := (W_X9 a cI cJ c_length c_text c_stands c_homeFar c_nets c_netAt c_netWide c_netFrom c_netTo c_priceX c_priceY c_many c_days c_aims c_speeds c_kinds c_keptMany c_undoMany c_undos c_spot c_told c_to c_stood (upd c_home x2.toNatClampNeg r_8) (upd c_lost x2.toNatClampNeg (10000 : Int32)) c_out c_fewest c_ways c_next c_held)) rfl g_11 rfl dX9_go_54 (fun H locs hG => ?_)
        refine lv_iinc (v := (x2 + (1 : Int32))) (lv' := [(2, .int (x2 + (1 : Int32))), (0, .ref (a 0))]) hx hb dX9_go_55 hl (k := 1) rfl rfl (by decide) rfl (fun ls hl => ?_)
        refine lv_goto (tgt := 14) hx hb dX9_go_58 (by decide) ?_
        exact KC _ _ _ (Option.some.inj h).symm _ _ _ (lv_sub hl [1, 0] rfl) hG
  have L76 : ∀ (x2 : Int32) (c_to : Nat → Int32) (c_stood : Nat → Int32) (c_lost : Nat → Int32) (c_out : Int32), ∀ (n : Nat) (x3 : Int32) (c_home : Nat → Int32) (ec_home : Nat → Int32), DX9_go_L76 c_many c_lost x2 n x3 c_home = some ec_home → (∀ (ls : Array Slot) (H : Heap) (locs : List Loc), lv_has ls 4 [(0, .ref (a 0)), (2, .int x2)] → G dC dI A H0 (W_X9 a cI cJ c_length c_text c_stands c_homeFar c_nets c_netAt c_netWide c_netFrom c_netTo c_priceX c_priceY c_many c_days c_aims c_speeds c_kinds c_keptMany c_undoMany c_undos c_spot c_told c_to c_stood ec_home c_lost c_out c_fewest c_ways c_next c_held) H locs → W p l e (RM 3 68) s m args below meth c H locs 0 0 QQ (F0 m 118 ls [])) → ∀ (ls : Array Slot) (H : Heap) (locs : List Loc), lv_has ls 4 [(0, .ref (a 0)), (2, .int x2), (3, .int x3)] → G dC dI A H0 (W_X9 a cI cJ c_length c_text c_stands c_homeFar c_nets c_netAt c_netWide c_netFrom c_netTo c_priceX c_priceY c_many c_days c_aims c_speeds c_kinds c_keptMany c_undoMany c_undos c_spot c_told c_to c_stood c_home c_lost c_out c_fewest c_ways c_next c_held) H locs → W p l e (RM 3 68) s m args below meth c H locs 0 0 QQ (F0 m 76 ls []) := by
    intro x2 c_to c_stood c_lost c_out n
    induction n with
    | zero => intro x3 c_home ec_home h; exact it_zero h
    | succ n ih =>
      intro x3 c_home ec_home h0 K0 ls H locs hl hG
      obtain ⟨w, h, hi, hr⟩ := it_succ h0
      have h : DX9_go_L76s c_many c_lost x2 x3 c_home = some w := h
      have KC : ∀ (x3 : Int32) (c_home : Nat → Int32), w = .inl (x3, c_home) → ∀ (ls : Array Slot) (H : Heap) (locs : List Loc), lv_has ls 4 [(0, .ref (a 0)), (2, .int x2), (3, .int x3)] → G dC dI A H0 (W_X9 a cI cJ c_length c_text c_stands c_homeFar c_nets c_netAt c_netWide c_netFrom c_netTo c_priceX c_priceY c_many c_days c_aims c_speeds c_kinds c_keptMany c_undoMany c_undos c_spot c_told c_to c_stood c_home c_lost c_out c_fewest c_ways c_next c_held) H locs → W p l e (RM 3 68) s m args below meth c H locs 0 0 QQ (F0 m 76 ls []) := fun b0 b1 e ls H locs hl hG => ih b0 b1 ec_home (hi _ e) K0 ls H locs hl hG
      have KX : ∀ (c_home : Nat → Int32), w = .inr c_home → ∀ (ls : Array Slot) (H : Heap) (locs : List Loc), lv_has ls 4 [(0, .ref (a 0)), (2, .int x2)] → G dC dI A H0 (W_X9 a cI cJ c_length c_text c_stands c_homeFar c_nets c_netAt c_netWide c_netFrom c_netTo c_priceX c_priceY c_many c_days c_aims c_speeds c_kinds c_keptMany c_undoMany c_undos c_spot c_told c_to c_stood c_home c_lost c_out c_fewest c_ways c_next c_held) H locs → W p l e (RM 3 68) s m args below meth c H locs 0 0 QQ (F0 m 118 ls []) := fun b0 e ls H locs hl hG => by cases hr _ e; exact K0 ls H locs hl hG
      clear h0 hi hr K0 ih
      unfold DX9_go_L76s at h
      refine lv_iload_n hx hb dX9_go_76 rfl (lv_at hl 2 rfl) ?_
      refine lv_aload_n hx hb dX9_go_77 rfl (lv_at hl 0 rfl) ?_
      refine r_get X hG in_X9 rfl 11 (by decide) w_642 0 rfl rfl dX9_go_78 ?_
      refine lv_iconst (v := (0 : Int32)) hx hb dX9_go_81 (by decide) ?_
      refine r_iald X hG 11 rfl (vpd (by decide)) dX9_go_82 ?_
      refine lv_icmp_ge (tgt := 118) hx hb dX9_go_83 (by decide) (fun c_17 => ?_) (fun c_17 => ?_)
      · have h := ite_t h c_17
        exact KX _ (Option.some.inj h).symm _ _ _ (lv_sub hl [0, 1] rfl) hG
      · have h := ite_f h c_17
        refine lv_aload_n hx hb dX9_go_86 rfl (lv_at hl 0 rfl) ?_
        refine r_get X hG in_X9 rfl 23 (by decide) w_654 0 rfl rfl dX9_go_87 ?_
        refine lv_iload_n hx hb dX9_go_90 rfl (lv_at hl 2 rfl) ?_
        refine lv_aload_n hx hb dX9_go_91 rfl (lv_at hl 0 rfl) ?_
        refine r_get X hG in_X9 rfl 24 (by decide) w_655 0 rfl rfl dX9_go_92 ?_
        refine lv_iload_n hx hb dX9_go_95 rfl (lv_at hl 2 rfl) ?_
        obtain ⟨g_18, h⟩ := gd h
        refine r_iald X hG 21 rfl g_18 dX9_go_96 ?_
        refine lv_iload_n hx hb dX9_go_97 rfl (lv_at hl 1 rfl) ?_
        refine lv_icmp_ne (tgt := 105) hx hb dX9_go_98 (by decide) (fun c_19 => ?_) (fun c_19 => ?_)
        · have h := ite_f h c_19
          refine lv_aload_n hx hb dX9_go_105 rfl (lv_at hl 0 rfl) ?_
          refine r_get X hG in_X9 rfl 23 (by decide) w_654 0 rfl rfl dX9_go_106 ?_
          refine lv_iload_n hx hb dX9_go_109 rfl (lv_at hl 2 rfl) ?_
          obtain ⟨g_20, h⟩ := gd h
          refine r_iald X hG 20 rfl g_20 dX9_go_110 ?_
          obtain ⟨g_21, h⟩ := gd h
          refine r_iast X hG 20 (ws' := (W_X9 a cI cJ c_length c_text c_stands c_homeFar c_nets c_netAt c_netWide c_netFrom c_netTo c_priceX c_priceY c_many c_days c_aims c_speeds c_kinds c_keptMany c_undoMany c_undos c_spot c_told c_to c_stood (upd c_home x3.toNatClampNeg (c_home x3.toNatClampNeg)) c_lost c_out c_fewest c_ways c_next c_held)) rfl g_21 rfl dX9_go_111 (fun H locs hG => ?_)
          refine lv_iinc (v := (x3 + (1 : Int32))) (lv' := [(3, .int (x3 + (1 : Int32))), (0, .ref (a 0)), (2, .int x2)]) hx hb dX9_go_112 hl (k := 2) rfl rfl (by decide) rfl (fun ls hl => ?_)
          refine lv_goto (tgt := 76) hx hb dX9_go_115 (by decide) ?_
          exact KC _ _ (Option.some.inj h).symm _ _ _ (lv_sub hl [1, 2, 0] rfl) hG
        · have h := ite_t h c_19
          refine lv_iload_n hx hb dX9_go_101 rfl (lv_at hl 1 rfl) ?_
          refine lv_goto (tgt := 111) hx hb dX9_go_102 (by decide) ?_
          obtain ⟨g_22, h⟩ := gd h
          refine r_iast X hG 20 (ws' := (W_X9 a cI cJ c_length c_text c_stands c_homeFar c_nets c_netAt c_netWide c_netFrom c_netTo c_priceX c_priceY c_many c_days c_aims c_speeds c_kinds c_keptMany c_undoMany c_undos c_spot c_told c_to c_stood (upd c_home x3.toNatClampNeg x2) c_lost c_out c_fewest c_ways c_next c_held)) rfl g_22 rfl dX9_go_111 (fun H locs hG => ?_)
          refine lv_iinc (v := (x3 + (1 : Int32))) (lv' := [(3, .int (x3 + (1 : Int32))), (0, .ref (a 0)), (2, .int x2)]) hx hb dX9_go_112 hl (k := 2) rfl rfl (by decide) rfl (fun ls hl => ?_)
          refine lv_goto (tgt := 76) hx hb dX9_go_115 (by decide) ?_
          exact KC _ _ (Option.some.inj h).symm _ _ _ (lv_sub hl [1, 2, 0] rfl) hG
  have L63 : ∀ (c_to : Nat → Int32) (c_stood : Nat → Int32) (c_out : Int32), ∀ (n : Nat) (x2 : Int32) (c_home : Nat → Int32) (c_lost : Nat → Int32) (ec_home : Nat → Int32) (ec_lost : Nat → Int32), DX9_go_L63 c_many c_days c_speeds c_to c_out n x2 c_home c_lost = some (ec_home, ec_lost) → (∀ (ls : Array Slot) (H : Heap) (locs : List Loc), lv_has ls 4 [] → G dC dI A H0 (W_X9 a cI cJ c_length c_text c_stands c_homeFar c_nets c_netAt c_netWide c_netFrom c_netTo c_priceX c_priceY c_many c_days c_aims c_speeds c_kinds c_keptMany c_undoMany c_undos c_spot c_told c_to c_stood ec_home ec_lost c_out c_fewest c_ways c_next c_held) H locs → W p l e (RM 3 68) s m args below meth c H locs 0 0 QQ (F0 m 124 ls [])) → ∀ (ls : Array Slot) (H : Heap) (locs : List Loc), lv_has ls 4 [(0, .ref (a 0)), (2, .int x2)] → G dC dI A H0 (W_X9 a cI cJ c_length c_text c_stands c_homeFar c_nets c_netAt c_netWide c_netFrom c_netTo c_priceX c_priceY c_many c_days c_aims c_speeds c_kinds c_keptMany c_undoMany c_undos c_spot c_told c_to c_stood c_home c_lost c_out c_fewest c_ways c_next c_held) H locs → W p l e (RM 3 68) s m args below meth c H locs 0 0 QQ (F0 m 63 ls []) := by
    intro c_to c_stood c_out n
    induction n with
    | zero => intro x2 c_home c_lost ec_home ec_lost h; exact it_zero h
    | succ n ih =>
      intro x2 c_home c_lost ec_home ec_lost h0 K0 ls H locs hl hG
      obtain ⟨w, h, hi, hr⟩ := it_succ h0
      have h : DX9_go_L63s c_many c_days c_speeds c_to c_out x2 c_home c_lost = some w := h
      have KC : ∀ (x2 : Int32) (c_home : Nat → Int32) (c_lost : Nat → Int32), w = .inl (x2, c_home, c_lost) → ∀ (ls : Array Slot) (H : Heap) (locs : List Loc), lv_has ls 4 [(0, .ref (a 0)), (2, .int x2)] → G dC dI A H0 (W_X9 a cI cJ c_length c_text c_stands c_homeFar c_nets c_netAt c_netWide c_netFrom c_netTo c_priceX c_priceY c_many c_days c_aims c_speeds c_kinds c_keptMany c_undoMany c_undos c_spot c_told c_to c_stood c_home c_lost c_out c_fewest c_ways c_next c_held) H locs → W p l e (RM 3 68) s m args below meth c H locs 0 0 QQ (F0 m 63 ls []) := fun b0 b1 b2 e ls H locs hl hG => ih b0 b1 b2 ec_home ec_lost (hi _ e) K0 ls H locs hl hG
      have KX : ∀ (c_home : Nat → Int32) (c_lost : Nat → Int32), w = .inr (c_home, c_lost) → ∀ (ls : Array Slot) (H : Heap) (locs : List Loc), lv_has ls 4 [] → G dC dI A H0 (W_X9 a cI cJ c_length c_text c_stands c_homeFar c_nets c_netAt c_netWide c_netFrom c_netTo c_priceX c_priceY c_many c_days c_aims c_speeds c_kinds c_keptMany c_undoMany c_undos c_spot c_told c_to c_stood c_home c_lost c_out c_fewest c_ways c_next c_held) H locs → W p l e (RM 3 68) s m args below meth c H locs 0 0 QQ (F0 m 124 ls []) := fun b0 b1 e ls H locs hl hG => by cases hr _ e; exact K0 ls H locs hl hG
      clear h0 hi hr K0 ih
      unfold DX9_go_L63s at h
      refine lv_iload_n hx hb dX9_go_63 rfl (lv_at hl 1 rfl) ?_
      refine lv_bipush (v := (100 : Int32)) hx hb dX9_go_64 (by decide) ?_
      refine lv_icmp_gt (tgt := 124) hx hb dX9_go_66 (by decide) (fun c_14 => ?_) (fun c_14 => ?_)
      · have h := ite_t h c_14
        exact KX _ _ (Option.some.inj h).symm _ _ _ (lv_sub hl [] rfl) hG
      · have h := ite_f h c_14
        refine lv_aload_n hx hb dX9_go_69 rfl (lv_at hl 0 rfl) ?_
        refine lv_iload_n hx hb dX9_go_70 rfl (lv_at hl 1 rfl) ?_
        obtain ⟨k_lost_15, hz_16, h⟩ := bd1_some h
        refine aft_v1 (run_V1 (rest := []) X hG hl.1 (mX9_meetOn l dC dI cI cJ a c_length c_text c_stands c_homeFar c_nets c_netAt c_netWide c_netFrom c_netTo c_priceX c_priceY c_many c_days c_aims c_speeds c_kinds c_keptMany c_undoMany c_undos c_spot c_told c_to c_stood c_home c_lost c_out c_fewest c_ways c_next c_held x2 hz_16) gi_V_X9_164 hd_V_yX9_meetOn ⟨rfl, rfl⟩ rfl ⟨Nat.le_of_ble_eq_true rfl, Nat.le_of_ble_eq_true rfl⟩ 0 rfl rfl rfl rfl (Nat.le_of_ble_eq_true rfl) ⟨Nat.le_of_ble_eq_true rfl, Nat.le_of_ble_eq_true rfl⟩ dX9_go_71) hG rfl (fun H locs hG => ?_)
        clear hz_16
        refine lv_iconst (v := (0 : Int32)) hx hb dX9_go_74 (by decide) ?_
        refine lv_istore_n (lv' := [(3, .int (0 : Int32)), (0, .ref (a 0)), (2, .int x2)]) hx hb dX9_go_75 rfl hl (by decide) rfl (fun ls hl => ?_)
        obtain ⟨k_home_23, hz, h⟩ := bd1_some h
        refine L76 x2 c_to c_stood k_lost_15 c_out FU (0 : Int32) c_home _ hz (fun ls H locs hl hG => ?_) _ _ _ (lv_sub hl [1, 2, 0] rfl) hG
        clear hz
        refine lv_iinc (v := (x2 + (1 : Int32))) (lv' := [(2, .int (x2 + (1 : Int32))), (0, .ref (a 0))]) hx hb dX9_go_118 hl (k := 1) rfl rfl (by decide) rfl (fun ls hl => ?_)
        refine lv_goto (tgt := 63) hx hb dX9_go_121 (by decide) ?_
        exact KC _ _ _ (Option.some.inj h).symm _ _ _ (lv_sub hl [1, 0] rfl) hG
  have h := hD
  unfold DX9_go at h
  clear hD
  refine lv_aload_n hx hb dX9_go_0 rfl (lv_at hl 0 rfl) ?_
  refine lv_iload_n hx hb dX9_go_1 rfl (lv_at hl 1 rfl) ?_
  refine r_put X hG in_X9 rfl tyX9 tyX9_ok nmX9 25 (by decide) rfl (by decide +kernel) w_656 0 (ws' := (W_X9 a cI cJ c_length c_text c_stands c_homeFar c_nets c_netAt c_netWide c_netFrom c_netTo c_priceX c_priceY c_many c_days c_aims c_speeds c_kinds c_keptMany c_undoMany c_undos c_spot c_told c_to c_stood c_home c_lost x1 c_fewest c_ways c_next c_held)) rfl (Nat.le_of_ble_eq_true rfl) rfl dX9_go_2 (fun H locs hG => ?_)
  refine lv_aload_n hx hb dX9_go_5 rfl (lv_at hl 0 rfl) ?_
  refine lv_bipush (v := (40 : Int32)) hx hb dX9_go_6 (by decide) ?_
  obtain ⟨r_1, k_to_2, k_stood_3, hz_4, h⟩ := bd3_some h
  refine aft_i1 (run_V1 (rest := []) X hG hl.1 (mX9_turnTo l dC dI cI cJ a c_length c_text c_stands c_homeFar c_nets c_netAt c_netWide c_netFrom c_netTo c_priceX c_priceY c_many c_days c_aims c_speeds c_kinds c_keptMany c_undoMany c_undos c_spot c_told c_to c_stood c_home c_lost x1 c_fewest c_ways c_next c_held (40 : Int32) hz_4) gi_V_X9_158 hd_V_yX9_turnTo ⟨rfl, rfl⟩ rfl ⟨Nat.le_of_ble_eq_true rfl, Nat.le_of_ble_eq_true rfl⟩ 0 rfl rfl rfl rfl (Nat.le_of_ble_eq_true rfl) ⟨Nat.le_of_ble_eq_true rfl, Nat.le_of_ble_eq_true rfl⟩ dX9_go_8) hG rfl (fun H locs hG => ?_)
  clear hz_4
  refine lv_pop hx hb dX9_go_11 rfl ?_
  refine lv_iconst (v := (0 : Int32)) hx hb dX9_go_12 (by decide) ?_
  refine lv_istore_n (lv' := [(2, .int (0 : Int32)), (0, .ref (a 0)), (1, .int x1)]) hx hb dX9_go_13 rfl hl (by decide) rfl (fun ls hl => ?_)
  obtain ⟨k_home_12, k_lost_13, hz, h⟩ := bd2_some h
  refine L14 k_to_2 k_stood_3 x1 FU (0 : Int32) c_home c_lost _ _ hz (fun ls H locs hl hG => ?_) _ _ _ (lv_sub hl [1, 0] rfl) hG
  clear hz
  refine lv_iconst (v := (0 : Int32)) hx hb dX9_go_61 (by decide) ?_
  refine lv_istore_n (lv' := [(2, .int (0 : Int32)), (0, .ref (a 0))]) hx hb dX9_go_62 rfl hl (by decide) rfl (fun ls hl => ?_)
  obtain ⟨k_home_24, k_lost_25, hz, h⟩ := bd2_some h
  refine L63 k_to_2 k_stood_3 x1 FU (0 : Int32) k_home_12 k_lost_13 _ _ hz (fun ls H locs hl hG => ?_) _ _ _ (lv_sub hl [1, 0] rfl) hG
  clear hz
  cases h
  exact ret _ _ _ _ dX9_go_124 hG
set_option maxRecDepth 100000 in
set_option maxHeartbeats 4000000 in
theorem mX9_apart (l : Launch) (dC : Nat → ClassId) (dI : Nat → Nat → Nat) (cI cJ : ClassId) (x0 : Int32) (x1 : Int32) {res : Int32} (hD : DX9_apart x0 x1 = some res) : Met l yX9_apart (WZ yX9_apart cX9_apart 3 (some .int)) (RM 1 20) (PC dC dI cI cJ [.int x0, .int x1] []) (QI dC dI [] [] res) 0 0 (FA []) := by
  refine r_metI (by decide +kernel) (Nat.le_of_ble_eq_true rfl) ?_
  intro p e s m args below meth c A H0 QQ X ret ls hl hG
  have X : Cx p m c cX9_apart 3 s args RX9 dC dI cI cJ meth (some .int) := X
  have hx := X.1.1
  have hb := X.1.2.1
  have hl : lv_has ls 3 [(0, .int x0), (1, .int x1)] := hl
  have h := hD
  unfold DX9_apart at h
  clear hD
  refine lv_iload_n hx hb dX9_apart_0 rfl (lv_at hl 0 rfl) ?_
  refine lv_iload_n hx hb dX9_apart_1 rfl (lv_at hl 1 rfl) ?_
  refine lv_isub hx hb dX9_apart_2 ?_
  obtain ⟨r_1, hz_2, h⟩ := bd1_some h
  refine aft_i (ws' := []) (run_S (rest := []) X hG hl.1 (mX9_around l dC dI cI cJ (x0 - x1) hz_2) gi_S_X9_148 hd_S_yX9_around ⟨rfl, rfl⟩ rfl ⟨Nat.le_of_ble_eq_true rfl, Nat.le_of_ble_eq_true rfl⟩ [] (by decide) rfl rfl (Nat.le_of_ble_eq_true rfl) ⟨Nat.le_of_ble_eq_true rfl, Nat.le_of_ble_eq_true rfl⟩ dX9_apart_3) hG [] rfl rfl rfl (fun H locs hG => ?_)
  clear hz_2
  refine lv_istore_n (lv' := [(2, .int r_1), (0, .int x0), (1, .int x1)]) hx hb dX9_apart_6 rfl hl (by decide) rfl (fun ls hl => ?_)
  refine lv_iload_n hx hb dX9_apart_7 rfl (lv_at hl 0 rfl) ?_
  refine lv_bipush (v := (12 : Int32)) hx hb dX9_apart_8 (by decide) ?_
  refine lv_icmp_le (tgt := 20) hx hb dX9_apart_10 (by decide) (fun c_3 => ?_) (fun c_3 => ?_)
  · have h := ite_t h c_3
    refine lv_iload_n hx hb dX9_apart_20 rfl (lv_at hl 0 rfl) ?_
    cases h
    exact ret _ _ _ _ dX9_apart_21 hG
  · have h := ite_f h c_3
    refine lv_bipush (v := (24 : Int32)) hx hb dX9_apart_13 (by decide) ?_
    refine lv_iload_n hx hb dX9_apart_15 rfl (lv_at hl 0 rfl) ?_
    refine lv_isub hx hb dX9_apart_16 ?_
    refine lv_goto (tgt := 21) hx hb dX9_apart_17 (by decide) ?_
    cases h
    exact ret _ _ _ _ dX9_apart_21 hG
set_option maxRecDepth 100000 in
set_option maxHeartbeats 4000000 in
theorem mX9_placeOf (l : Launch) (dC : Nat → ClassId) (dI : Nat → Nat → Nat) (cI cJ : ClassId) (a : Nat → Nat) (c_length : Int32) (c_text : Nat → Int32) (c_stands : Nat → Int32) (c_homeFar : Nat → Int32) (c_nets : Nat → Int32) (c_netAt : Nat → Int32) (c_netWide : Nat → Int32) (c_netFrom : Nat → Int32) (c_netTo : Nat → Int32) (c_priceX : Nat → Int32) (c_priceY : Nat → Int32) (c_many : Nat → Int32) (c_days : Nat → Int32) (c_aims : Nat → Int32) (c_speeds : Nat → Int32) (c_kinds : Nat → Int32) (c_keptMany : Int32) (c_undoMany : Int32) (c_undos : Nat → Int32) (c_spot : Int32) (c_told : Nat → Int32) (c_to : Nat → Int32) (c_stood : Nat → Int32) (c_home : Nat → Int32) (c_lost : Nat → Int32) (c_out : Int32) (c_fewest : Nat → Int32) (c_ways : Nat → Int64) (c_next : Nat → Int64) (c_held : Nat → Int32) (x1 : Int32) {res : Int32} (hD : DX9_placeOf x1 c_days c_kinds c_to c_home = some res) : Met l yX9_placeOf (WZ yX9_placeOf cX9_placeOf 2 (some .int)) (RM 1 20) (PC dC dI cI cJ [.ref (a 0), .int x1] (W_X9 a cI cJ c_length c_text c_stands c_homeFar c_nets c_netAt c_netWide c_netFrom c_netTo c_priceX c_priceY c_many c_days c_aims c_speeds c_kinds c_keptMany c_undoMany c_undos c_spot c_told c_to c_stood c_home c_lost c_out c_fewest c_ways c_next c_held)) (QI dC dI (W_X9 a cI cJ c_length c_text c_stands c_homeFar c_nets c_netAt c_netWide c_netFrom c_netTo c_priceX c_priceY c_many c_days c_aims c_speeds c_kinds c_keptMany c_undoMany c_undos c_spot c_told c_to c_stood c_home c_lost c_out c_fewest c_ways c_next c_held) (W_X9 a cI cJ c_length c_text c_stands c_homeFar c_nets c_netAt c_netWide c_netFrom c_netTo c_priceX c_priceY c_many c_days c_aims c_speeds c_kinds c_keptMany c_undoMany c_undos c_spot c_told c_to c_stood c_home c_lost c_out c_fewest c_ways c_next c_held) res) 0 0 (FA (W_X9 a cI cJ c_length c_text c_stands c_homeFar c_nets c_netAt c_netWide c_netFrom c_netTo c_priceX c_priceY c_many c_days c_aims c_speeds c_kinds c_keptMany c_undoMany c_undos c_spot c_told c_to c_stood c_home c_lost c_out c_fewest c_ways c_next c_held)) := by
  refine r_metI (by decide +kernel) (Nat.le_of_ble_eq_true rfl) ?_
  intro p e s m args below meth c A H0 QQ X ret ls hl hG
  have X : Cx p m c cX9_placeOf 2 s args RX9 dC dI cI cJ meth (some .int) := X
  have hx := X.1.1
  have hb := X.1.2.1
  have hl : lv_has ls 2 [(0, .ref (a 0)), (1, .int x1)] := hl
  have h := hD
  unfold DX9_placeOf at h
  clear hD
  refine lv_aload_n hx hb dX9_placeOf_0 rfl (lv_at hl 0 rfl) ?_
  refine r_get X hG in_X9 rfl 21 (by decide) w_652 0 rfl rfl dX9_placeOf_1 ?_
  refine lv_iload_n hx hb dX9_placeOf_4 rfl (lv_at hl 1 rfl) ?_
  obtain ⟨g_1, h⟩ := gd h
  refine r_iald X hG 18 rfl g_1 dX9_placeOf_5 ?_
  refine lv_aload_n hx hb dX9_placeOf_6 rfl (lv_at hl 0 rfl) ?_
  refine r_get X hG in_X9 rfl 15 (by decide) w_646 0 rfl rfl dX9_placeOf_7 ?_
  refine lv_iload_n hx hb dX9_placeOf_10 rfl (lv_at hl 1 rfl) ?_
  obtain ⟨g_2, h⟩ := gd h
  refine r_iald X hG 15 rfl g_2 dX9_placeOf_11 ?_
  refine lv_iconst (v := (3 : Int32)) hx hb dX9_placeOf_12 (by decide) ?_
  refine lv_icmp_ne (tgt := 34) hx hb dX9_placeOf_13 (by decide) (fun c_3 => ?_) (fun c_3 => ?_)
  · have h := ite_f h c_3
    refine lv_iconst (v := (0 : Int32)) hx hb dX9_placeOf_34 (by decide) ?_
    refine lv_iadd hx hb dX9_placeOf_35 ?_
    obtain ⟨r_4, hz_5, h⟩ := bd1_some h
    refine aft_i (ws' := (W_X9 a cI cJ c_length c_text c_stands c_homeFar c_nets c_netAt c_netWide c_netFrom c_netTo c_priceX c_priceY c_many c_days c_aims c_speeds c_kinds c_keptMany c_undoMany c_undos c_spot c_told c_to c_stood c_home c_lost c_out c_fewest c_ways c_next c_held)) (run_S (rest := []) X hG hl.1 (mX9_around l dC dI cI cJ ((c_to x1.toNatClampNeg) + (0 : Int32)) hz_5) gi_S_X9_148 hd_S_yX9_around ⟨rfl, rfl⟩ rfl ⟨Nat.le_of_ble_eq_true rfl, Nat.le_of_ble_eq_true rfl⟩ [] (by decide) rfl rfl (Nat.le_of_ble_eq_true rfl) ⟨Nat.le_of_ble_eq_true rfl, Nat.le_of_ble_eq_true rfl⟩ dX9_placeOf_36) hG [] rfl rfl rfl (fun H locs hG => ?_)
    clear hz_5
    cases h
    exact ret _ _ _ _ dX9_placeOf_39 hG
  · have h := ite_t h c_3
    refine lv_aload_n hx hb dX9_placeOf_16 rfl (lv_at hl 0 rfl) ?_
    refine r_get X hG in_X9 rfl 23 (by decide) w_654 0 rfl rfl dX9_placeOf_17 ?_
    refine lv_iload_n hx hb dX9_placeOf_20 rfl (lv_at hl 1 rfl) ?_
    obtain ⟨g_6, h⟩ := gd h
    refine r_iald X hG 20 rfl g_6 dX9_placeOf_21 ?_
    refine lv_aload_n hx hb dX9_placeOf_22 rfl (lv_at hl 0 rfl) ?_
    refine r_get X hG in_X9 rfl 12 (by decide) w_643 0 rfl rfl dX9_placeOf_23 ?_
    refine lv_iload_n hx hb dX9_placeOf_26 rfl (lv_at hl 1 rfl) ?_
    obtain ⟨g_7, h⟩ := gd h
    refine r_iald X hG 12 rfl g_7 dX9_placeOf_27 ?_
    refine lv_isub hx hb dX9_placeOf_28 ?_
    refine lv_iconst (v := (4 : Int32)) hx hb dX9_placeOf_29 (by decide) ?_
    refine lv_idiv hx hb dX9_placeOf_30 (by decide) ?_
    refine lv_goto (tgt := 35) hx hb dX9_placeOf_31 (by decide) ?_
    refine lv_iadd hx hb dX9_placeOf_35 ?_
    obtain ⟨r_8, hz_9, h⟩ := bd1_some h
    refine aft_i (ws' := (W_X9 a cI cJ c_length c_text c_stands c_homeFar c_nets c_netAt c_netWide c_netFrom c_netTo c_priceX c_priceY c_many c_days c_aims c_speeds c_kinds c_keptMany c_undoMany c_undos c_spot c_told c_to c_stood c_home c_lost c_out c_fewest c_ways c_next c_held)) (run_S (rest := []) X hG hl.1 (mX9_around l dC dI cI cJ ((c_to x1.toNatClampNeg) + (((c_home x1.toNatClampNeg) - (c_days x1.toNatClampNeg)) / (4 : Int32))) hz_9) gi_S_X9_148 hd_S_yX9_around ⟨rfl, rfl⟩ rfl ⟨Nat.le_of_ble_eq_true rfl, Nat.le_of_ble_eq_true rfl⟩ [] (by decide) rfl rfl (Nat.le_of_ble_eq_true rfl) ⟨Nat.le_of_ble_eq_true rfl, Nat.le_of_ble_eq_true rfl⟩ dX9_placeOf_36) hG [] rfl rfl rfl (fun H locs hG => ?_)
    clear hz_9
    cases h
    exact ret _ _ _ _ dX9_placeOf_39 hG
set_option maxRecDepth 100000 in
set_option maxHeartbeats 4000000 in
theorem mX9_isCaught (l : Launch) (dC : Nat → ClassId) (dI : Nat → Nat → Nat) (cI cJ : ClassId) (a : Nat → Nat) (c_length : Int32) (c_text : Nat → Int32) (c_stands : Nat → Int32) (c_homeFar : Nat → Int32) (c_nets : Nat → Int32) (c_netAt : Nat → Int32) (c_netWide : Nat → Int32) (c_netFrom : Nat → Int32) (c_netTo : Nat → Int32) (c_priceX : Nat → Int32) (c_priceY : Nat → Int32) (c_many : Nat → Int32) (c_days : Nat → Int32) (c_aims : Nat → Int32) (c_speeds : Nat → Int32) (c_kinds : Nat → Int32) (c_keptMany : Int32) (c_undoMany : Int32) (c_undos : Nat → Int32) (c_spot : Int32) (c_told : Nat → Int32) (c_to : Nat → Int32) (c_stood : Nat → Int32) (c_home : Nat → Int32) (c_lost : Nat → Int32) (c_out : Int32) (c_fewest : Nat → Int32) (c_ways : Nat → Int64) (c_next : Nat → Int64) (c_held : Nat → Int32) (x1 : Int32) {res : Int32} (hD : DX9_isCaught x1 c_nets c_netAt c_netWide c_netFrom c_netTo c_days c_kinds c_to c_home = some res) : Met l yX9_isCaught (WZ yX9_isCaught cX9_isCaught 4 (some .boolean)) (RM 2 42) (PC dC dI cI cJ [.ref (a 0), .int x1] (W_X9 a cI cJ c_length c_text c_stands c_homeFar c_nets c_netAt c_netWide c_netFrom c_netTo c_priceX c_priceY c_many c_days c_aims c_speeds c_kinds c_keptMany c_undoMany c_undos c_spot c_told c_to c_stood c_home c_lost c_out c_fewest c_ways c_next c_held)) (QI dC dI (W_X9 a cI cJ c_length c_text c_stands c_homeFar c_nets c_netAt c_netWide c_netFrom c_netTo c_priceX c_priceY c_many c_days c_aims c_speeds c_kinds c_keptMany c_undoMany c_undos c_spot c_told c_to c_stood c_home c_lost c_out c_fewest c_ways c_next c_held) (W_X9 a cI cJ c_length c_text c_stands c_homeFar c_nets c_netAt c_netWide c_netFrom c_netTo c_priceX c_priceY c_many c_days c_aims c_speeds c_kinds c_keptMany c_undoMany c_undos c_spot c_told c_to c_stood c_home c_lost c_out c_fewest c_ways c_next c_held) res) 0 0 (FA (W_X9 a cI cJ c_length c_text c_stands c_homeFar c_nets c_netAt c_netWide c_netFrom c_netTo c_priceX c_priceY c_many c_days c_aims c_speeds c_kinds c_keptMany c_undoMany c_undos c_spot c_told c_to c_stood c_home c_lost c_out c_fewest c_ways c_next c_held)) := by
  refine r_metZ (by decide +kernel) (Nat.le_of_ble_eq_true rfl) ?_
  intro p e s m args below meth c A H0 QQ X ret ls hl hG
  have X : Cx p m c cX9_isCaught 4 s args RX9 dC dI cI cJ meth (some .boolean) := X
  have hx := X.1.1
  have hb := X.1.2.1
  have hl : lv_has ls 4 [(0, .ref (a 0)), (1, .int x1)] := hl
  have L4 : ∀ (n : Nat) (x2 : Int32) (x3 : Int32) (ex2 : Int32), DX9_isCaught_L4 x1 c_nets c_netAt c_netWide c_netFrom c_netTo c_days c_kinds c_to c_home n x2 x3 = some ex2 → (∀ (ls : Array Slot) (H : Heap) (locs : List Loc), lv_has ls 4 [(2, .int ex2)] → G dC dI A H0 (W_X9 a cI cJ c_length c_text c_stands c_homeFar c_nets c_netAt c_netWide c_netFrom c_netTo c_priceX c_priceY c_many c_days c_aims c_speeds c_kinds c_keptMany c_undoMany c_undos c_spot c_told c_to c_stood c_home c_lost c_out c_fewest c_ways c_next c_held) H locs → W p l e (RM 2 42) s m args below meth c H locs 0 0 QQ (F0 m 80 ls [])) → ∀ (ls : Array Slot) (H : Heap) (locs : List Loc), lv_has ls 4 [(0, .ref (a 0)), (1, .int x1), (2, .int x2), (3, .int x3)] → G dC dI A H0 (W_X9 a cI cJ c_length c_text c_stands c_homeFar c_nets c_netAt c_netWide c_netFrom c_netTo c_priceX c_priceY c_many c_days c_aims c_speeds c_kinds c_keptMany c_undoMany c_undos c_spot c_told c_to c_stood c_home c_lost c_out c_fewest c_ways c_next c_held) H locs → W p l e (RM 2 42) s m args below meth c H locs 0 0 QQ (F0 m 4 ls []) := by
    intro  n
    induction n with
    | zero => intro x2 x3 ex2 h; exact it_zero h
    | succ n ih =>
      intro x2 x3 ex2 h0 K0 ls H locs hl hG
      obtain ⟨w, h, hi, hr⟩ := it_succ h0
      have h : DX9_isCaught_L4s x1 c_nets c_netAt c_netWide c_netFrom c_netTo c_days c_kinds c_to c_home x2 x3 = some w := h
      have KC : ∀ (x2 : Int32) (x3 : Int32), w = .inl (x2, x3) → ∀ (ls : Array Slot) (H : Heap) (locs : List Loc), lv_has ls 4 [(0, .ref (a 0)), (1, .int x1), (2, .int x2), (3, .int x3)] → G dC dI A H0 (W_X9 a cI cJ c_length c_text c_stands c_homeFar c_nets c_netAt c_netWide c_netFrom c_netTo c_priceX c_priceY c_many c_days c_aims c_speeds c_kinds c_keptMany c_undoMany c_undos c_spot c_told c_to c_stood c_home c_lost c_out c_fewest c_ways c_next c_held) H locs → W p l e (RM 2 42) s m args below meth c H locs 0 0 QQ (F0 m 4 ls []) := fun b0 b1 e ls H locs hl hG => ih b0 b1 ex2 (hi _ e) K0 ls H locs hl hG
      have KX : ∀ (x2 : Int32), w = .inr x2 → ∀ (ls : Array Slot) (H : Heap) (locs : List Loc), lv_has ls 4 [(2, .int x2)] → G dC dI A H0 (W_X9 a cI cJ c_length c_text c_stands c_homeFar c_nets c_netAt c_netWide c_netFrom c_netTo c_priceX c_priceY c_many c_days c_aims c_speeds c_kinds c_keptMany c_undoMany c_undos c_spot c_told c_to c_stood c_home c_lost c_out c_fewest c_ways c_next c_held) H locs → W p l e (RM 2 42) s m args below meth c H locs 0 0 QQ (F0 m 80 ls []) := fun b0 e ls H locs hl hG => by cases hr _ e; exact K0 ls H locs hl hG
      clear h0 hi hr K0 ih
      unfold DX9_isCaught_L4s at h
      refine lv_iload_n hx hb dX9_isCaught_4 rfl (lv_at hl 3 rfl) ?_
      refine lv_aload_n hx hb dX9_isCaught_5 rfl (lv_at hl 0 rfl) ?_
      refine r_get X hG in_X9 rfl 4 (by decide) w_635 0 rfl rfl dX9_isCaught_6 ?_
      refine lv_iconst (v := (0 : Int32)) hx hb dX9_isCaught_9 (by decide) ?_
      refine r_iald X hG 4 rfl (vpd (by decide)) dX9_isCaught_10 ?_
      refine lv_icmp_ge (tgt := 80) hx hb dX9_isCaught_11 (by decide) (fun c_1 => ?_) (fun c_1 => ?_)
      · have h := ite_t h c_1
        exact KX _ (Option.some.inj h).symm _ _ _ (lv_sub hl [2] rfl) hG
      · have h := ite_f h c_1
        refine lv_iload_n hx hb dX9_isCaught_14 rfl (lv_at hl 2 rfl) ?_
        refine lv_if_ne (tgt := 68) hx hb dX9_isCaught_15 (by decide) (fun c_2 => ?_) (fun c_2 => ?_)
        · have h := ite_f h c_2
          refine lv_iconst (v := (1 : Int32)) hx hb dX9_isCaught_68 (by decide) ?_
          refine lv_goto (tgt := 73) hx hb dX9_isCaught_69 (by decide) ?_
          refine lv_istore_n (lv' := [(2, .int (1 : Int32)), (0, .ref (a 0)), (1, .int x1), (3, .int x3)]) hx hb dX9_isCaught_73 rfl hl (by decide) rfl (fun ls hl => ?_)
          refine lv_iinc (v := (x3 + (1 : Int32))) (lv' := [(3, .int (x3 + (1 : Int32))), (2, .int (1 : Int32)), (0, .ref (a 0)), (1, .int x1)]) hx hb dX9_isCaught_74 hl (k := 3) rfl rfl (by decide) rfl (fun ls hl => ?_)
          refine lv_goto (tgt := 4) hx hb dX9_isCaught_77 (by decide) ?_
          exact KC _ _ (Option.some.inj h).symm _ _ _ (lv_sub hl [2, 3, 1, 0] rfl) hG
        · have h := ite_t h c_2
          refine lv_aload_n hx hb dX9_isCaught_18 rfl (lv_at hl 0 rfl) ?_
          refine r_get X hG in_X9 rfl 23 (by decide) w_654 0 rfl rfl dX9_isCaught_19 ?_
          refine lv_iload_n hx hb dX9_isCaught_22 rfl (lv_at hl 1 rfl) ?_
          obtain ⟨g_3, h⟩ := gd h
          refine r_iald X hG 20 rfl g_3 dX9_isCaught_23 ?_
          refine lv_i2l (v := ((c_home x1.toNatClampNeg).toInt64)) hx hb dX9_isCaught_24 rfl ?_
          refine lv_aload_n hx hb dX9_isCaught_25 rfl (lv_at hl 0 rfl) ?_
          refine r_get X hG in_X9 rfl 7 (by decide) w_638 0 rfl rfl dX9_isCaught_26 ?_
          refine lv_iload_n hx hb dX9_isCaught_29 rfl (lv_at hl 3 rfl) ?_
          obtain ⟨g_4, h⟩ := gd h
          refine r_iald X hG 7 rfl g_4 dX9_isCaught_30 ?_
          refine lv_i2l (v := ((c_netFrom x3.toNatClampNeg).toInt64)) hx hb dX9_isCaught_31 rfl ?_
          refine lv_aload_n hx hb dX9_isCaught_32 rfl (lv_at hl 0 rfl) ?_
          refine r_get X hG in_X9 rfl 8 (by decide) w_639 0 rfl rfl dX9_isCaught_33 ?_
          refine lv_iload_n hx hb dX9_isCaught_36 rfl (lv_at hl 3 rfl) ?_
          obtain ⟨g_5, h⟩ := gd h
          refine r_iald X hG 8 rfl g_5 dX9_isCaught_37 ?_
          refine lv_i2l (v := ((c_netTo x3.toNatClampNeg).toInt64)) hx hb dX9_isCaught_38 rfl ?_
          obtain ⟨r_6, hz_7, h⟩ := bd1_some h
          refine aft_i (ws' := (W_X9 a cI cJ c_length c_text c_stands c_homeFar c_nets c_netAt c_netWide c_netFrom c_netTo c_priceX c_priceY c_many c_days c_aims c_speeds c_kinds c_keptMany c_undoMany c_undos c_spot c_told c_to c_stood c_home c_lost c_out c_fewest c_ways c_next c_held)) (run_S (rest := []) X hG hl.1 (mX9_in l dC dI cI cJ ((c_home x1.toNatClampNeg).toInt64) ((c_netFrom x3.toNatClampNeg).toInt64) ((c_netTo x3.toNatClampNeg).toInt64) hz_7) gi_S_X9_92 hd_S_yX9_in ⟨rfl, rfl⟩ rfl ⟨Nat.le_of_ble_eq_true rfl, Nat.le_of_ble_eq_true rfl⟩ [] (by decide) rfl rfl (Nat.le_of_ble_eq_true rfl) ⟨Nat.le_of_ble_eq_true rfl, Nat.le_of_ble_eq_true rfl⟩ dX9_isCaught_39) hG [] rfl rfl rfl (fun H locs hG => ?_)
          clear hz_7
          refine lv_if_eq (tgt := 72) hx hb dX9_isCaught_42 (by decide) (fun c_8 => ?_) (fun c_8 => ?_)
          · have h := ite_t h c_8
            refine lv_iconst (v := (0 : Int32)) hx hb dX9_isCaught_72 (by decide) ?_
            refine lv_istore_n (lv' := [(2, .int (0 : Int32)), (0, .ref (a 0)), (1, .int x1), (3, .int x3)]) hx hb dX9_isCaught_73 rfl hl (by decide) rfl (fun ls hl => ?_)
            refine lv_iinc (v := (x3 + (1 : Int32))) (lv' := [(3, .int (x3 + (1 : Int32))), (2, .int (0 : Int32)), (0, .ref (a 0)), (1, .int x1)]) hx hb dX9_isCaught_74 hl (k := 3) rfl rfl (by decide) rfl (fun ls hl => ?_)
            refine lv_goto (tgt := 4) hx hb dX9_isCaught_77 (by decide) ?_
            exact KC _ _ (Option.some.inj h).symm _ _ _ (lv_sub hl [2, 3, 1, 0] rfl) hG
          · have h := ite_f h c_8
            refine lv_aload_n hx hb dX9_isCaught_45 rfl (lv_at hl 0 rfl) ?_
            refine lv_iload_n hx hb dX9_isCaught_46 rfl (lv_at hl 1 rfl) ?_
            obtain ⟨r_9, hz_10, h⟩ := bd1_some h
            refine aft_i1 (run_V1 (rest := []) X hG hl.1 (mX9_placeOf l dC dI cI cJ a c_length c_text c_stands c_homeFar c_nets c_netAt c_netWide c_netFrom c_netTo c_priceX c_priceY c_many c_days c_aims c_speeds c_kinds c_keptMany c_undoMany c_undos c_spot c_told c_to c_stood c_home c_lost c_out c_fewest c_ways c_next c_held x1 hz_10) gi_V_X9_167 hd_V_yX9_placeOf ⟨rfl, rfl⟩ rfl ⟨Nat.le_of_ble_eq_true rfl, Nat.le_of_ble_eq_true rfl⟩ 0 rfl rfl rfl rfl (Nat.le_of_ble_eq_true rfl) ⟨Nat.le_of_ble_eq_true rfl, Nat.le_of_ble_eq_true rfl⟩ dX9_isCaught_47) hG rfl (fun H locs hG => ?_)
            clear hz_10
            refine lv_aload_n hx hb dX9_isCaught_50 rfl (lv_at hl 0 rfl) ?_
            refine r_get X hG in_X9 rfl 5 (by decide) w_636 0 rfl rfl dX9_isCaught_51 ?_
            refine lv_iload_n hx hb dX9_isCaught_54 rfl (lv_at hl 3 rfl) ?_
            obtain ⟨g_11, h⟩ := gd h
            refine r_iald X hG 5 rfl g_11 dX9_isCaught_55 ?_
            obtain ⟨r_12, hz_13, h⟩ := bd1_some h
            refine aft_i (ws' := (W_X9 a cI cJ c_length c_text c_stands c_homeFar c_nets c_netAt c_netWide c_netFrom c_netTo c_priceX c_priceY c_many c_days c_aims c_speeds c_kinds c_keptMany c_undoMany c_undos c_spot c_told c_to c_stood c_home c_lost c_out c_fewest c_ways c_next c_held)) (run_S (rest := []) X hG hl.1 (mX9_apart l dC dI cI cJ r_9 (c_netAt x3.toNatClampNeg) hz_13) gi_S_X9_170 hd_S_yX9_apart ⟨rfl, rfl⟩ rfl ⟨Nat.le_of_ble_eq_true rfl, Nat.le_of_ble_eq_true rfl⟩ [] (by decide) rfl rfl (Nat.le_of_ble_eq_true rfl) ⟨Nat.le_of_ble_eq_true rfl, Nat.le_of_ble_eq_true rfl⟩ dX9_isCaught_56) hG [] rfl rfl rfl (fun H locs hG => ?_)
            clear hz_13
            refine lv_aload_n hx hb dX9_isCaught_59 rfl (lv_at hl 0 rfl) ?_
            refine r_get X hG in_X9 rfl 6 (by decide) w_637 0 rfl rfl dX9_isCaught_60 ?_
            refine lv_iload_n hx hb dX9_isCaught_63 rfl (lv_at hl 3 rfl) ?_
            obtain ⟨g_14, h⟩ := gd h
            refine r_iald X hG 6 rfl g_14 dX9_isCaught_64 ?_
            refine lv_icmp_gt (tgt := 72) hx hb dX9_isCaught_65 (by decide) (fun c_15 => ?_) (fun c_15 => ?_)
            · have h := ite_t h c_15
              refine lv_iconst (v := (0 : Int32)) hx hb dX9_isCaught_72 (by decide) ?_
              refine lv_istore_n (lv' := [(2, .int (0 : Int32)), (0, .ref (a 0)), (1, .int x1), (3, .int x3)]) hx hb dX9_isCaught_73 rfl hl (by decide) rfl (fun ls hl => ?_)
              refine lv_iinc (v := (x3 + (1 : Int32))) (lv' := [(3, .int (x3 + (1 : Int32))), (2, .int (0 : Int32)), (0, .ref (a 0)), (1, .int x1)]) hx hb dX9_isCaught_74 hl (k := 3) rfl rfl (by decide) rfl (fun ls hl => ?_)
              refine lv_goto (tgt := 4) hx hb dX9_isCaught_77 (by decide) ?_
              exact KC _ _ (Option.some.inj h).symm _ _ _ (lv_sub hl [2, 3, 1, 0] rfl) hG
            · have h := ite_f h c_15
              refine lv_iconst (v := (1 : Int32)) hx hb dX9_isCaught_68 (by decide) ?_
              refine lv_goto (tgt := 73) hx hb dX9_isCaught_69 (by decide) ?_
              refine lv_istore_n (lv' := [(2, .int (1 : Int32)), (0, .ref (a 0)), (1, .int x1), (3, .int x3)]) hx hb dX9_isCaught_73 rfl hl (by decide) rfl (fun ls hl => ?_)
              refine lv_iinc (v := (x3 + (1 : Int32))) (lv' := [(3, .int (x3 + (1 : Int32))), (2, .int (1 : Int32)), (0, .ref (a 0)), (1, .int x1)]) hx hb dX9_isCaught_74 hl (k := 3) rfl rfl (by decide) rfl (fun ls hl => ?_)
              refine lv_goto (tgt := 4) hx hb dX9_isCaught_77 (by decide) ?_
              exact KC _ _ (Option.some.inj h).symm _ _ _ (lv_sub hl [2, 3, 1, 0] rfl) hG
  have h := hD
  unfold DX9_isCaught at h
  clear hD
  refine lv_iconst (v := (0 : Int32)) hx hb dX9_isCaught_0 (by decide) ?_
  refine lv_istore_n (lv' := [(2, .int (0 : Int32)), (0, .ref (a 0)), (1, .int x1)]) hx hb dX9_isCaught_1 rfl hl (by decide) rfl (fun ls hl => ?_)
  refine lv_iconst (v := (0 : Int32)) hx hb dX9_isCaught_2 (by decide) ?_
  refine lv_istore_n (lv' := [(3, .int (0 : Int32)), (2, .int (0 : Int32)), (0, .ref (a 0)), (1, .int x1)]) hx hb dX9_isCaught_3 rfl hl (by decide) rfl (fun ls hl => ?_)
  obtain ⟨z2_16, hz, h⟩ := bd1_some h
  refine L4  FU (0 : Int32) (0 : Int32) _ hz (fun ls H locs hl hG => ?_) _ _ _ (lv_sub hl [2, 3, 1, 0] rfl) hG
  clear hz
  refine lv_iload_n hx hb dX9_isCaught_80 rfl (lv_at hl 0 rfl) ?_
  obtain ⟨g_17, h⟩ := gd h
  cases h
  exact ret _ _ _ _ dX9_isCaught_81 (Decidable.not_not.mp g_17) hG
set_option maxRecDepth 100000 in
set_option maxHeartbeats 4000000 in
theorem mX9_howOf (l : Launch) (dC : Nat → ClassId) (dI : Nat → Nat → Nat) (cI cJ : ClassId) (a : Nat → Nat) (c_length : Int32) (c_text : Nat → Int32) (c_stands : Nat → Int32) (c_homeFar : Nat → Int32) (c_nets : Nat → Int32) (c_netAt : Nat → Int32) (c_netWide : Nat → Int32) (c_netFrom : Nat → Int32) (c_netTo : Nat → Int32) (c_priceX : Nat → Int32) (c_priceY : Nat → Int32) (c_many : Nat → Int32) (c_days : Nat → Int32) (c_aims : Nat → Int32) (c_speeds : Nat → Int32) (c_kinds : Nat → Int32) (c_keptMany : Int32) (c_undoMany : Int32) (c_undos : Nat → Int32) (c_spot : Int32) (c_told : Nat → Int32) (c_to : Nat → Int32) (c_stood : Nat → Int32) (c_home : Nat → Int32) (c_lost : Nat → Int32) (c_out : Int32) (c_fewest : Nat → Int32) (c_ways : Nat → Int64) (c_next : Nat → Int64) (c_held : Nat → Int32) (x1 : Int32) {res : Int32} (hD : DX9_howOf x1 c_nets c_netAt c_netWide c_netFrom c_netTo c_days c_kinds c_to c_home c_lost = some res) : Met l yX9_howOf (WZ yX9_howOf cX9_howOf 2 (some .int)) (RM 3 65) (PC dC dI cI cJ [.ref (a 0), .int x1] (W_X9 a cI cJ c_length c_text c_stands c_homeFar c_nets c_netAt c_netWide c_netFrom c_netTo c_priceX c_priceY c_many c_days c_aims c_speeds c_kinds c_keptMany c_undoMany c_undos c_spot c_told c_to c_stood c_home c_lost c_out c_fewest c_ways c_next c_held)) (QI dC dI (W_X9 a cI cJ c_length c_text c_stands c_homeFar c_nets c_netAt c_netWide c_netFrom c_netTo c_priceX c_priceY c_many c_days c_aims c_speeds c_kinds c_keptMany c_undoMany c_undos c_spot c_told c_to c_stood c_home c_lost c_out c_fewest c_ways c_next c_held) (W_X9 a cI cJ c_length c_text c_stands c_homeFar c_nets c_netAt c_netWide c_netFrom c_netTo c_priceX c_priceY c_many c_days c_aims c_speeds c_kinds c_keptMany c_undoMany c_undos c_spot c_told c_to c_stood c_home c_lost c_out c_fewest c_ways c_next c_held) res) 0 0 (FA (W_X9 a cI cJ c_length c_text c_stands c_homeFar c_nets c_netAt c_netWide c_netFrom c_netTo c_priceX c_priceY c_many c_days c_aims c_speeds c_kinds c_keptMany c_undoMany c_undos c_spot c_told c_to c_stood c_home c_lost c_out c_fewest c_ways c_next c_held)) := by
  refine r_metI (by decide +kernel) (Nat.le_of_ble_eq_true rfl) ?_
  intro p e s m args below meth c A H0 QQ X ret ls hl hG
  have X : Cx p m c cX9_howOf 2 s args RX9 dC dI cI cJ meth (some .int) := X
  have hx := X.1.1
  have hb := X.1.2.1
  have hl : lv_has ls 2 [(0, .ref (a 0)), (1, .int x1)] := hl
  have h := hD
  unfold DX9_howOf at h
  clear hD
  refine lv_aload_n hx hb dX9_howOf_0 rfl (lv_at hl 0 rfl) ?_
  refine r_get X hG in_X9 rfl 24 (by decide) w_655 0 rfl rfl dX9_howOf_1 ?_
  refine lv_iload_n hx hb dX9_howOf_4 rfl (lv_at hl 1 rfl) ?_
  obtain ⟨g_1, h⟩ := gd h
  refine r_iald X hG 21 rfl g_1 dX9_howOf_5 ?_
  refine lv_sipush (v := (10000 : Int32)) hx hb dX9_howOf_6 (by decide) ?_
  refine lv_icmp_ge (tgt := 16) hx hb dX9_howOf_9 (by decide) (fun c_2 => ?_) (fun c_2 => ?_)
  · have h := ite_t h c_2
    refine lv_aload_n hx hb dX9_howOf_16 rfl (lv_at hl 0 rfl) ?_
    refine lv_iload_n hx hb dX9_howOf_17 rfl (lv_at hl 1 rfl) ?_
    obtain ⟨r_3, hz_4, h⟩ := bd1_some h
    refine aft_i1 (run_V1 (rest := []) X hG hl.1 (mX9_isCaught l dC dI cI cJ a c_length c_text c_stands c_homeFar c_nets c_netAt c_netWide c_netFrom c_netTo c_priceX c_priceY c_many c_days c_aims c_speeds c_kinds c_keptMany c_undoMany c_undos c_spot c_told c_to c_stood c_home c_lost c_out c_fewest c_ways c_next c_held x1 hz_4) gi_V_X9_173 hd_V_yX9_isCaught ⟨rfl, rfl⟩ rfl ⟨Nat.le_of_ble_eq_true rfl, Nat.le_of_ble_eq_true rfl⟩ 0 rfl rfl rfl rfl (Nat.le_of_ble_eq_true rfl) ⟨Nat.le_of_ble_eq_true rfl, Nat.le_of_ble_eq_true rfl⟩ dX9_howOf_18) hG rfl (fun H locs hG => ?_)
    clear hz_4
    refine lv_if_eq (tgt := 28) hx hb dX9_howOf_21 (by decide) (fun c_5 => ?_) (fun c_5 => ?_)
    · have h := ite_t h c_5
      refine lv_iconst (v := (1 : Int32)) hx hb dX9_howOf_28 (by decide) ?_
      cases h
      exact ret _ _ _ _ dX9_howOf_29 hG
    · have h := ite_f h c_5
      refine lv_iconst (v := (0 : Int32)) hx hb dX9_howOf_24 (by decide) ?_
      refine lv_goto (tgt := 29) hx hb dX9_howOf_25 (by decide) ?_
      cases h
      exact ret _ _ _ _ dX9_howOf_29 hG
  · have h := ite_f h c_2
    refine lv_iconst (v := (2 : Int32)) hx hb dX9_howOf_12 (by decide) ?_
    refine lv_goto (tgt := 29) hx hb dX9_howOf_13 (by decide) ?_
    cases h
    exact ret _ _ _ _ dX9_howOf_29 hG
set_option maxRecDepth 100000 in
set_option maxHeartbeats 4000000 in
theorem mX9_priceOf (l : Launch) (dC : Nat → ClassId) (dI : Nat → Nat → Nat) (cI cJ : ClassId) (a : Nat → Nat) (c_length : Int32) (c_text : Nat → Int32) (c_stands : Nat → Int32) (c_homeFar : Nat → Int32) (c_nets : Nat → Int32) (c_netAt : Nat → Int32) (c_netWide : Nat → Int32) (c_netFrom : Nat → Int32) (c_netTo : Nat → Int32) (c_priceX : Nat → Int32) (c_priceY : Nat → Int32) (c_many : Nat → Int32) (c_days : Nat → Int32) (c_aims : Nat → Int32) (c_speeds : Nat → Int32) (c_kinds : Nat → Int32) (c_keptMany : Int32) (c_undoMany : Int32) (c_undos : Nat → Int32) (c_spot : Int32) (c_told : Nat → Int32) (c_to : Nat → Int32) (c_stood : Nat → Int32) (c_home : Nat → Int32) (c_lost : Nat → Int32) (c_out : Int32) (c_fewest : Nat → Int32) (c_ways : Nat → Int64) (c_next : Nat → Int64) (c_held : Nat → Int32) (x1 : Int32) {res : Int32} (hD : DX9_priceOf x1 c_priceX c_priceY = some res) : Met l yX9_priceOf (WZ yX9_priceOf cX9_priceOf 2 (some .int)) (RM 0 0) (PC dC dI cI cJ [.ref (a 0), .int x1] (W_X9 a cI cJ c_length c_text c_stands c_homeFar c_nets c_netAt c_netWide c_netFrom c_netTo c_priceX c_priceY c_many c_days c_aims c_speeds c_kinds c_keptMany c_undoMany c_undos c_spot c_told c_to c_stood c_home c_lost c_out c_fewest c_ways c_next c_held)) (QI dC dI (W_X9 a cI cJ c_length c_text c_stands c_homeFar c_nets c_netAt c_netWide c_netFrom c_netTo c_priceX c_priceY c_many c_days c_aims c_speeds c_kinds c_keptMany c_undoMany c_undos c_spot c_told c_to c_stood c_home c_lost c_out c_fewest c_ways c_next c_held) (W_X9 a cI cJ c_length c_text c_stands c_homeFar c_nets c_netAt c_netWide c_netFrom c_netTo c_priceX c_priceY c_many c_days c_aims c_speeds c_kinds c_keptMany c_undoMany c_undos c_spot c_told c_to c_stood c_home c_lost c_out c_fewest c_ways c_next c_held) res) 0 0 (FA (W_X9 a cI cJ c_length c_text c_stands c_homeFar c_nets c_netAt c_netWide c_netFrom c_netTo c_priceX c_priceY c_many c_days c_aims c_speeds c_kinds c_keptMany c_undoMany c_undos c_spot c_told c_to c_stood c_home c_lost c_out c_fewest c_ways c_next c_held)) := by
  refine r_metI (by decide +kernel) (Nat.le_of_ble_eq_true rfl) ?_
  intro p e s m args below meth c A H0 QQ X ret ls hl hG
  have X : Cx p m c cX9_priceOf 2 s args RX9 dC dI cI cJ meth (some .int) := X
  have hx := X.1.1
  have hb := X.1.2.1
  have hl : lv_has ls 2 [(0, .ref (a 0)), (1, .int x1)] := hl
  have h := hD
  unfold DX9_priceOf at h
  clear hD
  refine lv_aload_n hx hb dX9_priceOf_0 rfl (lv_at hl 0 rfl) ?_
  refine r_get X hG in_X9 rfl 9 (by decide) w_640 0 rfl rfl dX9_priceOf_1 ?_
  refine lv_iconst (v := (0 : Int32)) hx hb dX9_priceOf_4 (by decide) ?_
  refine r_iald X hG 9 rfl (vpd (by decide)) dX9_priceOf_5 ?_
  refine lv_aload_n hx hb dX9_priceOf_6 rfl (lv_at hl 0 rfl) ?_
  refine r_get X hG in_X9 rfl 10 (by decide) w_641 0 rfl rfl dX9_priceOf_7 ?_
  refine lv_iconst (v := (0 : Int32)) hx hb dX9_priceOf_10 (by decide) ?_
  refine r_iald X hG 10 rfl (vpd (by decide)) dX9_priceOf_11 ?_
  refine lv_iload_n hx hb dX9_priceOf_12 rfl (lv_at hl 1 rfl) ?_
  refine lv_imul hx hb dX9_priceOf_13 ?_
  refine lv_iadd hx hb dX9_priceOf_14 ?_
  refine lv_bipush (v := (50 : Int32)) hx hb dX9_priceOf_15 (by decide) ?_
  refine lv_irem hx hb dX9_priceOf_17 (by decide) ?_
  refine lv_iconst (v := (1 : Int32)) hx hb dX9_priceOf_18 (by decide) ?_
  refine lv_iadd hx hb dX9_priceOf_19 ?_
  cases h
  exact ret _ _ _ _ dX9_priceOf_20 hG
set_option maxRecDepth 100000 in
set_option maxHeartbeats 4000000 in
theorem mX9_paidOf (l : Launch) (dC : Nat → ClassId) (dI : Nat → Nat → Nat) (cI cJ : ClassId) (a : Nat → Nat) (c_length : Int32) (c_text : Nat → Int32) (c_stands : Nat → Int32) (c_homeFar : Nat → Int32) (c_nets : Nat → Int32) (c_netAt : Nat → Int32) (c_netWide : Nat → Int32) (c_netFrom : Nat → Int32) (c_netTo : Nat → Int32) (c_priceX : Nat → Int32) (c_priceY : Nat → Int32) (c_many : Nat → Int32) (c_days : Nat → Int32) (c_aims : Nat → Int32) (c_speeds : Nat → Int32) (c_kinds : Nat → Int32) (c_keptMany : Int32) (c_undoMany : Int32) (c_undos : Nat → Int32) (c_spot : Int32) (c_told : Nat → Int32) (c_to : Nat → Int32) (c_stood : Nat → Int32) (c_home : Nat → Int32) (c_lost : Nat → Int32) (c_out : Int32) (c_fewest : Nat → Int32) (c_ways : Nat → Int64) (c_next : Nat → Int64) (c_held : Nat → Int32) (x1 : Int32) {res : Int32} (hD : DX9_paidOf x1 c_nets c_netAt c_netWide c_netFrom c_netTo c_priceX c_priceY c_days c_kinds c_to c_home c_lost = some res) : Met l yX9_paidOf (WZ yX9_paidOf cX9_paidOf 2 (some .int)) (RM 4 86) (PC dC dI cI cJ [.ref (a 0), .int x1] (W_X9 a cI cJ c_length c_text c_stands c_homeFar c_nets c_netAt c_netWide c_netFrom c_netTo c_priceX c_priceY c_many c_days c_aims c_speeds c_kinds c_keptMany c_undoMany c_undos c_spot c_told c_to c_stood c_home c_lost c_out c_fewest c_ways c_next c_held)) (QI dC dI (W_X9 a cI cJ c_length c_text c_stands c_homeFar c_nets c_netAt c_netWide c_netFrom c_netTo c_priceX c_priceY c_many c_days c_aims c_speeds c_kinds c_keptMany c_undoMany c_undos c_spot c_told c_to c_stood c_home c_lost c_out c_fewest c_ways c_next c_held) (W_X9 a cI cJ c_length c_text c_stands c_homeFar c_nets c_netAt c_netWide c_netFrom c_netTo c_priceX c_priceY c_many c_days c_aims c_speeds c_kinds c_keptMany c_undoMany c_undos c_spot c_told c_to c_stood c_home c_lost c_out c_fewest c_ways c_next c_held) res) 0 0 (FA (W_X9 a cI cJ c_length c_text c_stands c_homeFar c_nets c_netAt c_netWide c_netFrom c_netTo c_priceX c_priceY c_many c_days c_aims c_speeds c_kinds c_keptMany c_undoMany c_undos c_spot c_told c_to c_stood c_home c_lost c_out c_fewest c_ways c_next c_held)) := by
  refine r_metI (by decide +kernel) (Nat.le_of_ble_eq_true rfl) ?_
  intro p e s m args below meth c A H0 QQ X ret ls hl hG
  have X : Cx p m c cX9_paidOf 2 s args RX9 dC dI cI cJ meth (some .int) := X
  have hx := X.1.1
  have hb := X.1.2.1
  have hl : lv_has ls 2 [(0, .ref (a 0)), (1, .int x1)] := hl
  have h := hD
  unfold DX9_paidOf at h
  clear hD
  refine lv_aload_n hx hb dX9_paidOf_0 rfl (lv_at hl 0 rfl) ?_
  refine lv_iload_n hx hb dX9_paidOf_1 rfl (lv_at hl 1 rfl) ?_
  obtain ⟨r_1, hz_2, h⟩ := bd1_some h
  refine aft_i1 (run_V1 (rest := []) X hG hl.1 (mX9_howOf l dC dI cI cJ a c_length c_text c_stands c_homeFar c_nets c_netAt c_netWide c_netFrom c_netTo c_priceX c_priceY c_many c_days c_aims c_speeds c_kinds c_keptMany c_undoMany c_undos c_spot c_told c_to c_stood c_home c_lost c_out c_fewest c_ways c_next c_held x1 hz_2) gi_V_X9_176 hd_V_yX9_howOf ⟨rfl, rfl⟩ rfl ⟨Nat.le_of_ble_eq_true rfl, Nat.le_of_ble_eq_true rfl⟩ 0 rfl rfl rfl rfl (Nat.le_of_ble_eq_true rfl) ⟨Nat.le_of_ble_eq_true rfl, Nat.le_of_ble_eq_true rfl⟩ dX9_paidOf_2) hG rfl (fun H locs hG => ?_)
  clear hz_2
  refine lv_if_ne (tgt := 21) hx hb dX9_paidOf_5 (by decide) (fun c_3 => ?_) (fun c_3 => ?_)
  · have h := ite_f h c_3
    refine lv_iconst (v := (0 : Int32)) hx hb dX9_paidOf_21 (by decide) ?_
    cases h
    exact ret _ _ _ _ dX9_paidOf_22 hG
  · have h := ite_t h c_3
    refine lv_aload_n hx hb dX9_paidOf_8 rfl (lv_at hl 0 rfl) ?_
    refine lv_aload_n hx hb dX9_paidOf_9 rfl (lv_at hl 0 rfl) ?_
    refine r_get X hG in_X9 rfl 23 (by decide) w_654 0 rfl rfl dX9_paidOf_10 ?_
    refine lv_iload_n hx hb dX9_paidOf_13 rfl (lv_at hl 1 rfl) ?_
    obtain ⟨g_4, h⟩ := gd h
    refine r_iald X hG 20 rfl g_4 dX9_paidOf_14 ?_
    obtain ⟨r_5, hz_6, h⟩ := bd1_some h
    refine aft_i1 (run_V1 (rest := []) X hG hl.1 (mX9_priceOf l dC dI cI cJ a c_length c_text c_stands c_homeFar c_nets c_netAt c_netWide c_netFrom c_netTo c_priceX c_priceY c_many c_days c_aims c_speeds c_kinds c_keptMany c_undoMany c_undos c_spot c_told c_to c_stood c_home c_lost c_out c_fewest c_ways c_next c_held (c_home x1.toNatClampNeg) hz_6) gi_V_X9_179 hd_V_yX9_priceOf ⟨rfl, rfl⟩ rfl ⟨Nat.le_of_ble_eq_true rfl, Nat.le_of_ble_eq_true rfl⟩ 0 rfl rfl rfl rfl (Nat.le_of_ble_eq_true rfl) ⟨Nat.le_of_ble_eq_true rfl, Nat.le_of_ble_eq_true rfl⟩ dX9_paidOf_15) hG rfl (fun H locs hG => ?_)
    clear hz_6
    refine lv_goto (tgt := 22) hx hb dX9_paidOf_18 (by decide) ?_
    cases h
    exact ret _ _ _ _ dX9_paidOf_22 hG
