/-! CONTRACTS, laid by wip/gen/lay.py: yX9_write, yX9_wipe, yX9_byteAt, yX9_figures -/
set_option maxRecDepth 100000 in
set_option maxHeartbeats 4000000 in
theorem mX9_write (l : Launch) (dC : Nat → ClassId) (dI : Nat → Nat → Nat) (cI cJ : ClassId) (a : Nat → Nat) (c_length : Int32) (c_text : Nat → Int32) (c_stands : Nat → Int32) (c_homeFar : Nat → Int32) (c_nets : Nat → Int32) (c_netAt : Nat → Int32) (c_netWide : Nat → Int32) (c_netFrom : Nat → Int32) (c_netTo : Nat → Int32) (c_priceX : Nat → Int32) (c_priceY : Nat → Int32) (c_many : Nat → Int32) (c_days : Nat → Int32) (c_aims : Nat → Int32) (c_speeds : Nat → Int32) (c_kinds : Nat → Int32) (c_keptMany : Int32) (c_undoMany : Int32) (c_undos : Nat → Int32) (c_spot : Int32) (c_told : Nat → Int32) (c_to : Nat → Int32) (c_stood : Nat → Int32) (c_home : Nat → Int32) (c_lost : Nat → Int32) (c_out : Int32) (c_fewest : Nat → Int32) (c_ways : Nat → Int64) (c_next : Nat → Int64) (c_held : Nat → Int32) (x1 : Int32) (x2 : Int64) {res : Int32} {n_length : Int32} {n_text : Nat → Int32} (hD : DX9_write x1 x2 c_length c_text = some (res, n_length, n_text)) : Met l yX9_write (WZ yX9_write cX9_write 5 (some .int)) (RM 1 25) (PC dC dI cI cJ [.ref (a 0), .int x1, .long x2] (W_X9 a cI cJ c_length c_text c_stands c_homeFar c_nets c_netAt c_netWide c_netFrom c_netTo c_priceX c_priceY c_many c_days c_aims c_speeds c_kinds c_keptMany c_undoMany c_undos c_spot c_told c_to c_stood c_home c_lost c_out c_fewest c_ways c_next c_held)) (QI dC dI (W_X9 a cI cJ c_length c_text c_stands c_homeFar c_nets c_netAt c_netWide c_netFrom c_netTo c_priceX c_priceY c_many c_days c_aims c_speeds c_kinds c_keptMany c_undoMany c_undos c_spot c_told c_to c_stood c_home c_lost c_out c_fewest c_ways c_next c_held) (W_X9 a cI cJ n_length n_text c_stands c_homeFar c_nets c_netAt c_netWide c_netFrom c_netTo c_priceX c_priceY c_many c_days c_aims c_speeds c_kinds c_keptMany c_undoMany c_undos c_spot c_told c_to c_stood c_home c_lost c_out c_fewest c_ways c_next c_held) res) 0 0 (FA (W_X9 a cI cJ c_length c_text c_stands c_homeFar c_nets c_netAt c_netWide c_netFrom c_netTo c_priceX c_priceY c_many c_days c_aims c_speeds c_kinds c_keptMany c_undoMany c_undos c_spot c_told c_to c_stood c_home c_lost c_out c_fewest c_ways c_next c_held)) := by
  refine r_metI (by decide +kernel) (Nat.le_of_ble_eq_true rfl) ?_
  intro p e s m args below meth c A H0 QQ X ret ls hl hG
  have X : Cx p m c cX9_write 5 s args RX9 dC dI cI cJ meth (some .int) := X
  have hx := X.1.1
  have hb := X.1.2.1
  have hl : lv_has ls 5 [(0, .ref (a 0)), (1, .int x1), (2, .long x2)] := hl
  have L34 : ∀ (n : Nat) (x4 : Int32) (c_length : Int32) (c_text : Nat → Int32) (ec_length : Int32) (ec_text : Nat → Int32), DX9_write_L34 x2 n x4 c_length c_text = some (ec_length, ec_text) → (∀ (ls : Array Slot) (H : Heap) (locs : List Loc), lv_has ls 5 [(0, .ref (a 0))] → G dC dI A H0 (W_X9 a cI cJ ec_length ec_text c_stands c_homeFar c_nets c_netAt c_netWide c_netFrom c_netTo c_priceX c_priceY c_many c_days c_aims c_speeds c_kinds c_keptMany c_undoMany c_undos c_spot c_told c_to c_stood c_home c_lost c_out c_fewest c_ways c_next c_held) H locs → W p l e (RM 1 25) s m args below meth c H locs 0 0 QQ (F0 m 76 ls [])) → ∀ (ls : Array Slot) (H : Heap) (locs : List Loc), lv_has ls 5 [(0, .ref (a 0)), (2, .long x2), (4, .int x4)] → G dC dI A H0 (W_X9 a cI cJ c_length c_text c_stands c_homeFar c_nets c_netAt c_netWide c_netFrom c_netTo c_priceX c_priceY c_many c_days c_aims c_speeds c_kinds c_keptMany c_undoMany c_undos c_spot c_told c_to c_stood c_home c_lost c_out c_fewest c_ways c_next c_held) H locs → W p l e (RM 1 25) s m args below meth c H locs 0 0 QQ (F0 m 34 ls []) := by
    intro  n
    induction n with
    | zero => intro x4 c_length c_text ec_length ec_text h; exact it_zero h
    | succ n ih =>
      intro x4 c_length c_text ec_length ec_text h0 K0 ls H locs hl hG
      obtain ⟨w, h, hi, hr⟩ := it_succ h0
      have h : DX9_write_L34s x2 x4 c_length c_text = some w := h
      have KC : ∀ (x4 : Int32) (c_length : Int32) (c_text : Nat → Int32), w = .inl (x4, c_length, c_text) → ∀ (ls : Array Slot) (H : Heap) (locs : List Loc), lv_has ls 5 [(0, .ref (a 0)), (2, .long x2), (4, .int x4)] → G dC dI A H0 (W_X9 a cI cJ c_length c_text c_stands c_homeFar c_nets c_netAt c_netWide c_netFrom c_netTo c_priceX c_priceY c_many c_days c_aims c_speeds c_kinds c_keptMany c_undoMany c_undos c_spot c_told c_to c_stood c_home c_lost c_out c_fewest c_ways c_next c_held) H locs → W p l e (RM 1 25) s m args below meth c H locs 0 0 QQ (F0 m 34 ls []) := fun b0 b1 b2 e ls H locs hl hG => ih b0 b1 b2 ec_length ec_text (hi _ e) K0 ls H locs hl hG
      have KX : ∀ (c_length : Int32) (c_text : Nat → Int32), w = .inr (c_length, c_text) → ∀ (ls : Array Slot) (H : Heap) (locs : List Loc), lv_has ls 5 [(0, .ref (a 0))] → G dC dI A H0 (W_X9 a cI cJ c_length c_text c_stands c_homeFar c_nets c_netAt c_netWide c_netFrom c_netTo c_priceX c_priceY c_many c_days c_aims c_speeds c_kinds c_keptMany c_undoMany c_undos c_spot c_told c_to c_stood c_home c_lost c_out c_fewest c_ways c_next c_held) H locs → W p l e (RM 1 25) s m args below meth c H locs 0 0 QQ (F0 m 76 ls []) := fun b0 b1 e ls H locs hl hG => by cases hr _ e; exact K0 ls H locs hl hG
      clear h0 hi hr K0 ih
      unfold DX9_write_L34s at h
      refine lv_iload hx hb dX9_write_34 (lv_at hl 2 rfl) ?_
      refine lv_if_lt (tgt := 76) hx hb dX9_write_36 (by decide) (fun c_5 => ?_) (fun c_5 => ?_)
      · have h := ite_t h c_5
        exact KX _ _ (Option.some.inj h).symm _ _ _ (lv_sub hl [0] rfl) hG
      · have h := ite_f h c_5
        refine lv_aload_n hx hb dX9_write_39 rfl (lv_at hl 0 rfl) ?_
        refine r_get X hG in_X9 rfl 1 (by decide) w_632 0 rfl rfl dX9_write_40 ?_
        refine lv_aload_n hx hb dX9_write_43 rfl (lv_at hl 0 rfl) ?_
        refine r_get X hG in_X9 rfl 0 (by decide) w_631 0 rfl rfl dX9_write_44 ?_
        refine lv_lload_n hx hb dX9_write_47 rfl (lv_at hl 1 rfl) ?_
        refine lv_bipush (v := (8 : Int32)) hx hb dX9_write_48 (by decide) ?_
        refine lv_iload hx hb dX9_write_50 (lv_at hl 2 rfl) ?_
        refine lv_imul hx hb dX9_write_52 ?_
        refine lv_lshr (v := ((x2 >>> (((8 : Int32) * x4).toInt64 &&& 63)))) hx hb dX9_write_53 rfl ?_
        refine lv_ldc2 (v := (255 : Int64)) hx hb X.1.2.2.2.1 (X.1.2.2.2.2 _ w_731) dX9_write_54 ?_
        refine lv_land hx hb dX9_write_57 ?_
        refine lv_l2i (v := ((((x2 >>> (((8 : Int32) * x4).toInt64 &&& 63))) &&& (255 : Int64)).toInt32)) hx hb dX9_write_58 rfl ?_
        obtain ⟨g_6, h⟩ := gd h
        refine r_iast X hG 1 (ws' := (W_X9 a cI cJ c_length (upd c_text c_length.toNatClampNeg ((((x2 >>> (((8 : Int32) * x4).toInt64 &&& 63))) &&& (255 : Int64)).toInt32)) c_stands c_homeFar c_nets c_netAt c_netWide c_netFrom c_netTo c_priceX c_priceY c_many c_days c_aims c_speeds c_kinds c_keptMany c_undoMany c_undos c_spot c_told c_to c_stood c_home c_lost c_out c_fewest c_ways c_next c_held)) rfl g_6 rfl dX9_write_59 (fun H locs hG => ?_)
        refine lv_aload_n hx hb dX9_write_60 rfl (lv_at hl 0 rfl) ?_
        refine lv_dup hx hb dX9_write_61 rfl ?_
        refine r_get X hG in_X9 rfl 0 (by decide) w_631 0 rfl rfl dX9_write_62 ?_
        refine lv_iconst (v := (1 : Int32)) hx hb dX9_write_65 (by decide) ?_
        refine lv_iadd hx hb dX9_write_66 ?_
        refine r_put X hG in_X9 rfl tyX9 tyX9_ok nmX9 0 (by decide) rfl (by decide +kernel) w_631 0 (ws' := (W_X9 a cI cJ (c_length + (1 : Int32)) (upd c_text c_length.toNatClampNeg ((((x2 >>> (((8 : Int32) * x4).toInt64 &&& 63))) &&& (255 : Int64)).toInt32)) c_stands c_homeFar c_nets c_netAt c_netWide c_netFrom c_netTo c_priceX c_priceY c_many c_days c_aims c_speeds c_kinds c_keptMany c_undoMany c_undos c_spot c_told c_to c_stood c_home c_lost c_out c_fewest c_ways c_next c_held)) rfl (Nat.le_of_ble_eq_true rfl) rfl dX9_write_67 (fun H locs hG => ?_)
        refine lv_iinc (v := (x4 + (-1 : Int32))) (lv' := [(4, .int (x4 + (-1 : Int32))), (0, .ref (a 0)), (2, .long x2)]) hx hb dX9_write_70 hl (k := 2) rfl rfl (by decide) rfl (fun ls hl => ?_)
        refine lv_goto (tgt := 34) hx hb dX9_write_73 (by decide) ?_
        exact KC _ _ _ (Option.some.inj h).symm _ _ _ (lv_sub hl [1, 2, 0] rfl) hG
  have h := hD
  unfold DX9_write at h
  clear hD
  refine lv_iload_n hx hb dX9_write_0 rfl (lv_at hl 1 rfl) ?_
  refine lv_i2l (v := (x1.toInt64)) hx hb dX9_write_1 rfl ?_
  refine lv_lconst (v := (1 : Int64)) hx hb dX9_write_2 (by decide) ?_
  refine lv_ldc2 (v := (8 : Int64)) hx hb X.1.2.2.2.1 (X.1.2.2.2.2 _ w_727) dX9_write_3 ?_
  obtain ⟨r_1, hz_2, h⟩ := bd1_some h
  refine aft_i (ws' := (W_X9 a cI cJ c_length c_text c_stands c_homeFar c_nets c_netAt c_netWide c_netFrom c_netTo c_priceX c_priceY c_many c_days c_aims c_speeds c_kinds c_keptMany c_undoMany c_undos c_spot c_told c_to c_stood c_home c_lost c_out c_fewest c_ways c_next c_held)) (run_S (rest := []) X hG hl.1 (mX9_in l dC dI cI cJ (x1.toInt64) (1 : Int64) (8 : Int64) hz_2) gi_S_X9_92 hd_S_yX9_in ⟨rfl, rfl⟩ rfl ⟨Nat.le_of_ble_eq_true rfl, Nat.le_of_ble_eq_true rfl⟩ [] (by decide) rfl rfl (Nat.le_of_ble_eq_true rfl) ⟨Nat.le_of_ble_eq_true rfl, Nat.le_of_ble_eq_true rfl⟩ dX9_write_6) hG [] rfl rfl rfl (fun H locs hG => ?_)
  clear hz_2
  refine lv_if_ne (tgt := 14) hx hb dX9_write_9 (by decide) (fun c_3 => ?_) (fun c_3 => ?_)
  · have h := ite_f h c_3
    refine lv_aload_n hx hb dX9_write_14 rfl (lv_at hl 0 rfl) ?_
    refine r_get X hG in_X9 rfl 0 (by decide) w_631 0 rfl rfl dX9_write_15 ?_
    refine lv_iload_n hx hb dX9_write_18 rfl (lv_at hl 1 rfl) ?_
    refine lv_iadd hx hb dX9_write_19 ?_
    refine lv_sipush (v := (300 : Int32)) hx hb dX9_write_20 (by decide) ?_
    refine lv_icmp_le (tgt := 29) hx hb dX9_write_23 (by decide) (fun c_4 => ?_) (fun c_4 => ?_)
    · have h := ite_t h c_4
      refine lv_iload_n hx hb dX9_write_29 rfl (lv_at hl 1 rfl) ?_
      refine lv_iconst (v := (1 : Int32)) hx hb dX9_write_30 (by decide) ?_
      refine lv_isub hx hb dX9_write_31 ?_
      refine lv_istore (lv' := [(4, .int (x1 - (1 : Int32))), (0, .ref (a 0)), (1, .int x1), (2, .long x2)]) hx hb dX9_write_32 hl (by decide) rfl (fun ls hl => ?_)
      obtain ⟨k_length_7, k_text_8, hz, h⟩ := bd2_some h
      refine L34  FU (x1 - (1 : Int32)) c_length c_text _ _ hz (fun ls H locs hl hG => ?_) _ _ _ (lv_sub hl [1, 3, 0] rfl) hG
      clear hz
      refine lv_aload_n hx hb dX9_write_76 rfl (lv_at hl 0 rfl) ?_
      refine r_get X hG in_X9 rfl 0 (by decide) w_631 0 rfl rfl dX9_write_77 ?_
      cases h
      exact ret _ _ _ _ dX9_write_80 hG
    · have h := ite_f h c_4
      refine lv_bipush (v := (-3 : Int32)) hx hb dX9_write_26 (by decide) ?_
      cases h
      exact ret _ _ _ _ dX9_write_28 hG
  · have h := ite_t h c_3
    refine lv_iconst (v := (-1 : Int32)) hx hb dX9_write_12 (by decide) ?_
    cases h
    exact ret _ _ _ _ dX9_write_13 hG
set_option maxRecDepth 100000 in
set_option maxHeartbeats 4000000 in
theorem mX9_wipe (l : Launch) (dC : Nat → ClassId) (dI : Nat → Nat → Nat) (cI cJ : ClassId) (a : Nat → Nat) (c_length : Int32) (c_text : Nat → Int32) (c_stands : Nat → Int32) (c_homeFar : Nat → Int32) (c_nets : Nat → Int32) (c_netAt : Nat → Int32) (c_netWide : Nat → Int32) (c_netFrom : Nat → Int32) (c_netTo : Nat → Int32) (c_priceX : Nat → Int32) (c_priceY : Nat → Int32) (c_many : Nat → Int32) (c_days : Nat → Int32) (c_aims : Nat → Int32) (c_speeds : Nat → Int32) (c_kinds : Nat → Int32) (c_keptMany : Int32) (c_undoMany : Int32) (c_undos : Nat → Int32) (c_spot : Int32) (c_told : Nat → Int32) (c_to : Nat → Int32) (c_stood : Nat → Int32) (c_home : Nat → Int32) (c_lost : Nat → Int32) (c_out : Int32) (c_fewest : Nat → Int32) (c_ways : Nat → Int64) (c_next : Nat → Int64) (c_held : Nat → Int32) {res : Int32} {n_length : Int32} (hD : DX9_wipe c_length = some (res, n_length)) : Met l yX9_wipe (WZ yX9_wipe cX9_wipe 2 (some .int)) (RM 0 0) (PC dC dI cI cJ [.ref (a 0)] (W_X9 a cI cJ c_length c_text c_stands c_homeFar c_nets c_netAt c_netWide c_netFrom c_netTo c_priceX c_priceY c_many c_days c_aims c_speeds c_kinds c_keptMany c_undoMany c_undos c_spot c_told c_to c_stood c_home c_lost c_out c_fewest c_ways c_next c_held)) (QI dC dI (W_X9 a cI cJ c_length c_text c_stands c_homeFar c_nets c_netAt c_netWide c_netFrom c_netTo c_priceX c_priceY c_many c_days c_aims c_speeds c_kinds c_keptMany c_undoMany c_undos c_spot c_told c_to c_stood c_home c_lost c_out c_fewest c_ways c_next c_held) (W_X9 a cI cJ n_length c_text c_stands c_homeFar c_nets c_netAt c_netWide c_netFrom c_netTo c_priceX c_priceY c_many c_days c_aims c_speeds c_kinds c_keptMany c_undoMany c_undos c_spot c_told c_to c_stood c_home c_lost c_out c_fewest c_ways c_next c_held) res) 0 0 (FA (W_X9 a cI cJ c_length c_text c_stands c_homeFar c_nets c_netAt c_netWide c_netFrom c_netTo c_priceX c_priceY c_many c_days c_aims c_speeds c_kinds c_keptMany c_undoMany c_undos c_spot c_told c_to c_stood c_home c_lost c_out c_fewest c_ways c_next c_held)) := by
  refine r_metI (by decide +kernel) (Nat.le_of_ble_eq_true rfl) ?_
  intro p e s m args below meth c A H0 QQ X ret ls hl hG
  have X : Cx p m c cX9_wipe 2 s args RX9 dC dI cI cJ meth (some .int) := X
  have hx := X.1.1
  have hb := X.1.2.1
  have hl : lv_has ls 2 [(0, .ref (a 0))] := hl
  have h := hD
  unfold DX9_wipe at h
  clear hD
  refine lv_aload_n hx hb dX9_wipe_0 rfl (lv_at hl 0 rfl) ?_
  refine r_get X hG in_X9 rfl 0 (by decide) w_631 0 rfl rfl dX9_wipe_1 ?_
  refine lv_istore_n (lv' := [(1, .int c_length), (0, .ref (a 0))]) hx hb dX9_wipe_4 rfl hl (by decide) rfl (fun ls hl => ?_)
  refine lv_aload_n hx hb dX9_wipe_5 rfl (lv_at hl 1 rfl) ?_
  refine lv_iconst (v := (0 : Int32)) hx hb dX9_wipe_6 (by decide) ?_
  refine r_put X hG in_X9 rfl tyX9 tyX9_ok nmX9 0 (by decide) rfl (by decide +kernel) w_631 0 (ws' := (W_X9 a cI cJ (0 : Int32) c_text c_stands c_homeFar c_nets c_netAt c_netWide c_netFrom c_netTo c_priceX c_priceY c_many c_days c_aims c_speeds c_kinds c_keptMany c_undoMany c_undos c_spot c_told c_to c_stood c_home c_lost c_out c_fewest c_ways c_next c_held)) rfl (Nat.le_of_ble_eq_true rfl) rfl dX9_wipe_7 (fun H locs hG => ?_)
  refine lv_iload_n hx hb dX9_wipe_10 rfl (lv_at hl 0 rfl) ?_
  cases h
  exact ret _ _ _ _ dX9_wipe_11 hG
set_option maxRecDepth 100000 in
set_option maxHeartbeats 4000000 in
theorem mX9_byteAt (l : Launch) (dC : Nat → ClassId) (dI : Nat → Nat → Nat) (cI cJ : ClassId) (a : Nat → Nat) (c_length : Int32) (c_text : Nat → Int32) (c_stands : Nat → Int32) (c_homeFar : Nat → Int32) (c_nets : Nat → Int32) (c_netAt : Nat → Int32) (c_netWide : Nat → Int32) (c_netFrom : Nat → Int32) (c_netTo : Nat → Int32) (c_priceX : Nat → Int32) (c_priceY : Nat → Int32) (c_many : Nat → Int32) (c_days : Nat → Int32) (c_aims : Nat → Int32) (c_speeds : Nat → Int32) (c_kinds : Nat → Int32) (c_keptMany : Int32) (c_undoMany : Int32) (c_undos : Nat → Int32) (c_spot : Int32) (c_told : Nat → Int32) (c_to : Nat → Int32) (c_stood : Nat → Int32) (c_home : Nat → Int32) (c_lost : Nat → Int32) (c_out : Int32) (c_fewest : Nat → Int32) (c_ways : Nat → Int64) (c_next : Nat → Int64) (c_held : Nat → Int32) (x1 : Int32) {res : Int32} (hD : DX9_byteAt x1 c_length c_text = some res) : Met l yX9_byteAt (WZ yX9_byteAt cX9_byteAt 2 (some .int)) (RM 0 0) (PC dC dI cI cJ [.ref (a 0), .int x1] (W_X9 a cI cJ c_length c_text c_stands c_homeFar c_nets c_netAt c_netWide c_netFrom c_netTo c_priceX c_priceY c_many c_days c_aims c_speeds c_kinds c_keptMany c_undoMany c_undos c_spot c_told c_to c_stood c_home c_lost c_out c_fewest c_ways c_next c_held)) (QI dC dI (W_X9 a cI cJ c_length c_text c_stands c_homeFar c_nets c_netAt c_netWide c_netFrom c_netTo c_priceX c_priceY c_many c_days c_aims c_speeds c_kinds c_keptMany c_undoMany c_undos c_spot c_told c_to c_stood c_home c_lost c_out c_fewest c_ways c_next c_held) (W_X9 a cI cJ c_length c_text c_stands c_homeFar c_nets c_netAt c_netWide c_netFrom c_netTo c_priceX c_priceY c_many c_days c_aims c_speeds c_kinds c_keptMany c_undoMany c_undos c_spot c_told c_to c_stood c_home c_lost c_out c_fewest c_ways c_next c_held) res) 0 0 (FA (W_X9 a cI cJ c_length c_text c_stands c_homeFar c_nets c_netAt c_netWide c_netFrom c_netTo c_priceX c_priceY c_many c_days c_aims c_speeds c_kinds c_keptMany c_undoMany c_undos c_spot c_told c_to c_stood c_home c_lost c_out c_fewest c_ways c_next c_held)) := by
  refine r_metI (by decide +kernel) (Nat.le_of_ble_eq_true rfl) ?_
  intro p e s m args below meth c A H0 QQ X ret ls hl hG
  have X : Cx p m c cX9_byteAt 2 s args RX9 dC dI cI cJ meth (some .int) := X
  have hx := X.1.1
  have hb := X.1.2.1
  have hl : lv_has ls 2 [(0, .ref (a 0)), (1, .int x1)] := hl
  have h := hD
  unfold DX9_byteAt at h
  clear hD
  refine lv_iload_n hx hb dX9_byteAt_0 rfl (lv_at hl 1 rfl) ?_
  refine lv_aload_n hx hb dX9_byteAt_1 rfl (lv_at hl 0 rfl) ?_
  refine r_get X hG in_X9 rfl 0 (by decide) w_631 0 rfl rfl dX9_byteAt_2 ?_
  refine lv_icmp_ge (tgt := 17) hx hb dX9_byteAt_5 (by decide) (fun c_1 => ?_) (fun c_1 => ?_)
  · have h := ite_t h c_1
    refine lv_iconst (v := (0 : Int32)) hx hb dX9_byteAt_17 (by decide) ?_
    cases h
    exact ret _ _ _ _ dX9_byteAt_18 hG
  · have h := ite_f h c_1
    refine lv_aload_n hx hb dX9_byteAt_8 rfl (lv_at hl 0 rfl) ?_
    refine r_get X hG in_X9 rfl 1 (by decide) w_632 0 rfl rfl dX9_byteAt_9 ?_
    refine lv_iload_n hx hb dX9_byteAt_12 rfl (lv_at hl 1 rfl) ?_
    obtain ⟨g_2, h⟩ := gd h
    refine r_iald X hG 1 rfl g_2 dX9_byteAt_13 ?_
    refine lv_goto (tgt := 18) hx hb dX9_byteAt_14 (by decide) ?_
    cases h
    exact ret _ _ _ _ dX9_byteAt_18 hG
set_option maxRecDepth 100000 in
set_option maxHeartbeats 4000000 in
theorem mX9_figures (l : Launch) (dC : Nat → ClassId) (dI : Nat → Nat → Nat) (cI cJ : ClassId) (a : Nat → Nat) (c_length : Int32) (c_text : Nat → Int32) (c_stands : Nat → Int32) (c_homeFar : Nat → Int32) (c_nets : Nat → Int32) (c_netAt : Nat → Int32) (c_netWide : Nat → Int32) (c_netFrom : Nat → Int32) (c_netTo : Nat → Int32) (c_priceX : Nat → Int32) (c_priceY : Nat → Int32) (c_many : Nat → Int32) (c_days : Nat → Int32) (c_aims : Nat → Int32) (c_speeds : Nat → Int32) (c_kinds : Nat → Int32) (c_keptMany : Int32) (c_undoMany : Int32) (c_undos : Nat → Int32) (c_spot : Int32) (c_told : Nat → Int32) (c_to : Nat → Int32) (c_stood : Nat → Int32) (c_home : Nat → Int32) (c_lost : Nat → Int32) (c_out : Int32) (c_fewest : Nat → Int32) (c_ways : Nat → Int64) (c_next : Nat → Int64) (c_held : Nat → Int32) (x1 : Int32) {res : Int32} {n_spot : Int32} {n_told : Nat → Int32} (hD : DX9_figures x1 c_length c_text c_spot c_told = some (res, n_spot, n_told)) : Met l yX9_figures (WZ yX9_figures cX9_figures 5 (some .boolean)) (RM 1 25) (PC dC dI cI cJ [.ref (a 0), .int x1] (W_X9 a cI cJ c_length c_text c_stands c_homeFar c_nets c_netAt c_netWide c_netFrom c_netTo c_priceX c_priceY c_many c_days c_aims c_speeds c_kinds c_keptMany c_undoMany c_undos c_spot c_told c_to c_stood c_home c_lost c_out c_fewest c_ways c_next c_held)) (QI dC dI (W_X9 a cI cJ c_length c_text c_stands c_homeFar c_nets c_netAt c_netWide c_netFrom c_netTo c_priceX c_priceY c_many c_days c_aims c_speeds c_kinds c_keptMany c_undoMany c_undos c_spot c_told c_to c_stood c_home c_lost c_out c_fewest c_ways c_next c_held) (W_X9 a cI cJ c_length c_text c_stands c_homeFar c_nets c_netAt c_netWide c_netFrom c_netTo c_priceX c_priceY c_many c_days c_aims c_speeds c_kinds c_keptMany c_undoMany c_undos n_spot n_told c_to c_stood c_home c_lost c_out c_fewest c_ways c_next c_held) res) 0 0 (FA (W_X9 a cI cJ c_length c_text c_stands c_homeFar c_nets c_netAt c_netWide c_netFrom c_netTo c_priceX c_priceY c_many c_days c_aims c_speeds c_kinds c_keptMany c_undoMany c_undos c_spot c_told c_to c_stood c_home c_lost c_out c_fewest c_ways c_next c_held)) := by
  refine r_metZ (by decide +kernel) (Nat.le_of_ble_eq_true rfl) ?_
  intro p e s m args below meth c A H0 QQ X ret ls hl hG
  have X : Cx p m c cX9_figures 5 s args RX9 dC dI cI cJ meth (some .boolean) := X
  have hx := X.1.1
  have hb := X.1.2.1
  have hl : lv_has ls 5 [(0, .ref (a 0)), (1, .int x1)] := hl
  have L12 : ∀ (x2 : Int32) (c_told : Nat → Int32), ∀ (n : Nat) (x3 : Int32) (x4 : Int32) (c_spot : Int32) (ex3 : Int32) (ex4 : Int32) (ec_spot : Int32), DX9_figures_L12 c_length c_text n x3 x4 c_spot = some (ex3, ex4, ec_spot) → (∀ (ls : Array Slot) (H : Heap) (locs : List Loc), lv_has ls 5 [(0, .ref (a 0)), (1, .int x1), (2, .int x2), (3, .int ex3), (4, .int ex4)] → G dC dI A H0 (W_X9 a cI cJ c_length c_text c_stands c_homeFar c_nets c_netAt c_netWide c_netFrom c_netTo c_priceX c_priceY c_many c_days c_aims c_speeds c_kinds c_keptMany c_undoMany c_undos ec_spot c_told c_to c_stood c_home c_lost c_out c_fewest c_ways c_next c_held) H locs → W p l e (RM 1 25) s m args below meth c H locs 0 0 QQ (F0 m 73 ls [])) → ∀ (ls : Array Slot) (H : Heap) (locs : List Loc), lv_has ls 5 [(0, .ref (a 0)), (1, .int x1), (2, .int x2), (3, .int x3), (4, .int x4)] → G dC dI A H0 (W_X9 a cI cJ c_length c_text c_stands c_homeFar c_nets c_netAt c_netWide c_netFrom c_netTo c_priceX c_priceY c_many c_days c_aims c_speeds c_kinds c_keptMany c_undoMany c_undos c_spot c_told c_to c_stood c_home c_lost c_out c_fewest c_ways c_next c_held) H locs → W p l e (RM 1 25) s m args below meth c H locs 0 0 QQ (F0 m 12 ls []) := by
    intro x2 c_told n
    induction n with
    | zero => intro x3 x4 c_spot ex3 ex4 ec_spot h; exact it_zero h
    | succ n ih =>
      intro x3 x4 c_spot ex3 ex4 ec_spot h0 K0 ls H locs hl hG
      obtain ⟨w, h, hi, hr⟩ := it_succ h0
      have h : DX9_figures_L12s c_length c_text x3 x4 c_spot = some w := h
      have KC : ∀ (x3 : Int32) (x4 : Int32) (c_spot : Int32), w = .inl (x3, x4, c_spot) → ∀ (ls : Array Slot) (H : Heap) (locs : List Loc), lv_has ls 5 [(0, .ref (a 0)), (1, .int x1), (2, .int x2), (3, .int x3), (4, .int x4)] → G dC dI A H0 (W_X9 a cI cJ c_length c_text c_stands c_homeFar c_nets c_netAt c_netWide c_netFrom c_netTo c_priceX c_priceY c_many c_days c_aims c_speeds c_kinds c_keptMany c_undoMany c_undos c_spot c_told c_to c_stood c_home c_lost c_out c_fewest c_ways c_next c_held) H locs → W p l e (RM 1 25) s m args below meth c H locs 0 0 QQ (F0 m 12 ls []) := fun b0 b1 b2 e ls H locs hl hG => ih b0 b1 b2 ex3 ex4 ec_spot (hi _ e) K0 ls H locs hl hG
      have KX : ∀ (x3 : Int32) (x4 : Int32) (c_spot : Int32), w = .inr (x3, x4, c_spot) → ∀ (ls : Array Slot) (H : Heap) (locs : List Loc), lv_has ls 5 [(0, .ref (a 0)), (1, .int x1), (2, .int x2), (3, .int x3), (4, .int x4)] → G dC dI A H0 (W_X9 a cI cJ c_length c_text c_stands c_homeFar c_nets c_netAt c_netWide c_netFrom c_netTo c_priceX c_priceY c_many c_days c_aims c_speeds c_kinds c_keptMany c_undoMany c_undos c_spot c_told c_to c_stood c_home c_lost c_out c_fewest c_ways c_next c_held) H locs → W p l e (RM 1 25) s m args below meth c H locs 0 0 QQ (F0 m 73 ls []) := fun b0 b1 b2 e ls H locs hl hG => by cases hr _ e; exact K0 ls H locs hl hG
      clear h0 hi hr K0 ih
      unfold DX9_figures_L12s at h
      refine lv_aload_n hx hb dX9_figures_12 rfl (lv_at hl 0 rfl) ?_
      refine lv_aload_n hx hb dX9_figures_13 rfl (lv_at hl 0 rfl) ?_
      refine r_get X hG in_X9 rfl 19 (by decide) w_650 0 rfl rfl dX9_figures_14 ?_
      obtain ⟨r_2, hz_3, h⟩ := bd1_some h
      refine aft_i1 (run_V1 (rest := []) X hG hl.1 (mX9_byteAt l dC dI cI cJ a c_length c_text c_stands c_homeFar c_nets c_netAt c_netWide c_netFrom c_netTo c_priceX c_priceY c_many c_days c_aims c_speeds c_kinds c_keptMany c_undoMany c_undos c_spot c_told c_to c_stood c_home c_lost c_out c_fewest c_ways c_next c_held c_spot hz_3) gi_V_X9_105 hd_V_yX9_byteAt ⟨rfl, rfl⟩ rfl ⟨Nat.le_of_ble_eq_true rfl, Nat.le_of_ble_eq_true rfl⟩ 0 rfl rfl rfl rfl (Nat.le_of_ble_eq_true rfl) ⟨Nat.le_of_ble_eq_true rfl, Nat.le_of_ble_eq_true rfl⟩ dX9_figures_17) hG rfl (fun H locs hG => ?_)
      clear hz_3
      refine lv_i2l (v := (r_2.toInt64)) hx hb dX9_figures_20 rfl ?_
      refine lv_ldc2 (v := (48 : Int64)) hx hb X.1.2.2.2.1 (X.1.2.2.2.2 _ w_756) dX9_figures_21 ?_
      refine lv_ldc2 (v := (57 : Int64)) hx hb X.1.2.2.2.1 (X.1.2.2.2.2 _ w_757) dX9_figures_24 ?_
      obtain ⟨r_4, hz_5, h⟩ := bd1_some h
      refine aft_i (ws' := (W_X9 a cI cJ c_length c_text c_stands c_homeFar c_nets c_netAt c_netWide c_netFrom c_netTo c_priceX c_priceY c_many c_days c_aims c_speeds c_kinds c_keptMany c_undoMany c_undos c_spot c_told c_to c_stood c_home c_lost c_out c_fewest c_ways c_next c_held)) (run_S (rest := []) X hG hl.1 (mX9_in l dC dI cI cJ (r_2.toInt64) (48 : Int64) (57 : Int64) hz_5) gi_S_X9_92 hd_S_yX9_in ⟨rfl, rfl⟩ rfl ⟨Nat.le_of_ble_eq_true rfl, Nat.le_of_ble_eq_true rfl⟩ [] (by decide) rfl rfl (Nat.le_of_ble_eq_true rfl) ⟨Nat.le_of_ble_eq_true rfl, Nat.le_of_ble_eq_true rfl⟩ dX9_figures_27) hG [] rfl rfl rfl (fun H locs hG => ?_)
      clear hz_5
      refine lv_if_eq (tgt := 73) hx hb dX9_figures_30 (by decide) (fun c_6 => ?_) (fun c_6 => ?_)
      · have h := ite_t h c_6
        exact KX _ _ _ (Option.some.inj h).symm _ _ _ (lv_sub hl [0, 1, 2, 3, 4] rfl) hG
      · have h := ite_f h c_6
        refine lv_iload_n hx hb dX9_figures_33 rfl (lv_at hl 3 rfl) ?_
        refine lv_iconst (v := (3 : Int32)) hx hb dX9_figures_34 (by decide) ?_
        refine lv_icmp_ge (tgt := 73) hx hb dX9_figures_35 (by decide) (fun c_7 => ?_) (fun c_7 => ?_)
        · have h := ite_t h c_7
          exact KX _ _ _ (Option.some.inj h).symm _ _ _ (lv_sub hl [0, 1, 2, 3, 4] rfl) hG
        · have h := ite_f h c_7
          refine lv_bipush (v := (10 : Int32)) hx hb dX9_figures_38 (by decide) ?_
          refine lv_iload hx hb dX9_figures_40 (lv_at hl 4 rfl) ?_
          refine lv_imul hx hb dX9_figures_42 ?_
          refine lv_aload_n hx hb dX9_figures_43 rfl (lv_at hl 0 rfl) ?_
          refine lv_aload_n hx hb dX9_figures_44 rfl (lv_at hl 0 rfl) ?_
          refine r_get X hG in_X9 rfl 19 (by decide) w_650 0 rfl rfl dX9_figures_45 ?_
          obtain ⟨r_8, hz_9, h⟩ := bd1_some h
          refine aft_i1 (run_V1 (rest := [.int ((10 : Int32) * x4)]) X hG hl.1 (mX9_byteAt l dC dI cI cJ a c_length c_text c_stands c_homeFar c_nets c_netAt c_netWide c_netFrom c_netTo c_priceX c_priceY c_many c_days c_aims c_speeds c_kinds c_keptMany c_undoMany c_undos c_spot c_told c_to c_stood c_home c_lost c_out c_fewest c_ways c_next c_held c_spot hz_9) gi_V_X9_105 hd_V_yX9_byteAt ⟨rfl, rfl⟩ rfl ⟨Nat.le_of_ble_eq_true rfl, Nat.le_of_ble_eq_true rfl⟩ 0 rfl rfl rfl rfl (Nat.le_of_ble_eq_true rfl) ⟨Nat.le_of_ble_eq_true rfl, Nat.le_of_ble_eq_true rfl⟩ dX9_figures_48) hG rfl (fun H locs hG => ?_)
          clear hz_9
          refine lv_iadd hx hb dX9_figures_51 ?_
          refine lv_bipush (v := (48 : Int32)) hx hb dX9_figures_52 (by decide) ?_
          refine lv_isub hx hb dX9_figures_54 ?_
          refine lv_istore (lv' := [(4, .int ((((10 : Int32) * x4) + r_8) - (48 : Int32))), (0, .ref (a 0)), (1, .int x1), (2, .int x2), (3, .int x3)]) hx hb dX9_figures_55 hl (by decide) rfl (fun ls hl => ?_)
          refine lv_iinc (v := (x3 + (1 : Int32))) (lv' := [(3, .int (x3 + (1 : Int32))), (4, .int ((((10 : Int32) * x4) + r_8) - (48 : Int32))), (0, .ref (a 0)), (1, .int x1), (2, .int x2)]) hx hb dX9_figures_57 hl (k := 4) rfl rfl (by decide) rfl (fun ls hl => ?_)
          refine lv_aload_n hx hb dX9_figures_60 rfl (lv_at hl 2 rfl) ?_
          refine lv_dup hx hb dX9_figures_61 rfl ?_
          refine r_get X hG in_X9 rfl 19 (by decide) w_650 0 rfl rfl dX9_figures_62 ?_
          refine lv_iconst (v := (1 : Int32)) hx hb dX9_figures_65 (by decide) ?_
          refine lv_iadd hx hb dX9_figures_66 ?_
          refine r_put X hG in_X9 rfl tyX9 tyX9_ok nmX9 19 (by decide) rfl (by decide +kernel) w_650 0 (ws' := (W_X9 a cI cJ c_length c_text c_stands c_homeFar c_nets c_netAt c_netWide c_netFrom c_netTo c_priceX c_priceY c_many c_days c_aims c_speeds c_kinds c_keptMany c_undoMany c_undos (c_spot + (1 : Int32)) c_told c_to c_stood c_home c_lost c_out c_fewest c_ways c_next c_held)) rfl (Nat.le_of_ble_eq_true rfl) rfl dX9_figures_67 (fun H locs hG => ?_)
          refine lv_goto (tgt := 12) hx hb dX9_figures_70 (by decide) ?_
          exact KC _ _ _ (Option.some.inj h).symm _ _ _ (lv_sub hl [2, 3, 4, 0, 1] rfl) hG
  have J107 : ∀ (y0 : Int32) (y1 : Int32) (x2 : Int32) (x4 : Int32) (c_spot : Int32) (c_told : Nat → Int32), ∀ (w : (Int32 × Int32 × (Nat → Int32)) ⊕ ((Int32 × (Nat → Int32)) ⊕ (Int32 × Int32 × (Nat → Int32)))), DX9_figures_J107 c_spot c_told y0 y1 x2 x4 = some w → (∀ (x2 : Int32) (c_spot : Int32) (c_told : Nat → Int32), w = .inl (x2, c_spot, c_told) → ∀ (ls : Array Slot) (H : Heap) (locs : List Loc), lv_has ls 5 [(0, .ref (a 0)), (1, .int x1), (2, .int x2)] → G dC dI A H0 (W_X9 a cI cJ c_length c_text c_stands c_homeFar c_nets c_netAt c_netWide c_netFrom c_netTo c_priceX c_priceY c_many c_days c_aims c_speeds c_kinds c_keptMany c_undoMany c_undos c_spot c_told c_to c_stood c_home c_lost c_out c_fewest c_ways c_next c_held) H locs → W p l e (RM 1 25) s m args below meth c H locs 0 0 QQ (F0 m 2 ls [])) → (∀ (c_spot : Int32) (c_told : Nat → Int32), w = .inr (.inl (c_spot, c_told)) → ∀ (ls : Array Slot) (H : Heap) (locs : List Loc), lv_has ls 5 [] → G dC dI A H0 (W_X9 a cI cJ c_length c_text c_stands c_homeFar c_nets c_netAt c_netWide c_netFrom c_netTo c_priceX c_priceY c_many c_days c_aims c_speeds c_kinds c_keptMany c_undoMany c_undos c_spot c_told c_to c_stood c_home c_lost c_out c_fewest c_ways c_next c_held) H locs → W p l e (RM 1 25) s m args below meth c H locs 0 0 QQ (F0 m 136 ls [])) → (∀ (r : Int32 × Int32 × (Nat → Int32)), w = .inr (.inr r) → r = (res, n_spot, n_told)) → ∀ (ls : Array Slot) (H : Heap) (locs : List Loc), lv_has ls 5 [(0, .ref (a 0)), (1, .int x1), (2, .int x2), (4, .int x4)] → G dC dI A H0 (W_X9 a cI cJ c_length c_text c_stands c_homeFar c_nets c_netAt c_netWide c_netFrom c_netTo c_priceX c_priceY c_many c_days c_aims c_speeds c_kinds c_keptMany c_undoMany c_undos c_spot c_told c_to c_stood c_home c_lost c_out c_fewest c_ways c_next c_held) H locs → W p l e (RM 1 25) s m args below meth c H locs 0 0 QQ (F0 m 107 ls [.int y0, .int y1]) := by
    intro y0 y1 x2 x4 c_spot c_told w h KC KX KR ls H locs hl hG
    unfold DX9_figures_J107 at h
    refine lv_icmp_eq (tgt := 112) hx hb dX9_figures_107 (by decide) (fun c_19 => ?_) (fun c_19 => ?_)
    · have h := ite_t h c_19
      refine lv_aload_n hx hb dX9_figures_112 rfl (lv_at hl 0 rfl) ?_
      refine r_get X hG in_X9 rfl 20 (by decide) w_651 0 rfl rfl dX9_figures_113 ?_
      refine lv_iload_n hx hb dX9_figures_116 rfl (lv_at hl 2 rfl) ?_
      refine lv_iload hx hb dX9_figures_117 (lv_at hl 3 rfl) ?_
      obtain ⟨g_20, h⟩ := gd h
      refine r_iast X hG 17 (ws' := (W_X9 a cI cJ c_length c_text c_stands c_homeFar c_nets c_netAt c_netWide c_netFrom c_netTo c_priceX c_priceY c_many c_days c_aims c_speeds c_kinds c_keptMany c_undoMany c_undos c_spot (upd c_told x2.toNatClampNeg x4) c_to c_stood c_home c_lost c_out c_fewest c_ways c_next c_held)) rfl g_20 rfl dX9_figures_119 (fun H locs hG => ?_)
      refine lv_aload_n hx hb dX9_figures_120 rfl (lv_at hl 0 rfl) ?_
      refine lv_dup hx hb dX9_figures_121 rfl ?_
      refine r_get X hG in_X9 rfl 19 (by decide) w_650 0 rfl rfl dX9_figures_122 ?_
      refine lv_iconst (v := (1 : Int32)) hx hb dX9_figures_125 (by decide) ?_
      refine lv_iadd hx hb dX9_figures_126 ?_
      refine r_put X hG in_X9 rfl tyX9 tyX9_ok nmX9 19 (by decide) rfl (by decide +kernel) w_650 0 (ws' := (W_X9 a cI cJ c_length c_text c_stands c_homeFar c_nets c_netAt c_netWide c_netFrom c_netTo c_priceX c_priceY c_many c_days c_aims c_speeds c_kinds c_keptMany c_undoMany c_undos (c_spot + (1 : Int32)) (upd c_told x2.toNatClampNeg x4) c_to c_stood c_home c_lost c_out c_fewest c_ways c_next c_held)) rfl (Nat.le_of_ble_eq_true rfl) rfl dX9_figures_127 (fun H locs hG => ?_)
      refine lv_iinc (v := (x2 + (1 : Int32))) (lv' := [(2, .int (x2 + (1 : Int32))), (0, .ref (a 0)), (1, .int x1), (4, .int x4)]) hx hb dX9_figures_130 hl (k := 2) rfl rfl (by decide) rfl (fun ls hl => ?_)
      refine lv_goto (tgt := 2) hx hb dX9_figures_133 (by decide) ?_
      exact KC _ _ _ (Option.some.inj h).symm _ _ _ (lv_sub hl [1, 2, 0] rfl) hG
    · have h := ite_f h c_19
      refine lv_iconst (v := (0 : Int32)) hx hb dX9_figures_110 (by decide) ?_
      cases KR _ (Option.some.inj h).symm
      exact ret _ _ _ _ dX9_figures_111 (by decide) hG
  have J73 : ∀ (x2 : Int32) (x3 : Int32) (x4 : Int32) (c_spot : Int32) (c_told : Nat → Int32), ∀ (w : (Int32 × Int32 × (Nat → Int32)) ⊕ ((Int32 × (Nat → Int32)) ⊕ (Int32 × Int32 × (Nat → Int32)))), DX9_figures_J73 x1 c_length c_text c_spot c_told x2 x3 x4 = some w → (∀ (x2 : Int32) (c_spot : Int32) (c_told : Nat → Int32), w = .inl (x2, c_spot, c_told) → ∀ (ls : Array Slot) (H : Heap) (locs : List Loc), lv_has ls 5 [(0, .ref (a 0)), (1, .int x1), (2, .int x2)] → G dC dI A H0 (W_X9 a cI cJ c_length c_text c_stands c_homeFar c_nets c_netAt c_netWide c_netFrom c_netTo c_priceX c_priceY c_many c_days c_aims c_speeds c_kinds c_keptMany c_undoMany c_undos c_spot c_told c_to c_stood c_home c_lost c_out c_fewest c_ways c_next c_held) H locs → W p l e (RM 1 25) s m args below meth c H locs 0 0 QQ (F0 m 2 ls [])) → (∀ (c_spot : Int32) (c_told : Nat → Int32), w = .inr (.inl (c_spot, c_told)) → ∀ (ls : Array Slot) (H : Heap) (locs : List Loc), lv_has ls 5 [] → G dC dI A H0 (W_X9 a cI cJ c_length c_text c_stands c_homeFar c_nets c_netAt c_netWide c_netFrom c_netTo c_priceX c_priceY c_many c_days c_aims c_speeds c_kinds c_keptMany c_undoMany c_undos c_spot c_told c_to c_stood c_home c_lost c_out c_fewest c_ways c_next c_held) H locs → W p l e (RM 1 25) s m args below meth c H locs 0 0 QQ (F0 m 136 ls [])) → (∀ (r : Int32 × Int32 × (Nat → Int32)), w = .inr (.inr r) → r = (res, n_spot, n_told)) → ∀ (ls : Array Slot) (H : Heap) (locs : List Loc), lv_has ls 5 [(0, .ref (a 0)), (1, .int x1), (2, .int x2), (3, .int x3), (4, .int x4)] → G dC dI A H0 (W_X9 a cI cJ c_length c_text c_stands c_homeFar c_nets c_netAt c_netWide c_netFrom c_netTo c_priceX c_priceY c_many c_days c_aims c_speeds c_kinds c_keptMany c_undoMany c_undos c_spot c_told c_to c_stood c_home c_lost c_out c_fewest c_ways c_next c_held) H locs → W p l e (RM 1 25) s m args below meth c H locs 0 0 QQ (F0 m 73 ls []) := by
    intro x2 x3 x4 c_spot c_told w h KC KX KR ls H locs hl hG
    unfold DX9_figures_J73 at h
    refine lv_iload_n hx hb dX9_figures_73 rfl (lv_at hl 3 rfl) ?_
    refine lv_i2l (v := (x3.toInt64)) hx hb dX9_figures_74 rfl ?_
    refine lv_lconst (v := (1 : Int64)) hx hb dX9_figures_75 (by decide) ?_
    refine lv_ldc2 (v := (2 : Int64)) hx hb X.1.2.2.2.1 (X.1.2.2.2.2 _ w_758) dX9_figures_76 ?_
    obtain ⟨r_13, hz_14, h⟩ := bd1_some h
    refine aft_i (ws' := (W_X9 a cI cJ c_length c_text c_stands c_homeFar c_nets c_netAt c_netWide c_netFrom c_netTo c_priceX c_priceY c_many c_days c_aims c_speeds c_kinds c_keptMany c_undoMany c_undos c_spot c_told c_to c_stood c_home c_lost c_out c_fewest c_ways c_next c_held)) (run_S (rest := []) X hG hl.1 (mX9_in l dC dI cI cJ (x3.toInt64) (1 : Int64) (2 : Int64) hz_14) gi_S_X9_92 hd_S_yX9_in ⟨rfl, rfl⟩ rfl ⟨Nat.le_of_ble_eq_true rfl, Nat.le_of_ble_eq_true rfl⟩ [] (by decide) rfl rfl (Nat.le_of_ble_eq_true rfl) ⟨Nat.le_of_ble_eq_true rfl, Nat.le_of_ble_eq_true rfl⟩ dX9_figures_79) hG [] rfl rfl rfl (fun H locs hG => ?_)
    clear hz_14
    refine lv_if_eq (tgt := 110) hx hb dX9_figures_82 (by decide) (fun c_15 => ?_) (fun c_15 => ?_)
    · have h := ite_t h c_15
      refine lv_iconst (v := (0 : Int32)) hx hb dX9_figures_110 (by decide) ?_
      cases KR _ (Option.some.inj h).symm
      exact ret _ _ _ _ dX9_figures_111 (by decide) hG
    · have h := ite_f h c_15
      refine lv_aload_n hx hb dX9_figures_85 rfl (lv_at hl 0 rfl) ?_
      refine lv_aload_n hx hb dX9_figures_86 rfl (lv_at hl 0 rfl) ?_
      refine r_get X hG in_X9 rfl 19 (by decide) w_650 0 rfl rfl dX9_figures_87 ?_
      obtain ⟨r_16, hz_17, h⟩ := bd1_some h
      refine aft_i1 (run_V1 (rest := []) X hG hl.1 (mX9_byteAt l dC dI cI cJ a c_length c_text c_stands c_homeFar c_nets c_netAt c_netWide c_netFrom c_netTo c_priceX c_priceY c_many c_days c_aims c_speeds c_kinds c_keptMany c_undoMany c_undos c_spot c_told c_to c_stood c_home c_lost c_out c_fewest c_ways c_next c_held c_spot hz_17) gi_V_X9_105 hd_V_yX9_byteAt ⟨rfl, rfl⟩ rfl ⟨Nat.le_of_ble_eq_true rfl, Nat.le_of_ble_eq_true rfl⟩ 0 rfl rfl rfl rfl (Nat.le_of_ble_eq_true rfl) ⟨Nat.le_of_ble_eq_true rfl, Nat.le_of_ble_eq_true rfl⟩ dX9_figures_90) hG rfl (fun H locs hG => ?_)
      clear hz_17
      refine lv_iload_n hx hb dX9_figures_93 rfl (lv_at hl 2 rfl) ?_
      refine lv_iload_n hx hb dX9_figures_94 rfl (lv_at hl 1 rfl) ?_
      refine lv_iconst (v := (1 : Int32)) hx hb dX9_figures_95 (by decide) ?_
      refine lv_isub hx hb dX9_figures_96 ?_
      refine lv_icmp_ge (tgt := 105) hx hb dX9_figures_97 (by decide) (fun c_18 => ?_) (fun c_18 => ?_)
      · have h := ite_t h c_18
        refine lv_bipush (v := (59 : Int32)) hx hb dX9_figures_105 (by decide) ?_
        exact J107 (59 : Int32) r_16 x2 x4 c_spot c_told _ h KC KX KR _ _ _ (lv_sub hl [0, 1, 2, 4] rfl) hG
      · have h := ite_f h c_18
        refine lv_bipush (v := (44 : Int32)) hx hb dX9_figures_100 (by decide) ?_
        refine lv_goto (tgt := 107) hx hb dX9_figures_102 (by decide) ?_
        exact J107 (44 : Int32) r_16 x2 x4 c_spot c_told _ h KC KX KR _ _ _ (lv_sub hl [0, 1, 2, 4] rfl) hG
  have L2 : ∀ (n : Nat) (x2 : Int32) (c_spot : Int32) (c_told : Nat → Int32) (v : (Int32 × (Nat → Int32)) ⊕ (Int32 × Int32 × (Nat → Int32))), DX9_figures_L2 x1 c_length c_text n x2 c_spot c_told = some v → (∀ (ec_spot : Int32) (ec_told : Nat → Int32), v = .inl (ec_spot, ec_told) → ∀ (ls : Array Slot) (H : Heap) (locs : List Loc), lv_has ls 5 [] → G dC dI A H0 (W_X9 a cI cJ c_length c_text c_stands c_homeFar c_nets c_netAt c_netWide c_netFrom c_netTo c_priceX c_priceY c_many c_days c_aims c_speeds c_kinds c_keptMany c_undoMany c_undos ec_spot ec_told c_to c_stood c_home c_lost c_out c_fewest c_ways c_next c_held) H locs → W p l e (RM 1 25) s m args below meth c H locs 0 0 QQ (F0 m 136 ls [])) → (∀ (r : Int32 × Int32 × (Nat → Int32)), v = .inr r → r = (res, n_spot, n_told)) → ∀ (ls : Array Slot) (H : Heap) (locs : List Loc), lv_has ls 5 [(0, .ref (a 0)), (1, .int x1), (2, .int x2)] → G dC dI A H0 (W_X9 a cI cJ c_length c_text c_stands c_homeFar c_nets c_netAt c_netWide c_netFrom c_netTo c_priceX c_priceY c_many c_days c_aims c_speeds c_kinds c_keptMany c_undoMany c_undos c_spot c_told c_to c_stood c_home c_lost c_out c_fewest c_ways c_next c_held) H locs → W p l e (RM 1 25) s m args below meth c H locs 0 0 QQ (F0 m 2 ls []) := by
    intro  n
    induction n with
    | zero => intro x2 c_spot c_told v h; exact it_zero h
    | succ n ih =>
      intro x2 c_spot c_told v h0 K0 KR0 ls H locs hl hG
      obtain ⟨w, h, hi, hr⟩ := it_succ h0
      have h : DX9_figures_L2s x1 c_length c_text x2 c_spot c_told = some w := h
      have KC : ∀ (x2 : Int32) (c_spot : Int32) (c_told : Nat → Int32), w = .inl (x2, c_spot, c_told) → ∀ (ls : Array Slot) (H : Heap) (locs : List Loc), lv_has ls 5 [(0, .ref (a 0)), (1, .int x1), (2, .int x2)] → G dC dI A H0 (W_X9 a cI cJ c_length c_text c_stands c_homeFar c_nets c_netAt c_netWide c_netFrom c_netTo c_priceX c_priceY c_many c_days c_aims c_speeds c_kinds c_keptMany c_undoMany c_undos c_spot c_told c_to c_stood c_home c_lost c_out c_fewest c_ways c_next c_held) H locs → W p l e (RM 1 25) s m args below meth c H locs 0 0 QQ (F0 m 2 ls []) := fun b0 b1 b2 e ls H locs hl hG => ih b0 b1 b2 v (hi _ e) K0 KR0 ls H locs hl hG
      have KX : ∀ (c_spot : Int32) (c_told : Nat → Int32), w = .inr (.inl (c_spot, c_told)) → ∀ (ls : Array Slot) (H : Heap) (locs : List Loc), lv_has ls 5 [] → G dC dI A H0 (W_X9 a cI cJ c_length c_text c_stands c_homeFar c_nets c_netAt c_netWide c_netFrom c_netTo c_priceX c_priceY c_many c_days c_aims c_speeds c_kinds c_keptMany c_undoMany c_undos c_spot c_told c_to c_stood c_home c_lost c_out c_fewest c_ways c_next c_held) H locs → W p l e (RM 1 25) s m args below meth c H locs 0 0 QQ (F0 m 136 ls []) := fun b0 b1 e ls H locs hl hG => K0 b0 b1 (hr _ e) ls H locs hl hG
      have KR : ∀ (r : Int32 × Int32 × (Nat → Int32)), w = .inr (.inr r) → r = (res, n_spot, n_told) := fun r e => KR0 r (hr _ e)
      clear h0 hi hr K0 ih KR0
      unfold DX9_figures_L2s at h
      refine lv_iload_n hx hb dX9_figures_2 rfl (lv_at hl 2 rfl) ?_
      refine lv_iload_n hx hb dX9_figures_3 rfl (lv_at hl 1 rfl) ?_
      refine lv_icmp_ge (tgt := 136) hx hb dX9_figures_4 (by decide) (fun c_1 => ?_) (fun c_1 => ?_)
      · have h := ite_t h c_1
        exact KX _ _ (Option.some.inj h).symm _ _ _ (lv_sub hl [] rfl) hG
      · have h := ite_f h c_1
        refine lv_iconst (v := (0 : Int32)) hx hb dX9_figures_7 (by decide) ?_
        refine lv_istore_n (lv' := [(3, .int (0 : Int32)), (0, .ref (a 0)), (1, .int x1), (2, .int x2)]) hx hb dX9_figures_8 rfl hl (by decide) rfl (fun ls hl => ?_)
        refine lv_iconst (v := (0 : Int32)) hx hb dX9_figures_9 (by decide) ?_
        refine lv_istore (lv' := [(4, .int (0 : Int32)), (3, .int (0 : Int32)), (0, .ref (a 0)), (1, .int x1), (2, .int x2)]) hx hb dX9_figures_10 hl (by decide) rfl (fun ls hl => ?_)
        obtain ⟨z3_10, z4_11, k_spot_12, hz, h⟩ := bd3_some h
        refine L12 x2 c_told FU (0 : Int32) (0 : Int32) c_spot _ _ _ hz (fun ls H locs hl hG => ?_) _ _ _ (lv_sub hl [2, 3, 4, 1, 0] rfl) hG
        clear hz
        exact J73 x2 z3_10 z4_11 k_spot_12 c_told _ h KC KX KR _ _ _ (lv_sub hl [0, 1, 2, 3, 4] rfl) hG
  have h := hD
  unfold DX9_figures at h
  clear hD
  refine lv_iconst (v := (0 : Int32)) hx hb dX9_figures_0 (by decide) ?_
  refine lv_istore_n (lv' := [(2, .int (0 : Int32)), (0, .ref (a 0)), (1, .int x1)]) hx hb dX9_figures_1 rfl hl (by decide) rfl (fun ls hl => ?_)
  rcases el2_some h with ⟨k_spot_21, k_told_22, hz, h⟩ | ⟨r, hz, h⟩
  · refine L2  FU (0 : Int32) c_spot c_told _ hz ?_ (fun r e => by cases e) _ _ _ (lv_sub hl [1, 2, 0] rfl) hG
    rintro _ _ ⟨⟩ ls H locs hl hG
    clear hz
    refine lv_iconst (v := (1 : Int32)) hx hb dX9_figures_136 (by decide) ?_
    cases h
    exact ret _ _ _ _ dX9_figures_137 (by decide) hG
  · refine L2  FU (0 : Int32) c_spot c_told _ hz (fun _ _ e => by cases e) (fun r2 e => ?_) _ _ _ (lv_sub hl [1, 2, 0] rfl) hG
    cases e; cases h; rfl
