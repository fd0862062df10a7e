/-! CONTRACTS, laid by wip/gen/lay.py: yX9_lay, yX9_isThrow, yX9_homeDay, yX9_around, yX9_turnTo, yX9_isOnWay, yX9_farOf -/
set_option maxRecDepth 100000 in
set_option maxHeartbeats 4000000 in
theorem mX9_lay (l : Launch) (dC : Nat → ClassId) (dI : Nat → Nat → Nat) (cI cJ : ClassId) (a : Nat → Nat) (c_length : Int32) (c_text : Nat → Int32) (c_stands : Nat → Int32) (c_homeFar : Nat → Int32) (c_nets : Nat → Int32) (c_netAt : Nat → Int32) (c_netWide : Nat → Int32) (c_netFrom : Nat → Int32) (c_netTo : Nat → Int32) (c_priceX : Nat → Int32) (c_priceY : Nat → Int32) (c_many : Nat → Int32) (c_days : Nat → Int32) (c_aims : Nat → Int32) (c_speeds : Nat → Int32) (c_kinds : Nat → Int32) (c_keptMany : Int32) (c_undoMany : Int32) (c_undos : Nat → Int32) (c_spot : Int32) (c_told : Nat → Int32) (c_to : Nat → Int32) (c_stood : Nat → Int32) (c_home : Nat → Int32) (c_lost : Nat → Int32) (c_out : Int32) (c_fewest : Nat → Int32) (c_ways : Nat → Int64) (c_next : Nat → Int64) (c_held : Nat → Int32) {res : Int32} {n_stands : Nat → Int32} {n_homeFar : Nat → Int32} {n_nets : Nat → Int32} {n_netAt : Nat → Int32} {n_netWide : Nat → Int32} {n_netFrom : Nat → Int32} {n_netTo : Nat → Int32} {n_priceX : Nat → Int32} {n_priceY : Nat → Int32} {n_many : Nat → Int32} {n_days : Nat → Int32} {n_aims : Nat → Int32} {n_speeds : Nat → Int32} {n_kinds : Nat → Int32} {n_keptMany : Int32} {n_undoMany : Int32} {n_spot : Int32} {n_told : Nat → Int32} (hD : DX9_lay c_length c_text c_stands c_homeFar c_nets c_netAt c_netWide c_netFrom c_netTo c_priceX c_priceY c_many c_days c_aims c_speeds c_kinds c_keptMany c_undoMany c_told = some (res, n_stands, n_homeFar, n_nets, n_netAt, n_netWide, n_netFrom, n_netTo, n_priceX, n_priceY, n_many, n_days, n_aims, n_speeds, n_kinds, n_keptMany, n_undoMany, n_spot, n_told)) : Met l yX9_lay (WZ yX9_lay cX9_lay 2 (some .int)) (RM 4 91) (PC dC dI cI cJ [.ref (a 0)] (W_X9 a cI cJ c_length c_text c_stands c_homeFar c_nets c_netAt c_netWide c_netFrom c_netTo c_priceX c_priceY c_many c_days c_aims c_speeds c_kinds c_keptMany c_undoMany c_undos c_spot c_told c_to c_stood c_home c_lost c_out c_fewest c_ways c_next c_held)) (QI dC dI (W_X9 a cI cJ c_length c_text c_stands c_homeFar c_nets c_netAt c_netWide c_netFrom c_netTo c_priceX c_priceY c_many c_days c_aims c_speeds c_kinds c_keptMany c_undoMany c_undos c_spot c_told c_to c_stood c_home c_lost c_out c_fewest c_ways c_next c_held) (W_X9 a cI cJ c_length c_text n_stands n_homeFar n_nets n_netAt n_netWide n_netFrom n_netTo n_priceX n_priceY n_many n_days n_aims n_speeds n_kinds n_keptMany n_undoMany c_undos n_spot n_told c_to c_stood c_home c_lost c_out c_fewest c_ways c_next c_held) res) 0 0 (FA (W_X9 a cI cJ c_length c_text c_stands c_homeFar c_nets c_netAt c_netWide c_netFrom c_netTo c_priceX c_priceY c_many c_days c_aims c_speeds c_kinds c_keptMany c_undoMany c_undos c_spot c_told c_to c_stood c_home c_lost c_out c_fewest c_ways c_next c_held)) := by
  refine r_metI (by decide +kernel) (Nat.le_of_ble_eq_true rfl) ?_
  intro p e s m args below meth c A H0 QQ X ret ls hl hG
  have X : Cx p m c cX9_lay 2 s args RX9 dC dI cI cJ meth (some .int) := X
  have hx := X.1.1
  have hb := X.1.2.1
  have hl : lv_has ls 2 [(0, .ref (a 0))] := hl
  have L83 : ∀ (c_stands : Nat → Int32) (c_homeFar : Nat → Int32) (c_nets : Nat → Int32) (c_priceX : Nat → Int32) (c_priceY : Nat → Int32) (c_many : Nat → Int32) (c_days : Nat → Int32) (c_aims : Nat → Int32) (c_speeds : Nat → Int32) (c_kinds : Nat → Int32) (c_keptMany : Int32) (c_undoMany : Int32) (c_spot : Int32) (c_told : Nat → Int32), ∀ (n : Nat) (x1 : Int32) (c_netAt : Nat → Int32) (c_netWide : Nat → Int32) (c_netFrom : Nat → Int32) (c_netTo : Nat → Int32) (ec_netAt : Nat → Int32) (ec_netWide : Nat → Int32) (ec_netFrom : Nat → Int32) (ec_netTo : Nat → Int32), DX9_lay_L83 n x1 c_netAt c_netWide c_netFrom c_netTo = some (ec_netAt, ec_netWide, ec_netFrom, ec_netTo) → (∀ (ls : Array Slot) (H : Heap) (locs : List Loc), lv_has ls 2 [(0, .ref (a 0))] → G dC dI A H0 (W_X9 a cI cJ c_length c_text c_stands c_homeFar c_nets ec_netAt ec_netWide ec_netFrom ec_netTo c_priceX c_priceY c_many c_days c_aims c_speeds c_kinds c_keptMany c_undoMany c_undos c_spot c_told c_to c_stood c_home c_lost c_out c_fewest c_ways c_next c_held) H locs → W p l e (RM 4 91) s m args below meth c H locs 0 0 QQ (F0 m 154 ls [])) → ∀ (ls : Array Slot) (H : Heap) (locs : List Loc), lv_has ls 2 [(0, .ref (a 0)), (1, .int x1)] → G dC dI A H0 (W_X9 a cI cJ c_length c_text c_stands c_homeFar c_nets c_netAt c_netWide c_netFrom c_netTo c_priceX c_priceY c_many c_days c_aims c_speeds c_kinds c_keptMany c_undoMany c_undos c_spot c_told c_to c_stood c_home c_lost c_out c_fewest c_ways c_next c_held) H locs → W p l e (RM 4 91) s m args below meth c H locs 0 0 QQ (F0 m 83 ls []) := by
    intro c_stands c_homeFar c_nets c_priceX c_priceY c_many c_days c_aims c_speeds c_kinds c_keptMany c_undoMany c_spot c_told n
    induction n with
    | zero => intro x1 c_netAt c_netWide c_netFrom c_netTo ec_netAt ec_netWide ec_netFrom ec_netTo h; exact it_zero h
    | succ n ih =>
      intro x1 c_netAt c_netWide c_netFrom c_netTo ec_netAt ec_netWide ec_netFrom ec_netTo h0 K0 ls H locs hl hG
      obtain ⟨w, h, hi, hr⟩ := it_succ h0
      have h : DX9_lay_L83s x1 c_netAt c_netWide c_netFrom c_netTo = some w := h
      have KC : ∀ (x1 : Int32) (c_netAt : Nat → Int32) (c_netWide : Nat → Int32) (c_netFrom : Nat → Int32) (c_netTo : Nat → Int32), w = .inl (x1, c_netAt, c_netWide, c_netFrom, c_netTo) → ∀ (ls : Array Slot) (H : Heap) (locs : List Loc), lv_has ls 2 [(0, .ref (a 0)), (1, .int x1)] → G dC dI A H0 (W_X9 a cI cJ c_length c_text c_stands c_homeFar c_nets c_netAt c_netWide c_netFrom c_netTo c_priceX c_priceY c_many c_days c_aims c_speeds c_kinds c_keptMany c_undoMany c_undos c_spot c_told c_to c_stood c_home c_lost c_out c_fewest c_ways c_next c_held) H locs → W p l e (RM 4 91) s m args below meth c H locs 0 0 QQ (F0 m 83 ls []) := fun b0 b1 b2 b3 b4 e ls H locs hl hG => ih b0 b1 b2 b3 b4 ec_netAt ec_netWide ec_netFrom ec_netTo (hi _ e) K0 ls H locs hl hG
      have KX : ∀ (c_netAt : Nat → Int32) (c_netWide : Nat → Int32) (c_netFrom : Nat → Int32) (c_netTo : Nat → Int32), w = .inr (c_netAt, c_netWide, c_netFrom, c_netTo) → ∀ (ls : Array Slot) (H : Heap) (locs : List Loc), lv_has ls 2 [(0, .ref (a 0))] → G dC dI A H0 (W_X9 a cI cJ c_length c_text c_stands c_homeFar c_nets c_netAt c_netWide c_netFrom c_netTo c_priceX c_priceY c_many c_days c_aims c_speeds c_kinds c_keptMany c_undoMany c_undos c_spot c_told c_to c_stood c_home c_lost c_out c_fewest c_ways c_next c_held) H locs → W p l e (RM 4 91) s m args below meth c H locs 0 0 QQ (F0 m 154 ls []) := fun b0 b1 b2 b3 e ls H locs hl hG => by cases hr _ e; exact K0 ls H locs hl hG
      clear h0 hi hr K0 ih
      unfold DX9_lay_L83s at h
      refine lv_iload_n hx hb dX9_lay_83 rfl (lv_at hl 1 rfl) ?_
      refine lv_iconst (v := (5 : Int32)) hx hb dX9_lay_84 (by decide) ?_
      refine lv_icmp_ge (tgt := 154) hx hb dX9_lay_85 (by decide) (fun c_21 => ?_) (fun c_21 => ?_)
      · have h := ite_t h c_21
        exact KX _ _ _ _ (Option.some.inj h).symm _ _ _ (lv_sub hl [0] rfl) hG
      · have h := ite_f h c_21
        refine lv_aload_n hx hb dX9_lay_88 rfl (lv_at hl 0 rfl) ?_
        refine r_get X hG in_X9 rfl 5 (by decide) w_636 0 rfl rfl dX9_lay_89 ?_
        refine lv_iload_n hx hb dX9_lay_92 rfl (lv_at hl 1 rfl) ?_
        refine lv_aload_n hx hb dX9_lay_93 rfl (lv_at hl 0 rfl) ?_
        refine r_get X hG in_X9 rfl 5 (by decide) w_636 0 rfl rfl dX9_lay_94 ?_
        refine lv_bipush (v := (6 : Int32)) hx hb dX9_lay_97 (by decide) ?_
        refine lv_iload_n hx hb dX9_lay_99 rfl (lv_at hl 1 rfl) ?_
        refine lv_iadd hx hb dX9_lay_100 ?_
        obtain ⟨g_22, h⟩ := gd h
        refine r_iald X hG 5 rfl g_22 dX9_lay_101 ?_
        obtain ⟨g_23, h⟩ := gd h
        refine r_iast X hG 5 (ws' := (W_X9 a cI cJ c_length c_text c_stands c_homeFar c_nets (upd c_netAt x1.toNatClampNeg (c_netAt ((6 : Int32) + x1).toNatClampNeg)) c_netWide c_netFrom c_netTo c_priceX c_priceY c_many c_days c_aims c_speeds c_kinds c_keptMany c_undoMany c_undos c_spot c_told c_to c_stood c_home c_lost c_out c_fewest c_ways c_next c_held)) rfl g_23 rfl dX9_lay_102 (fun H locs hG => ?_)
        refine lv_aload_n hx hb dX9_lay_103 rfl (lv_at hl 0 rfl) ?_
        refine r_get X hG in_X9 rfl 6 (by decide) w_637 0 rfl rfl dX9_lay_104 ?_
        refine lv_iload_n hx hb dX9_lay_107 rfl (lv_at hl 1 rfl) ?_
        refine lv_aload_n hx hb dX9_lay_108 rfl (lv_at hl 0 rfl) ?_
        refine r_get X hG in_X9 rfl 6 (by decide) w_637 0 rfl rfl dX9_lay_109 ?_
        refine lv_bipush (v := (6 : Int32)) hx hb dX9_lay_112 (by decide) ?_
        refine lv_iload_n hx hb dX9_lay_114 rfl (lv_at hl 1 rfl) ?_
        refine lv_iadd hx hb dX9_lay_115 ?_
        obtain ⟨g_24, h⟩ := gd h
        refine r_iald X hG 6 rfl g_24 dX9_lay_116 ?_
        obtain ⟨g_25, h⟩ := gd h
        refine r_iast X hG 6 (ws' := (W_X9 a cI cJ c_length c_text c_stands c_homeFar c_nets (upd c_netAt x1.toNatClampNeg (c_netAt ((6 : Int32) + x1).toNatClampNeg)) (upd c_netWide x1.toNatClampNeg (c_netWide ((6 : Int32) + x1).toNatClampNeg)) c_netFrom c_netTo c_priceX c_priceY c_many c_days c_aims c_speeds c_kinds c_keptMany c_undoMany c_undos c_spot c_told c_to c_stood c_home c_lost c_out c_fewest c_ways c_next c_held)) rfl g_25 rfl dX9_lay_117 (fun H locs hG => ?_)
        refine lv_aload_n hx hb dX9_lay_118 rfl (lv_at hl 0 rfl) ?_
        refine r_get X hG in_X9 rfl 7 (by decide) w_638 0 rfl rfl dX9_lay_119 ?_
        refine lv_iload_n hx hb dX9_lay_122 rfl (lv_at hl 1 rfl) ?_
        refine lv_aload_n hx hb dX9_lay_123 rfl (lv_at hl 0 rfl) ?_
        refine r_get X hG in_X9 rfl 7 (by decide) w_638 0 rfl rfl dX9_lay_124 ?_
        refine lv_bipush (v := (6 : Int32)) hx hb dX9_lay_127 (by decide) ?_
        refine lv_iload_n hx hb dX9_lay_129 rfl (lv_at hl 1 rfl) ?_
        refine lv_iadd hx hb dX9_lay_130 ?_
        obtain ⟨g_26, h⟩ := gd h
        refine r_iald X hG 7 rfl g_26 dX9_lay_131 ?_
        obtain ⟨g_27, h⟩ := gd h
        refine r_iast X hG 7 (ws' := (W_X9 a cI cJ c_length c_text c_stands c_homeFar c_nets (upd c_netAt x1.toNatClampNeg (c_netAt ((6 : Int32) + x1).toNatClampNeg)) (upd c_netWide x1.toNatClampNeg (c_netWide ((6 : Int32) + x1).toNatClampNeg)) (upd c_netFrom x1.toNatClampNeg (c_netFrom ((6 : Int32) + x1).toNatClampNeg)) c_netTo c_priceX c_priceY c_many c_days c_aims c_speeds c_kinds c_keptMany c_undoMany c_undos c_spot c_told c_to c_stood c_home c_lost c_out c_fewest c_ways c_next c_held)) rfl g_27 rfl dX9_lay_132 (fun H locs hG => ?_)
        refine lv_aload_n hx hb dX9_lay_133 rfl (lv_at hl 0 rfl) ?_
        refine r_get X hG in_X9 rfl 8 (by decide) w_639 0 rfl rfl dX9_lay_134 ?_
        refine lv_iload_n hx hb dX9_lay_137 rfl (lv_at hl 1 rfl) ?_
        refine lv_aload_n hx hb dX9_lay_138 rfl (lv_at hl 0 rfl) ?_
        refine r_get X hG in_X9 rfl 8 (by decide) w_639 0 rfl rfl dX9_lay_139 ?_
        refine lv_bipush (v := (6 : Int32)) hx hb dX9_lay_142 (by decide) ?_
        refine lv_iload_n hx hb dX9_lay_144 rfl (lv_at hl 1 rfl) ?_
        refine lv_iadd hx hb dX9_lay_145 ?_
        obtain ⟨g_28, h⟩ := gd h
        refine r_iald X hG 8 rfl g_28 dX9_lay_146 ?_
        obtain ⟨g_29, h⟩ := gd h
        refine r_iast X hG 8 (ws' := (W_X9 a cI cJ c_length c_text c_stands c_homeFar c_nets (upd c_netAt x1.toNatClampNeg (c_netAt ((6 : Int32) + x1).toNatClampNeg)) (upd c_netWide x1.toNatClampNeg (c_netWide ((6 : Int32) + x1).toNatClampNeg)) (upd c_netFrom x1.toNatClampNeg (c_netFrom ((6 : Int32) + x1).toNatClampNeg)) (upd c_netTo x1.toNatClampNeg (c_netTo ((6 : Int32) + x1).toNatClampNeg)) c_priceX c_priceY c_many c_days c_aims c_speeds c_kinds c_keptMany c_undoMany c_undos c_spot c_told c_to c_stood c_home c_lost c_out c_fewest c_ways c_next c_held)) rfl g_29 rfl dX9_lay_147 (fun H locs hG => ?_)
        refine lv_iinc (v := (x1 + (1 : Int32))) (lv' := [(1, .int (x1 + (1 : Int32))), (0, .ref (a 0))]) hx hb dX9_lay_148 hl (k := 1) rfl rfl (by decide) rfl (fun ls hl => ?_)
        refine lv_goto (tgt := 83) hx hb dX9_lay_151 (by decide) ?_
        exact KC _ _ _ _ _ (Option.some.inj h).symm _ _ _ (lv_sub hl [1, 0] rfl) hG
  have h := hD
  unfold DX9_lay at h
  clear hD
  refine lv_aload_n hx hb dX9_lay_0 rfl (lv_at hl 0 rfl) ?_
  obtain ⟨r_1, k_stands_2, k_homeFar_3, k_nets_4, k_netAt_5, k_netWide_6, k_netFrom_7, k_netTo_8, k_priceX_9, k_priceY_10, k_many_11, k_days_12, k_aims_13, k_speeds_14, k_kinds_15, k_spot_16, k_told_17, hz_18, h⟩ := bd17_some h
  refine aft_i1 (run_V1 (rest := []) X hG hl.1 (mX9_readAll l dC dI cI cJ a c_length c_text c_stands c_homeFar c_nets c_netAt c_netWide c_netFrom c_netTo c_priceX c_priceY c_many c_days c_aims c_speeds c_kinds c_keptMany c_undoMany c_undos c_spot c_told c_to c_stood c_home c_lost c_out c_fewest c_ways c_next c_held hz_18) gi_V_X9_127 hd_V_yX9_readAll ⟨rfl, rfl⟩ rfl ⟨Nat.le_of_ble_eq_true rfl, Nat.le_of_ble_eq_true rfl⟩ 0 rfl rfl rfl rfl (Nat.le_of_ble_eq_true rfl) ⟨Nat.le_of_ble_eq_true rfl, Nat.le_of_ble_eq_true rfl⟩ dX9_lay_1) hG rfl (fun H locs hG => ?_)
  clear hz_18
  refine lv_bipush (v := (-4 : Int32)) hx hb dX9_lay_4 (by decide) ?_
  refine lv_icmp_ne (tgt := 18) hx hb dX9_lay_6 (by decide) (fun c_19 => ?_) (fun c_19 => ?_)
  · have h := ite_f h c_19
    refine lv_bipush (v := (-2 : Int32)) hx hb dX9_lay_18 (by decide) ?_
    cases h
    exact ret _ _ _ _ dX9_lay_20 hG
  · have h := ite_t h c_19
    refine lv_aload_n hx hb dX9_lay_9 rfl (lv_at hl 0 rfl) ?_
    refine r_get X hG in_X9 rfl 11 (by decide) w_642 0 rfl rfl dX9_lay_10 ?_
    refine lv_iconst (v := (1 : Int32)) hx hb dX9_lay_13 (by decide) ?_
    refine r_iald X hG 11 rfl (vpd (by decide)) dX9_lay_14 ?_
    refine lv_if_ne (tgt := 21) hx hb dX9_lay_15 (by decide) (fun c_20 => ?_) (fun c_20 => ?_)
    · have h := ite_f h c_20
      refine lv_aload_n hx hb dX9_lay_21 rfl (lv_at hl 0 rfl) ?_
      refine r_get X hG in_X9 rfl 2 (by decide) w_633 0 rfl rfl dX9_lay_22 ?_
      refine lv_iconst (v := (0 : Int32)) hx hb dX9_lay_25 (by decide) ?_
      refine lv_aload_n hx hb dX9_lay_26 rfl (lv_at hl 0 rfl) ?_
      refine r_get X hG in_X9 rfl 2 (by decide) w_633 0 rfl rfl dX9_lay_27 ?_
      refine lv_iconst (v := (1 : Int32)) hx hb dX9_lay_30 (by decide) ?_
      refine r_iald X hG 2 rfl (vpd (by decide)) dX9_lay_31 ?_
      refine r_iast X hG 2 (ws' := (W_X9 a cI cJ c_length c_text (upd k_stands_2 (0 : Int32).toNatClampNeg (k_stands_2 (1 : Int32).toNatClampNeg)) k_homeFar_3 k_nets_4 k_netAt_5 k_netWide_6 k_netFrom_7 k_netTo_8 k_priceX_9 k_priceY_10 k_many_11 k_days_12 k_aims_13 k_speeds_14 k_kinds_15 c_keptMany c_undoMany c_undos k_spot_16 k_told_17 c_to c_stood c_home c_lost c_out c_fewest c_ways c_next c_held)) rfl (vpd (by decide)) rfl dX9_lay_32 (fun H locs hG => ?_)
      refine lv_aload_n hx hb dX9_lay_33 rfl (lv_at hl 0 rfl) ?_
      refine r_get X hG in_X9 rfl 3 (by decide) w_634 0 rfl rfl dX9_lay_34 ?_
      refine lv_iconst (v := (0 : Int32)) hx hb dX9_lay_37 (by decide) ?_
      refine lv_aload_n hx hb dX9_lay_38 rfl (lv_at hl 0 rfl) ?_
      refine r_get X hG in_X9 rfl 3 (by decide) w_634 0 rfl rfl dX9_lay_39 ?_
      refine lv_iconst (v := (1 : Int32)) hx hb dX9_lay_42 (by decide) ?_
      refine r_iald X hG 3 rfl (vpd (by decide)) dX9_lay_43 ?_
      refine r_iast X hG 3 (ws' := (W_X9 a cI cJ c_length c_text (upd k_stands_2 (0 : Int32).toNatClampNeg (k_stands_2 (1 : Int32).toNatClampNeg)) (upd k_homeFar_3 (0 : Int32).toNatClampNeg (k_homeFar_3 (1 : Int32).toNatClampNeg)) k_nets_4 k_netAt_5 k_netWide_6 k_netFrom_7 k_netTo_8 k_priceX_9 k_priceY_10 k_many_11 k_days_12 k_aims_13 k_speeds_14 k_kinds_15 c_keptMany c_undoMany c_undos k_spot_16 k_told_17 c_to c_stood c_home c_lost c_out c_fewest c_ways c_next c_held)) rfl (vpd (by decide)) rfl dX9_lay_44 (fun H locs hG => ?_)
      refine lv_aload_n hx hb dX9_lay_45 rfl (lv_at hl 0 rfl) ?_
      refine r_get X hG in_X9 rfl 4 (by decide) w_635 0 rfl rfl dX9_lay_46 ?_
      refine lv_iconst (v := (0 : Int32)) hx hb dX9_lay_49 (by decide) ?_
      refine lv_aload_n hx hb dX9_lay_50 rfl (lv_at hl 0 rfl) ?_
      refine r_get X hG in_X9 rfl 4 (by decide) w_635 0 rfl rfl dX9_lay_51 ?_
      refine lv_iconst (v := (1 : Int32)) hx hb dX9_lay_54 (by decide) ?_
      refine r_iald X hG 4 rfl (vpd (by decide)) dX9_lay_55 ?_
      refine r_iast X hG 4 (ws' := (W_X9 a cI cJ c_length c_text (upd k_stands_2 (0 : Int32).toNatClampNeg (k_stands_2 (1 : Int32).toNatClampNeg)) (upd k_homeFar_3 (0 : Int32).toNatClampNeg (k_homeFar_3 (1 : Int32).toNatClampNeg)) (upd k_nets_4 (0 : Int32).toNatClampNeg (k_nets_4 (1 : Int32).toNatClampNeg)) k_netAt_5 k_netWide_6 k_netFrom_7 k_netTo_8 k_priceX_9 k_priceY_10 k_many_11 k_days_12 k_aims_13 k_speeds_14 k_kinds_15 c_keptMany c_undoMany c_undos k_spot_16 k_told_17 c_to c_stood c_home c_lost c_out c_fewest c_ways c_next c_held)) rfl (vpd (by decide)) rfl dX9_lay_56 (fun H locs hG => ?_)
      refine lv_aload_n hx hb dX9_lay_57 rfl (lv_at hl 0 rfl) ?_
      refine r_get X hG in_X9 rfl 9 (by decide) w_640 0 rfl rfl dX9_lay_58 ?_
      refine lv_iconst (v := (0 : Int32)) hx hb dX9_lay_61 (by decide) ?_
      refine lv_aload_n hx hb dX9_lay_62 rfl (lv_at hl 0 rfl) ?_
      refine r_get X hG in_X9 rfl 9 (by decide) w_640 0 rfl rfl dX9_lay_63 ?_
      refine lv_iconst (v := (1 : Int32)) hx hb dX9_lay_66 (by decide) ?_
      refine r_iald X hG 9 rfl (vpd (by decide)) dX9_lay_67 ?_
      refine r_iast X hG 9 (ws' := (W_X9 a cI cJ c_length c_text (upd k_stands_2 (0 : Int32).toNatClampNeg (k_stands_2 (1 : Int32).toNatClampNeg)) (upd k_homeFar_3 (0 : Int32).toNatClampNeg (k_homeFar_3 (1 : Int32).toNatClampNeg)) (upd k_nets_4 (0 : Int32).toNatClampNeg (k_nets_4 (1 : Int32).toNatClampNeg)) k_netAt_5 k_netWide_6 k_netFrom_7 k_netTo_8 (upd k_priceX_9 (0 : Int32).toNatClampNeg (k_priceX_9 (1 : Int32).toNatClampNeg)) k_priceY_10 k_many_11 k_days_12 k_aims_13 k_speeds_14 k_kinds_15 c_keptMany c_undoMany c_undos k_spot_16 k_told_17 c_to c_stood c_home c_lost c_out c_fewest c_ways c_next c_held)) rfl (vpd (by decide)) rfl dX9_lay_68 (fun H locs hG => ?_)
      refine lv_aload_n hx hb dX9_lay_69 rfl (lv_at hl 0 rfl) ?_
      refine r_get X hG in_X9 rfl 10 (by decide) w_641 0 rfl rfl dX9_lay_70 ?_
      refine lv_iconst (v := (0 : Int32)) hx hb dX9_lay_73 (by decide) ?_
      refine lv_aload_n hx hb dX9_lay_74 rfl (lv_at hl 0 rfl) ?_
      refine r_get X hG in_X9 rfl 10 (by decide) w_641 0 rfl rfl dX9_lay_75 ?_
      refine lv_iconst (v := (1 : Int32)) hx hb dX9_lay_78 (by decide) ?_
      refine r_iald X hG 10 rfl (vpd (by decide)) dX9_lay_79 ?_
      refine r_iast X hG 10 (ws' := (W_X9 a cI cJ c_length c_text (upd k_stands_2 (0 : Int32).toNatClampNeg (k_stands_2 (1 : Int32).toNatClampNeg)) (upd k_homeFar_3 (0 : Int32).toNatClampNeg (k_homeFar_3 (1 : Int32).toNatClampNeg)) (upd k_nets_4 (0 : Int32).toNatClampNeg (k_nets_4 (1 : Int32).toNatClampNeg)) k_netAt_5 k_netWide_6 k_netFrom_7 k_netTo_8 (upd k_priceX_9 (0 : Int32).toNatClampNeg (k_priceX_9 (1 : Int32).toNatClampNeg)) (upd k_priceY_10 (0 : Int32).toNatClampNeg (k_priceY_10 (1 : Int32).toNatClampNeg)) k_many_11 k_days_12 k_aims_13 k_speeds_14 k_kinds_15 c_keptMany c_undoMany c_undos k_spot_16 k_told_17 c_to c_stood c_home c_lost c_out c_fewest c_ways c_next c_held)) rfl (vpd (by decide)) rfl dX9_lay_80 (fun H locs hG => ?_)
      refine lv_iconst (v := (0 : Int32)) hx hb dX9_lay_81 (by decide) ?_
      refine lv_istore_n (lv' := [(1, .int (0 : Int32)), (0, .ref (a 0))]) hx hb dX9_lay_82 rfl hl (by decide) rfl (fun ls hl => ?_)
      obtain ⟨k_netAt_30, k_netWide_31, k_netFrom_32, k_netTo_33, hz, h⟩ := bd4_some h
      refine L83 (upd k_stands_2 (0 : Int32).toNatClampNeg (k_stands_2 (1 : Int32).toNatClampNeg)) (upd k_homeFar_3 (0 : Int32).toNatClampNeg (k_homeFar_3 (1 : Int32).toNatClampNeg)) (upd k_nets_4 (0 : Int32).toNatClampNeg (k_nets_4 (1 : Int32).toNatClampNeg)) (upd k_priceX_9 (0 : Int32).toNatClampNeg (k_priceX_9 (1 : Int32).toNatClampNeg)) (upd k_priceY_10 (0 : Int32).toNatClampNeg (k_priceY_10 (1 : Int32).toNatClampNeg)) k_many_11 k_days_12 k_aims_13 k_speeds_14 k_kinds_15 c_keptMany c_undoMany k_spot_16 k_told_17 FU (0 : Int32) k_netAt_5 k_netWide_6 k_netFrom_7 k_netTo_8 _ _ _ _ hz (fun ls H locs hl hG => ?_) _ _ _ (lv_sub hl [1, 0] rfl) hG
      clear hz
      refine lv_aload_n hx hb dX9_lay_154 rfl (lv_at hl 0 rfl) ?_
      refine lv_iconst (v := (1 : Int32)) hx hb dX9_lay_155 (by decide) ?_
      refine lv_iconst (v := (0 : Int32)) hx hb dX9_lay_156 (by decide) ?_
      obtain ⟨k_many_34, k_days_35, k_aims_36, k_speeds_37, k_kinds_38, hz_39, h⟩ := bd5_some h
      refine aft_v1 (run_V1 (rest := []) X hG hl.1 (mX9_copy l dC dI cI cJ a c_length c_text (upd k_stands_2 (0 : Int32).toNatClampNeg (k_stands_2 (1 : Int32).toNatClampNeg)) (upd k_homeFar_3 (0 : Int32).toNatClampNeg (k_homeFar_3 (1 : Int32).toNatClampNeg)) (upd k_nets_4 (0 : Int32).toNatClampNeg (k_nets_4 (1 : Int32).toNatClampNeg)) k_netAt_30 k_netWide_31 k_netFrom_32 k_netTo_33 (upd k_priceX_9 (0 : Int32).toNatClampNeg (k_priceX_9 (1 : Int32).toNatClampNeg)) (upd k_priceY_10 (0 : Int32).toNatClampNeg (k_priceY_10 (1 : Int32).toNatClampNeg)) k_many_11 k_days_12 k_aims_13 k_speeds_14 k_kinds_15 c_keptMany c_undoMany c_undos k_spot_16 k_told_17 c_to c_stood c_home c_lost c_out c_fewest c_ways c_next c_held (1 : Int32) (0 : Int32) hz_39) gi_V_X9_131 hd_V_yX9_copy ⟨rfl, rfl⟩ rfl ⟨Nat.le_of_ble_eq_true rfl, Nat.le_of_ble_eq_true rfl⟩ 0 rfl rfl rfl rfl (Nat.le_of_ble_eq_true rfl) ⟨Nat.le_of_ble_eq_true rfl, Nat.le_of_ble_eq_true rfl⟩ dX9_lay_157) hG rfl (fun H locs hG => ?_)
      clear hz_39
      refine lv_aload_n hx hb dX9_lay_160 rfl (lv_at hl 0 rfl) ?_
      refine lv_iconst (v := (0 : Int32)) hx hb dX9_lay_161 (by decide) ?_
      refine r_put X hG in_X9 rfl tyX9 tyX9_ok nmX9 16 (by decide) rfl (by decide +kernel) w_647 0 (ws' := (W_X9 a cI cJ c_length c_text (upd k_stands_2 (0 : Int32).toNatClampNeg (k_stands_2 (1 : Int32).toNatClampNeg)) (upd k_homeFar_3 (0 : Int32).toNatClampNeg (k_homeFar_3 (1 : Int32).toNatClampNeg)) (upd k_nets_4 (0 : Int32).toNatClampNeg (k_nets_4 (1 : Int32).toNatClampNeg)) k_netAt_30 k_netWide_31 k_netFrom_32 k_netTo_33 (upd k_priceX_9 (0 : Int32).toNatClampNeg (k_priceX_9 (1 : Int32).toNatClampNeg)) (upd k_priceY_10 (0 : Int32).toNatClampNeg (k_priceY_10 (1 : Int32).toNatClampNeg)) k_many_34 k_days_35 k_aims_36 k_speeds_37 k_kinds_38 (0 : Int32) c_undoMany c_undos k_spot_16 k_told_17 c_to c_stood c_home c_lost c_out c_fewest c_ways c_next c_held)) rfl (Nat.le_of_ble_eq_true rfl) rfl dX9_lay_162 (fun H locs hG => ?_)
      refine lv_aload_n hx hb dX9_lay_165 rfl (lv_at hl 0 rfl) ?_
      refine lv_iconst (v := (0 : Int32)) hx hb dX9_lay_166 (by decide) ?_
      refine r_put X hG in_X9 rfl tyX9 tyX9_ok nmX9 17 (by decide) rfl (by decide +kernel) w_648 0 (ws' := (W_X9 a cI cJ c_length c_text (upd k_stands_2 (0 : Int32).toNatClampNeg (k_stands_2 (1 : Int32).toNatClampNeg)) (upd k_homeFar_3 (0 : Int32).toNatClampNeg (k_homeFar_3 (1 : Int32).toNatClampNeg)) (upd k_nets_4 (0 : Int32).toNatClampNeg (k_nets_4 (1 : Int32).toNatClampNeg)) k_netAt_30 k_netWide_31 k_netFrom_32 k_netTo_33 (upd k_priceX_9 (0 : Int32).toNatClampNeg (k_priceX_9 (1 : Int32).toNatClampNeg)) (upd k_priceY_10 (0 : Int32).toNatClampNeg (k_priceY_10 (1 : Int32).toNatClampNeg)) k_many_34 k_days_35 k_aims_36 k_speeds_37 k_kinds_38 (0 : Int32) (0 : Int32) c_undos k_spot_16 k_told_17 c_to c_stood c_home c_lost c_out c_fewest c_ways c_next c_held)) rfl (Nat.le_of_ble_eq_true rfl) rfl dX9_lay_167 (fun H locs hG => ?_)
      refine lv_aload_n hx hb dX9_lay_170 rfl (lv_at hl 0 rfl) ?_
      refine r_get X hG in_X9 rfl 11 (by decide) w_642 0 rfl rfl dX9_lay_171 ?_
      refine lv_iconst (v := (0 : Int32)) hx hb dX9_lay_174 (by decide) ?_
      refine r_iald X hG 11 rfl (vpd (by decide)) dX9_lay_175 ?_
      cases h
      exact ret _ _ _ _ dX9_lay_176 hG
    · have h := ite_t h c_20
      refine lv_bipush (v := (-2 : Int32)) hx hb dX9_lay_18 (by decide) ?_
      cases h
      exact ret _ _ _ _ dX9_lay_20 hG
set_option maxRecDepth 100000 in
set_option maxHeartbeats 4000000 in
theorem mX9_isThrow (l : Launch) (dC : Nat → ClassId) (dI : Nat → Nat → Nat) (cI cJ : ClassId) (a : Nat → Nat) (c_length : Int32) (c_text : Nat → Int32) (c_stands : Nat → Int32) (c_homeFar : Nat → Int32) (c_nets : Nat → Int32) (c_netAt : Nat → Int32) (c_netWide : Nat → Int32) (c_netFrom : Nat → Int32) (c_netTo : Nat → Int32) (c_priceX : Nat → Int32) (c_priceY : Nat → Int32) (c_many : Nat → Int32) (c_days : Nat → Int32) (c_aims : Nat → Int32) (c_speeds : Nat → Int32) (c_kinds : Nat → Int32) (c_keptMany : Int32) (c_undoMany : Int32) (c_undos : Nat → Int32) (c_spot : Int32) (c_told : Nat → Int32) (c_to : Nat → Int32) (c_stood : Nat → Int32) (c_home : Nat → Int32) (c_lost : Nat → Int32) (c_out : Int32) (c_fewest : Nat → Int32) (c_ways : Nat → Int64) (c_next : Nat → Int64) (c_held : Nat → Int32) (x1 : Int32) {res : Int32} (hD : DX9_isThrow x1 c_many = some res) : Met l yX9_isThrow (WZ yX9_isThrow cX9_isThrow 2 (some .boolean)) (RM 1 25) (PC dC dI cI cJ [.ref (a 0), .int x1] (W_X9 a cI cJ c_length c_text c_stands c_homeFar c_nets c_netAt c_netWide c_netFrom c_netTo c_priceX c_priceY c_many c_days c_aims c_speeds c_kinds c_keptMany c_undoMany c_undos c_spot c_told c_to c_stood c_home c_lost c_out c_fewest c_ways c_next c_held)) (QI dC dI (W_X9 a cI cJ c_length c_text c_stands c_homeFar c_nets c_netAt c_netWide c_netFrom c_netTo c_priceX c_priceY c_many c_days c_aims c_speeds c_kinds c_keptMany c_undoMany c_undos c_spot c_told c_to c_stood c_home c_lost c_out c_fewest c_ways c_next c_held) (W_X9 a cI cJ c_length c_text c_stands c_homeFar c_nets c_netAt c_netWide c_netFrom c_netTo c_priceX c_priceY c_many c_days c_aims c_speeds c_kinds c_keptMany c_undoMany c_undos c_spot c_told c_to c_stood c_home c_lost c_out c_fewest c_ways c_next c_held) res) 0 0 (FA (W_X9 a cI cJ c_length c_text c_stands c_homeFar c_nets c_netAt c_netWide c_netFrom c_netTo c_priceX c_priceY c_many c_days c_aims c_speeds c_kinds c_keptMany c_undoMany c_undos c_spot c_told c_to c_stood c_home c_lost c_out c_fewest c_ways c_next c_held)) := by
  refine r_metZ (by decide +kernel) (Nat.le_of_ble_eq_true rfl) ?_
  intro p e s m args below meth c A H0 QQ X ret ls hl hG
  have X : Cx p m c cX9_isThrow 2 s args RX9 dC dI cI cJ meth (some .boolean) := X
  have hx := X.1.1
  have hb := X.1.2.1
  have hl : lv_has ls 2 [(0, .ref (a 0)), (1, .int x1)] := hl
  have h := hD
  unfold DX9_isThrow at h
  clear hD
  refine lv_iload_n hx hb dX9_isThrow_0 rfl (lv_at hl 1 rfl) ?_
  refine lv_i2l (v := (x1.toInt64)) hx hb dX9_isThrow_1 rfl ?_
  refine lv_lconst (v := (0 : Int64)) hx hb dX9_isThrow_2 (by decide) ?_
  refine lv_aload_n hx hb dX9_isThrow_3 rfl (lv_at hl 0 rfl) ?_
  refine r_get X hG in_X9 rfl 11 (by decide) w_642 0 rfl rfl dX9_isThrow_4 ?_
  refine lv_iconst (v := (0 : Int32)) hx hb dX9_isThrow_7 (by decide) ?_
  refine r_iald X hG 11 rfl (vpd (by decide)) dX9_isThrow_8 ?_
  refine lv_iconst (v := (1 : Int32)) hx hb dX9_isThrow_9 (by decide) ?_
  refine lv_isub hx hb dX9_isThrow_10 ?_
  refine lv_i2l (v := (((c_many (0 : Int32).toNatClampNeg) - (1 : Int32)).toInt64)) hx hb dX9_isThrow_11 rfl ?_
  obtain ⟨r_1, hz_2, h⟩ := bd1_some h
  refine aft_i (ws' := (W_X9 a cI cJ c_length c_text c_stands c_homeFar c_nets c_netAt c_netWide c_netFrom c_netTo c_priceX c_priceY c_many c_days c_aims c_speeds c_kinds c_keptMany c_undoMany c_undos c_spot c_told c_to c_stood c_home c_lost c_out c_fewest c_ways c_next c_held)) (run_S (rest := []) X hG hl.1 (mX9_in l dC dI cI cJ (x1.toInt64) (0 : Int64) (((c_many (0 : Int32).toNatClampNeg) - (1 : Int32)).toInt64) hz_2) gi_S_X9_92 hd_S_yX9_in ⟨rfl, rfl⟩ rfl ⟨Nat.le_of_ble_eq_true rfl, Nat.le_of_ble_eq_true rfl⟩ [] (by decide) rfl rfl (Nat.le_of_ble_eq_true rfl) ⟨Nat.le_of_ble_eq_true rfl, Nat.le_of_ble_eq_true rfl⟩ dX9_isThrow_12) hG [] rfl rfl rfl (fun H locs hG => ?_)
  clear hz_2
  obtain ⟨g_3, h⟩ := gd h
  cases h
  exact ret _ _ _ _ dX9_isThrow_15 (Decidable.not_not.mp g_3) hG
set_option maxRecDepth 100000 in
set_option maxHeartbeats 4000000 in
theorem mX9_homeDay (l : Launch) (dC : Nat → ClassId) (dI : Nat → Nat → Nat) (cI cJ : ClassId) (a : Nat → Nat) (c_length : Int32) (c_text : Nat → Int32) (c_stands : Nat → Int32) (c_homeFar : Nat → Int32) (c_nets : Nat → Int32) (c_netAt : Nat → Int32) (c_netWide : Nat → Int32) (c_netFrom : Nat → Int32) (c_netTo : Nat → Int32) (c_priceX : Nat → Int32) (c_priceY : Nat → Int32) (c_many : Nat → Int32) (c_days : Nat → Int32) (c_aims : Nat → Int32) (c_speeds : Nat → Int32) (c_kinds : Nat → Int32) (c_keptMany : Int32) (c_undoMany : Int32) (c_undos : Nat → Int32) (c_spot : Int32) (c_told : Nat → Int32) (c_to : Nat → Int32) (c_stood : Nat → Int32) (c_home : Nat → Int32) (c_lost : Nat → Int32) (c_out : Int32) (c_fewest : Nat → Int32) (c_ways : Nat → Int64) (c_next : Nat → Int64) (c_held : Nat → Int32) (x1 : Int32) (x2 : Int32) {res : Int32} (hD : DX9_homeDay x1 x2 c_homeFar = some res) : Met l yX9_homeDay (WZ yX9_homeDay cX9_homeDay 3 (some .int)) (RM 0 0) (PC dC dI cI cJ [.ref (a 0), .int x1, .int x2] (W_X9 a cI cJ c_length c_text c_stands c_homeFar c_nets c_netAt c_netWide c_netFrom c_netTo c_priceX c_priceY c_many c_days c_aims c_speeds c_kinds c_keptMany c_undoMany c_undos c_spot c_told c_to c_stood c_home c_lost c_out c_fewest c_ways c_next c_held)) (QI dC dI (W_X9 a cI cJ c_length c_text c_stands c_homeFar c_nets c_netAt c_netWide c_netFrom c_netTo c_priceX c_priceY c_many c_days c_aims c_speeds c_kinds c_keptMany c_undoMany c_undos c_spot c_told c_to c_stood c_home c_lost c_out c_fewest c_ways c_next c_held) (W_X9 a cI cJ c_length c_text c_stands c_homeFar c_nets c_netAt c_netWide c_netFrom c_netTo c_priceX c_priceY c_many c_days c_aims c_speeds c_kinds c_keptMany c_undoMany c_undos c_spot c_told c_to c_stood c_home c_lost c_out c_fewest c_ways c_next c_held) res) 0 0 (FA (W_X9 a cI cJ c_length c_text c_stands c_homeFar c_nets c_netAt c_netWide c_netFrom c_netTo c_priceX c_priceY c_many c_days c_aims c_speeds c_kinds c_keptMany c_undoMany c_undos c_spot c_told c_to c_stood c_home c_lost c_out c_fewest c_ways c_next c_held)) := by
  refine r_metI (by decide +kernel) (Nat.le_of_ble_eq_true rfl) ?_
  intro p e s m args below meth c A H0 QQ X ret ls hl hG
  have X : Cx p m c cX9_homeDay 3 s args RX9 dC dI cI cJ meth (some .int) := X
  have hx := X.1.1
  have hb := X.1.2.1
  have hl : lv_has ls 3 [(0, .ref (a 0)), (1, .int x1), (2, .int x2)] := hl
  have h := hD
  unfold DX9_homeDay at h
  clear hD
  refine lv_iload_n hx hb dX9_homeDay_0 rfl (lv_at hl 1 rfl) ?_
  refine lv_aload_n hx hb dX9_homeDay_1 rfl (lv_at hl 0 rfl) ?_
  refine r_get X hG in_X9 rfl 3 (by decide) w_634 0 rfl rfl dX9_homeDay_2 ?_
  refine lv_iconst (v := (0 : Int32)) hx hb dX9_homeDay_5 (by decide) ?_
  refine r_iald X hG 3 rfl (vpd (by decide)) dX9_homeDay_6 ?_
  refine lv_iload_n hx hb dX9_homeDay_7 rfl (lv_at hl 2 rfl) ?_
  refine lv_iadd hx hb dX9_homeDay_8 ?_
  refine lv_iconst (v := (1 : Int32)) hx hb dX9_homeDay_9 (by decide) ?_
  refine lv_isub hx hb dX9_homeDay_10 ?_
  refine lv_iload_n hx hb dX9_homeDay_11 rfl (lv_at hl 2 rfl) ?_
  obtain ⟨g_1, h⟩ := gd h
  refine lv_idiv hx hb dX9_homeDay_12 g_1 ?_
  refine lv_iadd hx hb dX9_homeDay_13 ?_
  cases h
  exact ret _ _ _ _ dX9_homeDay_14 hG
set_option maxRecDepth 100000 in
set_option maxHeartbeats 4000000 in
theorem mX9_around (l : Launch) (dC : Nat → ClassId) (dI : Nat → Nat → Nat) (cI cJ : ClassId) (x0 : Int32) {res : Int32} (hD : DX9_around x0 = some res) : Met l yX9_around (WZ yX9_around cX9_around 1 (some .int)) (RM 0 0) (PC dC dI cI cJ [.int x0] []) (QI dC dI [] [] res) 0 0 (FA []) := by
  refine r_metI (by decide +kernel) (Nat.le_of_ble_eq_true rfl) ?_
  intro p e s m args below meth c A H0 QQ X ret ls hl hG
  have X : Cx p m c cX9_around 1 s args RX9 dC dI cI cJ meth (some .int) := X
  have hx := X.1.1
  have hb := X.1.2.1
  have hl : lv_has ls 1 [(0, .int x0)] := hl
  have h := hD
  unfold DX9_around at h
  clear hD
  refine lv_iload_n hx hb dX9_around_0 rfl (lv_at hl 0 rfl) ?_
  refine lv_bipush (v := (24 : Int32)) hx hb dX9_around_1 (by decide) ?_
  refine lv_irem hx hb dX9_around_3 (by decide) ?_
  refine lv_bipush (v := (24 : Int32)) hx hb dX9_around_4 (by decide) ?_
  refine lv_iadd hx hb dX9_around_6 ?_
  refine lv_bipush (v := (24 : Int32)) hx hb dX9_around_7 (by decide) ?_
  refine lv_irem hx hb dX9_around_9 (by decide) ?_
  cases h
  exact ret _ _ _ _ dX9_around_10 hG
set_option maxRecDepth 100000 in
set_option maxHeartbeats 4000000 in
theorem mX9_turnTo (l : Launch) (dC : Nat → ClassId) (dI : Nat → Nat → Nat) (cI cJ : ClassId) (a : Nat → Nat) (c_length : Int32) (c_text : Nat → Int32) (c_stands : Nat → Int32) (c_homeFar : Nat → Int32) (c_nets : Nat → Int32) (c_netAt : Nat → Int32) (c_netWide : Nat → Int32) (c_netFrom : Nat → Int32) (c_netTo : Nat → Int32) (c_priceX : Nat → Int32) (c_priceY : Nat → Int32) (c_many : Nat → Int32) (c_days : Nat → Int32) (c_aims : Nat → Int32) (c_speeds : Nat → Int32) (c_kinds : Nat → Int32) (c_keptMany : Int32) (c_undoMany : Int32) (c_undos : Nat → Int32) (c_spot : Int32) (c_told : Nat → Int32) (c_to : Nat → Int32) (c_stood : Nat → Int32) (c_home : Nat → Int32) (c_lost : Nat → Int32) (c_out : Int32) (c_fewest : Nat → Int32) (c_ways : Nat → Int64) (c_next : Nat → Int64) (c_held : Nat → Int32) (x1 : Int32) {res : Int32} {n_to : Nat → Int32} {n_stood : Nat → Int32} (hD : DX9_turnTo x1 c_stands c_many c_days c_aims c_speeds c_kinds c_to c_stood c_out = some (res, n_to, n_stood)) : Met l yX9_turnTo (WZ yX9_turnTo cX9_turnTo 5 (some .int)) (RM 1 21) (PC dC dI cI cJ [.ref (a 0), .int x1] (W_X9 a cI cJ c_length c_text c_stands c_homeFar c_nets c_netAt c_netWide c_netFrom c_netTo c_priceX c_priceY c_many c_days c_aims c_speeds c_kinds c_keptMany c_undoMany c_undos c_spot c_told c_to c_stood c_home c_lost c_out c_fewest c_ways c_next c_held)) (QI dC dI (W_X9 a cI cJ c_length c_text c_stands c_homeFar c_nets c_netAt c_netWide c_netFrom c_netTo c_priceX c_priceY c_many c_days c_aims c_speeds c_kinds c_keptMany c_undoMany c_undos c_spot c_told c_to c_stood c_home c_lost c_out c_fewest c_ways c_next c_held) (W_X9 a cI cJ c_length c_text c_stands c_homeFar c_nets c_netAt c_netWide c_netFrom c_netTo c_priceX c_priceY c_many c_days c_aims c_speeds c_kinds c_keptMany c_undoMany c_undos c_spot c_told n_to n_stood c_home c_lost c_out c_fewest c_ways c_next c_held) res) 0 0 (FA (W_X9 a cI cJ c_length c_text c_stands c_homeFar c_nets c_netAt c_netWide c_netFrom c_netTo c_priceX c_priceY c_many c_days c_aims c_speeds c_kinds c_keptMany c_undoMany c_undos c_spot c_told c_to c_stood c_home c_lost c_out c_fewest c_ways c_next c_held)) := by
  refine r_metI (by decide +kernel) (Nat.le_of_ble_eq_true rfl) ?_
  intro p e s m args below meth c A H0 QQ X ret ls hl hG
  have X : Cx p m c cX9_turnTo 5 s args RX9 dC dI cI cJ meth (some .int) := X
  have hx := X.1.1
  have hb := X.1.2.1
  have hl : lv_has ls 5 [(0, .ref (a 0)), (1, .int x1)] := hl
  have J109 : ∀ (y0 : Int32) (y1 : Int32) (y2 : Int32) (x3 : Int32) (x4 : Int32) (c_to : Nat → Int32) (c_stood : Nat → Int32), ∀ (w : (Int32 × Int32 × (Nat → Int32) × (Nat → Int32)) ⊕ (Int32 × (Nat → Int32) × (Nat → Int32))), DX9_turnTo_J109 c_to c_stood y0 y1 y2 x4 = some w → (∀ (x2 : Int32) (x4 : Int32) (c_to : Nat → Int32) (c_stood : Nat → Int32), w = .inl (x2, x4, c_to, c_stood) → ∀ (ls : Array Slot) (H : Heap) (locs : List Loc), lv_has ls 5 [(0, .ref (a 0)), (1, .int x1), (2, .int x2), (3, .int x3), (4, .int x4)] → G dC dI A H0 (W_X9 a cI cJ c_length c_text c_stands c_homeFar c_nets c_netAt c_netWide c_netFrom c_netTo c_priceX c_priceY c_many c_days c_aims c_speeds c_kinds c_keptMany c_undoMany c_undos c_spot c_told c_to c_stood c_home c_lost c_out c_fewest c_ways c_next c_held) H locs → W p l e (RM 1 21) s m args below meth c H locs 0 0 QQ (F0 m 17 ls [])) → (∀ (x2 : Int32) (c_to : Nat → Int32) (c_stood : Nat → Int32), w = .inr (x2, c_to, c_stood) → ∀ (ls : Array Slot) (H : Heap) (locs : List Loc), lv_has ls 5 [(0, .ref (a 0)), (1, .int x1), (2, .int x2), (3, .int x3)] → G dC dI A H0 (W_X9 a cI cJ c_length c_text c_stands c_homeFar c_nets c_netAt c_netWide c_netFrom c_netTo c_priceX c_priceY c_many c_days c_aims c_speeds c_kinds c_keptMany c_undoMany c_undos c_spot c_told c_to c_stood c_home c_lost c_out c_fewest c_ways c_next c_held) H locs → W p l e (RM 1 21) s m args below meth c H locs 0 0 QQ (F0 m 129 ls [])) → ∀ (ls : Array Slot) (H : Heap) (locs : List Loc), lv_has ls 5 [(0, .ref (a 0)), (1, .int x1), (3, .int x3), (4, .int x4)] → G dC dI A H0 (W_X9 a cI cJ c_length c_text c_stands c_homeFar c_nets c_netAt c_netWide c_netFrom c_netTo c_priceX c_priceY c_many c_days c_aims c_speeds c_kinds c_keptMany c_undoMany c_undos c_spot c_told c_to c_stood c_home c_lost c_out c_fewest c_ways c_next c_held) H locs → W p l e (RM 1 21) s m args below meth c H locs 0 0 QQ (F0 m 109 ls [.int y0, .int y1, .int y2]) := by
    intro y0 y1 y2 x3 x4 c_to c_stood w h KC KX ls H locs hl hG
    unfold DX9_turnTo_J109 at h
    refine lv_imul hx hb dX9_turnTo_109 ?_
    refine lv_isub hx hb dX9_turnTo_110 ?_
    obtain ⟨r_17, hz_18, h⟩ := bd1_some h
    refine aft_i (ws' := (W_X9 a cI cJ c_length c_text c_stands c_homeFar c_nets c_netAt c_netWide c_netFrom c_netTo c_priceX c_priceY c_many c_days c_aims c_speeds c_kinds c_keptMany c_undoMany c_undos c_spot c_told c_to c_stood c_home c_lost c_out c_fewest c_ways c_next c_held)) (run_S (rest := []) X hG hl.1 (mX9_around l dC dI cI cJ (y2 - (y1 * y0)) hz_18) gi_S_X9_148 hd_S_yX9_around ⟨rfl, rfl⟩ rfl ⟨Nat.le_of_ble_eq_true rfl, Nat.le_of_ble_eq_true rfl⟩ [] (by decide) rfl rfl (Nat.le_of_ble_eq_true rfl) ⟨Nat.le_of_ble_eq_true rfl, Nat.le_of_ble_eq_true rfl⟩ dX9_turnTo_111) hG [] rfl rfl rfl (fun H locs hG => ?_)
    clear hz_18
    refine lv_istore_n (lv' := [(2, .int r_17), (0, .ref (a 0)), (1, .int x1), (3, .int x3), (4, .int x4)]) hx hb dX9_turnTo_114 rfl hl (by decide) rfl (fun ls hl => ?_)
    refine lv_aload_n hx hb dX9_turnTo_115 rfl (lv_at hl 1 rfl) ?_
    refine r_get X hG in_X9 rfl 22 (by decide) w_653 0 rfl rfl dX9_turnTo_116 ?_
    refine lv_iload hx hb dX9_turnTo_119 (lv_at hl 4 rfl) ?_
    refine lv_iload_n hx hb dX9_turnTo_121 rfl (lv_at hl 0 rfl) ?_
    obtain ⟨g_19, h⟩ := gd h
    refine r_iast X hG 19 (ws' := (W_X9 a cI cJ c_length c_text c_stands c_homeFar c_nets c_netAt c_netWide c_netFrom c_netTo c_priceX c_priceY c_many c_days c_aims c_speeds c_kinds c_keptMany c_undoMany c_undos c_spot c_told c_to (upd c_stood x4.toNatClampNeg r_17) c_home c_lost c_out c_fewest c_ways c_next c_held)) rfl g_19 rfl dX9_turnTo_122 (fun H locs hG => ?_)
    refine lv_iinc (v := (x4 + (1 : Int32))) (lv' := [(4, .int (x4 + (1 : Int32))), (2, .int r_17), (0, .ref (a 0)), (1, .int x1), (3, .int x3)]) hx hb dX9_turnTo_123 hl (k := 4) rfl rfl (by decide) rfl (fun ls hl => ?_)
    refine lv_goto (tgt := 17) hx hb dX9_turnTo_126 (by decide) ?_
    exact KC _ _ _ _ (Option.some.inj h).symm _ _ _ (lv_sub hl [2, 3, 1, 4, 0] rfl) hG
  have L17 : ∀ (x3 : Int32), ∀ (n : Nat) (x2 : Int32) (x4 : Int32) (c_to : Nat → Int32) (c_stood : Nat → Int32) (ex2 : Int32) (ec_to : Nat → Int32) (ec_stood : Nat → Int32), DX9_turnTo_L17 c_many c_days c_aims c_speeds c_kinds c_out x3 n x2 x4 c_to c_stood = some (ex2, ec_to, ec_stood) → (∀ (ls : Array Slot) (H : Heap) (locs : List Loc), lv_has ls 5 [(0, .ref (a 0)), (1, .int x1), (2, .int ex2), (3, .int x3)] → G dC dI A H0 (W_X9 a cI cJ c_length c_text c_stands c_homeFar c_nets c_netAt c_netWide c_netFrom c_netTo c_priceX c_priceY c_many c_days c_aims c_speeds c_kinds c_keptMany c_undoMany c_undos c_spot c_told ec_to ec_stood c_home c_lost c_out c_fewest c_ways c_next c_held) H locs → W p l e (RM 1 21) s m args below meth c H locs 0 0 QQ (F0 m 129 ls [])) → ∀ (ls : Array Slot) (H : Heap) (locs : List Loc), lv_has ls 5 [(0, .ref (a 0)), (1, .int x1), (2, .int x2), (3, .int x3), (4, .int x4)] → G dC dI A H0 (W_X9 a cI cJ c_length c_text c_stands c_homeFar c_nets c_netAt c_netWide c_netFrom c_netTo c_priceX c_priceY c_many c_days c_aims c_speeds c_kinds c_keptMany c_undoMany c_undos c_spot c_told c_to c_stood c_home c_lost c_out c_fewest c_ways c_next c_held) H locs → W p l e (RM 1 21) s m args below meth c H locs 0 0 QQ (F0 m 17 ls []) := by
    intro x3 n
    induction n with
    | zero => intro x2 x4 c_to c_stood ex2 ec_to ec_stood h; exact it_zero h
    | succ n ih =>
      intro x2 x4 c_to c_stood ex2 ec_to ec_stood h0 K0 ls H locs hl hG
      obtain ⟨w, h, hi, hr⟩ := it_succ h0
      have h : DX9_turnTo_L17s c_many c_days c_aims c_speeds c_kinds c_out x3 x2 x4 c_to c_stood = some w := h
      have KC : ∀ (x2 : Int32) (x4 : Int32) (c_to : Nat → Int32) (c_stood : Nat → Int32), w = .inl (x2, x4, c_to, c_stood) → ∀ (ls : Array Slot) (H : Heap) (locs : List Loc), lv_has ls 5 [(0, .ref (a 0)), (1, .int x1), (2, .int x2), (3, .int x3), (4, .int x4)] → G dC dI A H0 (W_X9 a cI cJ c_length c_text c_stands c_homeFar c_nets c_netAt c_netWide c_netFrom c_netTo c_priceX c_priceY c_many c_days c_aims c_speeds c_kinds c_keptMany c_undoMany c_undos c_spot c_told c_to c_stood c_home c_lost c_out c_fewest c_ways c_next c_held) H locs → W p l e (RM 1 21) s m args below meth c H locs 0 0 QQ (F0 m 17 ls []) := fun b0 b1 b2 b3 e ls H locs hl hG => ih b0 b1 b2 b3 ex2 ec_to ec_stood (hi _ e) K0 ls H locs hl hG
      have KX : ∀ (x2 : Int32) (c_to : Nat → Int32) (c_stood : Nat → Int32), w = .inr (x2, c_to, c_stood) → ∀ (ls : Array Slot) (H : Heap) (locs : List Loc), lv_has ls 5 [(0, .ref (a 0)), (1, .int x1), (2, .int x2), (3, .int x3)] → G dC dI A H0 (W_X9 a cI cJ c_length c_text c_stands c_homeFar c_nets c_netAt c_netWide c_netFrom c_netTo c_priceX c_priceY c_many c_days c_aims c_speeds c_kinds c_keptMany c_undoMany c_undos c_spot c_told c_to c_stood c_home c_lost c_out c_fewest c_ways c_next c_held) H locs → W p l e (RM 1 21) s m args below meth c H locs 0 0 QQ (F0 m 129 ls []) := fun b0 b1 b2 e ls H locs hl hG => by cases hr _ e; exact K0 ls H locs hl hG
      clear h0 hi hr K0 ih
      unfold DX9_turnTo_L17s at h
      refine lv_iload hx hb dX9_turnTo_17 (lv_at hl 4 rfl) ?_
      refine lv_aload_n hx hb dX9_turnTo_19 rfl (lv_at hl 0 rfl) ?_
      refine r_get X hG in_X9 rfl 11 (by decide) w_642 0 rfl rfl dX9_turnTo_20 ?_
      refine lv_iconst (v := (0 : Int32)) hx hb dX9_turnTo_23 (by decide) ?_
      refine r_iald X hG 11 rfl (vpd (by decide)) dX9_turnTo_24 ?_
      refine lv_icmp_ge (tgt := 129) hx hb dX9_turnTo_25 (by decide) (fun c_2 => ?_) (fun c_2 => ?_)
      · have h := ite_t h c_2
        exact KX _ _ _ (Option.some.inj h).symm _ _ _ (lv_sub hl [0, 1, 2, 3] rfl) hG
      · have h := ite_f h c_2
        refine lv_aload_n hx hb dX9_turnTo_28 rfl (lv_at hl 0 rfl) ?_
        refine r_get X hG in_X9 rfl 12 (by decide) w_643 0 rfl rfl dX9_turnTo_29 ?_
        refine lv_iload hx hb dX9_turnTo_32 (lv_at hl 4 rfl) ?_
        obtain ⟨g_3, h⟩ := gd h
        refine r_iald X hG 12 rfl g_3 dX9_turnTo_34 ?_
        refine lv_iload_n hx hb dX9_turnTo_35 rfl (lv_at hl 3 rfl) ?_
        refine lv_icmp_ne (tgt := 123) hx hb dX9_turnTo_36 (by decide) (fun c_4 => ?_) (fun c_4 => ?_)
        · have h := ite_f h c_4
          refine lv_iinc (v := (x4 + (1 : Int32))) (lv' := [(4, .int (x4 + (1 : Int32))), (0, .ref (a 0)), (1, .int x1), (2, .int x2), (3, .int x3)]) hx hb dX9_turnTo_123 hl (k := 4) rfl rfl (by decide) rfl (fun ls hl => ?_)
          refine lv_goto (tgt := 17) hx hb dX9_turnTo_126 (by decide) ?_
          exact KC _ _ _ _ (Option.some.inj h).symm _ _ _ (lv_sub hl [1, 2, 3, 4, 0] rfl) hG
        · have h := ite_t h c_4
          refine lv_aload_n hx hb dX9_turnTo_39 rfl (lv_at hl 0 rfl) ?_
          refine r_get X hG in_X9 rfl 25 (by decide) w_656 0 rfl rfl dX9_turnTo_40 ?_
          refine lv_iload hx hb dX9_turnTo_43 (lv_at hl 4 rfl) ?_
          obtain ⟨r_5, hz_6, h⟩ := bd1_some h
          refine aft_i (ws' := (W_X9 a cI cJ c_length c_text c_stands c_homeFar c_nets c_netAt c_netWide c_netFrom c_netTo c_priceX c_priceY c_many c_days c_aims c_speeds c_kinds c_keptMany c_undoMany c_undos c_spot c_told c_to c_stood c_home c_lost c_out c_fewest c_ways c_next c_held)) (run_S (rest := []) X hG hl.1 (mX9_has l dC dI cI cJ c_out x4 hz_6) gi_S_X9_144 hd_S_yX9_has ⟨rfl, rfl⟩ rfl ⟨Nat.le_of_ble_eq_true rfl, Nat.le_of_ble_eq_true rfl⟩ [] (by decide) rfl rfl (Nat.le_of_ble_eq_true rfl) ⟨Nat.le_of_ble_eq_true rfl, Nat.le_of_ble_eq_true rfl⟩ dX9_turnTo_45) hG [] rfl rfl rfl (fun H locs hG => ?_)
          clear hz_6
          refine lv_if_ne (tgt := 123) hx hb dX9_turnTo_48 (by decide) (fun c_7 => ?_) (fun c_7 => ?_)
          · have h := ite_f h c_7
            refine lv_iinc (v := (x4 + (1 : Int32))) (lv' := [(4, .int (x4 + (1 : Int32))), (0, .ref (a 0)), (1, .int x1), (2, .int x2), (3, .int x3)]) hx hb dX9_turnTo_123 hl (k := 4) rfl rfl (by decide) rfl (fun ls hl => ?_)
            refine lv_goto (tgt := 17) hx hb dX9_turnTo_126 (by decide) ?_
            exact KC _ _ _ _ (Option.some.inj h).symm _ _ _ (lv_sub hl [1, 2, 3, 4, 0] rfl) hG
          · have h := ite_t h c_7
            refine lv_aload_n hx hb dX9_turnTo_51 rfl (lv_at hl 0 rfl) ?_
            refine r_get X hG in_X9 rfl 21 (by decide) w_652 0 rfl rfl dX9_turnTo_52 ?_
            refine lv_iload hx hb dX9_turnTo_55 (lv_at hl 4 rfl) ?_
            refine lv_iload_n hx hb dX9_turnTo_57 rfl (lv_at hl 2 rfl) ?_
            refine lv_aload_n hx hb dX9_turnTo_58 rfl (lv_at hl 0 rfl) ?_
            refine r_get X hG in_X9 rfl 13 (by decide) w_644 0 rfl rfl dX9_turnTo_59 ?_
            refine lv_iload hx hb dX9_turnTo_62 (lv_at hl 4 rfl) ?_
            obtain ⟨g_8, h⟩ := gd h
            refine r_iald X hG 13 rfl g_8 dX9_turnTo_64 ?_
            refine lv_iadd hx hb dX9_turnTo_65 ?_
            obtain ⟨r_9, hz_10, h⟩ := bd1_some h
            refine aft_i (ws' := (W_X9 a cI cJ c_length c_text c_stands c_homeFar c_nets c_netAt c_netWide c_netFrom c_netTo c_priceX c_priceY c_many c_days c_aims c_speeds c_kinds c_keptMany c_undoMany c_undos c_spot c_told c_to c_stood c_home c_lost c_out c_fewest c_ways c_next c_held)) (run_S (rest := [.int x4, .ref (a 18)]) X hG hl.1 (mX9_around l dC dI cI cJ (x2 + (c_aims x4.toNatClampNeg)) hz_10) gi_S_X9_148 hd_S_yX9_around ⟨rfl, rfl⟩ rfl ⟨Nat.le_of_ble_eq_true rfl, Nat.le_of_ble_eq_true rfl⟩ [] (by decide) rfl rfl (Nat.le_of_ble_eq_true rfl) ⟨Nat.le_of_ble_eq_true rfl, Nat.le_of_ble_eq_true rfl⟩ dX9_turnTo_66) hG [] rfl rfl rfl (fun H locs hG => ?_)
            clear hz_10
            obtain ⟨g_11, h⟩ := gd h
            refine r_iast X hG 18 (ws' := (W_X9 a cI cJ c_length c_text c_stands c_homeFar c_nets c_netAt c_netWide c_netFrom c_netTo c_priceX c_priceY c_many c_days c_aims c_speeds c_kinds c_keptMany c_undoMany c_undos c_spot c_told (upd c_to x4.toNatClampNeg r_9) c_stood c_home c_lost c_out c_fewest c_ways c_next c_held)) rfl g_11 rfl dX9_turnTo_69 (fun H locs hG => ?_)
            refine lv_iload_n hx hb dX9_turnTo_70 rfl (lv_at hl 2 rfl) ?_
            refine lv_aload_n hx hb dX9_turnTo_71 rfl (lv_at hl 0 rfl) ?_
            refine r_get X hG in_X9 rfl 14 (by decide) w_645 0 rfl rfl dX9_turnTo_72 ?_
            refine lv_iload hx hb dX9_turnTo_75 (lv_at hl 4 rfl) ?_
            obtain ⟨g_12, h⟩ := gd h
            refine r_iald X hG 14 rfl g_12 dX9_turnTo_77 ?_
            refine lv_aload_n hx hb dX9_turnTo_78 rfl (lv_at hl 0 rfl) ?_
            refine r_get X hG in_X9 rfl 15 (by decide) w_646 0 rfl rfl dX9_turnTo_79 ?_
            refine lv_iload hx hb dX9_turnTo_82 (lv_at hl 4 rfl) ?_
            obtain ⟨g_13, h⟩ := gd h
            refine r_iald X hG 15 rfl g_13 dX9_turnTo_84 ?_
            refine lv_iconst (v := (1 : Int32)) hx hb dX9_turnTo_85 (by decide) ?_
            refine lv_icmp_ne (tgt := 93) hx hb dX9_turnTo_86 (by decide) (fun c_14 => ?_) (fun c_14 => ?_)
            · have h := ite_f h c_14
              refine lv_aload_n hx hb dX9_turnTo_93 rfl (lv_at hl 0 rfl) ?_
              refine r_get X hG in_X9 rfl 15 (by decide) w_646 0 rfl rfl dX9_turnTo_94 ?_
              refine lv_iload hx hb dX9_turnTo_97 (lv_at hl 4 rfl) ?_
              obtain ⟨g_15, h⟩ := gd h
              refine r_iald X hG 15 rfl g_15 dX9_turnTo_99 ?_
              refine lv_iconst (v := (2 : Int32)) hx hb dX9_turnTo_100 (by decide) ?_
              refine lv_icmp_ne (tgt := 108) hx hb dX9_turnTo_101 (by decide) (fun c_16 => ?_) (fun c_16 => ?_)
              · have h := ite_f h c_16
                refine lv_iconst (v := (1 : Int32)) hx hb dX9_turnTo_108 (by decide) ?_
                exact J109 (1 : Int32) (c_speeds x4.toNatClampNeg) x2 x3 x4 (upd c_to x4.toNatClampNeg r_9) c_stood _ h KC KX _ _ _ (lv_sub hl [0, 1, 3, 4] rfl) hG
              · have h := ite_t h c_16
                refine lv_iconst (v := (0 : Int32)) hx hb dX9_turnTo_104 (by decide) ?_
                refine lv_goto (tgt := 109) hx hb dX9_turnTo_105 (by decide) ?_
                exact J109 (0 : Int32) (c_speeds x4.toNatClampNeg) x2 x3 x4 (upd c_to x4.toNatClampNeg r_9) c_stood _ h KC KX _ _ _ (lv_sub hl [0, 1, 3, 4] rfl) hG
            · have h := ite_t h c_14
              refine lv_iconst (v := (2 : Int32)) hx hb dX9_turnTo_89 (by decide) ?_
              refine lv_goto (tgt := 109) hx hb dX9_turnTo_90 (by decide) ?_
              exact J109 (2 : Int32) (c_speeds x4.toNatClampNeg) x2 x3 x4 (upd c_to x4.toNatClampNeg r_9) c_stood _ h KC KX _ _ _ (lv_sub hl [0, 1, 3, 4] rfl) hG
  have L9 : ∀ (n : Nat) (x2 : Int32) (x3 : Int32) (c_to : Nat → Int32) (c_stood : Nat → Int32) (ex2 : Int32) (ec_to : Nat → Int32) (ec_stood : Nat → Int32), DX9_turnTo_L9 x1 c_many c_days c_aims c_speeds c_kinds c_out n x2 x3 c_to c_stood = some (ex2, ec_to, ec_stood) → (∀ (ls : Array Slot) (H : Heap) (locs : List Loc), lv_has ls 5 [(2, .int ex2)] → G dC dI A H0 (W_X9 a cI cJ c_length c_text c_stands c_homeFar c_nets c_netAt c_netWide c_netFrom c_netTo c_priceX c_priceY c_many c_days c_aims c_speeds c_kinds c_keptMany c_undoMany c_undos c_spot c_told ec_to ec_stood c_home c_lost c_out c_fewest c_ways c_next c_held) H locs → W p l e (RM 1 21) s m args below meth c H locs 0 0 QQ (F0 m 135 ls [])) → ∀ (ls : Array Slot) (H : Heap) (locs : List Loc), lv_has ls 5 [(0, .ref (a 0)), (1, .int x1), (2, .int x2), (3, .int x3)] → G dC dI A H0 (W_X9 a cI cJ c_length c_text c_stands c_homeFar c_nets c_netAt c_netWide c_netFrom c_netTo c_priceX c_priceY c_many c_days c_aims c_speeds c_kinds c_keptMany c_undoMany c_undos c_spot c_told c_to c_stood c_home c_lost c_out c_fewest c_ways c_next c_held) H locs → W p l e (RM 1 21) s m args below meth c H locs 0 0 QQ (F0 m 9 ls []) := by
    intro  n
    induction n with
    | zero => intro x2 x3 c_to c_stood ex2 ec_to ec_stood h; exact it_zero h
    | succ n ih =>
      intro x2 x3 c_to c_stood ex2 ec_to ec_stood h0 K0 ls H locs hl hG
      obtain ⟨w, h, hi, hr⟩ := it_succ h0
      have h : DX9_turnTo_L9s x1 c_many c_days c_aims c_speeds c_kinds c_out x2 x3 c_to c_stood = some w := h
      have KC : ∀ (x2 : Int32) (x3 : Int32) (c_to : Nat → Int32) (c_stood : Nat → Int32), w = .inl (x2, x3, c_to, c_stood) → ∀ (ls : Array Slot) (H : Heap) (locs : List Loc), lv_has ls 5 [(0, .ref (a 0)), (1, .int x1), (2, .int x2), (3, .int x3)] → G dC dI A H0 (W_X9 a cI cJ c_length c_text c_stands c_homeFar c_nets c_netAt c_netWide c_netFrom c_netTo c_priceX c_priceY c_many c_days c_aims c_speeds c_kinds c_keptMany c_undoMany c_undos c_spot c_told c_to c_stood c_home c_lost c_out c_fewest c_ways c_next c_held) H locs → W p l e (RM 1 21) s m args below meth c H locs 0 0 QQ (F0 m 9 ls []) := fun b0 b1 b2 b3 e ls H locs hl hG => ih b0 b1 b2 b3 ex2 ec_to ec_stood (hi _ e) K0 ls H locs hl hG
      have KX : ∀ (x2 : Int32) (c_to : Nat → Int32) (c_stood : Nat → Int32), w = .inr (x2, c_to, c_stood) → ∀ (ls : Array Slot) (H : Heap) (locs : List Loc), lv_has ls 5 [(2, .int x2)] → G dC dI A H0 (W_X9 a cI cJ c_length c_text c_stands c_homeFar c_nets c_netAt c_netWide c_netFrom c_netTo c_priceX c_priceY c_many c_days c_aims c_speeds c_kinds c_keptMany c_undoMany c_undos c_spot c_told c_to c_stood c_home c_lost c_out c_fewest c_ways c_next c_held) H locs → W p l e (RM 1 21) s m args below meth c H locs 0 0 QQ (F0 m 135 ls []) := fun b0 b1 b2 e ls H locs hl hG => by cases hr _ e; exact K0 ls H locs hl hG
      clear h0 hi hr K0 ih
      unfold DX9_turnTo_L9s at h
      refine lv_iload_n hx hb dX9_turnTo_9 rfl (lv_at hl 3 rfl) ?_
      refine lv_iload_n hx hb dX9_turnTo_10 rfl (lv_at hl 1 rfl) ?_
      refine lv_icmp_gt (tgt := 135) hx hb dX9_turnTo_11 (by decide) (fun c_1 => ?_) (fun c_1 => ?_)
      · have h := ite_t h c_1
        exact KX _ _ _ (Option.some.inj h).symm _ _ _ (lv_sub hl [2] rfl) hG
      · have h := ite_f h c_1
        refine lv_iconst (v := (0 : Int32)) hx hb dX9_turnTo_14 (by decide) ?_
        refine lv_istore (lv' := [(4, .int (0 : Int32)), (0, .ref (a 0)), (1, .int x1), (2, .int x2), (3, .int x3)]) hx hb dX9_turnTo_15 hl (by decide) rfl (fun ls hl => ?_)
        obtain ⟨z2_20, k_to_21, k_stood_22, hz, h⟩ := bd3_some h
        refine L17 x3 FU x2 (0 : Int32) c_to c_stood _ _ _ hz (fun ls H locs hl hG => ?_) _ _ _ (lv_sub hl [1, 2, 3, 4, 0] rfl) hG
        clear hz
        refine lv_iinc (v := (x3 + (1 : Int32))) (lv' := [(3, .int (x3 + (1 : Int32))), (0, .ref (a 0)), (1, .int x1), (2, .int z2_20)]) hx hb dX9_turnTo_129 hl (k := 3) rfl rfl (by decide) rfl (fun ls hl => ?_)
        refine lv_goto (tgt := 9) hx hb dX9_turnTo_132 (by decide) ?_
        exact KC _ _ _ _ (Option.some.inj h).symm _ _ _ (lv_sub hl [1, 2, 3, 0] rfl) hG
  have h := hD
  unfold DX9_turnTo at h
  clear hD
  refine lv_aload_n hx hb dX9_turnTo_0 rfl (lv_at hl 0 rfl) ?_
  refine r_get X hG in_X9 rfl 2 (by decide) w_633 0 rfl rfl dX9_turnTo_1 ?_
  refine lv_iconst (v := (0 : Int32)) hx hb dX9_turnTo_4 (by decide) ?_
  refine r_iald X hG 2 rfl (vpd (by decide)) dX9_turnTo_5 ?_
  refine lv_istore_n (lv' := [(2, .int (c_stands (0 : Int32).toNatClampNeg)), (0, .ref (a 0)), (1, .int x1)]) hx hb dX9_turnTo_6 rfl hl (by decide) rfl (fun ls hl => ?_)
  refine lv_iconst (v := (0 : Int32)) hx hb dX9_turnTo_7 (by decide) ?_
  refine lv_istore_n (lv' := [(3, .int (0 : Int32)), (2, .int (c_stands (0 : Int32).toNatClampNeg)), (0, .ref (a 0)), (1, .int x1)]) hx hb dX9_turnTo_8 rfl hl (by decide) rfl (fun ls hl => ?_)
  obtain ⟨z2_23, k_to_24, k_stood_25, hz, h⟩ := bd3_some h
  refine L9  FU (c_stands (0 : Int32).toNatClampNeg) (0 : Int32) c_to c_stood _ _ _ hz (fun ls H locs hl hG => ?_) _ _ _ (lv_sub hl [2, 3, 1, 0] rfl) hG
  clear hz
  refine lv_iload_n hx hb dX9_turnTo_135 rfl (lv_at hl 0 rfl) ?_
  cases h
  exact ret _ _ _ _ dX9_turnTo_136 hG
set_option maxRecDepth 100000 in
set_option maxHeartbeats 4000000 in
theorem mX9_isOnWay (l : Launch) (dC : Nat → ClassId) (dI : Nat → Nat → Nat) (cI cJ : ClassId) (a : Nat → Nat) (c_length : Int32) (c_text : Nat → Int32) (c_stands : Nat → Int32) (c_homeFar : Nat → Int32) (c_nets : Nat → Int32) (c_netAt : Nat → Int32) (c_netWide : Nat → Int32) (c_netFrom : Nat → Int32) (c_netTo : Nat → Int32) (c_priceX : Nat → Int32) (c_priceY : Nat → Int32) (c_many : Nat → Int32) (c_days : Nat → Int32) (c_aims : Nat → Int32) (c_speeds : Nat → Int32) (c_kinds : Nat → Int32) (c_keptMany : Int32) (c_undoMany : Int32) (c_undos : Nat → Int32) (c_spot : Int32) (c_told : Nat → Int32) (c_to : Nat → Int32) (c_stood : Nat → Int32) (c_home : Nat → Int32) (c_lost : Nat → Int32) (c_out : Int32) (c_fewest : Nat → Int32) (c_ways : Nat → Int64) (c_next : Nat → Int64) (c_held : Nat → Int32) (x1 : Int32) (x2 : Int32) {res : Int32} (hD : DX9_isOnWay x1 x2 c_days c_home c_lost c_out = some res) : Met l yX9_isOnWay (WZ yX9_isOnWay cX9_isOnWay 3 (some .boolean)) (RM 1 21) (PC dC dI cI cJ [.ref (a 0), .int x1, .int x2] (W_X9 a cI cJ c_length c_text c_stands c_homeFar c_nets c_netAt c_netWide c_netFrom c_netTo c_priceX c_priceY c_many c_days c_aims c_speeds c_kinds c_keptMany c_undoMany c_undos c_spot c_told c_to c_stood c_home c_lost c_out c_fewest c_ways c_next c_held)) (QI dC dI (W_X9 a cI cJ c_length c_text c_stands c_homeFar c_nets c_netAt c_netWide c_netFrom c_netTo c_priceX c_priceY c_many c_days c_aims c_speeds c_kinds c_keptMany c_undoMany c_undos c_spot c_told c_to c_stood c_home c_lost c_out c_fewest c_ways c_next c_held) (W_X9 a cI cJ c_length c_text c_stands c_homeFar c_nets c_netAt c_netWide c_netFrom c_netTo c_priceX c_priceY c_many c_days c_aims c_speeds c_kinds c_keptMany c_undoMany c_undos c_spot c_told c_to c_stood c_home c_lost c_out c_fewest c_ways c_next c_held) res) 0 0 (FA (W_X9 a cI cJ c_length c_text c_stands c_homeFar c_nets c_netAt c_netWide c_netFrom c_netTo c_priceX c_priceY c_many c_days c_aims c_speeds c_kinds c_keptMany c_undoMany c_undos c_spot c_told c_to c_stood c_home c_lost c_out c_fewest c_ways c_next c_held)) := by
  refine r_metZ (by decide +kernel) (Nat.le_of_ble_eq_true rfl) ?_
  intro p e s m args below meth c A H0 QQ X ret ls hl hG
  have X : Cx p m c cX9_isOnWay 3 s args RX9 dC dI cI cJ meth (some .boolean) := X
  have hx := X.1.1
  have hb := X.1.2.1
  have hl : lv_has ls 3 [(0, .ref (a 0)), (1, .int x1), (2, .int x2)] := hl
  have h := hD
  unfold DX9_isOnWay at h
  clear hD
  refine lv_aload_n hx hb dX9_isOnWay_0 rfl (lv_at hl 0 rfl) ?_
  refine r_get X hG in_X9 rfl 25 (by decide) w_656 0 rfl rfl dX9_isOnWay_1 ?_
  refine lv_iload_n hx hb dX9_isOnWay_4 rfl (lv_at hl 1 rfl) ?_
  obtain ⟨r_1, hz_2, h⟩ := bd1_some h
  refine aft_i (ws' := (W_X9 a cI cJ c_length c_text c_stands c_homeFar c_nets c_netAt c_netWide c_netFrom c_netTo c_priceX c_priceY c_many c_days c_aims c_speeds c_kinds c_keptMany c_undoMany c_undos c_spot c_told c_to c_stood c_home c_lost c_out c_fewest c_ways c_next c_held)) (run_S (rest := []) X hG hl.1 (mX9_has l dC dI cI cJ c_out x1 hz_2) gi_S_X9_144 hd_S_yX9_has ⟨rfl, rfl⟩ rfl ⟨Nat.le_of_ble_eq_true rfl, Nat.le_of_ble_eq_true rfl⟩ [] (by decide) rfl rfl (Nat.le_of_ble_eq_true rfl) ⟨Nat.le_of_ble_eq_true rfl, Nat.le_of_ble_eq_true rfl⟩ dX9_isOnWay_5) hG [] rfl rfl rfl (fun H locs hG => ?_)
  clear hz_2
  refine lv_if_ne (tgt := 45) hx hb dX9_isOnWay_8 (by decide) (fun c_3 => ?_) (fun c_3 => ?_)
  · have h := ite_f h c_3
    refine lv_iconst (v := (0 : Int32)) hx hb dX9_isOnWay_45 (by decide) ?_
    cases h
    exact ret _ _ _ _ dX9_isOnWay_46 (by decide) hG
  · have h := ite_t h c_3
    refine lv_iload_n hx hb dX9_isOnWay_11 rfl (lv_at hl 2 rfl) ?_
    refine lv_aload_n hx hb dX9_isOnWay_12 rfl (lv_at hl 0 rfl) ?_
    refine r_get X hG in_X9 rfl 12 (by decide) w_643 0 rfl rfl dX9_isOnWay_13 ?_
    refine lv_iload_n hx hb dX9_isOnWay_16 rfl (lv_at hl 1 rfl) ?_
    obtain ⟨g_4, h⟩ := gd h
    refine r_iald X hG 12 rfl g_4 dX9_isOnWay_17 ?_
    refine lv_icmp_lt (tgt := 45) hx hb dX9_isOnWay_18 (by decide) (fun c_5 => ?_) (fun c_5 => ?_)
    · have h := ite_t h c_5
      refine lv_iconst (v := (0 : Int32)) hx hb dX9_isOnWay_45 (by decide) ?_
      cases h
      exact ret _ _ _ _ dX9_isOnWay_46 (by decide) hG
    · have h := ite_f h c_5
      refine lv_iload_n hx hb dX9_isOnWay_21 rfl (lv_at hl 2 rfl) ?_
      refine lv_aload_n hx hb dX9_isOnWay_22 rfl (lv_at hl 0 rfl) ?_
      refine r_get X hG in_X9 rfl 23 (by decide) w_654 0 rfl rfl dX9_isOnWay_23 ?_
      refine lv_iload_n hx hb dX9_isOnWay_26 rfl (lv_at hl 1 rfl) ?_
      obtain ⟨g_6, h⟩ := gd h
      refine r_iald X hG 20 rfl g_6 dX9_isOnWay_27 ?_
      refine lv_icmp_ge (tgt := 45) hx hb dX9_isOnWay_28 (by decide) (fun c_7 => ?_) (fun c_7 => ?_)
      · have h := ite_t h c_7
        refine lv_iconst (v := (0 : Int32)) hx hb dX9_isOnWay_45 (by decide) ?_
        cases h
        exact ret _ _ _ _ dX9_isOnWay_46 (by decide) hG
      · have h := ite_f h c_7
        refine lv_aload_n hx hb dX9_isOnWay_31 rfl (lv_at hl 0 rfl) ?_
        refine r_get X hG in_X9 rfl 24 (by decide) w_655 0 rfl rfl dX9_isOnWay_32 ?_
        refine lv_iload_n hx hb dX9_isOnWay_35 rfl (lv_at hl 1 rfl) ?_
        obtain ⟨g_8, h⟩ := gd h
        refine r_iald X hG 21 rfl g_8 dX9_isOnWay_36 ?_
        refine lv_iload_n hx hb dX9_isOnWay_37 rfl (lv_at hl 2 rfl) ?_
        refine lv_icmp_lt (tgt := 45) hx hb dX9_isOnWay_38 (by decide) (fun c_9 => ?_) (fun c_9 => ?_)
        · have h := ite_t h c_9
          refine lv_iconst (v := (0 : Int32)) hx hb dX9_isOnWay_45 (by decide) ?_
          cases h
          exact ret _ _ _ _ dX9_isOnWay_46 (by decide) hG
        · have h := ite_f h c_9
          refine lv_iconst (v := (1 : Int32)) hx hb dX9_isOnWay_41 (by decide) ?_
          refine lv_goto (tgt := 46) hx hb dX9_isOnWay_42 (by decide) ?_
          cases h
          exact ret _ _ _ _ dX9_isOnWay_46 (by decide) hG
set_option maxRecDepth 100000 in
set_option maxHeartbeats 4000000 in
theorem mX9_farOf (l : Launch) (dC : Nat → ClassId) (dI : Nat → Nat → Nat) (cI cJ : ClassId) (a : Nat → Nat) (c_length : Int32) (c_text : Nat → Int32) (c_stands : Nat → Int32) (c_homeFar : Nat → Int32) (c_nets : Nat → Int32) (c_netAt : Nat → Int32) (c_netWide : Nat → Int32) (c_netFrom : Nat → Int32) (c_netTo : Nat → Int32) (c_priceX : Nat → Int32) (c_priceY : Nat → Int32) (c_many : Nat → Int32) (c_days : Nat → Int32) (c_aims : Nat → Int32) (c_speeds : Nat → Int32) (c_kinds : Nat → Int32) (c_keptMany : Int32) (c_undoMany : Int32) (c_undos : Nat → Int32) (c_spot : Int32) (c_told : Nat → Int32) (c_to : Nat → Int32) (c_stood : Nat → Int32) (c_home : Nat → Int32) (c_lost : Nat → Int32) (c_out : Int32) (c_fewest : Nat → Int32) (c_ways : Nat → Int64) (c_next : Nat → Int64) (c_held : Nat → Int32) (x1 : Int32) (x2 : Int32) {res : Int32} (hD : DX9_farOf x1 x2 c_days c_speeds = some res) : Met l yX9_farOf (WZ yX9_farOf cX9_farOf 3 (some .int)) (RM 0 0) (PC dC dI cI cJ [.ref (a 0), .int x1, .int x2] (W_X9 a cI cJ c_length c_text c_stands c_homeFar c_nets c_netAt c_netWide c_netFrom c_netTo c_priceX c_priceY c_many c_days c_aims c_speeds c_kinds c_keptMany c_undoMany c_undos c_spot c_told c_to c_stood c_home c_lost c_out c_fewest c_ways c_next c_held)) (QI dC dI (W_X9 a cI cJ c_length c_text c_stands c_homeFar c_nets c_netAt c_netWide c_netFrom c_netTo c_priceX c_priceY c_many c_days c_aims c_speeds c_kinds c_keptMany c_undoMany c_undos c_spot c_told c_to c_stood c_home c_lost c_out c_fewest c_ways c_next c_held) (W_X9 a cI cJ c_length c_text c_stands c_homeFar c_nets c_netAt c_netWide c_netFrom c_netTo c_priceX c_priceY c_many c_days c_aims c_speeds c_kinds c_keptMany c_undoMany c_undos c_spot c_told c_to c_stood c_home c_lost c_out c_fewest c_ways c_next c_held) res) 0 0 (FA (W_X9 a cI cJ c_length c_text c_stands c_homeFar c_nets c_netAt c_netWide c_netFrom c_netTo c_priceX c_priceY c_many c_days c_aims c_speeds c_kinds c_keptMany c_undoMany c_undos c_spot c_told c_to c_stood c_home c_lost c_out c_fewest c_ways c_next c_held)) := by
  refine r_metI (by decide +kernel) (Nat.le_of_ble_eq_true rfl) ?_
  intro p e s m args below meth c A H0 QQ X ret ls hl hG
  have X : Cx p m c cX9_farOf 3 s args RX9 dC dI cI cJ meth (some .int) := X
  have hx := X.1.1
  have hb := X.1.2.1
  have hl : lv_has ls 3 [(0, .ref (a 0)), (1, .int x1), (2, .int x2)] := hl
  have h := hD
  unfold DX9_farOf at h
  clear hD
  refine lv_aload_n hx hb dX9_farOf_0 rfl (lv_at hl 0 rfl) ?_
  refine r_get X hG in_X9 rfl 14 (by decide) w_645 0 rfl rfl dX9_farOf_1 ?_
  refine lv_iload_n hx hb dX9_farOf_4 rfl (lv_at hl 1 rfl) ?_
  obtain ⟨g_1, h⟩ := gd h
  refine r_iald X hG 14 rfl g_1 dX9_farOf_5 ?_
  refine lv_iload_n hx hb dX9_farOf_6 rfl (lv_at hl 2 rfl) ?_
  refine lv_aload_n hx hb dX9_farOf_7 rfl (lv_at hl 0 rfl) ?_
  refine r_get X hG in_X9 rfl 12 (by decide) w_643 0 rfl rfl dX9_farOf_8 ?_
  refine lv_iload_n hx hb dX9_farOf_11 rfl (lv_at hl 1 rfl) ?_
  obtain ⟨g_2, h⟩ := gd h
  refine r_iald X hG 12 rfl g_2 dX9_farOf_12 ?_
  refine lv_isub hx hb dX9_farOf_13 ?_
  refine lv_imul hx hb dX9_farOf_14 ?_
  cases h
  exact ret _ _ _ _ dX9_farOf_15 hG
