/-! CONTRACTS, laid by wip/gen/lay.py: yX9_year, yX9_keep, yX9_back, yX9_count -/
set_option maxRecDepth 100000 in
set_option maxHeartbeats 4000000 in
theorem mX9_year (l : Launch) (dC : Nat → ClassId) (dI : Nat → Nat → Nat) (cI cJ : ClassId) (a : Nat → Nat) (c_length : Int32) (c_text : Nat → Int32) (c_stands : Nat → Int32) (c_homeFar : Nat → Int32) (c_nets : Nat → Int32) (c_netAt : Nat → Int32) (c_netWide : Nat → Int32) (c_netFrom : Nat → Int32) (c_netTo : Nat → Int32) (c_priceX : Nat → Int32) (c_priceY : Nat → Int32) (c_many : Nat → Int32) (c_days : Nat → Int32) (c_aims : Nat → Int32) (c_speeds : Nat → Int32) (c_kinds : Nat → Int32) (c_keptMany : Int32) (c_undoMany : Int32) (c_undos : Nat → Int32) (c_spot : Int32) (c_told : Nat → Int32) (c_to : Nat → Int32) (c_stood : Nat → Int32) (c_home : Nat → Int32) (c_lost : Nat → Int32) (c_out : Int32) (c_fewest : Nat → Int32) (c_ways : Nat → Int64) (c_next : Nat → Int64) (c_held : Nat → Int32) (x1 : Int32) (x2 : Int32) {res : Int32} {n_aims : Nat → Int32} {n_to : Nat → Int32} {n_stood : Nat → Int32} {n_home : Nat → Int32} {n_lost : Nat → Int32} {n_out : Int32} {n_held : Nat → Int32} (hD : DX9_year x1 x2 c_stands c_homeFar c_nets c_netAt c_netWide c_netFrom c_netTo c_priceX c_priceY c_many c_days c_aims c_speeds c_kinds c_to c_stood c_home c_lost c_out c_held = some (res, n_aims, n_to, n_stood, n_home, n_lost, n_out, n_held)) : Met l yX9_year (WZ yX9_year cX9_year 6 (some .int)) (RM 6 129) (PC dC dI cI cJ [.ref (a 0), .int x1, .int x2] (W_X9 a cI cJ c_length c_text c_stands c_homeFar c_nets c_netAt c_netWide c_netFrom c_netTo c_priceX c_priceY c_many c_days c_aims c_speeds c_kinds c_keptMany c_undoMany c_undos c_spot c_told c_to c_stood c_home c_lost c_out c_fewest c_ways c_next c_held)) (QI dC dI (W_X9 a cI cJ c_length c_text c_stands c_homeFar c_nets c_netAt c_netWide c_netFrom c_netTo c_priceX c_priceY c_many c_days c_aims c_speeds c_kinds c_keptMany c_undoMany c_undos c_spot c_told c_to c_stood c_home c_lost c_out c_fewest c_ways c_next c_held) (W_X9 a cI cJ c_length c_text c_stands c_homeFar c_nets c_netAt c_netWide c_netFrom c_netTo c_priceX c_priceY c_many c_days n_aims c_speeds c_kinds c_keptMany c_undoMany c_undos c_spot c_told n_to n_stood n_home n_lost n_out c_fewest c_ways c_next n_held) res) 0 0 (FA (W_X9 a cI cJ c_length c_text c_stands c_homeFar c_nets c_netAt c_netWide c_netFrom c_netTo c_priceX c_priceY c_many c_days c_aims c_speeds c_kinds c_keptMany c_undoMany c_undos c_spot c_told c_to c_stood c_home c_lost c_out c_fewest c_ways c_next c_held)) := by
  refine r_metI (by decide +kernel) (Nat.le_of_ble_eq_true rfl) ?_
  intro p e s m args below meth c A H0 QQ X ret ls hl hG
  have X : Cx p m c cX9_year 6 s args RX9 dC dI cI cJ meth (some .int) := X
  have hx := X.1.1
  have hb := X.1.2.1
  have hl : lv_has ls 6 [(0, .ref (a 0)), (1, .int x1), (2, .int x2)] := hl
  have L28 : ∀ (c_to : Nat → Int32) (c_stood : Nat → Int32) (c_home : Nat → Int32) (c_lost : Nat → Int32) (c_out : Int32), ∀ (n : Nat) (x3 : Int32) (c_aims : Nat → Int32) (c_held : Nat → Int32) (ec_aims : Nat → Int32) (ec_held : Nat → Int32), DX9_year_L28 x1 c_many n x3 c_aims c_held = some (ec_aims, ec_held) → (∀ (ls : Array Slot) (H : Heap) (locs : List Loc), lv_has ls 6 [(0, .ref (a 0)), (2, .int x2)] → G dC dI A H0 (W_X9 a cI cJ c_length c_text c_stands c_homeFar c_nets c_netAt c_netWide c_netFrom c_netTo c_priceX c_priceY c_many c_days ec_aims c_speeds c_kinds c_keptMany c_undoMany c_undos c_spot c_told c_to c_stood c_home c_lost c_out c_fewest c_ways c_next ec_held) H locs → W p l e (RM 6 129) s m args below meth c H locs 0 0 QQ (F0 m 93 ls [])) → ∀ (ls : Array Slot) (H : Heap) (locs : List Loc), lv_has ls 6 [(0, .ref (a 0)), (1, .int x1), (2, .int x2), (3, .int x3)] → G dC dI A H0 (W_X9 a cI cJ c_length c_text c_stands c_homeFar c_nets c_netAt c_netWide c_netFrom c_netTo c_priceX c_priceY c_many c_days c_aims c_speeds c_kinds c_keptMany c_undoMany c_undos c_spot c_told c_to c_stood c_home c_lost c_out c_fewest c_ways c_next c_held) H locs → W p l e (RM 6 129) s m args below meth c H locs 0 0 QQ (F0 m 28 ls []) := by
    intro c_to c_stood c_home c_lost c_out n
    induction n with
    | zero => intro x3 c_aims c_held ec_aims ec_held h; exact it_zero h
    | succ n ih =>
      intro x3 c_aims c_held ec_aims ec_held h0 K0 ls H locs hl hG
      obtain ⟨w, h, hi, hr⟩ := it_succ h0
      have h : DX9_year_L28s x1 c_many x3 c_aims c_held = some w := h
      have KC : ∀ (x3 : Int32) (c_aims : Nat → Int32) (c_held : Nat → Int32), w = .inl (x3, c_aims, c_held) → ∀ (ls : Array Slot) (H : Heap) (locs : List Loc), lv_has ls 6 [(0, .ref (a 0)), (1, .int x1), (2, .int x2), (3, .int x3)] → G dC dI A H0 (W_X9 a cI cJ c_length c_text c_stands c_homeFar c_nets c_netAt c_netWide c_netFrom c_netTo c_priceX c_priceY c_many c_days c_aims c_speeds c_kinds c_keptMany c_undoMany c_undos c_spot c_told c_to c_stood c_home c_lost c_out c_fewest c_ways c_next c_held) H locs → W p l e (RM 6 129) s m args below meth c H locs 0 0 QQ (F0 m 28 ls []) := fun b0 b1 b2 e ls H locs hl hG => ih b0 b1 b2 ec_aims ec_held (hi _ e) K0 ls H locs hl hG
      have KX : ∀ (c_aims : Nat → Int32) (c_held : Nat → Int32), w = .inr (c_aims, c_held) → ∀ (ls : Array Slot) (H : Heap) (locs : List Loc), lv_has ls 6 [(0, .ref (a 0)), (2, .int x2)] → G dC dI A H0 (W_X9 a cI cJ c_length c_text c_stands c_homeFar c_nets c_netAt c_netWide c_netFrom c_netTo c_priceX c_priceY c_many c_days c_aims c_speeds c_kinds c_keptMany c_undoMany c_undos c_spot c_told c_to c_stood c_home c_lost c_out c_fewest c_ways c_next c_held) H locs → W p l e (RM 6 129) s m args below meth c H locs 0 0 QQ (F0 m 93 ls []) := fun b0 b1 e ls H locs hl hG => by cases hr _ e; exact K0 ls H locs hl hG
      clear h0 hi hr K0 ih
      unfold DX9_year_L28s at h
      refine lv_iload_n hx hb dX9_year_28 rfl (lv_at hl 3 rfl) ?_
      refine lv_aload_n hx hb dX9_year_29 rfl (lv_at hl 0 rfl) ?_
      refine r_get X hG in_X9 rfl 11 (by decide) w_642 0 rfl rfl dX9_year_30 ?_
      refine lv_iconst (v := (0 : Int32)) hx hb dX9_year_33 (by decide) ?_
      refine r_iald X hG 11 rfl (vpd (by decide)) dX9_year_34 ?_
      refine lv_icmp_ge (tgt := 93) hx hb dX9_year_35 (by decide) (fun c_7 => ?_) (fun c_7 => ?_)
      · have h := ite_t h c_7
        exact KX _ _ (Option.some.inj h).symm _ _ _ (lv_sub hl [0, 2] rfl) hG
      · have h := ite_f h c_7
        refine lv_ldc2 (v := (7919 : Int64)) hx hb X.1.2.2.2.1 (X.1.2.2.2.2 _ w_929) dX9_year_38 ?_
        refine lv_iload_n hx hb dX9_year_41 rfl (lv_at hl 1 rfl) ?_
        refine lv_i2l (v := (x1.toInt64)) hx hb dX9_year_42 rfl ?_
        refine lv_lmul hx hb dX9_year_43 ?_
        refine lv_ldc2 (v := (6151 : Int64)) hx hb X.1.2.2.2.1 (X.1.2.2.2.2 _ w_930) dX9_year_44 ?_
        refine lv_iload_n hx hb dX9_year_47 rfl (lv_at hl 3 rfl) ?_
        refine lv_i2l (v := (x3.toInt64)) hx hb dX9_year_48 rfl ?_
        refine lv_lmul hx hb dX9_year_49 ?_
        refine lv_ladd hx hb dX9_year_50 ?_
        refine lv_lconst (v := (1 : Int64)) hx hb dX9_year_51 (by decide) ?_
        refine lv_ladd hx hb dX9_year_52 ?_
        refine lv_lstore (lv' := [(4, .long ((((7919 : Int64) * (x1.toInt64)) + ((6151 : Int64) * (x3.toInt64))) + (1 : Int64))), (0, .ref (a 0)), (1, .int x1), (2, .int x2), (3, .int x3)]) hx hb dX9_year_53 hl (by decide) rfl (fun ls hl => ?_)
        refine lv_aload_n hx hb dX9_year_55 rfl (lv_at hl 1 rfl) ?_
        refine r_get X hG in_X9 rfl 29 (by decide) w_660 0 rfl rfl dX9_year_56 ?_
        refine lv_iload_n hx hb dX9_year_59 rfl (lv_at hl 4 rfl) ?_
        refine lv_aload_n hx hb dX9_year_60 rfl (lv_at hl 1 rfl) ?_
        refine r_get X hG in_X9 rfl 13 (by decide) w_644 0 rfl rfl dX9_year_61 ?_
        refine lv_iload_n hx hb dX9_year_64 rfl (lv_at hl 4 rfl) ?_
        obtain ⟨g_8, h⟩ := gd h
        refine r_iald X hG 13 rfl g_8 dX9_year_65 ?_
        obtain ⟨g_9, h⟩ := gd h
        refine r_iast X hG 25 (ws' := (W_X9 a cI cJ c_length c_text c_stands c_homeFar c_nets c_netAt c_netWide c_netFrom c_netTo c_priceX c_priceY c_many c_days c_aims c_speeds c_kinds c_keptMany c_undoMany c_undos c_spot c_told c_to c_stood c_home c_lost c_out c_fewest c_ways c_next (upd c_held x3.toNatClampNeg (c_aims x3.toNatClampNeg)))) rfl g_9 rfl dX9_year_66 (fun H locs hG => ?_)
        refine lv_aload_n hx hb dX9_year_67 rfl (lv_at hl 1 rfl) ?_
        refine r_get X hG in_X9 rfl 13 (by decide) w_644 0 rfl rfl dX9_year_68 ?_
        refine lv_iload_n hx hb dX9_year_71 rfl (lv_at hl 4 rfl) ?_
        refine lv_lload hx hb dX9_year_72 (lv_at hl 0 rfl) ?_
        refine lv_lload hx hb dX9_year_74 (lv_at hl 0 rfl) ?_
        refine lv_lmul hx hb dX9_year_76 ?_
        refine lv_ldc2 (v := (65521 : Int64)) hx hb X.1.2.2.2.1 (X.1.2.2.2.2 _ w_931) dX9_year_77 ?_
        refine lv_lrem hx hb dX9_year_80 (by decide) ?_
        refine lv_ldc2 (v := (24 : Int64)) hx hb X.1.2.2.2.1 (X.1.2.2.2.2 _ w_932) dX9_year_81 ?_
        refine lv_lrem hx hb dX9_year_84 (by decide) ?_
        refine lv_l2i (v := ((((((((7919 : Int64) * (x1.toInt64)) + ((6151 : Int64) * (x3.toInt64))) + (1 : Int64)) * ((((7919 : Int64) * (x1.toInt64)) + ((6151 : Int64) * (x3.toInt64))) + (1 : Int64))) - (((((7919 : Int64) * (x1.toInt64)) + ((6151 : Int64) * (x3.toInt64))) + (1 : Int64)) * ((((7919 : Int64) * (x1.toInt64)) + ((6151 : Int64) * (x3.toInt64))) + (1 : Int64))) / (65521 : Int64) * (65521 : Int64)) - ((((((7919 : Int64) * (x1.toInt64)) + ((6151 : Int64) * (x3.toInt64))) + (1 : Int64)) * ((((7919 : Int64) * (x1.toInt64)) + ((6151 : Int64) * (x3.toInt64))) + (1 : Int64))) - (((((7919 : Int64) * (x1.toInt64)) + ((6151 : Int64) * (x3.toInt64))) + (1 : Int64)) * ((((7919 : Int64) * (x1.toInt64)) + ((6151 : Int64) * (x3.toInt64))) + (1 : Int64))) / (65521 : Int64) * (65521 : Int64)) / (24 : Int64) * (24 : Int64)).toInt32)) hx hb dX9_year_85 rfl ?_
        obtain ⟨g_10, h⟩ := gd h
        refine r_iast X hG 13 (ws' := (W_X9 a cI cJ c_length c_text c_stands c_homeFar c_nets c_netAt c_netWide c_netFrom c_netTo c_priceX c_priceY c_many c_days (upd c_aims x3.toNatClampNeg ((((((((7919 : Int64) * (x1.toInt64)) + ((6151 : Int64) * (x3.toInt64))) + (1 : Int64)) * ((((7919 : Int64) * (x1.toInt64)) + ((6151 : Int64) * (x3.toInt64))) + (1 : Int64))) - (((((7919 : Int64) * (x1.toInt64)) + ((6151 : Int64) * (x3.toInt64))) + (1 : Int64)) * ((((7919 : Int64) * (x1.toInt64)) + ((6151 : Int64) * (x3.toInt64))) + (1 : Int64))) / (65521 : Int64) * (65521 : Int64)) - ((((((7919 : Int64) * (x1.toInt64)) + ((6151 : Int64) * (x3.toInt64))) + (1 : Int64)) * ((((7919 : Int64) * (x1.toInt64)) + ((6151 : Int64) * (x3.toInt64))) + (1 : Int64))) - (((((7919 : Int64) * (x1.toInt64)) + ((6151 : Int64) * (x3.toInt64))) + (1 : Int64)) * ((((7919 : Int64) * (x1.toInt64)) + ((6151 : Int64) * (x3.toInt64))) + (1 : Int64))) / (65521 : Int64) * (65521 : Int64)) / (24 : Int64) * (24 : Int64)).toInt32)) c_speeds c_kinds c_keptMany c_undoMany c_undos c_spot c_told c_to c_stood c_home c_lost c_out c_fewest c_ways c_next (upd c_held x3.toNatClampNeg (c_aims x3.toNatClampNeg)))) rfl g_10 rfl dX9_year_86 (fun H locs hG => ?_)
        refine lv_iinc (v := (x3 + (1 : Int32))) (lv' := [(3, .int (x3 + (1 : Int32))), (4, .long ((((7919 : Int64) * (x1.toInt64)) + ((6151 : Int64) * (x3.toInt64))) + (1 : Int64))), (0, .ref (a 0)), (1, .int x1), (2, .int x2)]) hx hb dX9_year_87 hl (k := 4) rfl rfl (by decide) rfl (fun ls hl => ?_)
        refine lv_goto (tgt := 28) hx hb dX9_year_90 (by decide) ?_
        exact KC _ _ _ (Option.some.inj h).symm _ _ _ (lv_sub hl [2, 3, 4, 0] rfl) hG
  have L132 : ∀ (x3 : Int32) (c_to : Nat → Int32) (c_stood : Nat → Int32) (c_home : Nat → Int32) (c_lost : Nat → Int32) (c_out : Int32) (c_held : Nat → Int32), ∀ (n : Nat) (x4 : Int32) (c_aims : Nat → Int32) (ec_aims : Nat → Int32), DX9_year_L132 c_many c_held n x4 c_aims = some ec_aims → (∀ (ls : Array Slot) (H : Heap) (locs : List Loc), lv_has ls 6 [(3, .int x3)] → G dC dI A H0 (W_X9 a cI cJ c_length c_text c_stands c_homeFar c_nets c_netAt c_netWide c_netFrom c_netTo c_priceX c_priceY c_many c_days ec_aims c_speeds c_kinds c_keptMany c_undoMany c_undos c_spot c_told c_to c_stood c_home c_lost c_out c_fewest c_ways c_next c_held) H locs → W p l e (RM 6 129) s m args below meth c H locs 0 0 QQ (F0 m 163 ls [])) → ∀ (ls : Array Slot) (H : Heap) (locs : List Loc), lv_has ls 6 [(0, .ref (a 0)), (3, .int x3), (4, .int x4)] → G dC dI A H0 (W_X9 a cI cJ c_length c_text c_stands c_homeFar c_nets c_netAt c_netWide c_netFrom c_netTo c_priceX c_priceY c_many c_days c_aims c_speeds c_kinds c_keptMany c_undoMany c_undos c_spot c_told c_to c_stood c_home c_lost c_out c_fewest c_ways c_next c_held) H locs → W p l e (RM 6 129) s m args below meth c H locs 0 0 QQ (F0 m 132 ls []) := by
    intro x3 c_to c_stood c_home c_lost c_out c_held n
    induction n with
    | zero => intro x4 c_aims ec_aims h; exact it_zero h
    | succ n ih =>
      intro x4 c_aims ec_aims h0 K0 ls H locs hl hG
      obtain ⟨w, h, hi, hr⟩ := it_succ h0
      have h : DX9_year_L132s c_many c_held x4 c_aims = some w := h
      have KC : ∀ (x4 : Int32) (c_aims : Nat → Int32), w = .inl (x4, c_aims) → ∀ (ls : Array Slot) (H : Heap) (locs : List Loc), lv_has ls 6 [(0, .ref (a 0)), (3, .int x3), (4, .int x4)] → G dC dI A H0 (W_X9 a cI cJ c_length c_text c_stands c_homeFar c_nets c_netAt c_netWide c_netFrom c_netTo c_priceX c_priceY c_many c_days c_aims c_speeds c_kinds c_keptMany c_undoMany c_undos c_spot c_told c_to c_stood c_home c_lost c_out c_fewest c_ways c_next c_held) H locs → W p l e (RM 6 129) s m args below meth c H locs 0 0 QQ (F0 m 132 ls []) := fun b0 b1 e ls H locs hl hG => ih b0 b1 ec_aims (hi _ e) K0 ls H locs hl hG
      have KX : ∀ (c_aims : Nat → Int32), w = .inr c_aims → ∀ (ls : Array Slot) (H : Heap) (locs : List Loc), lv_has ls 6 [(3, .int x3)] → G dC dI A H0 (W_X9 a cI cJ c_length c_text c_stands c_homeFar c_nets c_netAt c_netWide c_netFrom c_netTo c_priceX c_priceY c_many c_days c_aims c_speeds c_kinds c_keptMany c_undoMany c_undos c_spot c_told c_to c_stood c_home c_lost c_out c_fewest c_ways c_next c_held) H locs → W p l e (RM 6 129) s m args below meth c H locs 0 0 QQ (F0 m 163 ls []) := fun b0 e ls H locs hl hG => by cases hr _ e; exact K0 ls H locs hl hG
      clear h0 hi hr K0 ih
      unfold DX9_year_L132s at h
      refine lv_iload hx hb dX9_year_132 (lv_at hl 2 rfl) ?_
      refine lv_aload_n hx hb dX9_year_134 rfl (lv_at hl 0 rfl) ?_
      refine r_get X hG in_X9 rfl 11 (by decide) w_642 0 rfl rfl dX9_year_135 ?_
      refine lv_iconst (v := (0 : Int32)) hx hb dX9_year_138 (by decide) ?_
      refine r_iald X hG 11 rfl (vpd (by decide)) dX9_year_139 ?_
      refine lv_icmp_ge (tgt := 163) hx hb dX9_year_140 (by decide) (fun c_25 => ?_) (fun c_25 => ?_)
      · have h := ite_t h c_25
        exact KX _ (Option.some.inj h).symm _ _ _ (lv_sub hl [1] rfl) hG
      · have h := ite_f h c_25
        refine lv_aload_n hx hb dX9_year_143 rfl (lv_at hl 0 rfl) ?_
        refine r_get X hG in_X9 rfl 13 (by decide) w_644 0 rfl rfl dX9_year_144 ?_
        refine lv_iload hx hb dX9_year_147 (lv_at hl 2 rfl) ?_
        refine lv_aload_n hx hb dX9_year_149 rfl (lv_at hl 0 rfl) ?_
        refine r_get X hG in_X9 rfl 29 (by decide) w_660 0 rfl rfl dX9_year_150 ?_
        refine lv_iload hx hb dX9_year_153 (lv_at hl 2 rfl) ?_
        obtain ⟨g_26, h⟩ := gd h
        refine r_iald X hG 25 rfl g_26 dX9_year_155 ?_
        obtain ⟨g_27, h⟩ := gd h
        refine r_iast X hG 13 (ws' := (W_X9 a cI cJ c_length c_text c_stands c_homeFar c_nets c_netAt c_netWide c_netFrom c_netTo c_priceX c_priceY c_many c_days (upd c_aims x4.toNatClampNeg (c_held x4.toNatClampNeg)) c_speeds c_kinds c_keptMany c_undoMany c_undos c_spot c_told c_to c_stood c_home c_lost c_out c_fewest c_ways c_next c_held)) rfl g_27 rfl dX9_year_156 (fun H locs hG => ?_)
        refine lv_iinc (v := (x4 + (1 : Int32))) (lv' := [(4, .int (x4 + (1 : Int32))), (0, .ref (a 0)), (3, .int x3)]) hx hb dX9_year_157 hl (k := 2) rfl rfl (by decide) rfl (fun ls hl => ?_)
        refine lv_goto (tgt := 132) hx hb dX9_year_160 (by decide) ?_
        exact KC _ _ (Option.some.inj h).symm _ _ _ (lv_sub hl [1, 2, 0] rfl) hG
  have h := hD
  unfold DX9_year at h
  clear hD
  refine lv_iload_n hx hb dX9_year_0 rfl (lv_at hl 1 rfl) ?_
  refine lv_i2l (v := (x1.toInt64)) hx hb dX9_year_1 rfl ?_
  refine lv_lconst (v := (0 : Int64)) hx hb dX9_year_2 (by decide) ?_
  refine lv_ldc2 (v := (9999 : Int64)) hx hb X.1.2.2.2.1 (X.1.2.2.2.2 _ w_928) dX9_year_3 ?_
  obtain ⟨r_1, hz_2, h⟩ := bd1_some h
  refine aft_i (ws' := (W_X9 a cI cJ c_length c_text c_stands c_homeFar c_nets c_netAt c_netWide c_netFrom c_netTo c_priceX c_priceY c_many c_days c_aims c_speeds c_kinds c_keptMany c_undoMany c_undos c_spot c_told c_to c_stood c_home c_lost c_out c_fewest c_ways c_next c_held)) (run_S (rest := []) X hG hl.1 (mX9_in l dC dI cI cJ (x1.toInt64) (0 : Int64) (9999 : Int64) hz_2) gi_S_X9_92 hd_S_yX9_in ⟨rfl, rfl⟩ rfl ⟨Nat.le_of_ble_eq_true rfl, Nat.le_of_ble_eq_true rfl⟩ [] (by decide) rfl rfl (Nat.le_of_ble_eq_true rfl) ⟨Nat.le_of_ble_eq_true rfl, Nat.le_of_ble_eq_true rfl⟩ dX9_year_6) hG [] rfl rfl rfl (fun H locs hG => ?_)
  clear hz_2
  refine lv_if_eq (tgt := 24) hx hb dX9_year_9 (by decide) (fun c_3 => ?_) (fun c_3 => ?_)
  · have h := ite_t h c_3
    refine lv_iconst (v := (-1 : Int32)) hx hb dX9_year_24 (by decide) ?_
    cases h
    exact ret _ _ _ _ dX9_year_25 hG
  · have h := ite_f h c_3
    refine lv_iload_n hx hb dX9_year_12 rfl (lv_at hl 2 rfl) ?_
    refine lv_i2l (v := (x2.toInt64)) hx hb dX9_year_13 rfl ?_
    refine lv_lconst (v := (0 : Int64)) hx hb dX9_year_14 (by decide) ?_
    refine lv_ldc2 (v := (2 : Int64)) hx hb X.1.2.2.2.1 (X.1.2.2.2.2 _ w_758) dX9_year_15 ?_
    obtain ⟨r_4, hz_5, h⟩ := bd1_some h
    refine aft_i (ws' := (W_X9 a cI cJ c_length c_text c_stands c_homeFar c_nets c_netAt c_netWide c_netFrom c_netTo c_priceX c_priceY c_many c_days c_aims c_speeds c_kinds c_keptMany c_undoMany c_undos c_spot c_told c_to c_stood c_home c_lost c_out c_fewest c_ways c_next c_held)) (run_S (rest := []) X hG hl.1 (mX9_in l dC dI cI cJ (x2.toInt64) (0 : Int64) (2 : Int64) hz_5) gi_S_X9_92 hd_S_yX9_in ⟨rfl, rfl⟩ rfl ⟨Nat.le_of_ble_eq_true rfl, Nat.le_of_ble_eq_true rfl⟩ [] (by decide) rfl rfl (Nat.le_of_ble_eq_true rfl) ⟨Nat.le_of_ble_eq_true rfl, Nat.le_of_ble_eq_true rfl⟩ dX9_year_18) hG [] rfl rfl rfl (fun H locs hG => ?_)
    clear hz_5
    refine lv_if_ne (tgt := 26) hx hb dX9_year_21 (by decide) (fun c_6 => ?_) (fun c_6 => ?_)
    · have h := ite_f h c_6
      refine lv_iconst (v := (0 : Int32)) hx hb dX9_year_26 (by decide) ?_
      refine lv_istore_n (lv' := [(3, .int (0 : Int32)), (0, .ref (a 0)), (1, .int x1), (2, .int x2)]) hx hb dX9_year_27 rfl hl (by decide) rfl (fun ls hl => ?_)
      obtain ⟨k_aims_11, k_held_12, hz, h⟩ := bd2_some h
      refine L28 c_to c_stood c_home c_lost c_out FU (0 : Int32) c_aims c_held _ _ hz (fun ls H locs hl hG => ?_) _ _ _ (lv_sub hl [1, 2, 3, 0] rfl) hG
      clear hz
      refine lv_aload_n hx hb dX9_year_93 rfl (lv_at hl 0 rfl) ?_
      refine lv_iconst (v := (0 : Int32)) hx hb dX9_year_94 (by decide) ?_
      obtain ⟨k_to_13, k_stood_14, k_home_15, k_lost_16, k_out_17, hz_18, h⟩ := bd5_some h
      refine aft_v1 (run_V1 (rest := []) X hG hl.1 (mX9_go l dC dI cI cJ a c_length c_text c_stands c_homeFar c_nets c_netAt c_netWide c_netFrom c_netTo c_priceX c_priceY c_many c_days k_aims_11 c_speeds c_kinds c_keptMany c_undoMany c_undos c_spot c_told c_to c_stood c_home c_lost c_out c_fewest c_ways c_next k_held_12 (0 : Int32) hz_18) gi_V_X9_185 hd_V_yX9_go ⟨rfl, rfl⟩ rfl ⟨Nat.le_of_ble_eq_true rfl, Nat.le_of_ble_eq_true rfl⟩ 0 rfl rfl rfl rfl (Nat.le_of_ble_eq_true rfl) ⟨Nat.le_of_ble_eq_true rfl, Nat.le_of_ble_eq_true rfl⟩ dX9_year_95) hG rfl (fun H locs hG => ?_)
      clear hz_18
      refine lv_iload_n hx hb dX9_year_98 rfl (lv_at hl 1 rfl) ?_
      refine lv_if_ne (tgt := 110) hx hb dX9_year_99 (by decide) (fun c_19 => ?_) (fun c_19 => ?_)
      · have h := ite_f h c_19
        refine lv_iload_n hx hb dX9_year_110 rfl (lv_at hl 1 rfl) ?_
        refine lv_iconst (v := (1 : Int32)) hx hb dX9_year_111 (by decide) ?_
        refine lv_icmp_ne (tgt := 122) hx hb dX9_year_112 (by decide) (fun c_20 => ?_) (fun c_20 => ?_)
        · have h := ite_f h c_20
          refine lv_aload_n hx hb dX9_year_122 rfl (lv_at hl 0 rfl) ?_
          refine lv_bipush (v := (40 : Int32)) hx hb dX9_year_123 (by decide) ?_
          obtain ⟨r_21, k_to_22, k_stood_23, hz_24, h⟩ := bd3_some h
          refine aft_i1 (run_V1 (rest := []) X hG hl.1 (mX9_turnTo l dC dI cI cJ a c_length c_text c_stands c_homeFar c_nets c_netAt c_netWide c_netFrom c_netTo c_priceX c_priceY c_many c_days k_aims_11 c_speeds c_kinds c_keptMany c_undoMany c_undos c_spot c_told k_to_13 k_stood_14 k_home_15 k_lost_16 k_out_17 c_fewest c_ways c_next k_held_12 (40 : Int32) hz_24) gi_V_X9_158 hd_V_yX9_turnTo ⟨rfl, rfl⟩ rfl ⟨Nat.le_of_ble_eq_true rfl, Nat.le_of_ble_eq_true rfl⟩ 0 rfl rfl rfl rfl (Nat.le_of_ble_eq_true rfl) ⟨Nat.le_of_ble_eq_true rfl, Nat.le_of_ble_eq_true rfl⟩ dX9_year_125) hG rfl (fun H locs hG => ?_)
          clear hz_24
          refine lv_istore_n (lv' := [(3, .int r_21), (0, .ref (a 0)), (2, .int x2)]) hx hb dX9_year_128 rfl hl (by decide) rfl (fun ls hl => ?_)
          refine lv_iconst (v := (0 : Int32)) hx hb dX9_year_129 (by decide) ?_
          refine lv_istore (lv' := [(4, .int (0 : Int32)), (3, .int r_21), (0, .ref (a 0)), (2, .int x2)]) hx hb dX9_year_130 hl (by decide) rfl (fun ls hl => ?_)
          obtain ⟨k_aims_28, hz, h⟩ := bd1_some h
          refine L132 r_21 k_to_22 k_stood_23 k_home_15 k_lost_16 k_out_17 k_held_12 FU (0 : Int32) k_aims_11 _ hz (fun ls H locs hl hG => ?_) _ _ _ (lv_sub hl [2, 1, 0] rfl) hG
          clear hz
          refine lv_iload_n hx hb dX9_year_163 rfl (lv_at hl 0 rfl) ?_
          cases h
          exact ret _ _ _ _ dX9_year_164 hG
        · have h := ite_t h c_20
          refine lv_aload_n hx hb dX9_year_115 rfl (lv_at hl 0 rfl) ?_
          obtain ⟨r_29, hz_30, h⟩ := bd1_some h
          refine aft_i1 (run_V1 (rest := []) X hG hl.1 (mX9_paidAll l dC dI cI cJ a c_length c_text c_stands c_homeFar c_nets c_netAt c_netWide c_netFrom c_netTo c_priceX c_priceY c_many c_days k_aims_11 c_speeds c_kinds c_keptMany c_undoMany c_undos c_spot c_told k_to_13 k_stood_14 k_home_15 k_lost_16 k_out_17 c_fewest c_ways c_next k_held_12 hz_30) gi_V_X9_201 hd_V_yX9_paidAll ⟨rfl, rfl⟩ rfl ⟨Nat.le_of_ble_eq_true rfl, Nat.le_of_ble_eq_true rfl⟩ 0 rfl rfl rfl rfl (Nat.le_of_ble_eq_true rfl) ⟨Nat.le_of_ble_eq_true rfl, Nat.le_of_ble_eq_true rfl⟩ dX9_year_116) hG rfl (fun H locs hG => ?_)
          clear hz_30
          refine lv_goto (tgt := 128) hx hb dX9_year_119 (by decide) ?_
          refine lv_istore_n (lv' := [(3, .int r_29), (0, .ref (a 0)), (2, .int x2)]) hx hb dX9_year_128 rfl hl (by decide) rfl (fun ls hl => ?_)
          refine lv_iconst (v := (0 : Int32)) hx hb dX9_year_129 (by decide) ?_
          refine lv_istore (lv' := [(4, .int (0 : Int32)), (3, .int r_29), (0, .ref (a 0)), (2, .int x2)]) hx hb dX9_year_130 hl (by decide) rfl (fun ls hl => ?_)
          obtain ⟨k_aims_31, hz, h⟩ := bd1_some h
          refine L132 r_29 k_to_13 k_stood_14 k_home_15 k_lost_16 k_out_17 k_held_12 FU (0 : Int32) k_aims_11 _ hz (fun ls H locs hl hG => ?_) _ _ _ (lv_sub hl [2, 1, 0] rfl) hG
          clear hz
          refine lv_iload_n hx hb dX9_year_163 rfl (lv_at hl 0 rfl) ?_
          cases h
          exact ret _ _ _ _ dX9_year_164 hG
      · have h := ite_t h c_19
        refine lv_aload_n hx hb dX9_year_102 rfl (lv_at hl 0 rfl) ?_
        refine lv_iconst (v := (0 : Int32)) hx hb dX9_year_103 (by decide) ?_
        obtain ⟨r_32, hz_33, h⟩ := bd1_some h
        refine aft_i1 (run_V1 (rest := []) X hG hl.1 (mX9_howMany l dC dI cI cJ a c_length c_text c_stands c_homeFar c_nets c_netAt c_netWide c_netFrom c_netTo c_priceX c_priceY c_many c_days k_aims_11 c_speeds c_kinds c_keptMany c_undoMany c_undos c_spot c_told k_to_13 k_stood_14 k_home_15 k_lost_16 k_out_17 c_fewest c_ways c_next k_held_12 (0 : Int32) hz_33) gi_V_X9_198 hd_V_yX9_howMany ⟨rfl, rfl⟩ rfl ⟨Nat.le_of_ble_eq_true rfl, Nat.le_of_ble_eq_true rfl⟩ 0 rfl rfl rfl rfl (Nat.le_of_ble_eq_true rfl) ⟨Nat.le_of_ble_eq_true rfl, Nat.le_of_ble_eq_true rfl⟩ dX9_year_104) hG rfl (fun H locs hG => ?_)
        clear hz_33
        refine lv_goto (tgt := 128) hx hb dX9_year_107 (by decide) ?_
        refine lv_istore_n (lv' := [(3, .int r_32), (0, .ref (a 0)), (2, .int x2)]) hx hb dX9_year_128 rfl hl (by decide) rfl (fun ls hl => ?_)
        refine lv_iconst (v := (0 : Int32)) hx hb dX9_year_129 (by decide) ?_
        refine lv_istore (lv' := [(4, .int (0 : Int32)), (3, .int r_32), (0, .ref (a 0)), (2, .int x2)]) hx hb dX9_year_130 hl (by decide) rfl (fun ls hl => ?_)
        obtain ⟨k_aims_34, hz, h⟩ := bd1_some h
        refine L132 r_32 k_to_13 k_stood_14 k_home_15 k_lost_16 k_out_17 k_held_12 FU (0 : Int32) k_aims_11 _ hz (fun ls H locs hl hG => ?_) _ _ _ (lv_sub hl [2, 1, 0] rfl) hG
        clear hz
        refine lv_iload_n hx hb dX9_year_163 rfl (lv_at hl 0 rfl) ?_
        cases h
        exact ret _ _ _ _ dX9_year_164 hG
    · have h := ite_t h c_6
      refine lv_iconst (v := (-1 : Int32)) hx hb dX9_year_24 (by decide) ?_
      cases h
      exact ret _ _ _ _ dX9_year_25 hG
set_option maxRecDepth 100000 in
set_option maxHeartbeats 4000000 in
theorem mX9_keep (l : Launch) (dC : Nat → ClassId) (dI : Nat → Nat → Nat) (cI cJ : ClassId) (a : Nat → Nat) (c_length : Int32) (c_text : Nat → Int32) (c_stands : Nat → Int32) (c_homeFar : Nat → Int32) (c_nets : Nat → Int32) (c_netAt : Nat → Int32) (c_netWide : Nat → Int32) (c_netFrom : Nat → Int32) (c_netTo : Nat → Int32) (c_priceX : Nat → Int32) (c_priceY : Nat → Int32) (c_many : Nat → Int32) (c_days : Nat → Int32) (c_aims : Nat → Int32) (c_speeds : Nat → Int32) (c_kinds : Nat → Int32) (c_keptMany : Int32) (c_undoMany : Int32) (c_undos : Nat → Int32) (c_spot : Int32) (c_told : Nat → Int32) (c_to : Nat → Int32) (c_stood : Nat → Int32) (c_home : Nat → Int32) (c_lost : Nat → Int32) (c_out : Int32) (c_fewest : Nat → Int32) (c_ways : Nat → Int64) (c_next : Nat → Int64) (c_held : Nat → Int32) {res : Int32} {n_many : Nat → Int32} {n_days : Nat → Int32} {n_aims : Nat → Int32} {n_speeds : Nat → Int32} {n_kinds : Nat → Int32} {n_keptMany : Int32} (hD : DX9_keep c_many c_days c_aims c_speeds c_kinds c_keptMany = some (res, n_many, n_days, n_aims, n_speeds, n_kinds, n_keptMany)) : Met l yX9_keep (WZ yX9_keep cX9_keep 1 (some .int)) (RM 1 23) (PC dC dI cI cJ [.ref (a 0)] (W_X9 a cI cJ c_length c_text c_stands c_homeFar c_nets c_netAt c_netWide c_netFrom c_netTo c_priceX c_priceY c_many c_days c_aims c_speeds c_kinds c_keptMany c_undoMany c_undos c_spot c_told c_to c_stood c_home c_lost c_out c_fewest c_ways c_next c_held)) (QI dC dI (W_X9 a cI cJ c_length c_text c_stands c_homeFar c_nets c_netAt c_netWide c_netFrom c_netTo c_priceX c_priceY c_many c_days c_aims c_speeds c_kinds c_keptMany c_undoMany c_undos c_spot c_told c_to c_stood c_home c_lost c_out c_fewest c_ways c_next c_held) (W_X9 a cI cJ c_length c_text c_stands c_homeFar c_nets c_netAt c_netWide c_netFrom c_netTo c_priceX c_priceY n_many n_days n_aims n_speeds n_kinds n_keptMany c_undoMany c_undos c_spot c_told c_to c_stood c_home c_lost c_out c_fewest c_ways c_next c_held) res) 0 0 (FA (W_X9 a cI cJ c_length c_text c_stands c_homeFar c_nets c_netAt c_netWide c_netFrom c_netTo c_priceX c_priceY c_many c_days c_aims c_speeds c_kinds c_keptMany c_undoMany c_undos c_spot c_told c_to c_stood c_home c_lost c_out c_fewest c_ways c_next c_held)) := by
  refine r_metI (by decide +kernel) (Nat.le_of_ble_eq_true rfl) ?_
  intro p e s m args below meth c A H0 QQ X ret ls hl hG
  have X : Cx p m c cX9_keep 1 s args RX9 dC dI cI cJ meth (some .int) := X
  have hx := X.1.1
  have hb := X.1.2.1
  have hl : lv_has ls 1 [(0, .ref (a 0))] := hl
  have h := hD
  unfold DX9_keep at h
  clear hD
  refine lv_aload_n hx hb dX9_keep_0 rfl (lv_at hl 0 rfl) ?_
  refine r_get X hG in_X9 rfl 16 (by decide) w_647 0 rfl rfl dX9_keep_1 ?_
  refine lv_iconst (v := (2 : Int32)) hx hb dX9_keep_4 (by decide) ?_
  refine lv_icmp_ne (tgt := 11) hx hb dX9_keep_5 (by decide) (fun c_1 => ?_) (fun c_1 => ?_)
  · have h := ite_f h c_1
    refine lv_aload_n hx hb dX9_keep_11 rfl (lv_at hl 0 rfl) ?_
    refine lv_dup hx hb dX9_keep_12 rfl ?_
    refine r_get X hG in_X9 rfl 16 (by decide) w_647 0 rfl rfl dX9_keep_13 ?_
    refine lv_iconst (v := (1 : Int32)) hx hb dX9_keep_16 (by decide) ?_
    refine lv_iadd hx hb dX9_keep_17 ?_
    refine r_put X hG in_X9 rfl tyX9 tyX9_ok nmX9 16 (by decide) rfl (by decide +kernel) w_647 0 (ws' := (W_X9 a cI cJ c_length c_text c_stands c_homeFar c_nets c_netAt c_netWide c_netFrom c_netTo c_priceX c_priceY c_many c_days c_aims c_speeds c_kinds (c_keptMany + (1 : Int32)) c_undoMany c_undos c_spot c_told c_to c_stood c_home c_lost c_out c_fewest c_ways c_next c_held)) rfl (Nat.le_of_ble_eq_true rfl) rfl dX9_keep_18 (fun H locs hG => ?_)
    refine lv_aload_n hx hb dX9_keep_21 rfl (lv_at hl 0 rfl) ?_
    refine lv_iconst (v := (0 : Int32)) hx hb dX9_keep_22 (by decide) ?_
    refine lv_iconst (v := (1 : Int32)) hx hb dX9_keep_23 (by decide) ?_
    refine lv_aload_n hx hb dX9_keep_24 rfl (lv_at hl 0 rfl) ?_
    refine r_get X hG in_X9 rfl 16 (by decide) w_647 0 rfl rfl dX9_keep_25 ?_
    refine lv_iadd hx hb dX9_keep_28 ?_
    obtain ⟨k_many_2, k_days_3, k_aims_4, k_speeds_5, k_kinds_6, hz_7, h⟩ := bd5_some h
    refine aft_v1 (run_V1 (rest := []) X hG hl.1 (mX9_copy l dC dI cI cJ a c_length c_text c_stands c_homeFar c_nets c_netAt c_netWide c_netFrom c_netTo c_priceX c_priceY c_many c_days c_aims c_speeds c_kinds (c_keptMany + (1 : Int32)) c_undoMany c_undos c_spot c_told c_to c_stood c_home c_lost c_out c_fewest c_ways c_next c_held (0 : Int32) ((1 : Int32) + (c_keptMany + (1 : Int32))) hz_7) gi_V_X9_131 hd_V_yX9_copy ⟨rfl, rfl⟩ rfl ⟨Nat.le_of_ble_eq_true rfl, Nat.le_of_ble_eq_true rfl⟩ 0 rfl rfl rfl rfl (Nat.le_of_ble_eq_true rfl) ⟨Nat.le_of_ble_eq_true rfl, Nat.le_of_ble_eq_true rfl⟩ dX9_keep_29) hG rfl (fun H locs hG => ?_)
    clear hz_7
    refine lv_aload_n hx hb dX9_keep_32 rfl (lv_at hl 0 rfl) ?_
    refine r_get X hG in_X9 rfl 16 (by decide) w_647 0 rfl rfl dX9_keep_33 ?_
    cases h
    exact ret _ _ _ _ dX9_keep_36 hG
  · have h := ite_t h c_1
    refine lv_bipush (v := (-3 : Int32)) hx hb dX9_keep_8 (by decide) ?_
    cases h
    exact ret _ _ _ _ dX9_keep_10 hG
set_option maxRecDepth 100000 in
set_option maxHeartbeats 4000000 in
theorem mX9_back (l : Launch) (dC : Nat → ClassId) (dI : Nat → Nat → Nat) (cI cJ : ClassId) (a : Nat → Nat) (c_length : Int32) (c_text : Nat → Int32) (c_stands : Nat → Int32) (c_homeFar : Nat → Int32) (c_nets : Nat → Int32) (c_netAt : Nat → Int32) (c_netWide : Nat → Int32) (c_netFrom : Nat → Int32) (c_netTo : Nat → Int32) (c_priceX : Nat → Int32) (c_priceY : Nat → Int32) (c_many : Nat → Int32) (c_days : Nat → Int32) (c_aims : Nat → Int32) (c_speeds : Nat → Int32) (c_kinds : Nat → Int32) (c_keptMany : Int32) (c_undoMany : Int32) (c_undos : Nat → Int32) (c_spot : Int32) (c_told : Nat → Int32) (c_to : Nat → Int32) (c_stood : Nat → Int32) (c_home : Nat → Int32) (c_lost : Nat → Int32) (c_out : Int32) (c_fewest : Nat → Int32) (c_ways : Nat → Int64) (c_next : Nat → Int64) (c_held : Nat → Int32) {res : Int32} {n_many : Nat → Int32} {n_days : Nat → Int32} {n_aims : Nat → Int32} {n_speeds : Nat → Int32} {n_kinds : Nat → Int32} {n_keptMany : Int32} {n_undoMany : Int32} (hD : DX9_back c_many c_days c_aims c_speeds c_kinds c_keptMany c_undoMany = some (res, n_many, n_days, n_aims, n_speeds, n_kinds, n_keptMany, n_undoMany)) : Met l yX9_back (WZ yX9_back cX9_back 1 (some .int)) (RM 1 23) (PC dC dI cI cJ [.ref (a 0)] (W_X9 a cI cJ c_length c_text c_stands c_homeFar c_nets c_netAt c_netWide c_netFrom c_netTo c_priceX c_priceY c_many c_days c_aims c_speeds c_kinds c_keptMany c_undoMany c_undos c_spot c_told c_to c_stood c_home c_lost c_out c_fewest c_ways c_next c_held)) (QI dC dI (W_X9 a cI cJ c_length c_text c_stands c_homeFar c_nets c_netAt c_netWide c_netFrom c_netTo c_priceX c_priceY c_many c_days c_aims c_speeds c_kinds c_keptMany c_undoMany c_undos c_spot c_told c_to c_stood c_home c_lost c_out c_fewest c_ways c_next c_held) (W_X9 a cI cJ c_length c_text c_stands c_homeFar c_nets c_netAt c_netWide c_netFrom c_netTo c_priceX c_priceY n_many n_days n_aims n_speeds n_kinds n_keptMany n_undoMany c_undos c_spot c_told c_to c_stood c_home c_lost c_out c_fewest c_ways c_next c_held) res) 0 0 (FA (W_X9 a cI cJ c_length c_text c_stands c_homeFar c_nets c_netAt c_netWide c_netFrom c_netTo c_priceX c_priceY c_many c_days c_aims c_speeds c_kinds c_keptMany c_undoMany c_undos c_spot c_told c_to c_stood c_home c_lost c_out c_fewest c_ways c_next c_held)) := by
  refine r_metI (by decide +kernel) (Nat.le_of_ble_eq_true rfl) ?_
  intro p e s m args below meth c A H0 QQ X ret ls hl hG
  have X : Cx p m c cX9_back 1 s args RX9 dC dI cI cJ meth (some .int) := X
  have hx := X.1.1
  have hb := X.1.2.1
  have hl : lv_has ls 1 [(0, .ref (a 0))] := hl
  have h := hD
  unfold DX9_back at h
  clear hD
  refine lv_aload_n hx hb dX9_back_0 rfl (lv_at hl 0 rfl) ?_
  refine r_get X hG in_X9 rfl 16 (by decide) w_647 0 rfl rfl dX9_back_1 ?_
  refine lv_if_ne (tgt := 10) hx hb dX9_back_4 (by decide) (fun c_1 => ?_) (fun c_1 => ?_)
  · have h := ite_f h c_1
    refine lv_aload_n hx hb dX9_back_10 rfl (lv_at hl 0 rfl) ?_
    refine lv_iconst (v := (1 : Int32)) hx hb dX9_back_11 (by decide) ?_
    refine lv_aload_n hx hb dX9_back_12 rfl (lv_at hl 0 rfl) ?_
    refine r_get X hG in_X9 rfl 16 (by decide) w_647 0 rfl rfl dX9_back_13 ?_
    refine lv_iadd hx hb dX9_back_16 ?_
    refine lv_iconst (v := (0 : Int32)) hx hb dX9_back_17 (by decide) ?_
    obtain ⟨k_many_2, k_days_3, k_aims_4, k_speeds_5, k_kinds_6, hz_7, h⟩ := bd5_some h
    refine aft_v1 (run_V1 (rest := []) X hG hl.1 (mX9_copy l dC dI cI cJ a c_length c_text c_stands c_homeFar c_nets c_netAt c_netWide c_netFrom c_netTo c_priceX c_priceY c_many c_days c_aims c_speeds c_kinds c_keptMany c_undoMany c_undos c_spot c_told c_to c_stood c_home c_lost c_out c_fewest c_ways c_next c_held ((1 : Int32) + c_keptMany) (0 : Int32) hz_7) gi_V_X9_131 hd_V_yX9_copy ⟨rfl, rfl⟩ rfl ⟨Nat.le_of_ble_eq_true rfl, Nat.le_of_ble_eq_true rfl⟩ 0 rfl rfl rfl rfl (Nat.le_of_ble_eq_true rfl) ⟨Nat.le_of_ble_eq_true rfl, Nat.le_of_ble_eq_true rfl⟩ dX9_back_18) hG rfl (fun H locs hG => ?_)
    clear hz_7
    refine lv_aload_n hx hb dX9_back_21 rfl (lv_at hl 0 rfl) ?_
    refine lv_dup hx hb dX9_back_22 rfl ?_
    refine r_get X hG in_X9 rfl 16 (by decide) w_647 0 rfl rfl dX9_back_23 ?_
    refine lv_iconst (v := (1 : Int32)) hx hb dX9_back_26 (by decide) ?_
    refine lv_isub hx hb dX9_back_27 ?_
    refine r_put X hG in_X9 rfl tyX9 tyX9_ok nmX9 16 (by decide) rfl (by decide +kernel) w_647 0 (ws' := (W_X9 a cI cJ c_length c_text c_stands c_homeFar c_nets c_netAt c_netWide c_netFrom c_netTo c_priceX c_priceY k_many_2 k_days_3 k_aims_4 k_speeds_5 k_kinds_6 (c_keptMany - (1 : Int32)) c_undoMany c_undos c_spot c_told c_to c_stood c_home c_lost c_out c_fewest c_ways c_next c_held)) rfl (Nat.le_of_ble_eq_true rfl) rfl dX9_back_28 (fun H locs hG => ?_)
    refine lv_aload_n hx hb dX9_back_31 rfl (lv_at hl 0 rfl) ?_
    refine lv_iconst (v := (0 : Int32)) hx hb dX9_back_32 (by decide) ?_
    refine r_put X hG in_X9 rfl tyX9 tyX9_ok nmX9 17 (by decide) rfl (by decide +kernel) w_648 0 (ws' := (W_X9 a cI cJ c_length c_text c_stands c_homeFar c_nets c_netAt c_netWide c_netFrom c_netTo c_priceX c_priceY k_many_2 k_days_3 k_aims_4 k_speeds_5 k_kinds_6 (c_keptMany - (1 : Int32)) (0 : Int32) c_undos c_spot c_told c_to c_stood c_home c_lost c_out c_fewest c_ways c_next c_held)) rfl (Nat.le_of_ble_eq_true rfl) rfl dX9_back_33 (fun H locs hG => ?_)
    refine lv_aload_n hx hb dX9_back_36 rfl (lv_at hl 0 rfl) ?_
    refine r_get X hG in_X9 rfl 16 (by decide) w_647 0 rfl rfl dX9_back_37 ?_
    cases h
    exact ret _ _ _ _ dX9_back_40 hG
  · have h := ite_t h c_1
    refine lv_bipush (v := (-2 : Int32)) hx hb dX9_back_7 (by decide) ?_
    cases h
    exact ret _ _ _ _ dX9_back_9 hG
set_option maxRecDepth 100000 in
set_option maxHeartbeats 4000000 in
theorem mX9_count (l : Launch) (dC : Nat → ClassId) (dI : Nat → Nat → Nat) (cI cJ : ClassId) (a : Nat → Nat) (c_length : Int32) (c_text : Nat → Int32) (c_stands : Nat → Int32) (c_homeFar : Nat → Int32) (c_nets : Nat → Int32) (c_netAt : Nat → Int32) (c_netWide : Nat → Int32) (c_netFrom : Nat → Int32) (c_netTo : Nat → Int32) (c_priceX : Nat → Int32) (c_priceY : Nat → Int32) (c_many : Nat → Int32) (c_days : Nat → Int32) (c_aims : Nat → Int32) (c_speeds : Nat → Int32) (c_kinds : Nat → Int32) (c_keptMany : Int32) (c_undoMany : Int32) (c_undos : Nat → Int32) (c_spot : Int32) (c_told : Nat → Int32) (c_to : Nat → Int32) (c_stood : Nat → Int32) (c_home : Nat → Int32) (c_lost : Nat → Int32) (c_out : Int32) (c_fewest : Nat → Int32) (c_ways : Nat → Int64) (c_next : Nat → Int64) (c_held : Nat → Int32) (x1 : Int32) {res : Int32} (hD : DX9_count x1 c_length c_stands c_homeFar c_nets c_many c_keptMany c_undoMany = some res) : Met l yX9_count (WZ yX9_count cX9_count 2 (some .int)) (RM 0 0) (PC dC dI cI cJ [.ref (a 0), .int x1] (W_X9 a cI cJ c_length c_text c_stands c_homeFar c_nets c_netAt c_netWide c_netFrom c_netTo c_priceX c_priceY c_many c_days c_aims c_speeds c_kinds c_keptMany c_undoMany c_undos c_spot c_told c_to c_stood c_home c_lost c_out c_fewest c_ways c_next c_held)) (QI dC dI (W_X9 a cI cJ c_length c_text c_stands c_homeFar c_nets c_netAt c_netWide c_netFrom c_netTo c_priceX c_priceY c_many c_days c_aims c_speeds c_kinds c_keptMany c_undoMany c_undos c_spot c_told c_to c_stood c_home c_lost c_out c_fewest c_ways c_next c_held) (W_X9 a cI cJ c_length c_text c_stands c_homeFar c_nets c_netAt c_netWide c_netFrom c_netTo c_priceX c_priceY c_many c_days c_aims c_speeds c_kinds c_keptMany c_undoMany c_undos c_spot c_told c_to c_stood c_home c_lost c_out c_fewest c_ways c_next c_held) res) 0 0 (FA (W_X9 a cI cJ c_length c_text c_stands c_homeFar c_nets c_netAt c_netWide c_netFrom c_netTo c_priceX c_priceY c_many c_days c_aims c_speeds c_kinds c_keptMany c_undoMany c_undos c_spot c_told c_to c_stood c_home c_lost c_out c_fewest c_ways c_next c_held)) := by
  refine r_metI (by decide +kernel) (Nat.le_of_ble_eq_true rfl) ?_
  intro p e s m args below meth c A H0 QQ X ret ls hl hG
  have X : Cx p m c cX9_count 2 s args RX9 dC dI cI cJ meth (some .int) := X
  have hx := X.1.1
  have hb := X.1.2.1
  have hl : lv_has ls 2 [(0, .ref (a 0)), (1, .int x1)] := hl
  have h := hD
  unfold DX9_count at h
  clear hD
  refine lv_iload_n hx hb dX9_count_0 rfl (lv_at hl 1 rfl) ?_
  rcases Decidable.em (x1 = (0 : Int32)) with c_1 | c_1
  · have h := ite_t h c_1
    refine lv_tableIn (off := 43) (tgt := 44) hx hb dX9_count_1 (by rw [c_1] <;> decide) (by rw [c_1] <;> decide) (by rw [c_1] <;> rfl) (by decide) ?_
    refine lv_aload_n hx hb dX9_count_44 rfl (lv_at hl 0 rfl) ?_
    refine r_get X hG in_X9 rfl 11 (by decide) w_642 0 rfl rfl dX9_count_45 ?_
    refine lv_iconst (v := (0 : Int32)) hx hb dX9_count_48 (by decide) ?_
    refine r_iald X hG 11 rfl (vpd (by decide)) dX9_count_49 ?_
    cases h
    exact ret _ _ _ _ dX9_count_50 hG
  · have h := ite_f h c_1
    rcases Decidable.em (x1 = (1 : Int32)) with c_2 | c_2
    · have h := ite_t h c_2
      refine lv_tableIn (off := 50) (tgt := 51) hx hb dX9_count_1 (by rw [c_2] <;> decide) (by rw [c_2] <;> decide) (by rw [c_2] <;> rfl) (by decide) ?_
      refine lv_aload_n hx hb dX9_count_51 rfl (lv_at hl 0 rfl) ?_
      refine r_get X hG in_X9 rfl 4 (by decide) w_635 0 rfl rfl dX9_count_52 ?_
      refine lv_iconst (v := (0 : Int32)) hx hb dX9_count_55 (by decide) ?_
      refine r_iald X hG 4 rfl (vpd (by decide)) dX9_count_56 ?_
      cases h
      exact ret _ _ _ _ dX9_count_57 hG
    · have h := ite_f h c_2
      rcases Decidable.em (x1 = (2 : Int32)) with c_3 | c_3
      · have h := ite_t h c_3
        refine lv_tableIn (off := 57) (tgt := 58) hx hb dX9_count_1 (by rw [c_3] <;> decide) (by rw [c_3] <;> decide) (by rw [c_3] <;> rfl) (by decide) ?_
        refine lv_aload_n hx hb dX9_count_58 rfl (lv_at hl 0 rfl) ?_
        refine r_get X hG in_X9 rfl 2 (by decide) w_633 0 rfl rfl dX9_count_59 ?_
        refine lv_iconst (v := (0 : Int32)) hx hb dX9_count_62 (by decide) ?_
        refine r_iald X hG 2 rfl (vpd (by decide)) dX9_count_63 ?_
        cases h
        exact ret _ _ _ _ dX9_count_64 hG
      · have h := ite_f h c_3
        rcases Decidable.em (x1 = (3 : Int32)) with c_4 | c_4
        · have h := ite_t h c_4
          refine lv_tableIn (off := 64) (tgt := 65) hx hb dX9_count_1 (by rw [c_4] <;> decide) (by rw [c_4] <;> decide) (by rw [c_4] <;> rfl) (by decide) ?_
          refine lv_aload_n hx hb dX9_count_65 rfl (lv_at hl 0 rfl) ?_
          refine r_get X hG in_X9 rfl 3 (by decide) w_634 0 rfl rfl dX9_count_66 ?_
          refine lv_iconst (v := (0 : Int32)) hx hb dX9_count_69 (by decide) ?_
          refine r_iald X hG 3 rfl (vpd (by decide)) dX9_count_70 ?_
          cases h
          exact ret _ _ _ _ dX9_count_71 hG
        · have h := ite_f h c_4
          rcases Decidable.em (x1 = (4 : Int32)) with c_5 | c_5
          · have h := ite_t h c_5
            refine lv_tableIn (off := 71) (tgt := 72) hx hb dX9_count_1 (by rw [c_5] <;> decide) (by rw [c_5] <;> decide) (by rw [c_5] <;> rfl) (by decide) ?_
            refine lv_aload_n hx hb dX9_count_72 rfl (lv_at hl 0 rfl) ?_
            refine r_get X hG in_X9 rfl 17 (by decide) w_648 0 rfl rfl dX9_count_73 ?_
            cases h
            exact ret _ _ _ _ dX9_count_76 hG
          · have h := ite_f h c_5
            rcases Decidable.em (x1 = (5 : Int32)) with c_6 | c_6
            · have h := ite_t h c_6
              refine lv_tableIn (off := 76) (tgt := 77) hx hb dX9_count_1 (by rw [c_6] <;> decide) (by rw [c_6] <;> decide) (by rw [c_6] <;> rfl) (by decide) ?_
              refine lv_aload_n hx hb dX9_count_77 rfl (lv_at hl 0 rfl) ?_
              refine r_get X hG in_X9 rfl 16 (by decide) w_647 0 rfl rfl dX9_count_78 ?_
              cases h
              exact ret _ _ _ _ dX9_count_81 hG
            · have h := ite_f h c_6
              rcases Decidable.em (x1 = (6 : Int32)) with c_7 | c_7
              · have h := ite_t h c_7
                refine lv_tableIn (off := 81) (tgt := 82) hx hb dX9_count_1 (by rw [c_7] <;> decide) (by rw [c_7] <;> decide) (by rw [c_7] <;> rfl) (by decide) ?_
                refine lv_aload_n hx hb dX9_count_82 rfl (lv_at hl 0 rfl) ?_
                refine r_get X hG in_X9 rfl 0 (by decide) w_631 0 rfl rfl dX9_count_83 ?_
                cases h
                exact ret _ _ _ _ dX9_count_86 hG
              · have h := ite_f h c_7
                refine lv_tableOut (tgt := 87) hx hb dX9_count_1 (by have := lv_neT c_1 (a := 0) rfl; have := lv_neT c_2 (a := 1) rfl; have := lv_neT c_3 (a := 2) rfl; have := lv_neT c_4 (a := 3) rfl; have := lv_neT c_5 (a := 4) rfl; have := lv_neT c_6 (a := 5) rfl; have := lv_neT c_7 (a := 6) rfl; omega) (by decide) ?_
                refine lv_iconst (v := (-1 : Int32)) hx hb dX9_count_87 (by decide) ?_
                cases h
                exact ret _ _ _ _ dX9_count_88 hG
