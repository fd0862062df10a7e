/-! CONTRACTS, laid by wip/gen/lay.py: yX9_stand, yX9_odds -/
set_option maxRecDepth 100000 in
set_option maxHeartbeats 4000000 in
theorem mX9_stand (l : Launch) (dC : Nat → ClassId) (dI : Nat → Nat → Nat) (cI cJ : ClassId) (a : Nat → Nat) (c_length : Int32) (c_text : Nat → Int32) (c_stands : Nat → Int32) (c_homeFar : Nat → Int32) (c_nets : Nat → Int32) (c_netAt : Nat → Int32) (c_netWide : Nat → Int32) (c_netFrom : Nat → Int32) (c_netTo : Nat → Int32) (c_priceX : Nat → Int32) (c_priceY : Nat → Int32) (c_many : Nat → Int32) (c_days : Nat → Int32) (c_aims : Nat → Int32) (c_speeds : Nat → Int32) (c_kinds : Nat → Int32) (c_keptMany : Int32) (c_undoMany : Int32) (c_undos : Nat → Int32) (c_spot : Int32) (c_told : Nat → Int32) (c_to : Nat → Int32) (c_stood : Nat → Int32) (c_home : Nat → Int32) (c_lost : Nat → Int32) (c_out : Int32) (c_fewest : Nat → Int32) (c_ways : Nat → Int64) (c_next : Nat → Int64) (c_held : Nat → Int32) (x1 : Int32) (x2 : Int32) (x3 : Int32) {res : Int32} {n_to : Nat → Int32} {n_stood : Nat → Int32} {n_out : Int32} {n_fewest : Nat → Int32} (hD : DX9_stand x1 x2 x3 c_stands c_many c_days c_aims c_speeds c_kinds c_to c_stood c_out c_fewest = some (res, n_to, n_stood, n_out, n_fewest)) : Met l yX9_stand (WZ yX9_stand cX9_stand 8 (some .int)) (RM 2 45) (PC dC dI cI cJ [.ref (a 0), .int x1, .int x2, .int x3] (W_X9 a cI cJ c_length c_text c_stands c_homeFar c_nets c_netAt c_netWide c_netFrom c_netTo c_priceX c_priceY c_many c_days c_aims c_speeds c_kinds c_keptMany c_undoMany c_undos c_spot c_told c_to c_stood c_home c_lost c_out c_fewest c_ways c_next c_held)) (QI dC dI (W_X9 a cI cJ c_length c_text c_stands c_homeFar c_nets c_netAt c_netWide c_netFrom c_netTo c_priceX c_priceY c_many c_days c_aims c_speeds c_kinds c_keptMany c_undoMany c_undos c_spot c_told c_to c_stood c_home c_lost c_out c_fewest c_ways c_next c_held) (W_X9 a cI cJ c_length c_text c_stands c_homeFar c_nets c_netAt c_netWide c_netFrom c_netTo c_priceX c_priceY c_many c_days c_aims c_speeds c_kinds c_keptMany c_undoMany c_undos c_spot c_told n_to n_stood c_home c_lost n_out n_fewest c_ways c_next c_held) res) 0 0 (FA (W_X9 a cI cJ c_length c_text c_stands c_homeFar c_nets c_netAt c_netWide c_netFrom c_netTo c_priceX c_priceY c_many c_days c_aims c_speeds c_kinds c_keptMany c_undoMany c_undos c_spot c_told c_to c_stood c_home c_lost c_out c_fewest c_ways c_next c_held)) := by
  refine r_metI (by decide +kernel) (Nat.le_of_ble_eq_true rfl) ?_
  intro p e s m args below meth c A H0 QQ X ret ls hl hG
  have X : Cx p m c cX9_stand 8 s args RX9 dC dI cI cJ meth (some .int) := X
  have hx := X.1.1
  have hb := X.1.2.1
  have hl : lv_has ls 8 [(0, .ref (a 0)), (1, .int x1), (2, .int x2), (3, .int x3)] := hl
  have L39 : ∀ (c_to : Nat → Int32) (c_stood : Nat → Int32) (c_out : Int32), ∀ (n : Nat) (x4 : Int32) (c_fewest : Nat → Int32) (ec_fewest : Nat → Int32), DX9_stand_L39 x1 n x4 c_fewest = some ec_fewest → (∀ (ls : Array Slot) (H : Heap) (locs : List Loc), lv_has ls 8 [(0, .ref (a 0)), (2, .int x2), (3, .int x3)] → G dC dI A H0 (W_X9 a cI cJ c_length c_text c_stands c_homeFar c_nets c_netAt c_netWide c_netFrom c_netTo c_priceX c_priceY c_many c_days c_aims c_speeds c_kinds c_keptMany c_undoMany c_undos c_spot c_told c_to c_stood c_home c_lost c_out ec_fewest c_ways c_next c_held) H locs → W p l e (RM 2 45) s m args below meth c H locs 0 0 QQ (F0 m 72 ls [])) → ∀ (ls : Array Slot) (H : Heap) (locs : List Loc), lv_has ls 8 [(0, .ref (a 0)), (1, .int x1), (2, .int x2), (3, .int x3), (4, .int x4)] → G dC dI A H0 (W_X9 a cI cJ c_length c_text c_stands c_homeFar c_nets c_netAt c_netWide c_netFrom c_netTo c_priceX c_priceY c_many c_days c_aims c_speeds c_kinds c_keptMany c_undoMany c_undos c_spot c_told c_to c_stood c_home c_lost c_out c_fewest c_ways c_next c_held) H locs → W p l e (RM 2 45) s m args below meth c H locs 0 0 QQ (F0 m 39 ls []) := by
    intro c_to c_stood c_out n
    induction n with
    | zero => intro x4 c_fewest ec_fewest h; exact it_zero h
    | succ n ih =>
      intro x4 c_fewest ec_fewest h0 K0 ls H locs hl hG
      obtain ⟨w, h, hi, hr⟩ := it_succ h0
      have h : DX9_stand_L39s x1 x4 c_fewest = some w := h
      have KC : ∀ (x4 : Int32) (c_fewest : Nat → Int32), w = .inl (x4, c_fewest) → ∀ (ls : Array Slot) (H : Heap) (locs : List Loc), lv_has ls 8 [(0, .ref (a 0)), (1, .int x1), (2, .int x2), (3, .int x3), (4, .int x4)] → G dC dI A H0 (W_X9 a cI cJ c_length c_text c_stands c_homeFar c_nets c_netAt c_netWide c_netFrom c_netTo c_priceX c_priceY c_many c_days c_aims c_speeds c_kinds c_keptMany c_undoMany c_undos c_spot c_told c_to c_stood c_home c_lost c_out c_fewest c_ways c_next c_held) H locs → W p l e (RM 2 45) s m args below meth c H locs 0 0 QQ (F0 m 39 ls []) := fun b0 b1 e ls H locs hl hG => ih b0 b1 ec_fewest (hi _ e) K0 ls H locs hl hG
      have KX : ∀ (c_fewest : Nat → Int32), w = .inr c_fewest → ∀ (ls : Array Slot) (H : Heap) (locs : List Loc), lv_has ls 8 [(0, .ref (a 0)), (2, .int x2), (3, .int x3)] → G dC dI A H0 (W_X9 a cI cJ c_length c_text c_stands c_homeFar c_nets c_netAt c_netWide c_netFrom c_netTo c_priceX c_priceY c_many c_days c_aims c_speeds c_kinds c_keptMany c_undoMany c_undos c_spot c_told c_to c_stood c_home c_lost c_out c_fewest c_ways c_next c_held) H locs → W p l e (RM 2 45) s m args below meth c H locs 0 0 QQ (F0 m 72 ls []) := fun b0 e ls H locs hl hG => by cases hr _ e; exact K0 ls H locs hl hG
      clear h0 hi hr K0 ih
      unfold DX9_stand_L39s at h
      refine lv_iload hx hb dX9_stand_39 (lv_at hl 4 rfl) ?_
      refine lv_bipush (v := (24 : Int32)) hx hb dX9_stand_41 (by decide) ?_
      refine lv_icmp_ge (tgt := 72) hx hb dX9_stand_43 (by decide) (fun c_10 => ?_) (fun c_10 => ?_)
      · have h := ite_t h c_10
        exact KX _ (Option.some.inj h).symm _ _ _ (lv_sub hl [0, 2, 3] rfl) hG
      · have h := ite_f h c_10
        refine lv_aload_n hx hb dX9_stand_46 rfl (lv_at hl 0 rfl) ?_
        refine r_get X hG in_X9 rfl 26 (by decide) w_657 0 rfl rfl dX9_stand_47 ?_
        refine lv_iload hx hb dX9_stand_50 (lv_at hl 4 rfl) ?_
        refine lv_iload hx hb dX9_stand_52 (lv_at hl 4 rfl) ?_
        refine lv_iload_n hx hb dX9_stand_54 rfl (lv_at hl 1 rfl) ?_
        refine lv_icmp_ne (tgt := 62) hx hb dX9_stand_55 (by decide) (fun c_11 => ?_) (fun c_11 => ?_)
        · have h := ite_f h c_11
          refine lv_sipush (v := (10000 : Int32)) hx hb dX9_stand_62 (by decide) ?_
          obtain ⟨g_12, h⟩ := gd h
          refine r_iast X hG 22 (ws' := (W_X9 a cI cJ c_length c_text c_stands c_homeFar c_nets c_netAt c_netWide c_netFrom c_netTo c_priceX c_priceY c_many c_days c_aims c_speeds c_kinds c_keptMany c_undoMany c_undos c_spot c_told c_to c_stood c_home c_lost c_out (upd c_fewest x4.toNatClampNeg (10000 : Int32)) c_ways c_next c_held)) rfl g_12 rfl dX9_stand_65 (fun H locs hG => ?_)
          refine lv_iinc (v := (x4 + (1 : Int32))) (lv' := [(4, .int (x4 + (1 : Int32))), (0, .ref (a 0)), (1, .int x1), (2, .int x2), (3, .int x3)]) hx hb dX9_stand_66 hl (k := 4) rfl rfl (by decide) rfl (fun ls hl => ?_)
          refine lv_goto (tgt := 39) hx hb dX9_stand_69 (by decide) ?_
          exact KC _ _ (Option.some.inj h).symm _ _ _ (lv_sub hl [1, 2, 3, 4, 0] rfl) hG
        · have h := ite_t h c_11
          refine lv_iconst (v := (0 : Int32)) hx hb dX9_stand_58 (by decide) ?_
          refine lv_goto (tgt := 65) hx hb dX9_stand_59 (by decide) ?_
          obtain ⟨g_13, h⟩ := gd h
          refine r_iast X hG 22 (ws' := (W_X9 a cI cJ c_length c_text c_stands c_homeFar c_nets c_netAt c_netWide c_netFrom c_netTo c_priceX c_priceY c_many c_days c_aims c_speeds c_kinds c_keptMany c_undoMany c_undos c_spot c_told c_to c_stood c_home c_lost c_out (upd c_fewest x4.toNatClampNeg (0 : Int32)) c_ways c_next c_held)) rfl g_13 rfl dX9_stand_65 (fun H locs hG => ?_)
          refine lv_iinc (v := (x4 + (1 : Int32))) (lv' := [(4, .int (x4 + (1 : Int32))), (0, .ref (a 0)), (1, .int x1), (2, .int x2), (3, .int x3)]) hx hb dX9_stand_66 hl (k := 4) rfl rfl (by decide) rfl (fun ls hl => ?_)
          refine lv_goto (tgt := 39) hx hb dX9_stand_69 (by decide) ?_
          exact KC _ _ (Option.some.inj h).symm _ _ _ (lv_sub hl [1, 2, 3, 4, 0] rfl) hG
  have J134 : ∀ (y0 : Int32) (x4 : Int32) (x5 : Int32) (x6 : Int32) (c_to : Nat → Int32) (c_stood : Nat → Int32) (c_out : Int32) (c_fewest : Nat → Int32), ∀ (w : (Int32 × (Nat → Int32)) ⊕ ((Nat → Int32))), DX9_stand_J134 c_fewest y0 x5 x6 = some w → (∀ (x6 : Int32) (c_fewest : Nat → Int32), w = .inl (x6, c_fewest) → ∀ (ls : Array Slot) (H : Heap) (locs : List Loc), lv_has ls 8 [(0, .ref (a 0)), (2, .int x2), (3, .int x3), (4, .int x4), (5, .int x5), (6, .int x6)] → G dC dI A H0 (W_X9 a cI cJ c_length c_text c_stands c_homeFar c_nets c_netAt c_netWide c_netFrom c_netTo c_priceX c_priceY c_many c_days c_aims c_speeds c_kinds c_keptMany c_undoMany c_undos c_spot c_told c_to c_stood c_home c_lost c_out c_fewest c_ways c_next c_held) H locs → W p l e (RM 2 45) s m args below meth c H locs 0 0 QQ (F0 m 95 ls [])) → (∀ (c_fewest : Nat → Int32), w = .inr c_fewest → ∀ (ls : Array Slot) (H : Heap) (locs : List Loc), lv_has ls 8 [(0, .ref (a 0)), (2, .int x2), (3, .int x3), (4, .int x4), (5, .int x5)] → G dC dI A H0 (W_X9 a cI cJ c_length c_text c_stands c_homeFar c_nets c_netAt c_netWide c_netFrom c_netTo c_priceX c_priceY c_many c_days c_aims c_speeds c_kinds c_keptMany c_undoMany c_undos c_spot c_told c_to c_stood c_home c_lost c_out c_fewest c_ways c_next c_held) H locs → W p l e (RM 2 45) s m args below meth c H locs 0 0 QQ (F0 m 173 ls [])) → ∀ (ls : Array Slot) (H : Heap) (locs : List Loc), lv_has ls 8 [(0, .ref (a 0)), (2, .int x2), (3, .int x3), (4, .int x4), (5, .int x5), (6, .int x6)] → G dC dI A H0 (W_X9 a cI cJ c_length c_text c_stands c_homeFar c_nets c_netAt c_netWide c_netFrom c_netTo c_priceX c_priceY c_many c_days c_aims c_speeds c_kinds c_keptMany c_undoMany c_undos c_spot c_told c_to c_stood c_home c_lost c_out c_fewest c_ways c_next c_held) H locs → W p l e (RM 2 45) s m args below meth c H locs 0 0 QQ (F0 m 134 ls [.int y0]) := by
    intro y0 x4 x5 x6 c_to c_stood c_out c_fewest w h KC KX ls H locs hl hG
    unfold DX9_stand_J134 at h
    refine lv_istore (lv' := [(7, .int y0), (0, .ref (a 0)), (2, .int x2), (3, .int x3), (4, .int x4), (5, .int x5), (6, .int x6)]) hx hb dX9_stand_134 hl (by decide) rfl (fun ls hl => ?_)
    refine lv_aload_n hx hb dX9_stand_136 rfl (lv_at hl 1 rfl) ?_
    refine r_get X hG in_X9 rfl 26 (by decide) w_657 0 rfl rfl dX9_stand_137 ?_
    refine lv_iload hx hb dX9_stand_140 (lv_at hl 5 rfl) ?_
    refine lv_iload hx hb dX9_stand_142 (lv_at hl 0 rfl) ?_
    refine lv_aload_n hx hb dX9_stand_144 rfl (lv_at hl 1 rfl) ?_
    refine r_get X hG in_X9 rfl 26 (by decide) w_657 0 rfl rfl dX9_stand_145 ?_
    refine lv_iload hx hb dX9_stand_148 (lv_at hl 5 rfl) ?_
    obtain ⟨g_21, h⟩ := gd h
    refine r_iald X hG 22 rfl g_21 dX9_stand_150 ?_
    refine lv_icmp_ge (tgt := 159) hx hb dX9_stand_151 (by decide) (fun c_22 => ?_) (fun c_22 => ?_)
    · have h := ite_t h c_22
      refine lv_aload_n hx hb dX9_stand_159 rfl (lv_at hl 1 rfl) ?_
      refine r_get X hG in_X9 rfl 26 (by decide) w_657 0 rfl rfl dX9_stand_160 ?_
      refine lv_iload hx hb dX9_stand_163 (lv_at hl 5 rfl) ?_
      obtain ⟨g_23, h⟩ := gd h
      refine r_iald X hG 22 rfl g_23 dX9_stand_165 ?_
      obtain ⟨g_24, h⟩ := gd h
      refine r_iast X hG 22 (ws' := (W_X9 a cI cJ c_length c_text c_stands c_homeFar c_nets c_netAt c_netWide c_netFrom c_netTo c_priceX c_priceY c_many c_days c_aims c_speeds c_kinds c_keptMany c_undoMany c_undos c_spot c_told c_to c_stood c_home c_lost c_out (upd c_fewest x5.toNatClampNeg (c_fewest x5.toNatClampNeg)) c_ways c_next c_held)) rfl g_24 rfl dX9_stand_166 (fun H locs hG => ?_)
      refine lv_iinc (v := (x6 + (1 : Int32))) (lv' := [(6, .int (x6 + (1 : Int32))), (7, .int y0), (0, .ref (a 0)), (2, .int x2), (3, .int x3), (4, .int x4), (5, .int x5)]) hx hb dX9_stand_167 hl (k := 6) rfl rfl (by decide) rfl (fun ls hl => ?_)
      refine lv_goto (tgt := 95) hx hb dX9_stand_170 (by decide) ?_
      exact KC _ _ (Option.some.inj h).symm _ _ _ (lv_sub hl [2, 3, 4, 5, 6, 0] rfl) hG
    · have h := ite_f h c_22
      refine lv_iload hx hb dX9_stand_154 (lv_at hl 0 rfl) ?_
      refine lv_goto (tgt := 166) hx hb dX9_stand_156 (by decide) ?_
      obtain ⟨g_25, h⟩ := gd h
      refine r_iast X hG 22 (ws' := (W_X9 a cI cJ c_length c_text c_stands c_homeFar c_nets c_netAt c_netWide c_netFrom c_netTo c_priceX c_priceY c_many c_days c_aims c_speeds c_kinds c_keptMany c_undoMany c_undos c_spot c_told c_to c_stood c_home c_lost c_out (upd c_fewest x5.toNatClampNeg y0) c_ways c_next c_held)) rfl g_25 rfl dX9_stand_166 (fun H locs hG => ?_)
      refine lv_iinc (v := (x6 + (1 : Int32))) (lv' := [(6, .int (x6 + (1 : Int32))), (7, .int y0), (0, .ref (a 0)), (2, .int x2), (3, .int x3), (4, .int x4), (5, .int x5)]) hx hb dX9_stand_167 hl (k := 6) rfl rfl (by decide) rfl (fun ls hl => ?_)
      refine lv_goto (tgt := 95) hx hb dX9_stand_170 (by decide) ?_
      exact KC _ _ (Option.some.inj h).symm _ _ _ (lv_sub hl [2, 3, 4, 5, 6, 0] rfl) hG
  have L95 : ∀ (x4 : Int32) (x5 : Int32) (c_to : Nat → Int32) (c_stood : Nat → Int32) (c_out : Int32), ∀ (n : Nat) (x6 : Int32) (c_fewest : Nat → Int32) (ec_fewest : Nat → Int32), DX9_stand_L95 x2 x5 n x6 c_fewest = some ec_fewest → (∀ (ls : Array Slot) (H : Heap) (locs : List Loc), lv_has ls 8 [(0, .ref (a 0)), (2, .int x2), (3, .int x3), (4, .int x4), (5, .int x5)] → G dC dI A H0 (W_X9 a cI cJ c_length c_text c_stands c_homeFar c_nets c_netAt c_netWide c_netFrom c_netTo c_priceX c_priceY c_many c_days c_aims c_speeds c_kinds c_keptMany c_undoMany c_undos c_spot c_told c_to c_stood c_home c_lost c_out ec_fewest c_ways c_next c_held) H locs → W p l e (RM 2 45) s m args below meth c H locs 0 0 QQ (F0 m 173 ls [])) → ∀ (ls : Array Slot) (H : Heap) (locs : List Loc), lv_has ls 8 [(0, .ref (a 0)), (2, .int x2), (3, .int x3), (4, .int x4), (5, .int x5), (6, .int x6)] → G dC dI A H0 (W_X9 a cI cJ c_length c_text c_stands c_homeFar c_nets c_netAt c_netWide c_netFrom c_netTo c_priceX c_priceY c_many c_days c_aims c_speeds c_kinds c_keptMany c_undoMany c_undos c_spot c_told c_to c_stood c_home c_lost c_out c_fewest c_ways c_next c_held) H locs → W p l e (RM 2 45) s m args below meth c H locs 0 0 QQ (F0 m 95 ls []) := by
    intro x4 x5 c_to c_stood c_out n
    induction n with
    | zero => intro x6 c_fewest ec_fewest h; exact it_zero h
    | succ n ih =>
      intro x6 c_fewest ec_fewest h0 K0 ls H locs hl hG
      obtain ⟨w, h, hi, hr⟩ := it_succ h0
      have h : DX9_stand_L95s x2 x5 x6 c_fewest = some w := h
      have KC : ∀ (x6 : Int32) (c_fewest : Nat → Int32), w = .inl (x6, c_fewest) → ∀ (ls : Array Slot) (H : Heap) (locs : List Loc), lv_has ls 8 [(0, .ref (a 0)), (2, .int x2), (3, .int x3), (4, .int x4), (5, .int x5), (6, .int x6)] → G dC dI A H0 (W_X9 a cI cJ c_length c_text c_stands c_homeFar c_nets c_netAt c_netWide c_netFrom c_netTo c_priceX c_priceY c_many c_days c_aims c_speeds c_kinds c_keptMany c_undoMany c_undos c_spot c_told c_to c_stood c_home c_lost c_out c_fewest c_ways c_next c_held) H locs → W p l e (RM 2 45) s m args below meth c H locs 0 0 QQ (F0 m 95 ls []) := fun b0 b1 e ls H locs hl hG => ih b0 b1 ec_fewest (hi _ e) K0 ls H locs hl hG
      have KX : ∀ (c_fewest : Nat → Int32), w = .inr c_fewest → ∀ (ls : Array Slot) (H : Heap) (locs : List Loc), lv_has ls 8 [(0, .ref (a 0)), (2, .int x2), (3, .int x3), (4, .int x4), (5, .int x5)] → G dC dI A H0 (W_X9 a cI cJ c_length c_text c_stands c_homeFar c_nets c_netAt c_netWide c_netFrom c_netTo c_priceX c_priceY c_many c_days c_aims c_speeds c_kinds c_keptMany c_undoMany c_undos c_spot c_told c_to c_stood c_home c_lost c_out c_fewest c_ways c_next c_held) H locs → W p l e (RM 2 45) s m args below meth c H locs 0 0 QQ (F0 m 173 ls []) := fun b0 e ls H locs hl hG => by cases hr _ e; exact K0 ls H locs hl hG
      clear h0 hi hr K0 ih
      unfold DX9_stand_L95s at h
      refine lv_iload hx hb dX9_stand_95 (lv_at hl 5 rfl) ?_
      refine lv_bipush (v := (6 : Int32)) hx hb dX9_stand_97 (by decide) ?_
      refine lv_icmp_gt (tgt := 173) hx hb dX9_stand_99 (by decide) (fun c_17 => ?_) (fun c_17 => ?_)
      · have h := ite_t h c_17
        exact KX _ (Option.some.inj h).symm _ _ _ (lv_sub hl [0, 1, 2, 3, 4] rfl) hG
      · have h := ite_f h c_17
        refine lv_iload_n hx hb dX9_stand_102 rfl (lv_at hl 1 rfl) ?_
        refine lv_iload hx hb dX9_stand_103 (lv_at hl 5 rfl) ?_
        refine lv_iconst (v := (1 : Int32)) hx hb dX9_stand_105 (by decide) ?_
        refine lv_isub hx hb dX9_stand_106 ?_
        obtain ⟨r_18, hz_19, h⟩ := bd1_some h
        refine aft_i (ws' := (W_X9 a cI cJ c_length c_text c_stands c_homeFar c_nets c_netAt c_netWide c_netFrom c_netTo c_priceX c_priceY c_many c_days c_aims c_speeds c_kinds c_keptMany c_undoMany c_undos c_spot c_told c_to c_stood c_home c_lost c_out c_fewest c_ways c_next c_held)) (run_S (rest := []) X hG hl.1 (mX9_has l dC dI cI cJ x2 (x6 - (1 : Int32)) hz_19) gi_S_X9_144 hd_S_yX9_has ⟨rfl, rfl⟩ rfl ⟨Nat.le_of_ble_eq_true rfl, Nat.le_of_ble_eq_true rfl⟩ [] (by decide) rfl rfl (Nat.le_of_ble_eq_true rfl) ⟨Nat.le_of_ble_eq_true rfl, Nat.le_of_ble_eq_true rfl⟩ dX9_stand_107) hG [] rfl rfl rfl (fun H locs hG => ?_)
        clear hz_19
        refine lv_if_eq (tgt := 131) hx hb dX9_stand_110 (by decide) (fun c_20 => ?_) (fun c_20 => ?_)
        · have h := ite_t h c_20
          refine lv_sipush (v := (10000 : Int32)) hx hb dX9_stand_131 (by decide) ?_
          exact J134 (10000 : Int32) x4 x5 x6 c_to c_stood c_out c_fewest _ h KC KX _ _ _ (lv_sub hl [0, 1, 2, 3, 4, 5] rfl) hG
        · have h := ite_f h c_20
          refine lv_aload_n hx hb dX9_stand_113 rfl (lv_at hl 0 rfl) ?_
          refine r_get X hG in_X9 rfl 26 (by decide) w_657 0 rfl rfl dX9_stand_114 ?_
          refine lv_iload hx hb dX9_stand_117 (lv_at hl 4 rfl) ?_
          refine lv_iload hx hb dX9_stand_119 (lv_at hl 5 rfl) ?_
          refine lv_isub hx hb dX9_stand_121 ?_
          obtain ⟨r_26, hz_27, h⟩ := bd1_some h
          refine aft_i (ws' := (W_X9 a cI cJ c_length c_text c_stands c_homeFar c_nets c_netAt c_netWide c_netFrom c_netTo c_priceX c_priceY c_many c_days c_aims c_speeds c_kinds c_keptMany c_undoMany c_undos c_spot c_told c_to c_stood c_home c_lost c_out c_fewest c_ways c_next c_held)) (run_S (rest := [.ref (a 22)]) X hG hl.1 (mX9_around l dC dI cI cJ (x5 - x6) hz_27) gi_S_X9_148 hd_S_yX9_around ⟨rfl, rfl⟩ rfl ⟨Nat.le_of_ble_eq_true rfl, Nat.le_of_ble_eq_true rfl⟩ [] (by decide) rfl rfl (Nat.le_of_ble_eq_true rfl) ⟨Nat.le_of_ble_eq_true rfl, Nat.le_of_ble_eq_true rfl⟩ dX9_stand_122) hG [] rfl rfl rfl (fun H locs hG => ?_)
          clear hz_27
          obtain ⟨g_28, h⟩ := gd h
          refine r_iald X hG 22 rfl g_28 dX9_stand_125 ?_
          refine lv_iconst (v := (1 : Int32)) hx hb dX9_stand_126 (by decide) ?_
          refine lv_iadd hx hb dX9_stand_127 ?_
          refine lv_goto (tgt := 134) hx hb dX9_stand_128 (by decide) ?_
          exact J134 ((c_fewest r_26.toNatClampNeg) + (1 : Int32)) x4 x5 x6 c_to c_stood c_out c_fewest _ h KC KX _ _ _ (lv_sub hl [0, 1, 2, 3, 4, 5] rfl) hG
  have L85 : ∀ (x4 : Int32) (c_to : Nat → Int32) (c_stood : Nat → Int32) (c_out : Int32), ∀ (n : Nat) (x5 : Int32) (c_fewest : Nat → Int32) (ec_fewest : Nat → Int32), DX9_stand_L85 x2 n x5 c_fewest = some ec_fewest → (∀ (ls : Array Slot) (H : Heap) (locs : List Loc), lv_has ls 8 [(0, .ref (a 0)), (2, .int x2), (3, .int x3), (4, .int x4)] → G dC dI A H0 (W_X9 a cI cJ c_length c_text c_stands c_homeFar c_nets c_netAt c_netWide c_netFrom c_netTo c_priceX c_priceY c_many c_days c_aims c_speeds c_kinds c_keptMany c_undoMany c_undos c_spot c_told c_to c_stood c_home c_lost c_out ec_fewest c_ways c_next c_held) H locs → W p l e (RM 2 45) s m args below meth c H locs 0 0 QQ (F0 m 179 ls [])) → ∀ (ls : Array Slot) (H : Heap) (locs : List Loc), lv_has ls 8 [(0, .ref (a 0)), (2, .int x2), (3, .int x3), (4, .int x4), (5, .int x5)] → G dC dI A H0 (W_X9 a cI cJ c_length c_text c_stands c_homeFar c_nets c_netAt c_netWide c_netFrom c_netTo c_priceX c_priceY c_many c_days c_aims c_speeds c_kinds c_keptMany c_undoMany c_undos c_spot c_told c_to c_stood c_home c_lost c_out c_fewest c_ways c_next c_held) H locs → W p l e (RM 2 45) s m args below meth c H locs 0 0 QQ (F0 m 85 ls []) := by
    intro x4 c_to c_stood c_out n
    induction n with
    | zero => intro x5 c_fewest ec_fewest h; exact it_zero h
    | succ n ih =>
      intro x5 c_fewest ec_fewest h0 K0 ls H locs hl hG
      obtain ⟨w, h, hi, hr⟩ := it_succ h0
      have h : DX9_stand_L85s x2 x5 c_fewest = some w := h
      have KC : ∀ (x5 : Int32) (c_fewest : Nat → Int32), w = .inl (x5, c_fewest) → ∀ (ls : Array Slot) (H : Heap) (locs : List Loc), lv_has ls 8 [(0, .ref (a 0)), (2, .int x2), (3, .int x3), (4, .int x4), (5, .int x5)] → G dC dI A H0 (W_X9 a cI cJ c_length c_text c_stands c_homeFar c_nets c_netAt c_netWide c_netFrom c_netTo c_priceX c_priceY c_many c_days c_aims c_speeds c_kinds c_keptMany c_undoMany c_undos c_spot c_told c_to c_stood c_home c_lost c_out c_fewest c_ways c_next c_held) H locs → W p l e (RM 2 45) s m args below meth c H locs 0 0 QQ (F0 m 85 ls []) := fun b0 b1 e ls H locs hl hG => ih b0 b1 ec_fewest (hi _ e) K0 ls H locs hl hG
      have KX : ∀ (c_fewest : Nat → Int32), w = .inr c_fewest → ∀ (ls : Array Slot) (H : Heap) (locs : List Loc), lv_has ls 8 [(0, .ref (a 0)), (2, .int x2), (3, .int x3), (4, .int x4)] → G dC dI A H0 (W_X9 a cI cJ c_length c_text c_stands c_homeFar c_nets c_netAt c_netWide c_netFrom c_netTo c_priceX c_priceY c_many c_days c_aims c_speeds c_kinds c_keptMany c_undoMany c_undos c_spot c_told c_to c_stood c_home c_lost c_out c_fewest c_ways c_next c_held) H locs → W p l e (RM 2 45) s m args below meth c H locs 0 0 QQ (F0 m 179 ls []) := fun b0 e ls H locs hl hG => by cases hr _ e; exact K0 ls H locs hl hG
      clear h0 hi hr K0 ih
      unfold DX9_stand_L85s at h
      refine lv_iload hx hb dX9_stand_85 (lv_at hl 4 rfl) ?_
      refine lv_bipush (v := (24 : Int32)) hx hb dX9_stand_87 (by decide) ?_
      refine lv_icmp_ge (tgt := 179) hx hb dX9_stand_89 (by decide) (fun c_16 => ?_) (fun c_16 => ?_)
      · have h := ite_t h c_16
        exact KX _ (Option.some.inj h).symm _ _ _ (lv_sub hl [0, 1, 2, 3] rfl) hG
      · have h := ite_f h c_16
        refine lv_iconst (v := (1 : Int32)) hx hb dX9_stand_92 (by decide) ?_
        refine lv_istore (lv' := [(6, .int (1 : Int32)), (0, .ref (a 0)), (2, .int x2), (3, .int x3), (4, .int x4), (5, .int x5)]) hx hb dX9_stand_93 hl (by decide) rfl (fun ls hl => ?_)
        obtain ⟨k_fewest_29, hz, h⟩ := bd1_some h
        refine L95 x4 x5 c_to c_stood c_out FU (1 : Int32) c_fewest _ hz (fun ls H locs hl hG => ?_) _ _ _ (lv_sub hl [1, 2, 3, 4, 5, 0] rfl) hG
        clear hz
        refine lv_iinc (v := (x5 + (1 : Int32))) (lv' := [(5, .int (x5 + (1 : Int32))), (0, .ref (a 0)), (2, .int x2), (3, .int x3), (4, .int x4)]) hx hb dX9_stand_173 hl (k := 4) rfl rfl (by decide) rfl (fun ls hl => ?_)
        refine lv_goto (tgt := 85) hx hb dX9_stand_176 (by decide) ?_
        exact KC _ _ (Option.some.inj h).symm _ _ _ (lv_sub hl [1, 2, 3, 4, 0] rfl) hG
  have L75 : ∀ (c_to : Nat → Int32) (c_stood : Nat → Int32) (c_out : Int32), ∀ (n : Nat) (x4 : Int32) (c_fewest : Nat → Int32) (ec_fewest : Nat → Int32), DX9_stand_L75 x2 n x4 c_fewest = some ec_fewest → (∀ (ls : Array Slot) (H : Heap) (locs : List Loc), lv_has ls 8 [(0, .ref (a 0)), (2, .int x2), (3, .int x3)] → G dC dI A H0 (W_X9 a cI cJ c_length c_text c_stands c_homeFar c_nets c_netAt c_netWide c_netFrom c_netTo c_priceX c_priceY c_many c_days c_aims c_speeds c_kinds c_keptMany c_undoMany c_undos c_spot c_told c_to c_stood c_home c_lost c_out ec_fewest c_ways c_next c_held) H locs → W p l e (RM 2 45) s m args below meth c H locs 0 0 QQ (F0 m 185 ls [])) → ∀ (ls : Array Slot) (H : Heap) (locs : List Loc), lv_has ls 8 [(0, .ref (a 0)), (2, .int x2), (3, .int x3), (4, .int x4)] → G dC dI A H0 (W_X9 a cI cJ c_length c_text c_stands c_homeFar c_nets c_netAt c_netWide c_netFrom c_netTo c_priceX c_priceY c_many c_days c_aims c_speeds c_kinds c_keptMany c_undoMany c_undos c_spot c_told c_to c_stood c_home c_lost c_out c_fewest c_ways c_next c_held) H locs → W p l e (RM 2 45) s m args below meth c H locs 0 0 QQ (F0 m 75 ls []) := by
    intro c_to c_stood c_out n
    induction n with
    | zero => intro x4 c_fewest ec_fewest h; exact it_zero h
    | succ n ih =>
      intro x4 c_fewest ec_fewest h0 K0 ls H locs hl hG
      obtain ⟨w, h, hi, hr⟩ := it_succ h0
      have h : DX9_stand_L75s x2 x4 c_fewest = some w := h
      have KC : ∀ (x4 : Int32) (c_fewest : Nat → Int32), w = .inl (x4, c_fewest) → ∀ (ls : Array Slot) (H : Heap) (locs : List Loc), lv_has ls 8 [(0, .ref (a 0)), (2, .int x2), (3, .int x3), (4, .int x4)] → G dC dI A H0 (W_X9 a cI cJ c_length c_text c_stands c_homeFar c_nets c_netAt c_netWide c_netFrom c_netTo c_priceX c_priceY c_many c_days c_aims c_speeds c_kinds c_keptMany c_undoMany c_undos c_spot c_told c_to c_stood c_home c_lost c_out c_fewest c_ways c_next c_held) H locs → W p l e (RM 2 45) s m args below meth c H locs 0 0 QQ (F0 m 75 ls []) := fun b0 b1 e ls H locs hl hG => ih b0 b1 ec_fewest (hi _ e) K0 ls H locs hl hG
      have KX : ∀ (c_fewest : Nat → Int32), w = .inr c_fewest → ∀ (ls : Array Slot) (H : Heap) (locs : List Loc), lv_has ls 8 [(0, .ref (a 0)), (2, .int x2), (3, .int x3)] → G dC dI A H0 (W_X9 a cI cJ c_length c_text c_stands c_homeFar c_nets c_netAt c_netWide c_netFrom c_netTo c_priceX c_priceY c_many c_days c_aims c_speeds c_kinds c_keptMany c_undoMany c_undos c_spot c_told c_to c_stood c_home c_lost c_out c_fewest c_ways c_next c_held) H locs → W p l e (RM 2 45) s m args below meth c H locs 0 0 QQ (F0 m 185 ls []) := fun b0 e ls H locs hl hG => by cases hr _ e; exact K0 ls H locs hl hG
      clear h0 hi hr K0 ih
      unfold DX9_stand_L75s at h
      refine lv_iload hx hb dX9_stand_75 (lv_at hl 3 rfl) ?_
      refine lv_bipush (v := (24 : Int32)) hx hb dX9_stand_77 (by decide) ?_
      refine lv_icmp_ge (tgt := 185) hx hb dX9_stand_79 (by decide) (fun c_15 => ?_) (fun c_15 => ?_)
      · have h := ite_t h c_15
        exact KX _ (Option.some.inj h).symm _ _ _ (lv_sub hl [0, 1, 2] rfl) hG
      · have h := ite_f h c_15
        refine lv_iconst (v := (0 : Int32)) hx hb dX9_stand_82 (by decide) ?_
        refine lv_istore (lv' := [(5, .int (0 : Int32)), (0, .ref (a 0)), (2, .int x2), (3, .int x3), (4, .int x4)]) hx hb dX9_stand_83 hl (by decide) rfl (fun ls hl => ?_)
        obtain ⟨k_fewest_30, hz, h⟩ := bd1_some h
        refine L85 x4 c_to c_stood c_out FU (0 : Int32) c_fewest _ hz (fun ls H locs hl hG => ?_) _ _ _ (lv_sub hl [1, 2, 3, 4, 0] rfl) hG
        clear hz
        refine lv_iinc (v := (x4 + (1 : Int32))) (lv' := [(4, .int (x4 + (1 : Int32))), (0, .ref (a 0)), (2, .int x2), (3, .int x3)]) hx hb dX9_stand_179 hl (k := 3) rfl rfl (by decide) rfl (fun ls hl => ?_)
        refine lv_goto (tgt := 75) hx hb dX9_stand_182 (by decide) ?_
        exact KC _ _ (Option.some.inj h).symm _ _ _ (lv_sub hl [1, 2, 3, 0] rfl) hG
  have L229 : ∀ (x4 : Int32) (c_to : Nat → Int32) (c_stood : Nat → Int32) (c_out : Int32) (c_fewest : Nat → Int32), ∀ (n : Nat) (x5 : Int32) (v : (Unit) ⊕ (Int32 × (Nat → Int32) × (Nat → Int32) × Int32 × (Nat → Int32))), DX9_stand_L229 x2 c_to c_stood c_out c_fewest x4 n x5 = some v → (v = .inl () → ∀ (ls : Array Slot) (H : Heap) (locs : List Loc), lv_has ls 8 [] → G dC dI A H0 (W_X9 a cI cJ c_length c_text c_stands c_homeFar c_nets c_netAt c_netWide c_netFrom c_netTo c_priceX c_priceY c_many c_days c_aims c_speeds c_kinds c_keptMany c_undoMany c_undos c_spot c_told c_to c_stood c_home c_lost c_out c_fewest c_ways c_next c_held) H locs → W p l e (RM 2 45) s m args below meth c H locs 0 0 QQ (F0 m 291 ls [])) → (∀ (r : Int32 × (Nat → Int32) × (Nat → Int32) × Int32 × (Nat → Int32)), v = .inr r → r = (res, n_to, n_stood, n_out, n_fewest)) → ∀ (ls : Array Slot) (H : Heap) (locs : List Loc), lv_has ls 8 [(0, .ref (a 0)), (2, .int x2), (4, .int x4), (5, .int x5)] → G dC dI A H0 (W_X9 a cI cJ c_length c_text c_stands c_homeFar c_nets c_netAt c_netWide c_netFrom c_netTo c_priceX c_priceY c_many c_days c_aims c_speeds c_kinds c_keptMany c_undoMany c_undos c_spot c_told c_to c_stood c_home c_lost c_out c_fewest c_ways c_next c_held) H locs → W p l e (RM 2 45) s m args below meth c H locs 0 0 QQ (F0 m 229 ls []) := by
    intro x4 c_to c_stood c_out c_fewest n
    induction n with
    | zero => intro x5 v h; exact it_zero h
    | succ n ih =>
      intro x5 v h0 K0 KR0 ls H locs hl hG
      obtain ⟨w, h, hi, hr⟩ := it_succ h0
      have h : DX9_stand_L229s x2 c_to c_stood c_out c_fewest x4 x5 = some w := h
      have KC : ∀ (x5 : Int32), w = .inl x5 → ∀ (ls : Array Slot) (H : Heap) (locs : List Loc), lv_has ls 8 [(0, .ref (a 0)), (2, .int x2), (4, .int x4), (5, .int x5)] → G dC dI A H0 (W_X9 a cI cJ c_length c_text c_stands c_homeFar c_nets c_netAt c_netWide c_netFrom c_netTo c_priceX c_priceY c_many c_days c_aims c_speeds c_kinds c_keptMany c_undoMany c_undos c_spot c_told c_to c_stood c_home c_lost c_out c_fewest c_ways c_next c_held) H locs → W p l e (RM 2 45) s m args below meth c H locs 0 0 QQ (F0 m 229 ls []) := fun b0 e ls H locs hl hG => ih b0 v (hi _ e) K0 KR0 ls H locs hl hG
      have KX : w = .inr (.inl ()) → ∀ (ls : Array Slot) (H : Heap) (locs : List Loc), lv_has ls 8 [] → G dC dI A H0 (W_X9 a cI cJ c_length c_text c_stands c_homeFar c_nets c_netAt c_netWide c_netFrom c_netTo c_priceX c_priceY c_many c_days c_aims c_speeds c_kinds c_keptMany c_undoMany c_undos c_spot c_told c_to c_stood c_home c_lost c_out c_fewest c_ways c_next c_held) H locs → W p l e (RM 2 45) s m args below meth c H locs 0 0 QQ (F0 m 291 ls []) := fun  e ls H locs hl hG => K0  (hr _ e) ls H locs hl hG
      have KR : ∀ (r : Int32 × (Nat → Int32) × (Nat → Int32) × Int32 × (Nat → Int32)), w = .inr (.inr r) → r = (res, n_to, n_stood, n_out, n_fewest) := fun r e => KR0 r (hr _ e)
      clear h0 hi hr K0 ih KR0
      unfold DX9_stand_L229s at h
      refine lv_iload hx hb dX9_stand_229 (lv_at hl 3 rfl) ?_
      refine lv_bipush (v := (6 : Int32)) hx hb dX9_stand_231 (by decide) ?_
      refine lv_icmp_gt (tgt := 291) hx hb dX9_stand_233 (by decide) (fun c_39 => ?_) (fun c_39 => ?_)
      · have h := ite_t h c_39
        exact KX  (Option.some.inj h).symm _ _ _ (lv_sub hl [] rfl) hG
      · have h := ite_f h c_39
        refine lv_iload_n hx hb dX9_stand_236 rfl (lv_at hl 1 rfl) ?_
        refine lv_iload hx hb dX9_stand_237 (lv_at hl 3 rfl) ?_
        refine lv_iconst (v := (1 : Int32)) hx hb dX9_stand_239 (by decide) ?_
        refine lv_isub hx hb dX9_stand_240 ?_
        obtain ⟨r_40, hz_41, h⟩ := bd1_some h
        refine aft_i (ws' := (W_X9 a cI cJ c_length c_text c_stands c_homeFar c_nets c_netAt c_netWide c_netFrom c_netTo c_priceX c_priceY c_many c_days c_aims c_speeds c_kinds c_keptMany c_undoMany c_undos c_spot c_told c_to c_stood c_home c_lost c_out c_fewest c_ways c_next c_held)) (run_S (rest := []) X hG hl.1 (mX9_has l dC dI cI cJ x2 (x5 - (1 : Int32)) hz_41) gi_S_X9_144 hd_S_yX9_has ⟨rfl, rfl⟩ rfl ⟨Nat.le_of_ble_eq_true rfl, Nat.le_of_ble_eq_true rfl⟩ [] (by decide) rfl rfl (Nat.le_of_ble_eq_true rfl) ⟨Nat.le_of_ble_eq_true rfl, Nat.le_of_ble_eq_true rfl⟩ dX9_stand_241) hG [] rfl rfl rfl (fun H locs hG => ?_)
        clear hz_41
        refine lv_if_eq (tgt := 285) hx hb dX9_stand_244 (by decide) (fun c_42 => ?_) (fun c_42 => ?_)
        · have h := ite_t h c_42
          refine lv_iinc (v := (x5 + (1 : Int32))) (lv' := [(5, .int (x5 + (1 : Int32))), (0, .ref (a 0)), (2, .int x2), (4, .int x4)]) hx hb dX9_stand_285 hl (k := 3) rfl rfl (by decide) rfl (fun ls hl => ?_)
          refine lv_goto (tgt := 229) hx hb dX9_stand_288 (by decide) ?_
          exact KC _ (Option.some.inj h).symm _ _ _ (lv_sub hl [1, 2, 3, 0] rfl) hG
        · have h := ite_f h c_42
          refine lv_aload_n hx hb dX9_stand_247 rfl (lv_at hl 0 rfl) ?_
          refine r_get X hG in_X9 rfl 26 (by decide) w_657 0 rfl rfl dX9_stand_248 ?_
          refine lv_iload hx hb dX9_stand_251 (lv_at hl 2 rfl) ?_
          obtain ⟨g_43, h⟩ := gd h
          refine r_iald X hG 22 rfl g_43 dX9_stand_253 ?_
          refine lv_if_le (tgt := 285) hx hb dX9_stand_254 (by decide) (fun c_44 => ?_) (fun c_44 => ?_)
          · have h := ite_t h c_44
            refine lv_iinc (v := (x5 + (1 : Int32))) (lv' := [(5, .int (x5 + (1 : Int32))), (0, .ref (a 0)), (2, .int x2), (4, .int x4)]) hx hb dX9_stand_285 hl (k := 3) rfl rfl (by decide) rfl (fun ls hl => ?_)
            refine lv_goto (tgt := 229) hx hb dX9_stand_288 (by decide) ?_
            exact KC _ (Option.some.inj h).symm _ _ _ (lv_sub hl [1, 2, 3, 0] rfl) hG
          · have h := ite_f h c_44
            refine lv_aload_n hx hb dX9_stand_257 rfl (lv_at hl 0 rfl) ?_
            refine r_get X hG in_X9 rfl 26 (by decide) w_657 0 rfl rfl dX9_stand_258 ?_
            refine lv_iload hx hb dX9_stand_261 (lv_at hl 2 rfl) ?_
            refine lv_iload hx hb dX9_stand_263 (lv_at hl 3 rfl) ?_
            refine lv_isub hx hb dX9_stand_265 ?_
            obtain ⟨r_45, hz_46, h⟩ := bd1_some h
            refine aft_i (ws' := (W_X9 a cI cJ c_length c_text c_stands c_homeFar c_nets c_netAt c_netWide c_netFrom c_netTo c_priceX c_priceY c_many c_days c_aims c_speeds c_kinds c_keptMany c_undoMany c_undos c_spot c_told c_to c_stood c_home c_lost c_out c_fewest c_ways c_next c_held)) (run_S (rest := [.ref (a 22)]) X hG hl.1 (mX9_around l dC dI cI cJ (x4 - x5) hz_46) gi_S_X9_148 hd_S_yX9_around ⟨rfl, rfl⟩ rfl ⟨Nat.le_of_ble_eq_true rfl, Nat.le_of_ble_eq_true rfl⟩ [] (by decide) rfl rfl (Nat.le_of_ble_eq_true rfl) ⟨Nat.le_of_ble_eq_true rfl, Nat.le_of_ble_eq_true rfl⟩ dX9_stand_266) hG [] rfl rfl rfl (fun H locs hG => ?_)
            clear hz_46
            obtain ⟨g_47, h⟩ := gd h
            refine r_iald X hG 22 rfl g_47 dX9_stand_269 ?_
            refine lv_aload_n hx hb dX9_stand_270 rfl (lv_at hl 0 rfl) ?_
            refine r_get X hG in_X9 rfl 26 (by decide) w_657 0 rfl rfl dX9_stand_271 ?_
            refine lv_iload hx hb dX9_stand_274 (lv_at hl 2 rfl) ?_
            obtain ⟨g_48, h⟩ := gd h
            refine r_iald X hG 22 rfl g_48 dX9_stand_276 ?_
            refine lv_iconst (v := (1 : Int32)) hx hb dX9_stand_277 (by decide) ?_
            refine lv_isub hx hb dX9_stand_278 ?_
            refine lv_icmp_ne (tgt := 285) hx hb dX9_stand_279 (by decide) (fun c_49 => ?_) (fun c_49 => ?_)
            · have h := ite_f h c_49
              refine lv_iinc (v := (x5 + (1 : Int32))) (lv' := [(5, .int (x5 + (1 : Int32))), (0, .ref (a 0)), (2, .int x2), (4, .int x4)]) hx hb dX9_stand_285 hl (k := 3) rfl rfl (by decide) rfl (fun ls hl => ?_)
              refine lv_goto (tgt := 229) hx hb dX9_stand_288 (by decide) ?_
              exact KC _ (Option.some.inj h).symm _ _ _ (lv_sub hl [1, 2, 3, 0] rfl) hG
            · have h := ite_t h c_49
              refine lv_iload hx hb dX9_stand_282 (lv_at hl 3 rfl) ?_
              cases KR _ (Option.some.inj h).symm
              exact ret _ _ _ _ dX9_stand_284 hG
  have h := hD
  unfold DX9_stand at h
  clear hD
  refine lv_iload_n hx hb dX9_stand_0 rfl (lv_at hl 1 rfl) ?_
  refine lv_i2l (v := (x1.toInt64)) hx hb dX9_stand_1 rfl ?_
  refine lv_lconst (v := (0 : Int64)) hx hb dX9_stand_2 (by decide) ?_
  refine lv_ldc2 (v := (23 : Int64)) hx hb X.1.2.2.2.1 (X.1.2.2.2.2 _ w_863) dX9_stand_3 ?_
  obtain ⟨r_1, hz_2, h⟩ := bd1_some h
  refine aft_i (ws' := (W_X9 a cI cJ c_length c_text c_stands c_homeFar c_nets c_netAt c_netWide c_netFrom c_netTo c_priceX c_priceY c_many c_days c_aims c_speeds c_kinds c_keptMany c_undoMany c_undos c_spot c_told c_to c_stood c_home c_lost c_out c_fewest c_ways c_next c_held)) (run_S (rest := []) X hG hl.1 (mX9_in l dC dI cI cJ (x1.toInt64) (0 : Int64) (23 : Int64) hz_2) gi_S_X9_92 hd_S_yX9_in ⟨rfl, rfl⟩ rfl ⟨Nat.le_of_ble_eq_true rfl, Nat.le_of_ble_eq_true rfl⟩ [] (by decide) rfl rfl (Nat.le_of_ble_eq_true rfl) ⟨Nat.le_of_ble_eq_true rfl, Nat.le_of_ble_eq_true rfl⟩ dX9_stand_6) hG [] rfl rfl rfl (fun H locs hG => ?_)
  clear hz_2
  refine lv_if_eq (tgt := 34) hx hb dX9_stand_9 (by decide) (fun c_3 => ?_) (fun c_3 => ?_)
  · have h := ite_t h c_3
    refine lv_iconst (v := (-1 : Int32)) hx hb dX9_stand_34 (by decide) ?_
    cases h
    exact ret _ _ _ _ dX9_stand_35 hG
  · have h := ite_f h c_3
    refine lv_iload_n hx hb dX9_stand_12 rfl (lv_at hl 2 rfl) ?_
    refine lv_i2l (v := (x2.toInt64)) hx hb dX9_stand_13 rfl ?_
    refine lv_lconst (v := (1 : Int64)) hx hb dX9_stand_14 (by decide) ?_
    refine lv_ldc2 (v := (63 : Int64)) hx hb X.1.2.2.2.1 (X.1.2.2.2.2 _ w_916) dX9_stand_15 ?_
    obtain ⟨r_4, hz_5, h⟩ := bd1_some h
    refine aft_i (ws' := (W_X9 a cI cJ c_length c_text c_stands c_homeFar c_nets c_netAt c_netWide c_netFrom c_netTo c_priceX c_priceY c_many c_days c_aims c_speeds c_kinds c_keptMany c_undoMany c_undos c_spot c_told c_to c_stood c_home c_lost c_out c_fewest c_ways c_next c_held)) (run_S (rest := []) X hG hl.1 (mX9_in l dC dI cI cJ (x2.toInt64) (1 : Int64) (63 : Int64) hz_5) gi_S_X9_92 hd_S_yX9_in ⟨rfl, rfl⟩ rfl ⟨Nat.le_of_ble_eq_true rfl, Nat.le_of_ble_eq_true rfl⟩ [] (by decide) rfl rfl (Nat.le_of_ble_eq_true rfl) ⟨Nat.le_of_ble_eq_true rfl, Nat.le_of_ble_eq_true rfl⟩ dX9_stand_18) hG [] rfl rfl rfl (fun H locs hG => ?_)
    clear hz_5
    refine lv_if_eq (tgt := 34) hx hb dX9_stand_21 (by decide) (fun c_6 => ?_) (fun c_6 => ?_)
    · have h := ite_t h c_6
      refine lv_iconst (v := (-1 : Int32)) hx hb dX9_stand_34 (by decide) ?_
      cases h
      exact ret _ _ _ _ dX9_stand_35 hG
    · have h := ite_f h c_6
      refine lv_iload_n hx hb dX9_stand_24 rfl (lv_at hl 3 rfl) ?_
      refine lv_i2l (v := (x3.toInt64)) hx hb dX9_stand_25 rfl ?_
      refine lv_lconst (v := (0 : Int64)) hx hb dX9_stand_26 (by decide) ?_
      refine lv_lconst (v := (1 : Int64)) hx hb dX9_stand_27 (by decide) ?_
      obtain ⟨r_7, hz_8, h⟩ := bd1_some h
      refine aft_i (ws' := (W_X9 a cI cJ c_length c_text c_stands c_homeFar c_nets c_netAt c_netWide c_netFrom c_netTo c_priceX c_priceY c_many c_days c_aims c_speeds c_kinds c_keptMany c_undoMany c_undos c_spot c_told c_to c_stood c_home c_lost c_out c_fewest c_ways c_next c_held)) (run_S (rest := []) X hG hl.1 (mX9_in l dC dI cI cJ (x3.toInt64) (0 : Int64) (1 : Int64) hz_8) gi_S_X9_92 hd_S_yX9_in ⟨rfl, rfl⟩ rfl ⟨Nat.le_of_ble_eq_true rfl, Nat.le_of_ble_eq_true rfl⟩ [] (by decide) rfl rfl (Nat.le_of_ble_eq_true rfl) ⟨Nat.le_of_ble_eq_true rfl, Nat.le_of_ble_eq_true rfl⟩ dX9_stand_28) hG [] rfl rfl rfl (fun H locs hG => ?_)
      clear hz_8
      refine lv_if_ne (tgt := 36) hx hb dX9_stand_31 (by decide) (fun c_9 => ?_) (fun c_9 => ?_)
      · have h := ite_f h c_9
        refine lv_iconst (v := (0 : Int32)) hx hb dX9_stand_36 (by decide) ?_
        refine lv_istore (lv' := [(4, .int (0 : Int32)), (0, .ref (a 0)), (1, .int x1), (2, .int x2), (3, .int x3)]) hx hb dX9_stand_37 hl (by decide) rfl (fun ls hl => ?_)
        obtain ⟨k_fewest_14, hz, h⟩ := bd1_some h
        refine L39 c_to c_stood c_out FU (0 : Int32) c_fewest _ hz (fun ls H locs hl hG => ?_) _ _ _ (lv_sub hl [1, 2, 3, 4, 0] rfl) hG
        clear hz
        refine lv_iconst (v := (0 : Int32)) hx hb dX9_stand_72 (by decide) ?_
        refine lv_istore (lv' := [(4, .int (0 : Int32)), (0, .ref (a 0)), (2, .int x2), (3, .int x3)]) hx hb dX9_stand_73 hl (by decide) rfl (fun ls hl => ?_)
        obtain ⟨k_fewest_31, hz, h⟩ := bd1_some h
        refine L75 c_to c_stood c_out FU (0 : Int32) k_fewest_14 _ hz (fun ls H locs hl hG => ?_) _ _ _ (lv_sub hl [1, 2, 3, 0] rfl) hG
        clear hz
        refine lv_aload_n hx hb dX9_stand_185 rfl (lv_at hl 0 rfl) ?_
        refine lv_iconst (v := (0 : Int32)) hx hb dX9_stand_186 (by decide) ?_
        refine r_put X hG in_X9 rfl tyX9 tyX9_ok nmX9 25 (by decide) rfl (by decide +kernel) w_656 0 (ws' := (W_X9 a cI cJ c_length c_text c_stands c_homeFar c_nets c_netAt c_netWide c_netFrom c_netTo c_priceX c_priceY c_many c_days c_aims c_speeds c_kinds c_keptMany c_undoMany c_undos c_spot c_told c_to c_stood c_home c_lost (0 : Int32) k_fewest_31 c_ways c_next c_held)) rfl (Nat.le_of_ble_eq_true rfl) rfl dX9_stand_187 (fun H locs hG => ?_)
        refine lv_aload_n hx hb dX9_stand_190 rfl (lv_at hl 0 rfl) ?_
        refine lv_bipush (v := (40 : Int32)) hx hb dX9_stand_191 (by decide) ?_
        obtain ⟨r_32, k_to_33, k_stood_34, hz_35, h⟩ := bd3_some h
        refine aft_i1 (run_V1 (rest := []) X hG hl.1 (mX9_turnTo l dC dI cI cJ a c_length c_text c_stands c_homeFar c_nets c_netAt c_netWide c_netFrom c_netTo c_priceX c_priceY c_many c_days c_aims c_speeds c_kinds c_keptMany c_undoMany c_undos c_spot c_told c_to c_stood c_home c_lost (0 : Int32) k_fewest_31 c_ways c_next c_held (40 : Int32) hz_35) gi_V_X9_158 hd_V_yX9_turnTo ⟨rfl, rfl⟩ rfl ⟨Nat.le_of_ble_eq_true rfl, Nat.le_of_ble_eq_true rfl⟩ 0 rfl rfl rfl rfl (Nat.le_of_ble_eq_true rfl) ⟨Nat.le_of_ble_eq_true rfl, Nat.le_of_ble_eq_true rfl⟩ dX9_stand_193) hG rfl (fun H locs hG => ?_)
        clear hz_35
        refine lv_istore (lv' := [(4, .int r_32), (0, .ref (a 0)), (2, .int x2), (3, .int x3)]) hx hb dX9_stand_196 hl (by decide) rfl (fun ls hl => ?_)
        refine lv_aload_n hx hb dX9_stand_198 rfl (lv_at hl 1 rfl) ?_
        refine r_get X hG in_X9 rfl 26 (by decide) w_657 0 rfl rfl dX9_stand_199 ?_
        refine lv_iload hx hb dX9_stand_202 (lv_at hl 0 rfl) ?_
        obtain ⟨g_36, h⟩ := gd h
        refine r_iald X hG 22 rfl g_36 dX9_stand_204 ?_
        refine lv_sipush (v := (10000 : Int32)) hx hb dX9_stand_205 (by decide) ?_
        refine lv_icmp_lt (tgt := 214) hx hb dX9_stand_208 (by decide) (fun c_37 => ?_) (fun c_37 => ?_)
        · have h := ite_t h c_37
          refine lv_iload_n hx hb dX9_stand_214 rfl (lv_at hl 3 rfl) ?_
          refine lv_if_ne (tgt := 226) hx hb dX9_stand_215 (by decide) (fun c_38 => ?_) (fun c_38 => ?_)
          · have h := ite_f h c_38
            refine lv_iconst (v := (1 : Int32)) hx hb dX9_stand_226 (by decide) ?_
            refine lv_istore (lv' := [(5, .int (1 : Int32)), (4, .int r_32), (0, .ref (a 0)), (2, .int x2), (3, .int x3)]) hx hb dX9_stand_227 hl (by decide) rfl (fun ls hl => ?_)
            rcases el0_some h with ⟨hz, h⟩ | ⟨r, hz, h⟩
            · refine L229 r_32 k_to_33 k_stood_34 (0 : Int32) k_fewest_31 FU (1 : Int32) _ hz ?_ (fun r e => by cases e) _ _ _ (lv_sub hl [2, 3, 1, 0] rfl) hG
              rintro  ⟨⟩ ls H locs hl hG
              clear hz
              refine lv_bipush (v := (-4 : Int32)) hx hb dX9_stand_291 (by decide) ?_
              cases h
              exact ret _ _ _ _ dX9_stand_293 hG
            · refine L229 r_32 k_to_33 k_stood_34 (0 : Int32) k_fewest_31 FU (1 : Int32) _ hz (fun  e => by cases e) (fun r2 e => ?_) _ _ _ (lv_sub hl [2, 3, 1, 0] rfl) hG
              cases e; cases h; rfl
          · have h := ite_t h c_38
            refine lv_aload_n hx hb dX9_stand_218 rfl (lv_at hl 1 rfl) ?_
            refine r_get X hG in_X9 rfl 26 (by decide) w_657 0 rfl rfl dX9_stand_219 ?_
            refine lv_iload hx hb dX9_stand_222 (lv_at hl 0 rfl) ?_
            obtain ⟨g_50, h⟩ := gd h
            refine r_iald X hG 22 rfl g_50 dX9_stand_224 ?_
            cases h
            exact ret _ _ _ _ dX9_stand_225 hG
        · have h := ite_f h c_37
          refine lv_bipush (v := (-4 : Int32)) hx hb dX9_stand_211 (by decide) ?_
          cases h
          exact ret _ _ _ _ dX9_stand_213 hG
      · have h := ite_t h c_9
        refine lv_iconst (v := (-1 : Int32)) hx hb dX9_stand_34 (by decide) ?_
        cases h
        exact ret _ _ _ _ dX9_stand_35 hG
set_option maxRecDepth 100000 in
set_option maxHeartbeats 4000000 in
theorem mX9_odds (l : Launch) (dC : Nat → ClassId) (dI : Nat → Nat → Nat) (cI cJ : ClassId) (a : Nat → Nat) (c_length : Int32) (c_text : Nat → Int32) (c_stands : Nat → Int32) (c_homeFar : Nat → Int32) (c_nets : Nat → Int32) (c_netAt : Nat → Int32) (c_netWide : Nat → Int32) (c_netFrom : Nat → Int32) (c_netTo : Nat → Int32) (c_priceX : Nat → Int32) (c_priceY : Nat → Int32) (c_many : Nat → Int32) (c_days : Nat → Int32) (c_aims : Nat → Int32) (c_speeds : Nat → Int32) (c_kinds : Nat → Int32) (c_keptMany : Int32) (c_undoMany : Int32) (c_undos : Nat → Int32) (c_spot : Int32) (c_told : Nat → Int32) (c_to : Nat → Int32) (c_stood : Nat → Int32) (c_home : Nat → Int32) (c_lost : Nat → Int32) (c_out : Int32) (c_fewest : Nat → Int32) (c_ways : Nat → Int64) (c_next : Nat → Int64) (c_held : Nat → Int32) (x1 : Int32) (x2 : Int32) (x3 : Int32) {res : Int64} {n_ways : Nat → Int64} {n_next : Nat → Int64} (hD : DX9_odds x1 x2 x3 c_ways c_next = some (res, n_ways, n_next)) : Met l yX9_odds (WZ yX9_odds cX9_odds 14 (some .long)) (RM 1 25) (PC dC dI cI cJ [.ref (a 0), .int x1, .int x2, .int x3] (W_X9 a cI cJ c_length c_text c_stands c_homeFar c_nets c_netAt c_netWide c_netFrom c_netTo c_priceX c_priceY c_many c_days c_aims c_speeds c_kinds c_keptMany c_undoMany c_undos c_spot c_told c_to c_stood c_home c_lost c_out c_fewest c_ways c_next c_held)) (QL dC dI (W_X9 a cI cJ c_length c_text c_stands c_homeFar c_nets c_netAt c_netWide c_netFrom c_netTo c_priceX c_priceY c_many c_days c_aims c_speeds c_kinds c_keptMany c_undoMany c_undos c_spot c_told c_to c_stood c_home c_lost c_out c_fewest c_ways c_next c_held) (W_X9 a cI cJ c_length c_text c_stands c_homeFar c_nets c_netAt c_netWide c_netFrom c_netTo c_priceX c_priceY c_many c_days c_aims c_speeds c_kinds c_keptMany c_undoMany c_undos c_spot c_told c_to c_stood c_home c_lost c_out c_fewest n_ways n_next c_held) res) 0 0 (FA (W_X9 a cI cJ c_length c_text c_stands c_homeFar c_nets c_netAt c_netWide c_netFrom c_netTo c_priceX c_priceY c_many c_days c_aims c_speeds c_kinds c_keptMany c_undoMany c_undos c_spot c_told c_to c_stood c_home c_lost c_out c_fewest c_ways c_next c_held)) := by
  refine r_metL (by decide +kernel) (Nat.le_of_ble_eq_true rfl) ?_
  intro p e s m args below meth c A H0 QQ X ret ls hl hG
  have X : Cx p m c cX9_odds 14 s args RX9 dC dI cI cJ meth (some .long) := X
  have hx := X.1.1
  have hb := X.1.2.1
  have hl : lv_has ls 14 [(0, .ref (a 0)), (1, .int x1), (2, .int x2), (3, .int x3)] := hl
  have L41 : ∀ (c_next : Nat → Int64), ∀ (n : Nat) (x4 : Int32) (c_ways : Nat → Int64) (ec_ways : Nat → Int64), DX9_odds_L41 n x4 c_ways = some ec_ways → (∀ (ls : Array Slot) (H : Heap) (locs : List Loc), lv_has ls 14 [(0, .ref (a 0)), (1, .int x1), (2, .int x2), (3, .int x3)] → G dC dI A H0 (W_X9 a cI cJ c_length c_text c_stands c_homeFar c_nets c_netAt c_netWide c_netFrom c_netTo c_priceX c_priceY c_many c_days c_aims c_speeds c_kinds c_keptMany c_undoMany c_undos c_spot c_told c_to c_stood c_home c_lost c_out c_fewest ec_ways c_next c_held) H locs → W p l e (RM 1 25) s m args below meth c H locs 0 0 QQ (F0 m 73 ls [])) → ∀ (ls : Array Slot) (H : Heap) (locs : List Loc), lv_has ls 14 [(0, .ref (a 0)), (1, .int x1), (2, .int x2), (3, .int x3), (4, .int x4)] → G dC dI A H0 (W_X9 a cI cJ c_length c_text c_stands c_homeFar c_nets c_netAt c_netWide c_netFrom c_netTo c_priceX c_priceY c_many c_days c_aims c_speeds c_kinds c_keptMany c_undoMany c_undos c_spot c_told c_to c_stood c_home c_lost c_out c_fewest c_ways c_next c_held) H locs → W p l e (RM 1 25) s m args below meth c H locs 0 0 QQ (F0 m 41 ls []) := by
    intro c_next n
    induction n with
    | zero => intro x4 c_ways ec_ways h; exact it_zero h
    | succ n ih =>
      intro x4 c_ways ec_ways h0 K0 ls H locs hl hG
      obtain ⟨w, h, hi, hr⟩ := it_succ h0
      have h : DX9_odds_L41s x4 c_ways = some w := h
      have KC : ∀ (x4 : Int32) (c_ways : Nat → Int64), w = .inl (x4, c_ways) → ∀ (ls : Array Slot) (H : Heap) (locs : List Loc), lv_has ls 14 [(0, .ref (a 0)), (1, .int x1), (2, .int x2), (3, .int x3), (4, .int x4)] → G dC dI A H0 (W_X9 a cI cJ c_length c_text c_stands c_homeFar c_nets c_netAt c_netWide c_netFrom c_netTo c_priceX c_priceY c_many c_days c_aims c_speeds c_kinds c_keptMany c_undoMany c_undos c_spot c_told c_to c_stood c_home c_lost c_out c_fewest c_ways c_next c_held) H locs → W p l e (RM 1 25) s m args below meth c H locs 0 0 QQ (F0 m 41 ls []) := fun b0 b1 e ls H locs hl hG => ih b0 b1 ec_ways (hi _ e) K0 ls H locs hl hG
      have KX : ∀ (c_ways : Nat → Int64), w = .inr c_ways → ∀ (ls : Array Slot) (H : Heap) (locs : List Loc), lv_has ls 14 [(0, .ref (a 0)), (1, .int x1), (2, .int x2), (3, .int x3)] → G dC dI A H0 (W_X9 a cI cJ c_length c_text c_stands c_homeFar c_nets c_netAt c_netWide c_netFrom c_netTo c_priceX c_priceY c_many c_days c_aims c_speeds c_kinds c_keptMany c_undoMany c_undos c_spot c_told c_to c_stood c_home c_lost c_out c_fewest c_ways c_next c_held) H locs → W p l e (RM 1 25) s m args below meth c H locs 0 0 QQ (F0 m 73 ls []) := fun b0 e ls H locs hl hG => by cases hr _ e; exact K0 ls H locs hl hG
      clear h0 hi hr K0 ih
      unfold DX9_odds_L41s at h
      refine lv_iload hx hb dX9_odds_41 (lv_at hl 4 rfl) ?_
      refine lv_bipush (v := (21 : Int32)) hx hb dX9_odds_43 (by decide) ?_
      refine lv_icmp_ge (tgt := 73) hx hb dX9_odds_45 (by decide) (fun c_10 => ?_) (fun c_10 => ?_)
      · have h := ite_t h c_10
        exact KX _ (Option.some.inj h).symm _ _ _ (lv_sub hl [0, 1, 2, 3] rfl) hG
      · have h := ite_f h c_10
        refine lv_aload_n hx hb dX9_odds_48 rfl (lv_at hl 0 rfl) ?_
        refine r_get X hG in_X9 rfl 27 (by decide) w_658 0 rfl rfl dX9_odds_49 ?_
        refine lv_iload hx hb dX9_odds_52 (lv_at hl 4 rfl) ?_
        refine lv_iload hx hb dX9_odds_54 (lv_at hl 4 rfl) ?_
        refine lv_bipush (v := (10 : Int32)) hx hb dX9_odds_56 (by decide) ?_
        refine lv_icmp_ne (tgt := 65) hx hb dX9_odds_58 (by decide) (fun c_11 => ?_) (fun c_11 => ?_)
        · have h := ite_f h c_11
          refine lv_lconst (v := (0 : Int64)) hx hb dX9_odds_65 (by decide) ?_
          obtain ⟨g_12, h⟩ := gd h
          refine r_last X hG 23 (ws' := (W_X9 a cI cJ c_length c_text c_stands c_homeFar c_nets c_netAt c_netWide c_netFrom c_netTo c_priceX c_priceY c_many c_days c_aims c_speeds c_kinds c_keptMany c_undoMany c_undos c_spot c_told c_to c_stood c_home c_lost c_out c_fewest (vp_updL c_ways x4.toNatClampNeg (0 : Int64)) c_next c_held)) rfl g_12 rfl dX9_odds_66 (fun H locs hG => ?_)
          refine lv_iinc (v := (x4 + (1 : Int32))) (lv' := [(4, .int (x4 + (1 : Int32))), (0, .ref (a 0)), (1, .int x1), (2, .int x2), (3, .int x3)]) hx hb dX9_odds_67 hl (k := 4) rfl rfl (by decide) rfl (fun ls hl => ?_)
          refine lv_goto (tgt := 41) hx hb dX9_odds_70 (by decide) ?_
          exact KC _ _ (Option.some.inj h).symm _ _ _ (lv_sub hl [1, 2, 3, 4, 0] rfl) hG
        · have h := ite_t h c_11
          refine lv_lconst (v := (1 : Int64)) hx hb dX9_odds_61 (by decide) ?_
          refine lv_goto (tgt := 66) hx hb dX9_odds_62 (by decide) ?_
          obtain ⟨g_13, h⟩ := gd h
          refine r_last X hG 23 (ws' := (W_X9 a cI cJ c_length c_text c_stands c_homeFar c_nets c_netAt c_netWide c_netFrom c_netTo c_priceX c_priceY c_many c_days c_aims c_speeds c_kinds c_keptMany c_undoMany c_undos c_spot c_told c_to c_stood c_home c_lost c_out c_fewest (vp_updL c_ways x4.toNatClampNeg (1 : Int64)) c_next c_held)) rfl g_13 rfl dX9_odds_66 (fun H locs hG => ?_)
          refine lv_iinc (v := (x4 + (1 : Int32))) (lv' := [(4, .int (x4 + (1 : Int32))), (0, .ref (a 0)), (1, .int x1), (2, .int x2), (3, .int x3)]) hx hb dX9_odds_67 hl (k := 4) rfl rfl (by decide) rfl (fun ls hl => ?_)
          refine lv_goto (tgt := 41) hx hb dX9_odds_70 (by decide) ?_
          exact KC _ _ (Option.some.inj h).symm _ _ _ (lv_sub hl [1, 2, 3, 4, 0] rfl) hG
  have L88 : ∀ (x4 : Int64) (x6 : Int32) (c_ways : Nat → Int64), ∀ (n : Nat) (x7 : Int32) (c_next : Nat → Int64) (ec_next : Nat → Int64), DX9_odds_L88 x2 c_ways n x7 c_next = some ec_next → (∀ (ls : Array Slot) (H : Heap) (locs : List Loc), lv_has ls 14 [(0, .ref (a 0)), (1, .int x1), (2, .int x2), (3, .int x3), (4, .long x4), (6, .int x6)] → G dC dI A H0 (W_X9 a cI cJ c_length c_text c_stands c_homeFar c_nets c_netAt c_netWide c_netFrom c_netTo c_priceX c_priceY c_many c_days c_aims c_speeds c_kinds c_keptMany c_undoMany c_undos c_spot c_told c_to c_stood c_home c_lost c_out c_fewest c_ways ec_next c_held) H locs → W p l e (RM 1 25) s m args below meth c H locs 0 0 QQ (F0 m 136 ls [])) → ∀ (ls : Array Slot) (H : Heap) (locs : List Loc), lv_has ls 14 [(0, .ref (a 0)), (1, .int x1), (2, .int x2), (3, .int x3), (4, .long x4), (6, .int x6), (7, .int x7)] → G dC dI A H0 (W_X9 a cI cJ c_length c_text c_stands c_homeFar c_nets c_netAt c_netWide c_netFrom c_netTo c_priceX c_priceY c_many c_days c_aims c_speeds c_kinds c_keptMany c_undoMany c_undos c_spot c_told c_to c_stood c_home c_lost c_out c_fewest c_ways c_next c_held) H locs → W p l e (RM 1 25) s m args below meth c H locs 0 0 QQ (F0 m 88 ls []) := by
    intro x4 x6 c_ways n
    induction n with
    | zero => intro x7 c_next ec_next h; exact it_zero h
    | succ n ih =>
      intro x7 c_next ec_next h0 K0 ls H locs hl hG
      obtain ⟨w, h, hi, hr⟩ := it_succ h0
      have h : DX9_odds_L88s x2 c_ways x7 c_next = some w := h
      have KC : ∀ (x7 : Int32) (c_next : Nat → Int64), w = .inl (x7, c_next) → ∀ (ls : Array Slot) (H : Heap) (locs : List Loc), lv_has ls 14 [(0, .ref (a 0)), (1, .int x1), (2, .int x2), (3, .int x3), (4, .long x4), (6, .int x6), (7, .int x7)] → G dC dI A H0 (W_X9 a cI cJ c_length c_text c_stands c_homeFar c_nets c_netAt c_netWide c_netFrom c_netTo c_priceX c_priceY c_many c_days c_aims c_speeds c_kinds c_keptMany c_undoMany c_undos c_spot c_told c_to c_stood c_home c_lost c_out c_fewest c_ways c_next c_held) H locs → W p l e (RM 1 25) s m args below meth c H locs 0 0 QQ (F0 m 88 ls []) := fun b0 b1 e ls H locs hl hG => ih b0 b1 ec_next (hi _ e) K0 ls H locs hl hG
      have KX : ∀ (c_next : Nat → Int64), w = .inr c_next → ∀ (ls : Array Slot) (H : Heap) (locs : List Loc), lv_has ls 14 [(0, .ref (a 0)), (1, .int x1), (2, .int x2), (3, .int x3), (4, .long x4), (6, .int x6)] → G dC dI A H0 (W_X9 a cI cJ c_length c_text c_stands c_homeFar c_nets c_netAt c_netWide c_netFrom c_netTo c_priceX c_priceY c_many c_days c_aims c_speeds c_kinds c_keptMany c_undoMany c_undos c_spot c_told c_to c_stood c_home c_lost c_out c_fewest c_ways c_next c_held) H locs → W p l e (RM 1 25) s m args below meth c H locs 0 0 QQ (F0 m 136 ls []) := fun b0 e ls H locs hl hG => by cases hr _ e; exact K0 ls H locs hl hG
      clear h0 hi hr K0 ih
      unfold DX9_odds_L88s at h
      refine lv_iload hx hb dX9_odds_88 (lv_at hl 6 rfl) ?_
      refine lv_bipush (v := (20 : Int32)) hx hb dX9_odds_90 (by decide) ?_
      refine lv_icmp_ge (tgt := 136) hx hb dX9_odds_92 (by decide) (fun c_16 => ?_) (fun c_16 => ?_)
      · have h := ite_t h c_16
        exact KX _ (Option.some.inj h).symm _ _ _ (lv_sub hl [0, 1, 2, 3, 4, 5] rfl) hG
      · have h := ite_f h c_16
        refine lv_aload_n hx hb dX9_odds_95 rfl (lv_at hl 0 rfl) ?_
        refine r_get X hG in_X9 rfl 28 (by decide) w_659 0 rfl rfl dX9_odds_96 ?_
        refine lv_iload hx hb dX9_odds_99 (lv_at hl 6 rfl) ?_
        refine lv_aload_n hx hb dX9_odds_101 rfl (lv_at hl 0 rfl) ?_
        refine r_get X hG in_X9 rfl 27 (by decide) w_658 0 rfl rfl dX9_odds_102 ?_
        refine lv_iload hx hb dX9_odds_105 (lv_at hl 6 rfl) ?_
        refine lv_iconst (v := (1 : Int32)) hx hb dX9_odds_107 (by decide) ?_
        refine lv_isub hx hb dX9_odds_108 ?_
        obtain ⟨g_17, h⟩ := gd h
        refine r_lald X hG 23 rfl g_17 dX9_odds_109 ?_
        refine lv_iload_n hx hb dX9_odds_110 rfl (lv_at hl 2 rfl) ?_
        refine lv_i2l (v := (x2.toInt64)) hx hb dX9_odds_111 rfl ?_
        refine lv_lmul hx hb dX9_odds_112 ?_
        refine lv_aload_n hx hb dX9_odds_113 rfl (lv_at hl 0 rfl) ?_
        refine r_get X hG in_X9 rfl 27 (by decide) w_658 0 rfl rfl dX9_odds_114 ?_
        refine lv_iload hx hb dX9_odds_117 (lv_at hl 6 rfl) ?_
        refine lv_iconst (v := (1 : Int32)) hx hb dX9_odds_119 (by decide) ?_
        refine lv_iadd hx hb dX9_odds_120 ?_
        obtain ⟨g_18, h⟩ := gd h
        refine r_lald X hG 23 rfl g_18 dX9_odds_121 ?_
        refine lv_bipush (v := (10 : Int32)) hx hb dX9_odds_122 (by decide) ?_
        refine lv_iload_n hx hb dX9_odds_124 rfl (lv_at hl 2 rfl) ?_
        refine lv_isub hx hb dX9_odds_125 ?_
        refine lv_i2l (v := (((10 : Int32) - x2).toInt64)) hx hb dX9_odds_126 rfl ?_
        refine lv_lmul hx hb dX9_odds_127 ?_
        refine lv_ladd hx hb dX9_odds_128 ?_
        obtain ⟨g_19, h⟩ := gd h
        refine r_last X hG 24 (ws' := (W_X9 a cI cJ c_length c_text c_stands c_homeFar c_nets c_netAt c_netWide c_netFrom c_netTo c_priceX c_priceY c_many c_days c_aims c_speeds c_kinds c_keptMany c_undoMany c_undos c_spot c_told c_to c_stood c_home c_lost c_out c_fewest c_ways (vp_updL c_next x7.toNatClampNeg (((c_ways (x7 - (1 : Int32)).toNatClampNeg) * (x2.toInt64)) + ((c_ways (x7 + (1 : Int32)).toNatClampNeg) * (((10 : Int32) - x2).toInt64)))) c_held)) rfl g_19 rfl dX9_odds_129 (fun H locs hG => ?_)
        refine lv_iinc (v := (x7 + (1 : Int32))) (lv' := [(7, .int (x7 + (1 : Int32))), (0, .ref (a 0)), (1, .int x1), (2, .int x2), (3, .int x3), (4, .long x4), (6, .int x6)]) hx hb dX9_odds_130 hl (k := 6) rfl rfl (by decide) rfl (fun ls hl => ?_)
        refine lv_goto (tgt := 88) hx hb dX9_odds_133 (by decide) ?_
        exact KC _ _ (Option.some.inj h).symm _ _ _ (lv_sub hl [1, 2, 3, 4, 5, 6, 0] rfl) hG
  have L139 : ∀ (x4 : Int64) (x6 : Int32) (c_next : Nat → Int64), ∀ (n : Nat) (x7 : Int32) (c_ways : Nat → Int64) (ec_ways : Nat → Int64), DX9_odds_L139 c_next n x7 c_ways = some ec_ways → (∀ (ls : Array Slot) (H : Heap) (locs : List Loc), lv_has ls 14 [(0, .ref (a 0)), (1, .int x1), (2, .int x2), (3, .int x3), (4, .long x4), (6, .int x6)] → G dC dI A H0 (W_X9 a cI cJ c_length c_text c_stands c_homeFar c_nets c_netAt c_netWide c_netFrom c_netTo c_priceX c_priceY c_many c_days c_aims c_speeds c_kinds c_keptMany c_undoMany c_undos c_spot c_told c_to c_stood c_home c_lost c_out c_fewest ec_ways c_next c_held) H locs → W p l e (RM 1 25) s m args below meth c H locs 0 0 QQ (F0 m 166 ls [])) → ∀ (ls : Array Slot) (H : Heap) (locs : List Loc), lv_has ls 14 [(0, .ref (a 0)), (1, .int x1), (2, .int x2), (3, .int x3), (4, .long x4), (6, .int x6), (7, .int x7)] → G dC dI A H0 (W_X9 a cI cJ c_length c_text c_stands c_homeFar c_nets c_netAt c_netWide c_netFrom c_netTo c_priceX c_priceY c_many c_days c_aims c_speeds c_kinds c_keptMany c_undoMany c_undos c_spot c_told c_to c_stood c_home c_lost c_out c_fewest c_ways c_next c_held) H locs → W p l e (RM 1 25) s m args below meth c H locs 0 0 QQ (F0 m 139 ls []) := by
    intro x4 x6 c_next n
    induction n with
    | zero => intro x7 c_ways ec_ways h; exact it_zero h
    | succ n ih =>
      intro x7 c_ways ec_ways h0 K0 ls H locs hl hG
      obtain ⟨w, h, hi, hr⟩ := it_succ h0
      have h : DX9_odds_L139s c_next x7 c_ways = some w := h
      have KC : ∀ (x7 : Int32) (c_ways : Nat → Int64), w = .inl (x7, c_ways) → ∀ (ls : Array Slot) (H : Heap) (locs : List Loc), lv_has ls 14 [(0, .ref (a 0)), (1, .int x1), (2, .int x2), (3, .int x3), (4, .long x4), (6, .int x6), (7, .int x7)] → G dC dI A H0 (W_X9 a cI cJ c_length c_text c_stands c_homeFar c_nets c_netAt c_netWide c_netFrom c_netTo c_priceX c_priceY c_many c_days c_aims c_speeds c_kinds c_keptMany c_undoMany c_undos c_spot c_told c_to c_stood c_home c_lost c_out c_fewest c_ways c_next c_held) H locs → W p l e (RM 1 25) s m args below meth c H locs 0 0 QQ (F0 m 139 ls []) := fun b0 b1 e ls H locs hl hG => ih b0 b1 ec_ways (hi _ e) K0 ls H locs hl hG
      have KX : ∀ (c_ways : Nat → Int64), w = .inr c_ways → ∀ (ls : Array Slot) (H : Heap) (locs : List Loc), lv_has ls 14 [(0, .ref (a 0)), (1, .int x1), (2, .int x2), (3, .int x3), (4, .long x4), (6, .int x6)] → G dC dI A H0 (W_X9 a cI cJ c_length c_text c_stands c_homeFar c_nets c_netAt c_netWide c_netFrom c_netTo c_priceX c_priceY c_many c_days c_aims c_speeds c_kinds c_keptMany c_undoMany c_undos c_spot c_told c_to c_stood c_home c_lost c_out c_fewest c_ways c_next c_held) H locs → W p l e (RM 1 25) s m args below meth c H locs 0 0 QQ (F0 m 166 ls []) := fun b0 e ls H locs hl hG => by cases hr _ e; exact K0 ls H locs hl hG
      clear h0 hi hr K0 ih
      unfold DX9_odds_L139s at h
      refine lv_iload hx hb dX9_odds_139 (lv_at hl 6 rfl) ?_
      refine lv_bipush (v := (20 : Int32)) hx hb dX9_odds_141 (by decide) ?_
      refine lv_icmp_ge (tgt := 166) hx hb dX9_odds_143 (by decide) (fun c_21 => ?_) (fun c_21 => ?_)
      · have h := ite_t h c_21
        exact KX _ (Option.some.inj h).symm _ _ _ (lv_sub hl [0, 1, 2, 3, 4, 5] rfl) hG
      · have h := ite_f h c_21
        refine lv_aload_n hx hb dX9_odds_146 rfl (lv_at hl 0 rfl) ?_
        refine r_get X hG in_X9 rfl 27 (by decide) w_658 0 rfl rfl dX9_odds_147 ?_
        refine lv_iload hx hb dX9_odds_150 (lv_at hl 6 rfl) ?_
        refine lv_aload_n hx hb dX9_odds_152 rfl (lv_at hl 0 rfl) ?_
        refine r_get X hG in_X9 rfl 28 (by decide) w_659 0 rfl rfl dX9_odds_153 ?_
        refine lv_iload hx hb dX9_odds_156 (lv_at hl 6 rfl) ?_
        obtain ⟨g_22, h⟩ := gd h
        refine r_lald X hG 24 rfl g_22 dX9_odds_158 ?_
        obtain ⟨g_23, h⟩ := gd h
        refine r_last X hG 23 (ws' := (W_X9 a cI cJ c_length c_text c_stands c_homeFar c_nets c_netAt c_netWide c_netFrom c_netTo c_priceX c_priceY c_many c_days c_aims c_speeds c_kinds c_keptMany c_undoMany c_undos c_spot c_told c_to c_stood c_home c_lost c_out c_fewest (vp_updL c_ways x7.toNatClampNeg (c_next x7.toNatClampNeg)) c_next c_held)) rfl g_23 rfl dX9_odds_159 (fun H locs hG => ?_)
        refine lv_iinc (v := (x7 + (1 : Int32))) (lv' := [(7, .int (x7 + (1 : Int32))), (0, .ref (a 0)), (1, .int x1), (2, .int x2), (3, .int x3), (4, .long x4), (6, .int x6)]) hx hb dX9_odds_160 hl (k := 6) rfl rfl (by decide) rfl (fun ls hl => ?_)
        refine lv_goto (tgt := 139) hx hb dX9_odds_163 (by decide) ?_
        exact KC _ _ (Option.some.inj h).symm _ _ _ (lv_sub hl [1, 2, 3, 4, 5, 6, 0] rfl) hG
  have L79 : ∀ (n : Nat) (x4 : Int64) (x6 : Int32) (c_ways : Nat → Int64) (c_next : Nat → Int64) (ex4 : Int64) (ec_ways : Nat → Int64) (ec_next : Nat → Int64), DX9_odds_L79 x1 x2 n x4 x6 c_ways c_next = some (ex4, ec_ways, ec_next) → (∀ (ls : Array Slot) (H : Heap) (locs : List Loc), lv_has ls 14 [(0, .ref (a 0)), (3, .int x3), (4, .long ex4)] → G dC dI A H0 (W_X9 a cI cJ c_length c_text c_stands c_homeFar c_nets c_netAt c_netWide c_netFrom c_netTo c_priceX c_priceY c_many c_days c_aims c_speeds c_kinds c_keptMany c_undoMany c_undos c_spot c_told c_to c_stood c_home c_lost c_out c_fewest ec_ways ec_next c_held) H locs → W p l e (RM 1 25) s m args below meth c H locs 0 0 QQ (F0 m 180 ls [])) → ∀ (ls : Array Slot) (H : Heap) (locs : List Loc), lv_has ls 14 [(0, .ref (a 0)), (1, .int x1), (2, .int x2), (3, .int x3), (4, .long x4), (6, .int x6)] → G dC dI A H0 (W_X9 a cI cJ c_length c_text c_stands c_homeFar c_nets c_netAt c_netWide c_netFrom c_netTo c_priceX c_priceY c_many c_days c_aims c_speeds c_kinds c_keptMany c_undoMany c_undos c_spot c_told c_to c_stood c_home c_lost c_out c_fewest c_ways c_next c_held) H locs → W p l e (RM 1 25) s m args below meth c H locs 0 0 QQ (F0 m 79 ls []) := by
    intro  n
    induction n with
    | zero => intro x4 x6 c_ways c_next ex4 ec_ways ec_next h; exact it_zero h
    | succ n ih =>
      intro x4 x6 c_ways c_next ex4 ec_ways ec_next h0 K0 ls H locs hl hG
      obtain ⟨w, h, hi, hr⟩ := it_succ h0
      have h : DX9_odds_L79s x1 x2 x4 x6 c_ways c_next = some w := h
      have KC : ∀ (x4 : Int64) (x6 : Int32) (c_ways : Nat → Int64) (c_next : Nat → Int64), w = .inl (x4, x6, c_ways, c_next) → ∀ (ls : Array Slot) (H : Heap) (locs : List Loc), lv_has ls 14 [(0, .ref (a 0)), (1, .int x1), (2, .int x2), (3, .int x3), (4, .long x4), (6, .int x6)] → G dC dI A H0 (W_X9 a cI cJ c_length c_text c_stands c_homeFar c_nets c_netAt c_netWide c_netFrom c_netTo c_priceX c_priceY c_many c_days c_aims c_speeds c_kinds c_keptMany c_undoMany c_undos c_spot c_told c_to c_stood c_home c_lost c_out c_fewest c_ways c_next c_held) H locs → W p l e (RM 1 25) s m args below meth c H locs 0 0 QQ (F0 m 79 ls []) := fun b0 b1 b2 b3 e ls H locs hl hG => ih b0 b1 b2 b3 ex4 ec_ways ec_next (hi _ e) K0 ls H locs hl hG
      have KX : ∀ (x4 : Int64) (c_ways : Nat → Int64) (c_next : Nat → Int64), w = .inr (x4, c_ways, c_next) → ∀ (ls : Array Slot) (H : Heap) (locs : List Loc), lv_has ls 14 [(0, .ref (a 0)), (3, .int x3), (4, .long x4)] → G dC dI A H0 (W_X9 a cI cJ c_length c_text c_stands c_homeFar c_nets c_netAt c_netWide c_netFrom c_netTo c_priceX c_priceY c_many c_days c_aims c_speeds c_kinds c_keptMany c_undoMany c_undos c_spot c_told c_to c_stood c_home c_lost c_out c_fewest c_ways c_next c_held) H locs → W p l e (RM 1 25) s m args below meth c H locs 0 0 QQ (F0 m 180 ls []) := fun b0 b1 b2 e ls H locs hl hG => by cases hr _ e; exact K0 ls H locs hl hG
      clear h0 hi hr K0 ih
      unfold DX9_odds_L79s at h
      refine lv_iload hx hb dX9_odds_79 (lv_at hl 5 rfl) ?_
      refine lv_iload_n hx hb dX9_odds_81 rfl (lv_at hl 1 rfl) ?_
      refine lv_icmp_ge (tgt := 180) hx hb dX9_odds_82 (by decide) (fun c_15 => ?_) (fun c_15 => ?_)
      · have h := ite_t h c_15
        exact KX _ _ _ (Option.some.inj h).symm _ _ _ (lv_sub hl [0, 3, 4] rfl) hG
      · have h := ite_f h c_15
        refine lv_iconst (v := (1 : Int32)) hx hb dX9_odds_85 (by decide) ?_
        refine lv_istore (lv' := [(7, .int (1 : Int32)), (0, .ref (a 0)), (1, .int x1), (2, .int x2), (3, .int x3), (4, .long x4), (6, .int x6)]) hx hb dX9_odds_86 hl (by decide) rfl (fun ls hl => ?_)
        obtain ⟨k_next_20, hz, h⟩ := bd1_some h
        refine L88 x4 x6 c_ways FU (1 : Int32) c_next _ hz (fun ls H locs hl hG => ?_) _ _ _ (lv_sub hl [1, 2, 3, 4, 5, 6, 0] rfl) hG
        clear hz
        refine lv_iconst (v := (1 : Int32)) hx hb dX9_odds_136 (by decide) ?_
        refine lv_istore (lv' := [(7, .int (1 : Int32)), (0, .ref (a 0)), (1, .int x1), (2, .int x2), (3, .int x3), (4, .long x4), (6, .int x6)]) hx hb dX9_odds_137 hl (by decide) rfl (fun ls hl => ?_)
        obtain ⟨k_ways_24, hz, h⟩ := bd1_some h
        refine L139 x4 x6 k_next_20 FU (1 : Int32) c_ways _ hz (fun ls H locs hl hG => ?_) _ _ _ (lv_sub hl [1, 2, 3, 4, 5, 6, 0] rfl) hG
        clear hz
        refine lv_lload hx hb dX9_odds_166 (lv_at hl 4 rfl) ?_
        refine lv_ldc2 (v := (10 : Int64)) hx hb X.1.2.2.2.1 (X.1.2.2.2.2 _ w_922) dX9_odds_168 ?_
        refine lv_lmul hx hb dX9_odds_171 ?_
        refine lv_lstore (lv' := [(4, .long (x4 * (10 : Int64))), (0, .ref (a 0)), (1, .int x1), (2, .int x2), (3, .int x3), (6, .int x6)]) hx hb dX9_odds_172 hl (by decide) rfl (fun ls hl => ?_)
        refine lv_iinc (v := (x6 + (1 : Int32))) (lv' := [(6, .int (x6 + (1 : Int32))), (4, .long (x4 * (10 : Int64))), (0, .ref (a 0)), (1, .int x1), (2, .int x2), (3, .int x3)]) hx hb dX9_odds_174 hl (k := 5) rfl rfl (by decide) rfl (fun ls hl => ?_)
        refine lv_goto (tgt := 79) hx hb dX9_odds_177 (by decide) ?_
        exact KC _ _ _ _ (Option.some.inj h).symm _ _ _ (lv_sub hl [2, 3, 4, 5, 1, 0] rfl) hG
  have L187 : ∀ (x4 : Int64) (c_ways : Nat → Int64) (c_next : Nat → Int64), ∀ (n : Nat) (x6 : Int64) (x8 : Int32) (ex6 : Int64), DX9_odds_L187 c_ways n x6 x8 = some ex6 → (∀ (ls : Array Slot) (H : Heap) (locs : List Loc), lv_has ls 14 [(3, .int x3), (4, .long x4), (6, .long ex6)] → G dC dI A H0 (W_X9 a cI cJ c_length c_text c_stands c_homeFar c_nets c_netAt c_netWide c_netFrom c_netTo c_priceX c_priceY c_many c_days c_aims c_speeds c_kinds c_keptMany c_undoMany c_undos c_spot c_told c_to c_stood c_home c_lost c_out c_fewest c_ways c_next c_held) H locs → W p l e (RM 1 25) s m args below meth c H locs 0 0 QQ (F0 m 212 ls [])) → ∀ (ls : Array Slot) (H : Heap) (locs : List Loc), lv_has ls 14 [(0, .ref (a 0)), (3, .int x3), (4, .long x4), (6, .long x6), (8, .int x8)] → G dC dI A H0 (W_X9 a cI cJ c_length c_text c_stands c_homeFar c_nets c_netAt c_netWide c_netFrom c_netTo c_priceX c_priceY c_many c_days c_aims c_speeds c_kinds c_keptMany c_undoMany c_undos c_spot c_told c_to c_stood c_home c_lost c_out c_fewest c_ways c_next c_held) H locs → W p l e (RM 1 25) s m args below meth c H locs 0 0 QQ (F0 m 187 ls []) := by
    intro x4 c_ways c_next n
    induction n with
    | zero => intro x6 x8 ex6 h; exact it_zero h
    | succ n ih =>
      intro x6 x8 ex6 h0 K0 ls H locs hl hG
      obtain ⟨w, h, hi, hr⟩ := it_succ h0
      have h : DX9_odds_L187s c_ways x6 x8 = some w := h
      have KC : ∀ (x6 : Int64) (x8 : Int32), w = .inl (x6, x8) → ∀ (ls : Array Slot) (H : Heap) (locs : List Loc), lv_has ls 14 [(0, .ref (a 0)), (3, .int x3), (4, .long x4), (6, .long x6), (8, .int x8)] → G dC dI A H0 (W_X9 a cI cJ c_length c_text c_stands c_homeFar c_nets c_netAt c_netWide c_netFrom c_netTo c_priceX c_priceY c_many c_days c_aims c_speeds c_kinds c_keptMany c_undoMany c_undos c_spot c_told c_to c_stood c_home c_lost c_out c_fewest c_ways c_next c_held) H locs → W p l e (RM 1 25) s m args below meth c H locs 0 0 QQ (F0 m 187 ls []) := fun b0 b1 e ls H locs hl hG => ih b0 b1 ex6 (hi _ e) K0 ls H locs hl hG
      have KX : ∀ (x6 : Int64), w = .inr x6 → ∀ (ls : Array Slot) (H : Heap) (locs : List Loc), lv_has ls 14 [(3, .int x3), (4, .long x4), (6, .long x6)] → G dC dI A H0 (W_X9 a cI cJ c_length c_text c_stands c_homeFar c_nets c_netAt c_netWide c_netFrom c_netTo c_priceX c_priceY c_many c_days c_aims c_speeds c_kinds c_keptMany c_undoMany c_undos c_spot c_told c_to c_stood c_home c_lost c_out c_fewest c_ways c_next c_held) H locs → W p l e (RM 1 25) s m args below meth c H locs 0 0 QQ (F0 m 212 ls []) := fun b0 e ls H locs hl hG => by cases hr _ e; exact K0 ls H locs hl hG
      clear h0 hi hr K0 ih
      unfold DX9_odds_L187s at h
      refine lv_iload hx hb dX9_odds_187 (lv_at hl 4 rfl) ?_
      refine lv_bipush (v := (20 : Int32)) hx hb dX9_odds_189 (by decide) ?_
      refine lv_icmp_ge (tgt := 212) hx hb dX9_odds_191 (by decide) (fun c_28 => ?_) (fun c_28 => ?_)
      · have h := ite_t h c_28
        exact KX _ (Option.some.inj h).symm _ _ _ (lv_sub hl [1, 2, 3] rfl) hG
      · have h := ite_f h c_28
        refine lv_lload hx hb dX9_odds_194 (lv_at hl 3 rfl) ?_
        refine lv_aload_n hx hb dX9_odds_196 rfl (lv_at hl 0 rfl) ?_
        refine r_get X hG in_X9 rfl 27 (by decide) w_658 0 rfl rfl dX9_odds_197 ?_
        refine lv_iload hx hb dX9_odds_200 (lv_at hl 4 rfl) ?_
        obtain ⟨g_29, h⟩ := gd h
        refine r_lald X hG 23 rfl g_29 dX9_odds_202 ?_
        refine lv_ladd hx hb dX9_odds_203 ?_
        refine lv_lstore (lv' := [(6, .long (x6 + (c_ways x8.toNatClampNeg))), (0, .ref (a 0)), (3, .int x3), (4, .long x4), (8, .int x8)]) hx hb dX9_odds_204 hl (by decide) rfl (fun ls hl => ?_)
        refine lv_iinc (v := (x8 + (1 : Int32))) (lv' := [(8, .int (x8 + (1 : Int32))), (6, .long (x6 + (c_ways x8.toNatClampNeg))), (0, .ref (a 0)), (3, .int x3), (4, .long x4)]) hx hb dX9_odds_206 hl (k := 4) rfl rfl (by decide) rfl (fun ls hl => ?_)
        refine lv_goto (tgt := 187) hx hb dX9_odds_209 (by decide) ?_
        exact KC _ _ (Option.some.inj h).symm _ _ _ (lv_sub hl [2, 3, 4, 1, 0] rfl) hG
  have L220 : ∀ (x4 : Int64) (x6 : Int64) (c_ways : Nat → Int64) (c_next : Nat → Int64), ∀ (n : Nat) (x8 : Int64) (x10 : Int64) (ex8 : Int64), DX9_odds_L220 n x8 x10 = some ex8 → (∀ (ls : Array Slot) (H : Heap) (locs : List Loc), lv_has ls 14 [(3, .int x3), (4, .long x4), (6, .long x6), (8, .long ex8)] → G dC dI A H0 (W_X9 a cI cJ c_length c_text c_stands c_homeFar c_nets c_netAt c_netWide c_netFrom c_netTo c_priceX c_priceY c_many c_days c_aims c_speeds c_kinds c_keptMany c_undoMany c_undos c_spot c_told c_to c_stood c_home c_lost c_out c_fewest c_ways c_next c_held) H locs → W p l e (RM 1 25) s m args below meth c H locs 0 0 QQ (F0 m 245 ls [])) → ∀ (ls : Array Slot) (H : Heap) (locs : List Loc), lv_has ls 14 [(3, .int x3), (4, .long x4), (6, .long x6), (8, .long x8), (10, .long x10)] → G dC dI A H0 (W_X9 a cI cJ c_length c_text c_stands c_homeFar c_nets c_netAt c_netWide c_netFrom c_netTo c_priceX c_priceY c_many c_days c_aims c_speeds c_kinds c_keptMany c_undoMany c_undos c_spot c_told c_to c_stood c_home c_lost c_out c_fewest c_ways c_next c_held) H locs → W p l e (RM 1 25) s m args below meth c H locs 0 0 QQ (F0 m 220 ls []) := by
    intro x4 x6 c_ways c_next n
    induction n with
    | zero => intro x8 x10 ex8 h; exact it_zero h
    | succ n ih =>
      intro x8 x10 ex8 h0 K0 ls H locs hl hG
      obtain ⟨w, h, hi, hr⟩ := it_succ h0
      have h : DX9_odds_L220s x8 x10 = some w := h
      have KC : ∀ (x8 : Int64) (x10 : Int64), w = .inl (x8, x10) → ∀ (ls : Array Slot) (H : Heap) (locs : List Loc), lv_has ls 14 [(3, .int x3), (4, .long x4), (6, .long x6), (8, .long x8), (10, .long x10)] → G dC dI A H0 (W_X9 a cI cJ c_length c_text c_stands c_homeFar c_nets c_netAt c_netWide c_netFrom c_netTo c_priceX c_priceY c_many c_days c_aims c_speeds c_kinds c_keptMany c_undoMany c_undos c_spot c_told c_to c_stood c_home c_lost c_out c_fewest c_ways c_next c_held) H locs → W p l e (RM 1 25) s m args below meth c H locs 0 0 QQ (F0 m 220 ls []) := fun b0 b1 e ls H locs hl hG => ih b0 b1 ex8 (hi _ e) K0 ls H locs hl hG
      have KX : ∀ (x8 : Int64), w = .inr x8 → ∀ (ls : Array Slot) (H : Heap) (locs : List Loc), lv_has ls 14 [(3, .int x3), (4, .long x4), (6, .long x6), (8, .long x8)] → G dC dI A H0 (W_X9 a cI cJ c_length c_text c_stands c_homeFar c_nets c_netAt c_netWide c_netFrom c_netTo c_priceX c_priceY c_many c_days c_aims c_speeds c_kinds c_keptMany c_undoMany c_undos c_spot c_told c_to c_stood c_home c_lost c_out c_fewest c_ways c_next c_held) H locs → W p l e (RM 1 25) s m args below meth c H locs 0 0 QQ (F0 m 245 ls []) := fun b0 e ls H locs hl hG => by cases hr _ e; exact K0 ls H locs hl hG
      clear h0 hi hr K0 ih
      unfold DX9_odds_L220s at h
      refine lv_lload hx hb dX9_odds_220 (lv_at hl 4 rfl) ?_
      refine lv_lconst (v := (0 : Int64)) hx hb dX9_odds_222 (by decide) ?_
      refine W.lcmp hx hb dX9_odds_223 ?_
      refine lv_if_eq (tgt := 245) hx hb dX9_odds_224 (by decide) (fun c_31 => ?_) (fun c_31 => ?_)
      · have h := ite_t h c_31
        exact KX _ (Option.some.inj h).symm _ _ _ (lv_sub hl [0, 1, 2, 3] rfl) hG
      · have h := ite_f h c_31
        refine lv_lload hx hb dX9_odds_227 (lv_at hl 3 rfl) ?_
        refine lv_lload hx hb dX9_odds_229 (lv_at hl 4 rfl) ?_
        obtain ⟨g_32, h⟩ := gd h
        refine lv_lrem hx hb dX9_odds_231 g_32 ?_
        refine lv_lstore (lv' := [(12, .long (x8 - x8 / x10 * x10)), (3, .int x3), (4, .long x4), (6, .long x6), (8, .long x8), (10, .long x10)]) hx hb dX9_odds_232 hl (by decide) rfl (fun ls hl => ?_)
        refine lv_lload hx hb dX9_odds_234 (lv_at hl 5 rfl) ?_
        refine lv_lstore (lv' := [(8, .long x10), (12, .long (x8 - x8 / x10 * x10)), (3, .int x3), (4, .long x4), (6, .long x6), (10, .long x10)]) hx hb dX9_odds_236 hl (by decide) rfl (fun ls hl => ?_)
        refine lv_lload hx hb dX9_odds_238 (lv_at hl 1 rfl) ?_
        refine lv_lstore (lv' := [(10, .long (x8 - x8 / x10 * x10)), (8, .long x10), (12, .long (x8 - x8 / x10 * x10)), (3, .int x3), (4, .long x4), (6, .long x6)]) hx hb dX9_odds_240 hl (by decide) rfl (fun ls hl => ?_)
        refine lv_goto (tgt := 220) hx hb dX9_odds_242 (by decide) ?_
        exact KC _ _ (Option.some.inj h).symm _ _ _ (lv_sub hl [3, 4, 5, 1, 0] rfl) hG
  have h := hD
  unfold DX9_odds at h
  clear hD
  refine lv_iload_n hx hb dX9_odds_0 rfl (lv_at hl 1 rfl) ?_
  refine lv_i2l (v := (x1.toInt64)) hx hb dX9_odds_1 rfl ?_
  refine lv_lconst (v := (0 : Int64)) hx hb dX9_odds_2 (by decide) ?_
  refine lv_ldc2 (v := (9 : Int64)) hx hb X.1.2.2.2.1 (X.1.2.2.2.2 _ w_921) dX9_odds_3 ?_
  obtain ⟨r_1, hz_2, h⟩ := bd1_some h
  refine aft_i (ws' := (W_X9 a cI cJ c_length c_text c_stands c_homeFar c_nets c_netAt c_netWide c_netFrom c_netTo c_priceX c_priceY c_many c_days c_aims c_speeds c_kinds c_keptMany c_undoMany c_undos c_spot c_told c_to c_stood c_home c_lost c_out c_fewest c_ways c_next c_held)) (run_S (rest := []) X hG hl.1 (mX9_in l dC dI cI cJ (x1.toInt64) (0 : Int64) (9 : Int64) hz_2) gi_S_X9_92 hd_S_yX9_in ⟨rfl, rfl⟩ rfl ⟨Nat.le_of_ble_eq_true rfl, Nat.le_of_ble_eq_true rfl⟩ [] (by decide) rfl rfl (Nat.le_of_ble_eq_true rfl) ⟨Nat.le_of_ble_eq_true rfl, Nat.le_of_ble_eq_true rfl⟩ dX9_odds_6) hG [] rfl rfl rfl (fun H locs hG => ?_)
  clear hz_2
  refine lv_if_eq (tgt := 34) hx hb dX9_odds_9 (by decide) (fun c_3 => ?_) (fun c_3 => ?_)
  · have h := ite_t h c_3
    refine lv_ldc2 (v := (-1 : Int64)) hx hb X.1.2.2.2.1 (X.1.2.2.2.2 _ w_923) dX9_odds_34 ?_
    cases h
    exact ret _ _ _ _ dX9_odds_37 hG
  · have h := ite_f h c_3
    refine lv_iload_n hx hb dX9_odds_12 rfl (lv_at hl 2 rfl) ?_
    refine lv_i2l (v := (x2.toInt64)) hx hb dX9_odds_13 rfl ?_
    refine lv_lconst (v := (0 : Int64)) hx hb dX9_odds_14 (by decide) ?_
    refine lv_ldc2 (v := (10 : Int64)) hx hb X.1.2.2.2.1 (X.1.2.2.2.2 _ w_922) dX9_odds_15 ?_
    obtain ⟨r_4, hz_5, h⟩ := bd1_some h
    refine aft_i (ws' := (W_X9 a cI cJ c_length c_text c_stands c_homeFar c_nets c_netAt c_netWide c_netFrom c_netTo c_priceX c_priceY c_many c_days c_aims c_speeds c_kinds c_keptMany c_undoMany c_undos c_spot c_told c_to c_stood c_home c_lost c_out c_fewest c_ways c_next c_held)) (run_S (rest := []) X hG hl.1 (mX9_in l dC dI cI cJ (x2.toInt64) (0 : Int64) (10 : Int64) hz_5) gi_S_X9_92 hd_S_yX9_in ⟨rfl, rfl⟩ rfl ⟨Nat.le_of_ble_eq_true rfl, Nat.le_of_ble_eq_true rfl⟩ [] (by decide) rfl rfl (Nat.le_of_ble_eq_true rfl) ⟨Nat.le_of_ble_eq_true rfl, Nat.le_of_ble_eq_true rfl⟩ dX9_odds_18) hG [] rfl rfl rfl (fun H locs hG => ?_)
    clear hz_5
    refine lv_if_eq (tgt := 34) hx hb dX9_odds_21 (by decide) (fun c_6 => ?_) (fun c_6 => ?_)
    · have h := ite_t h c_6
      refine lv_ldc2 (v := (-1 : Int64)) hx hb X.1.2.2.2.1 (X.1.2.2.2.2 _ w_923) dX9_odds_34 ?_
      cases h
      exact ret _ _ _ _ dX9_odds_37 hG
    · have h := ite_f h c_6
      refine lv_iload_n hx hb dX9_odds_24 rfl (lv_at hl 3 rfl) ?_
      refine lv_i2l (v := (x3.toInt64)) hx hb dX9_odds_25 rfl ?_
      refine lv_lconst (v := (0 : Int64)) hx hb dX9_odds_26 (by decide) ?_
      refine lv_lconst (v := (1 : Int64)) hx hb dX9_odds_27 (by decide) ?_
      obtain ⟨r_7, hz_8, h⟩ := bd1_some h
      refine aft_i (ws' := (W_X9 a cI cJ c_length c_text c_stands c_homeFar c_nets c_netAt c_netWide c_netFrom c_netTo c_priceX c_priceY c_many c_days c_aims c_speeds c_kinds c_keptMany c_undoMany c_undos c_spot c_told c_to c_stood c_home c_lost c_out c_fewest c_ways c_next c_held)) (run_S (rest := []) X hG hl.1 (mX9_in l dC dI cI cJ (x3.toInt64) (0 : Int64) (1 : Int64) hz_8) gi_S_X9_92 hd_S_yX9_in ⟨rfl, rfl⟩ rfl ⟨Nat.le_of_ble_eq_true rfl, Nat.le_of_ble_eq_true rfl⟩ [] (by decide) rfl rfl (Nat.le_of_ble_eq_true rfl) ⟨Nat.le_of_ble_eq_true rfl, Nat.le_of_ble_eq_true rfl⟩ dX9_odds_28) hG [] rfl rfl rfl (fun H locs hG => ?_)
      clear hz_8
      refine lv_if_ne (tgt := 38) hx hb dX9_odds_31 (by decide) (fun c_9 => ?_) (fun c_9 => ?_)
      · have h := ite_f h c_9
        refine lv_iconst (v := (0 : Int32)) hx hb dX9_odds_38 (by decide) ?_
        refine lv_istore (lv' := [(4, .int (0 : Int32)), (0, .ref (a 0)), (1, .int x1), (2, .int x2), (3, .int x3)]) hx hb dX9_odds_39 hl (by decide) rfl (fun ls hl => ?_)
        obtain ⟨k_ways_14, hz, h⟩ := bd1_some h
        refine L41 c_next FU (0 : Int32) c_ways _ hz (fun ls H locs hl hG => ?_) _ _ _ (lv_sub hl [1, 2, 3, 4, 0] rfl) hG
        clear hz
        refine lv_lconst (v := (1 : Int64)) hx hb dX9_odds_73 (by decide) ?_
        refine lv_lstore (lv' := [(4, .long (1 : Int64)), (0, .ref (a 0)), (1, .int x1), (2, .int x2), (3, .int x3)]) hx hb dX9_odds_74 hl (by decide) rfl (fun ls hl => ?_)
        refine lv_iconst (v := (0 : Int32)) hx hb dX9_odds_76 (by decide) ?_
        refine lv_istore (lv' := [(6, .int (0 : Int32)), (4, .long (1 : Int64)), (0, .ref (a 0)), (1, .int x1), (2, .int x2), (3, .int x3)]) hx hb dX9_odds_77 hl (by decide) rfl (fun ls hl => ?_)
        obtain ⟨z4_25, k_ways_26, k_next_27, hz, h⟩ := bd3_some h
        refine L79  FU (1 : Int64) (0 : Int32) k_ways_14 c_next _ _ _ hz (fun ls H locs hl hG => ?_) _ _ _ (lv_sub hl [2, 3, 4, 5, 1, 0] rfl) hG
        clear hz
        refine lv_lconst (v := (0 : Int64)) hx hb dX9_odds_180 (by decide) ?_
        refine lv_lstore (lv' := [(6, .long (0 : Int64)), (0, .ref (a 0)), (3, .int x3), (4, .long z4_25)]) hx hb dX9_odds_181 hl (by decide) rfl (fun ls hl => ?_)
        refine lv_bipush (v := (10 : Int32)) hx hb dX9_odds_183 (by decide) ?_
        refine lv_istore (lv' := [(8, .int (10 : Int32)), (6, .long (0 : Int64)), (0, .ref (a 0)), (3, .int x3), (4, .long z4_25)]) hx hb dX9_odds_185 hl (by decide) rfl (fun ls hl => ?_)
        obtain ⟨z6_30, hz, h⟩ := bd1_some h
        refine L187 z4_25 k_ways_26 k_next_27 FU (0 : Int64) (10 : Int32) _ hz (fun ls H locs hl hG => ?_) _ _ _ (lv_sub hl [2, 3, 4, 1, 0] rfl) hG
        clear hz
        refine lv_lload hx hb dX9_odds_212 (lv_at hl 2 rfl) ?_
        refine lv_lstore (lv' := [(8, .long z6_30), (3, .int x3), (4, .long z4_25), (6, .long z6_30)]) hx hb dX9_odds_214 hl (by decide) rfl (fun ls hl => ?_)
        refine lv_lload hx hb dX9_odds_216 (lv_at hl 2 rfl) ?_
        refine lv_lstore (lv' := [(10, .long z4_25), (8, .long z6_30), (3, .int x3), (4, .long z4_25), (6, .long z6_30)]) hx hb dX9_odds_218 hl (by decide) rfl (fun ls hl => ?_)
        obtain ⟨z8_33, hz, h⟩ := bd1_some h
        refine L220 z4_25 z6_30 k_ways_26 k_next_27 FU z6_30 z4_25 _ hz (fun ls H locs hl hG => ?_) _ _ _ (lv_sub hl [2, 3, 4, 1, 0] rfl) hG
        clear hz
        refine lv_iload_n hx hb dX9_odds_245 rfl (lv_at hl 0 rfl) ?_
        refine lv_if_ne (tgt := 257) hx hb dX9_odds_246 (by decide) (fun c_34 => ?_) (fun c_34 => ?_)
        · have h := ite_f h c_34
          refine lv_lload hx hb dX9_odds_257 (lv_at hl 1 rfl) ?_
          refine lv_lload hx hb dX9_odds_259 (lv_at hl 3 rfl) ?_
          obtain ⟨g_35, h⟩ := gd h
          refine lv_ldiv hx hb dX9_odds_261 g_35 ?_
          cases h
          exact ret _ _ _ _ dX9_odds_262 hG
        · have h := ite_t h c_34
          refine lv_lload hx hb dX9_odds_249 (lv_at hl 2 rfl) ?_
          refine lv_lload hx hb dX9_odds_251 (lv_at hl 3 rfl) ?_
          obtain ⟨g_36, h⟩ := gd h
          refine lv_ldiv hx hb dX9_odds_253 g_36 ?_
          refine lv_goto (tgt := 262) hx hb dX9_odds_254 (by decide) ?_
          cases h
          exact ret _ _ _ _ dX9_odds_262 hG
      · have h := ite_t h c_9
        refine lv_ldc2 (v := (-1 : Int64)) hx hb X.1.2.2.2.1 (X.1.2.2.2.2 _ w_923) dX9_odds_34 ?_
        cases h
        exact ret _ _ _ _ dX9_odds_37 hG
