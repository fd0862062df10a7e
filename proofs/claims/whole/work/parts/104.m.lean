/-! CONTRACTS, laid by wip/gen/lay.py: yX9_isMeeter, yX9_meeters, yX9_stand, yX9_odds, yX9_year, yX9_keep, yX9_back, yX9_count -/
set_option maxRecDepth 100000 in
set_option maxHeartbeats 4000000 in
theorem mX9_isMeeter (l : Launch) (dC : Nat → ClassId) (dI : Nat → Nat → Nat) (cI cJ : ClassId) (a : Nat → Nat) (c_length : Int32) (c_text : Nat → Int32) (c_stands : Nat → Int32) (c_homeFar : Nat → Int32) (c_nets : Nat → Int32) (c_netAt : Nat → Int32) (c_netWide : Nat → Int32) (c_netFrom : Nat → Int32) (c_netTo : Nat → Int32) (c_priceX : Nat → Int32) (c_priceY : Nat → Int32) (c_many : Nat → Int32) (c_days : Nat → Int32) (c_aims : Nat → Int32) (c_speeds : Nat → Int32) (c_kinds : Nat → Int32) (c_keptMany : Int32) (c_undoMany : Int32) (c_undos : Nat → Int32) (c_spot : Int32) (c_told : Nat → Int32) (c_to : Nat → Int32) (c_stood : Nat → Int32) (c_home : Nat → Int32) (c_lost : Nat → Int32) (c_out : Int32) (c_fewest : Nat → Int32) (c_ways : Nat → Int64) (c_next : Nat → Int64) (c_held : Nat → Int32) (x1 : Int32) (x2 : Int32) (x3 : Int32) {res : Int32} (hD : DX9_isMeeter x1 x2 x3 c_homeFar c_days c_speeds = some res) : Met l yX9_isMeeter (WZ yX9_isMeeter cX9_isMeeter 8 (some .boolean)) (RM 1 22) (PC dC dI cI cJ [.ref (a 0), .int x1, .int x2, .int x3] (W_X9 a cI cJ c_length c_text c_stands c_homeFar c_nets c_netAt c_netWide c_netFrom c_netTo c_priceX c_priceY c_many c_days c_aims c_speeds c_kinds c_keptMany c_undoMany c_undos c_spot c_told c_to c_stood c_home c_lost c_out c_fewest c_ways c_next c_held)) (QI dC dI (W_X9 a cI cJ c_length c_text c_stands c_homeFar c_nets c_netAt c_netWide c_netFrom c_netTo c_priceX c_priceY c_many c_days c_aims c_speeds c_kinds c_keptMany c_undoMany c_undos c_spot c_told c_to c_stood c_home c_lost c_out c_fewest c_ways c_next c_held) (W_X9 a cI cJ c_length c_text c_stands c_homeFar c_nets c_netAt c_netWide c_netFrom c_netTo c_priceX c_priceY c_many c_days c_aims c_speeds c_kinds c_keptMany c_undoMany c_undos c_spot c_told c_to c_stood c_home c_lost c_out c_fewest c_ways c_next c_held) res) 0 0 (FA (W_X9 a cI cJ c_length c_text c_stands c_homeFar c_nets c_netAt c_netWide c_netFrom c_netTo c_priceX c_priceY c_many c_days c_aims c_speeds c_kinds c_keptMany c_undoMany c_undos c_spot c_told c_to c_stood c_home c_lost c_out c_fewest c_ways c_next c_held)) := by
  refine r_metZ (by decide +kernel) (Nat.le_of_ble_eq_true rfl) ?_
  intro p e s m args below meth c A H0 QQ X ret ls hl hG
  have X : Cx p m c cX9_isMeeter 8 s args RX9 dC dI cI cJ meth (some .boolean) := X
  have hx := X.1.1
  have hb := X.1.2.1
  have hl : lv_has ls 8 [(0, .ref (a 0)), (1, .int x1), (2, .int x2), (3, .int x3)] := hl
  have L51 : ∀ (x4 : Int32) (x5 : Int32), ∀ (n : Nat) (x6 : Int32) (x7 : Int32) (ex6 : Int32), DX9_isMeeter_L51 x1 x2 x3 c_days c_speeds x4 x5 n x6 x7 = some ex6 → (∀ (ls : Array Slot) (H : Heap) (locs : List Loc), lv_has ls 8 [(6, .int ex6)] → G dC dI A H0 (W_X9 a cI cJ c_length c_text c_stands c_homeFar c_nets c_netAt c_netWide c_netFrom c_netTo c_priceX c_priceY c_many c_days c_aims c_speeds c_kinds c_keptMany c_undoMany c_undos c_spot c_told c_to c_stood c_home c_lost c_out c_fewest c_ways c_next c_held) H locs → W p l e (RM 1 22) s m args below meth c H locs 0 0 QQ (F0 m 99 ls [])) → ∀ (ls : Array Slot) (H : Heap) (locs : List Loc), lv_has ls 8 [(0, .ref (a 0)), (1, .int x1), (2, .int x2), (3, .int x3), (4, .int x4), (5, .int x5), (6, .int x6), (7, .int x7)] → G dC dI A H0 (W_X9 a cI cJ c_length c_text c_stands c_homeFar c_nets c_netAt c_netWide c_netFrom c_netTo c_priceX c_priceY c_many c_days c_aims c_speeds c_kinds c_keptMany c_undoMany c_undos c_spot c_told c_to c_stood c_home c_lost c_out c_fewest c_ways c_next c_held) H locs → W p l e (RM 1 22) s m args below meth c H locs 0 0 QQ (F0 m 51 ls []) := by
    intro x4 x5 n
    induction n with
    | zero => intro x6 x7 ex6 h; exact it_zero h
    | succ n ih =>
      intro x6 x7 ex6 h0 K0 ls H locs hl hG
      obtain ⟨w, h, hi, hr⟩ := it_succ h0
      have h : DX9_isMeeter_L51s x1 x2 x3 c_days c_speeds x4 x5 x6 x7 = some w := h
      have KC : ∀ (x6 : Int32) (x7 : Int32), w = .inl (x6, x7) → ∀ (ls : Array Slot) (H : Heap) (locs : List Loc), lv_has ls 8 [(0, .ref (a 0)), (1, .int x1), (2, .int x2), (3, .int x3), (4, .int x4), (5, .int x5), (6, .int x6), (7, .int x7)] → G dC dI A H0 (W_X9 a cI cJ c_length c_text c_stands c_homeFar c_nets c_netAt c_netWide c_netFrom c_netTo c_priceX c_priceY c_many c_days c_aims c_speeds c_kinds c_keptMany c_undoMany c_undos c_spot c_told c_to c_stood c_home c_lost c_out c_fewest c_ways c_next c_held) H locs → W p l e (RM 1 22) s m args below meth c H locs 0 0 QQ (F0 m 51 ls []) := fun b0 b1 e ls H locs hl hG => ih b0 b1 ex6 (hi _ e) K0 ls H locs hl hG
      have KX : ∀ (x6 : Int32), w = .inr x6 → ∀ (ls : Array Slot) (H : Heap) (locs : List Loc), lv_has ls 8 [(6, .int x6)] → G dC dI A H0 (W_X9 a cI cJ c_length c_text c_stands c_homeFar c_nets c_netAt c_netWide c_netFrom c_netTo c_priceX c_priceY c_many c_days c_aims c_speeds c_kinds c_keptMany c_undoMany c_undos c_spot c_told c_to c_stood c_home c_lost c_out c_fewest c_ways c_next c_held) H locs → W p l e (RM 1 22) s m args below meth c H locs 0 0 QQ (F0 m 99 ls []) := fun b0 e ls H locs hl hG => by cases hr _ e; exact K0 ls H locs hl hG
      clear h0 hi hr K0 ih
      unfold DX9_isMeeter_L51s at h
      refine lv_iload hx hb dX9_isMeeter_51 (lv_at hl 7 rfl) ?_
      refine lv_iload hx hb dX9_isMeeter_53 (lv_at hl 4 rfl) ?_
      refine lv_icmp_ge (tgt := 99) hx hb dX9_isMeeter_55 (by decide) (fun c_10 => ?_) (fun c_10 => ?_)
      · have h := ite_t h c_10
        exact KX _ (Option.some.inj h).symm _ _ _ (lv_sub hl [6] rfl) hG
      · have h := ite_f h c_10
        refine lv_iload hx hb dX9_isMeeter_58 (lv_at hl 7 rfl) ?_
        refine lv_iload hx hb dX9_isMeeter_60 (lv_at hl 5 rfl) ?_
        refine lv_icmp_ge (tgt := 99) hx hb dX9_isMeeter_62 (by decide) (fun c_11 => ?_) (fun c_11 => ?_)
        · have h := ite_t h c_11
          exact KX _ (Option.some.inj h).symm _ _ _ (lv_sub hl [6] rfl) hG
        · have h := ite_f h c_11
          refine lv_iload hx hb dX9_isMeeter_65 (lv_at hl 6 rfl) ?_
          refine lv_if_ne (tgt := 86) hx hb dX9_isMeeter_67 (by decide) (fun c_12 => ?_) (fun c_12 => ?_)
          · have h := ite_f h c_12
            refine lv_iconst (v := (1 : Int32)) hx hb dX9_isMeeter_86 (by decide) ?_
            refine lv_goto (tgt := 91) hx hb dX9_isMeeter_87 (by decide) ?_
            refine lv_istore (lv' := [(6, .int (1 : Int32)), (0, .ref (a 0)), (1, .int x1), (2, .int x2), (3, .int x3), (4, .int x4), (5, .int x5), (7, .int x7)]) hx hb dX9_isMeeter_91 hl (by decide) rfl (fun ls hl => ?_)
            refine lv_iinc (v := (x7 + (1 : Int32))) (lv' := [(7, .int (x7 + (1 : Int32))), (6, .int (1 : Int32)), (0, .ref (a 0)), (1, .int x1), (2, .int x2), (3, .int x3), (4, .int x4), (5, .int x5)]) hx hb dX9_isMeeter_93 hl (k := 7) rfl rfl (by decide) rfl (fun ls hl => ?_)
            refine lv_goto (tgt := 51) hx hb dX9_isMeeter_96 (by decide) ?_
            exact KC _ _ (Option.some.inj h).symm _ _ _ (lv_sub hl [2, 3, 4, 5, 6, 7, 1, 0] rfl) hG
          · have h := ite_t h c_12
            refine lv_aload_n hx hb dX9_isMeeter_70 rfl (lv_at hl 0 rfl) ?_
            refine lv_iload_n hx hb dX9_isMeeter_71 rfl (lv_at hl 1 rfl) ?_
            refine lv_iload hx hb dX9_isMeeter_72 (lv_at hl 7 rfl) ?_
            obtain ⟨r_13, hz_14, h⟩ := bd1_some h
            refine aft_i1 (run_V1 (rest := []) X hG hl.1 (mX9_farOf l dC dI cI cJ a c_length c_text c_stands c_homeFar c_nets c_netAt c_netWide c_netFrom c_netTo c_priceX c_priceY c_many c_days c_aims c_speeds c_kinds c_keptMany c_undoMany c_undos c_spot c_told c_to c_stood c_home c_lost c_out c_fewest c_ways c_next c_held x1 x7 hz_14) gi_V_X9_154 hd_V_yX9_farOf ⟨rfl, rfl⟩ rfl ⟨Nat.le_of_ble_eq_true rfl, Nat.le_of_ble_eq_true rfl⟩ 0 rfl rfl rfl rfl (Nat.le_of_ble_eq_true rfl) ⟨Nat.le_of_ble_eq_true rfl, Nat.le_of_ble_eq_true rfl⟩ dX9_isMeeter_74) hG rfl (fun H locs hG => ?_)
            clear hz_14
            refine lv_iload_n hx hb dX9_isMeeter_77 rfl (lv_at hl 3 rfl) ?_
            refine lv_iload hx hb dX9_isMeeter_78 (lv_at hl 7 rfl) ?_
            refine lv_iload_n hx hb dX9_isMeeter_80 rfl (lv_at hl 2 rfl) ?_
            refine lv_isub hx hb dX9_isMeeter_81 ?_
            refine lv_imul hx hb dX9_isMeeter_82 ?_
            refine lv_icmp_ne (tgt := 90) hx hb dX9_isMeeter_83 (by decide) (fun c_15 => ?_) (fun c_15 => ?_)
            · have h := ite_f h c_15
              refine lv_iconst (v := (0 : Int32)) hx hb dX9_isMeeter_90 (by decide) ?_
              refine lv_istore (lv' := [(6, .int (0 : Int32)), (0, .ref (a 0)), (1, .int x1), (2, .int x2), (3, .int x3), (4, .int x4), (5, .int x5), (7, .int x7)]) hx hb dX9_isMeeter_91 hl (by decide) rfl (fun ls hl => ?_)
              refine lv_iinc (v := (x7 + (1 : Int32))) (lv' := [(7, .int (x7 + (1 : Int32))), (6, .int (0 : Int32)), (0, .ref (a 0)), (1, .int x1), (2, .int x2), (3, .int x3), (4, .int x4), (5, .int x5)]) hx hb dX9_isMeeter_93 hl (k := 7) rfl rfl (by decide) rfl (fun ls hl => ?_)
              refine lv_goto (tgt := 51) hx hb dX9_isMeeter_96 (by decide) ?_
              exact KC _ _ (Option.some.inj h).symm _ _ _ (lv_sub hl [2, 3, 4, 5, 6, 7, 1, 0] rfl) hG
            · have h := ite_t h c_15
              refine lv_iconst (v := (1 : Int32)) hx hb dX9_isMeeter_86 (by decide) ?_
              refine lv_goto (tgt := 91) hx hb dX9_isMeeter_87 (by decide) ?_
              refine lv_istore (lv' := [(6, .int (1 : Int32)), (0, .ref (a 0)), (1, .int x1), (2, .int x2), (3, .int x3), (4, .int x4), (5, .int x5), (7, .int x7)]) hx hb dX9_isMeeter_91 hl (by decide) rfl (fun ls hl => ?_)
              refine lv_iinc (v := (x7 + (1 : Int32))) (lv' := [(7, .int (x7 + (1 : Int32))), (6, .int (1 : Int32)), (0, .ref (a 0)), (1, .int x1), (2, .int x2), (3, .int x3), (4, .int x4), (5, .int x5)]) hx hb dX9_isMeeter_93 hl (k := 7) rfl rfl (by decide) rfl (fun ls hl => ?_)
              refine lv_goto (tgt := 51) hx hb dX9_isMeeter_96 (by decide) ?_
              exact KC _ _ (Option.some.inj h).symm _ _ _ (lv_sub hl [2, 3, 4, 5, 6, 7, 1, 0] rfl) hG
  have h := hD
  unfold DX9_isMeeter at h
  clear hD
  refine lv_aload_n hx hb dX9_isMeeter_0 rfl (lv_at hl 0 rfl) ?_
  refine lv_aload_n hx hb dX9_isMeeter_1 rfl (lv_at hl 0 rfl) ?_
  refine r_get X hG in_X9 rfl 12 (by decide) w_643 0 rfl rfl dX9_isMeeter_2 ?_
  refine lv_iload_n hx hb dX9_isMeeter_5 rfl (lv_at hl 1 rfl) ?_
  obtain ⟨g_1, h⟩ := gd h
  refine r_iald X hG 12 rfl g_1 dX9_isMeeter_6 ?_
  refine lv_aload_n hx hb dX9_isMeeter_7 rfl (lv_at hl 0 rfl) ?_
  refine r_get X hG in_X9 rfl 14 (by decide) w_645 0 rfl rfl dX9_isMeeter_8 ?_
  refine lv_iload_n hx hb dX9_isMeeter_11 rfl (lv_at hl 1 rfl) ?_
  obtain ⟨g_2, h⟩ := gd h
  refine r_iald X hG 14 rfl g_2 dX9_isMeeter_12 ?_
  obtain ⟨r_3, hz_4, h⟩ := bd1_some h
  refine aft_i1 (run_V1 (rest := []) X hG hl.1 (mX9_homeDay l dC dI cI cJ a c_length c_text c_stands c_homeFar c_nets c_netAt c_netWide c_netFrom c_netTo c_priceX c_priceY c_many c_days c_aims c_speeds c_kinds c_keptMany c_undoMany c_undos c_spot c_told c_to c_stood c_home c_lost c_out c_fewest c_ways c_next c_held (c_days x1.toNatClampNeg) (c_speeds x1.toNatClampNeg) hz_4) gi_V_X9_161 hd_V_yX9_homeDay ⟨rfl, rfl⟩ rfl ⟨Nat.le_of_ble_eq_true rfl, Nat.le_of_ble_eq_true rfl⟩ 0 rfl rfl rfl rfl (Nat.le_of_ble_eq_true rfl) ⟨Nat.le_of_ble_eq_true rfl, Nat.le_of_ble_eq_true rfl⟩ dX9_isMeeter_13) hG rfl (fun H locs hG => ?_)
  clear hz_4
  refine lv_istore (lv' := [(4, .int r_3), (0, .ref (a 0)), (1, .int x1), (2, .int x2), (3, .int x3)]) hx hb dX9_isMeeter_16 hl (by decide) rfl (fun ls hl => ?_)
  refine lv_aload_n hx hb dX9_isMeeter_18 rfl (lv_at hl 1 rfl) ?_
  refine lv_iload_n hx hb dX9_isMeeter_19 rfl (lv_at hl 3 rfl) ?_
  refine lv_iload_n hx hb dX9_isMeeter_20 rfl (lv_at hl 4 rfl) ?_
  obtain ⟨r_5, hz_6, h⟩ := bd1_some h
  refine aft_i1 (run_V1 (rest := []) X hG hl.1 (mX9_homeDay l dC dI cI cJ a c_length c_text c_stands c_homeFar c_nets c_netAt c_netWide c_netFrom c_netTo c_priceX c_priceY c_many c_days c_aims c_speeds c_kinds c_keptMany c_undoMany c_undos c_spot c_told c_to c_stood c_home c_lost c_out c_fewest c_ways c_next c_held x2 x3 hz_6) gi_V_X9_161 hd_V_yX9_homeDay ⟨rfl, rfl⟩ rfl ⟨Nat.le_of_ble_eq_true rfl, Nat.le_of_ble_eq_true rfl⟩ 0 rfl rfl rfl rfl (Nat.le_of_ble_eq_true rfl) ⟨Nat.le_of_ble_eq_true rfl, Nat.le_of_ble_eq_true rfl⟩ dX9_isMeeter_21) hG rfl (fun H locs hG => ?_)
  clear hz_6
  refine lv_istore (lv' := [(5, .int r_5), (4, .int r_3), (0, .ref (a 0)), (1, .int x1), (2, .int x2), (3, .int x3)]) hx hb dX9_isMeeter_24 hl (by decide) rfl (fun ls hl => ?_)
  refine lv_iconst (v := (0 : Int32)) hx hb dX9_isMeeter_26 (by decide) ?_
  refine lv_istore (lv' := [(6, .int (0 : Int32)), (5, .int r_5), (4, .int r_3), (0, .ref (a 0)), (1, .int x1), (2, .int x2), (3, .int x3)]) hx hb dX9_isMeeter_27 hl (by decide) rfl (fun ls hl => ?_)
  refine lv_iload_n hx hb dX9_isMeeter_29 rfl (lv_at hl 5 rfl) ?_
  refine lv_aload_n hx hb dX9_isMeeter_30 rfl (lv_at hl 3 rfl) ?_
  refine r_get X hG in_X9 rfl 12 (by decide) w_643 0 rfl rfl dX9_isMeeter_31 ?_
  refine lv_iload_n hx hb dX9_isMeeter_34 rfl (lv_at hl 4 rfl) ?_
  obtain ⟨g_7, h⟩ := gd h
  refine r_iald X hG 12 rfl g_7 dX9_isMeeter_35 ?_
  refine lv_icmp_le (tgt := 43) hx hb dX9_isMeeter_36 (by decide) (fun c_8 => ?_) (fun c_8 => ?_)
  · have h := ite_t h c_8
    refine lv_aload_n hx hb dX9_isMeeter_43 rfl (lv_at hl 3 rfl) ?_
    refine r_get X hG in_X9 rfl 12 (by decide) w_643 0 rfl rfl dX9_isMeeter_44 ?_
    refine lv_iload_n hx hb dX9_isMeeter_47 rfl (lv_at hl 4 rfl) ?_
    obtain ⟨g_9, h⟩ := gd h
    refine r_iald X hG 12 rfl g_9 dX9_isMeeter_48 ?_
    refine lv_istore (lv' := [(7, .int (c_days x1.toNatClampNeg)), (6, .int (0 : Int32)), (5, .int r_5), (4, .int r_3), (0, .ref (a 0)), (1, .int x1), (2, .int x2), (3, .int x3)]) hx hb dX9_isMeeter_49 hl (by decide) rfl (fun ls hl => ?_)
    obtain ⟨z6_16, hz, h⟩ := bd1_some h
    refine L51 r_3 r_5 FU (0 : Int32) (c_days x1.toNatClampNeg) _ hz (fun ls H locs hl hG => ?_) _ _ _ (lv_sub hl [4, 5, 6, 7, 3, 2, 1, 0] rfl) hG
    clear hz
    refine lv_iload hx hb dX9_isMeeter_99 (lv_at hl 0 rfl) ?_
    obtain ⟨g_17, h⟩ := gd h
    cases h
    exact ret _ _ _ _ dX9_isMeeter_101 (Decidable.not_not.mp g_17) hG
  · have h := ite_f h c_8
    refine lv_iload_n hx hb dX9_isMeeter_39 rfl (lv_at hl 5 rfl) ?_
    refine lv_goto (tgt := 49) hx hb dX9_isMeeter_40 (by decide) ?_
    refine lv_istore (lv' := [(7, .int x2), (6, .int (0 : Int32)), (5, .int r_5), (4, .int r_3), (0, .ref (a 0)), (1, .int x1), (2, .int x2), (3, .int x3)]) hx hb dX9_isMeeter_49 hl (by decide) rfl (fun ls hl => ?_)
    obtain ⟨z6_18, hz, h⟩ := bd1_some h
    refine L51 r_3 r_5 FU (0 : Int32) x2 _ hz (fun ls H locs hl hG => ?_) _ _ _ (lv_sub hl [4, 5, 6, 7, 3, 2, 1, 0] rfl) hG
    clear hz
    refine lv_iload hx hb dX9_isMeeter_99 (lv_at hl 0 rfl) ?_
    obtain ⟨g_19, h⟩ := gd h
    cases h
    exact ret _ _ _ _ dX9_isMeeter_101 (Decidable.not_not.mp g_19) hG
set_option maxRecDepth 100000 in
set_option maxHeartbeats 4000000 in
theorem mX9_meeters (l : Launch) (dC : Nat → ClassId) (dI : Nat → Nat → Nat) (cI cJ : ClassId) (a : Nat → Nat) (c_length : Int32) (c_text : Nat → Int32) (c_stands : Nat → Int32) (c_homeFar : Nat → Int32) (c_nets : Nat → Int32) (c_netAt : Nat → Int32) (c_netWide : Nat → Int32) (c_netFrom : Nat → Int32) (c_netTo : Nat → Int32) (c_priceX : Nat → Int32) (c_priceY : Nat → Int32) (c_many : Nat → Int32) (c_days : Nat → Int32) (c_aims : Nat → Int32) (c_speeds : Nat → Int32) (c_kinds : Nat → Int32) (c_keptMany : Int32) (c_undoMany : Int32) (c_undos : Nat → Int32) (c_spot : Int32) (c_told : Nat → Int32) (c_to : Nat → Int32) (c_stood : Nat → Int32) (c_home : Nat → Int32) (c_lost : Nat → Int32) (c_out : Int32) (c_fewest : Nat → Int32) (c_ways : Nat → Int64) (c_next : Nat → Int64) (c_held : Nat → Int32) (x1 : Int32) (x2 : Int32) {res : Int32} (hD : DX9_meeters x1 x2 c_homeFar c_many c_days c_speeds = some res) : Met l yX9_meeters (WZ yX9_meeters cX9_meeters 7 (some .int)) (RM 2 49) (PC dC dI cI cJ [.ref (a 0), .int x1, .int x2] (W_X9 a cI cJ c_length c_text c_stands c_homeFar c_nets c_netAt c_netWide c_netFrom c_netTo c_priceX c_priceY c_many c_days c_aims c_speeds c_kinds c_keptMany c_undoMany c_undos c_spot c_told c_to c_stood c_home c_lost c_out c_fewest c_ways c_next c_held)) (QI dC dI (W_X9 a cI cJ c_length c_text c_stands c_homeFar c_nets c_netAt c_netWide c_netFrom c_netTo c_priceX c_priceY c_many c_days c_aims c_speeds c_kinds c_keptMany c_undoMany c_undos c_spot c_told c_to c_stood c_home c_lost c_out c_fewest c_ways c_next c_held) (W_X9 a cI cJ c_length c_text c_stands c_homeFar c_nets c_netAt c_netWide c_netFrom c_netTo c_priceX c_priceY c_many c_days c_aims c_speeds c_kinds c_keptMany c_undoMany c_undos c_spot c_told c_to c_stood c_home c_lost c_out c_fewest c_ways c_next c_held) res) 0 0 (FA (W_X9 a cI cJ c_length c_text c_stands c_homeFar c_nets c_netAt c_netWide c_netFrom c_netTo c_priceX c_priceY c_many c_days c_aims c_speeds c_kinds c_keptMany c_undoMany c_undos c_spot c_told c_to c_stood c_home c_lost c_out c_fewest c_ways c_next c_held)) := by
  refine r_metI (by decide +kernel) (Nat.le_of_ble_eq_true rfl) ?_
  intro p e s m args below meth c A H0 QQ X ret ls hl hG
  have X : Cx p m c cX9_meeters 7 s args RX9 dC dI cI cJ meth (some .int) := X
  have hx := X.1.1
  have hb := X.1.2.1
  have hl : lv_has ls 7 [(0, .ref (a 0)), (1, .int x1), (2, .int x2)] := hl
  have L39 : ∀ (x5 : Int32), ∀ (n : Nat) (x3 : Int32) (x4 : Int32) (x6 : Int32) (ex3 : Int32) (ex4 : Int32), DX9_meeters_L39 x1 c_homeFar c_days c_speeds x5 n x3 x4 x6 = some (ex3, ex4) → (∀ (ls : Array Slot) (H : Heap) (locs : List Loc), lv_has ls 7 [(0, .ref (a 0)), (1, .int x1), (2, .int x2), (3, .int ex3), (4, .int ex4), (5, .int x5)] → G dC dI A H0 (W_X9 a cI cJ c_length c_text c_stands c_homeFar c_nets c_netAt c_netWide c_netFrom c_netTo c_priceX c_priceY c_many c_days c_aims c_speeds c_kinds c_keptMany c_undoMany c_undos c_spot c_told c_to c_stood c_home c_lost c_out c_fewest c_ways c_next c_held) H locs → W p l e (RM 2 49) s m args below meth c H locs 0 0 QQ (F0 m 86 ls [])) → ∀ (ls : Array Slot) (H : Heap) (locs : List Loc), lv_has ls 7 [(0, .ref (a 0)), (1, .int x1), (2, .int x2), (3, .int x3), (4, .int x4), (5, .int x5), (6, .int x6)] → G dC dI A H0 (W_X9 a cI cJ c_length c_text c_stands c_homeFar c_nets c_netAt c_netWide c_netFrom c_netTo c_priceX c_priceY c_many c_days c_aims c_speeds c_kinds c_keptMany c_undoMany c_undos c_spot c_told c_to c_stood c_home c_lost c_out c_fewest c_ways c_next c_held) H locs → W p l e (RM 2 49) s m args below meth c H locs 0 0 QQ (F0 m 39 ls []) := by
    intro x5 n
    induction n with
    | zero => intro x3 x4 x6 ex3 ex4 h; exact it_zero h
    | succ n ih =>
      intro x3 x4 x6 ex3 ex4 h0 K0 ls H locs hl hG
      obtain ⟨w, h, hi, hr⟩ := it_succ h0
      have h : DX9_meeters_L39s x1 c_homeFar c_days c_speeds x5 x3 x4 x6 = some w := h
      have KC : ∀ (x3 : Int32) (x4 : Int32) (x6 : Int32), w = .inl (x3, x4, x6) → ∀ (ls : Array Slot) (H : Heap) (locs : List Loc), lv_has ls 7 [(0, .ref (a 0)), (1, .int x1), (2, .int x2), (3, .int x3), (4, .int x4), (5, .int x5), (6, .int x6)] → G dC dI A H0 (W_X9 a cI cJ c_length c_text c_stands c_homeFar c_nets c_netAt c_netWide c_netFrom c_netTo c_priceX c_priceY c_many c_days c_aims c_speeds c_kinds c_keptMany c_undoMany c_undos c_spot c_told c_to c_stood c_home c_lost c_out c_fewest c_ways c_next c_held) H locs → W p l e (RM 2 49) s m args below meth c H locs 0 0 QQ (F0 m 39 ls []) := fun b0 b1 b2 e ls H locs hl hG => ih b0 b1 b2 ex3 ex4 (hi _ e) K0 ls H locs hl hG
      have KX : ∀ (x3 : Int32) (x4 : Int32), w = .inr (x3, x4) → ∀ (ls : Array Slot) (H : Heap) (locs : List Loc), lv_has ls 7 [(0, .ref (a 0)), (1, .int x1), (2, .int x2), (3, .int x3), (4, .int x4), (5, .int x5)] → G dC dI A H0 (W_X9 a cI cJ c_length c_text c_stands c_homeFar c_nets c_netAt c_netWide c_netFrom c_netTo c_priceX c_priceY c_many c_days c_aims c_speeds c_kinds c_keptMany c_undoMany c_undos c_spot c_told c_to c_stood c_home c_lost c_out c_fewest c_ways c_next c_held) H locs → W p l e (RM 2 49) s m args below meth c H locs 0 0 QQ (F0 m 86 ls []) := fun b0 b1 e ls H locs hl hG => by cases hr _ e; exact K0 ls H locs hl hG
      clear h0 hi hr K0 ih
      unfold DX9_meeters_L39s at h
      refine lv_iload hx hb dX9_meeters_39 (lv_at hl 6 rfl) ?_
      refine lv_bipush (v := (6 : Int32)) hx hb dX9_meeters_41 (by decide) ?_
      refine lv_icmp_gt (tgt := 86) hx hb dX9_meeters_43 (by decide) (fun c_8 => ?_) (fun c_8 => ?_)
      · have h := ite_t h c_8
        exact KX _ _ (Option.some.inj h).symm _ _ _ (lv_sub hl [0, 1, 2, 3, 4, 5] rfl) hG
      · have h := ite_f h c_8
        refine lv_aload_n hx hb dX9_meeters_46 rfl (lv_at hl 0 rfl) ?_
        refine lv_iload_n hx hb dX9_meeters_47 rfl (lv_at hl 1 rfl) ?_
        refine lv_iload hx hb dX9_meeters_48 (lv_at hl 5 rfl) ?_
        refine lv_iload hx hb dX9_meeters_50 (lv_at hl 6 rfl) ?_
        obtain ⟨r_9, hz_10, h⟩ := bd1_some h
        refine aft_i1 (run_V1 (rest := []) X hG hl.1 (mX9_isMeeter l dC dI cI cJ a c_length c_text c_stands c_homeFar c_nets c_netAt c_netWide c_netFrom c_netTo c_priceX c_priceY c_many c_days c_aims c_speeds c_kinds c_keptMany c_undoMany c_undos c_spot c_told c_to c_stood c_home c_lost c_out c_fewest c_ways c_next c_held x1 x5 x6 hz_10) gi_V_X9_215 hd_V_yX9_isMeeter ⟨rfl, rfl⟩ rfl ⟨Nat.le_of_ble_eq_true rfl, Nat.le_of_ble_eq_true rfl⟩ 0 rfl rfl rfl rfl (Nat.le_of_ble_eq_true rfl) ⟨Nat.le_of_ble_eq_true rfl, Nat.le_of_ble_eq_true rfl⟩ dX9_meeters_52) hG rfl (fun H locs hG => ?_)
        clear hz_10
        refine lv_if_eq (tgt := 80) hx hb dX9_meeters_55 (by decide) (fun c_11 => ?_) (fun c_11 => ?_)
        · have h := ite_t h c_11
          refine lv_iinc (v := (x6 + (1 : Int32))) (lv' := [(6, .int (x6 + (1 : Int32))), (0, .ref (a 0)), (1, .int x1), (2, .int x2), (3, .int x3), (4, .int x4), (5, .int x5)]) hx hb dX9_meeters_80 hl (k := 6) rfl rfl (by decide) rfl (fun ls hl => ?_)
          refine lv_goto (tgt := 39) hx hb dX9_meeters_83 (by decide) ?_
          exact KC _ _ _ (Option.some.inj h).symm _ _ _ (lv_sub hl [1, 2, 3, 4, 5, 6, 0] rfl) hG
        · have h := ite_f h c_11
          refine lv_iload_n hx hb dX9_meeters_58 rfl (lv_at hl 3 rfl) ?_
          refine lv_if_ne (tgt := 73) hx hb dX9_meeters_59 (by decide) (fun c_12 => ?_) (fun c_12 => ?_)
          · have h := ite_f h c_12
            refine lv_iload hx hb dX9_meeters_73 (lv_at hl 4 rfl) ?_
            refine lv_istore (lv' := [(4, .int x4), (0, .ref (a 0)), (1, .int x1), (2, .int x2), (3, .int x3), (5, .int x5), (6, .int x6)]) hx hb dX9_meeters_75 hl (by decide) rfl (fun ls hl => ?_)
            refine lv_iinc (v := (x3 + (1 : Int32))) (lv' := [(3, .int (x3 + (1 : Int32))), (4, .int x4), (0, .ref (a 0)), (1, .int x1), (2, .int x2), (5, .int x5), (6, .int x6)]) hx hb dX9_meeters_77 hl (k := 4) rfl rfl (by decide) rfl (fun ls hl => ?_)
            refine lv_iinc (v := (x6 + (1 : Int32))) (lv' := [(6, .int (x6 + (1 : Int32))), (3, .int (x3 + (1 : Int32))), (4, .int x4), (0, .ref (a 0)), (1, .int x1), (2, .int x2), (5, .int x5)]) hx hb dX9_meeters_80 hl (k := 6) rfl rfl (by decide) rfl (fun ls hl => ?_)
            refine lv_goto (tgt := 39) hx hb dX9_meeters_83 (by decide) ?_
            exact KC _ _ _ (Option.some.inj h).symm _ _ _ (lv_sub hl [3, 4, 5, 1, 2, 6, 0] rfl) hG
          · have h := ite_t h c_12
            refine lv_bipush (v := (10 : Int32)) hx hb dX9_meeters_62 (by decide) ?_
            refine lv_iload hx hb dX9_meeters_64 (lv_at hl 5 rfl) ?_
            refine lv_imul hx hb dX9_meeters_66 ?_
            refine lv_iload hx hb dX9_meeters_67 (lv_at hl 6 rfl) ?_
            refine lv_iadd hx hb dX9_meeters_69 ?_
            refine lv_goto (tgt := 75) hx hb dX9_meeters_70 (by decide) ?_
            refine lv_istore (lv' := [(4, .int (((10 : Int32) * x5) + x6)), (0, .ref (a 0)), (1, .int x1), (2, .int x2), (3, .int x3), (5, .int x5), (6, .int x6)]) hx hb dX9_meeters_75 hl (by decide) rfl (fun ls hl => ?_)
            refine lv_iinc (v := (x3 + (1 : Int32))) (lv' := [(3, .int (x3 + (1 : Int32))), (4, .int (((10 : Int32) * x5) + x6)), (0, .ref (a 0)), (1, .int x1), (2, .int x2), (5, .int x5), (6, .int x6)]) hx hb dX9_meeters_77 hl (k := 4) rfl rfl (by decide) rfl (fun ls hl => ?_)
            refine lv_iinc (v := (x6 + (1 : Int32))) (lv' := [(6, .int (x6 + (1 : Int32))), (3, .int (x3 + (1 : Int32))), (4, .int (((10 : Int32) * x5) + x6)), (0, .ref (a 0)), (1, .int x1), (2, .int x2), (5, .int x5)]) hx hb dX9_meeters_80 hl (k := 6) rfl rfl (by decide) rfl (fun ls hl => ?_)
            refine lv_goto (tgt := 39) hx hb dX9_meeters_83 (by decide) ?_
            exact KC _ _ _ (Option.some.inj h).symm _ _ _ (lv_sub hl [3, 4, 5, 1, 2, 6, 0] rfl) hG
  have L29 : ∀ (n : Nat) (x3 : Int32) (x4 : Int32) (x5 : Int32) (ex3 : Int32) (ex4 : Int32), DX9_meeters_L29 x1 c_homeFar c_days c_speeds n x3 x4 x5 = some (ex3, ex4) → (∀ (ls : Array Slot) (H : Heap) (locs : List Loc), lv_has ls 7 [(2, .int x2), (3, .int ex3), (4, .int ex4)] → G dC dI A H0 (W_X9 a cI cJ c_length c_text c_stands c_homeFar c_nets c_netAt c_netWide c_netFrom c_netTo c_priceX c_priceY c_many c_days c_aims c_speeds c_kinds c_keptMany c_undoMany c_undos c_spot c_told c_to c_stood c_home c_lost c_out c_fewest c_ways c_next c_held) H locs → W p l e (RM 2 49) s m args below meth c H locs 0 0 QQ (F0 m 92 ls [])) → ∀ (ls : Array Slot) (H : Heap) (locs : List Loc), lv_has ls 7 [(0, .ref (a 0)), (1, .int x1), (2, .int x2), (3, .int x3), (4, .int x4), (5, .int x5)] → G dC dI A H0 (W_X9 a cI cJ c_length c_text c_stands c_homeFar c_nets c_netAt c_netWide c_netFrom c_netTo c_priceX c_priceY c_many c_days c_aims c_speeds c_kinds c_keptMany c_undoMany c_undos c_spot c_told c_to c_stood c_home c_lost c_out c_fewest c_ways c_next c_held) H locs → W p l e (RM 2 49) s m args below meth c H locs 0 0 QQ (F0 m 29 ls []) := by
    intro  n
    induction n with
    | zero => intro x3 x4 x5 ex3 ex4 h; exact it_zero h
    | succ n ih =>
      intro x3 x4 x5 ex3 ex4 h0 K0 ls H locs hl hG
      obtain ⟨w, h, hi, hr⟩ := it_succ h0
      have h : DX9_meeters_L29s x1 c_homeFar c_days c_speeds x3 x4 x5 = some w := h
      have KC : ∀ (x3 : Int32) (x4 : Int32) (x5 : Int32), w = .inl (x3, x4, x5) → ∀ (ls : Array Slot) (H : Heap) (locs : List Loc), lv_has ls 7 [(0, .ref (a 0)), (1, .int x1), (2, .int x2), (3, .int x3), (4, .int x4), (5, .int x5)] → G dC dI A H0 (W_X9 a cI cJ c_length c_text c_stands c_homeFar c_nets c_netAt c_netWide c_netFrom c_netTo c_priceX c_priceY c_many c_days c_aims c_speeds c_kinds c_keptMany c_undoMany c_undos c_spot c_told c_to c_stood c_home c_lost c_out c_fewest c_ways c_next c_held) H locs → W p l e (RM 2 49) s m args below meth c H locs 0 0 QQ (F0 m 29 ls []) := fun b0 b1 b2 e ls H locs hl hG => ih b0 b1 b2 ex3 ex4 (hi _ e) K0 ls H locs hl hG
      have KX : ∀ (x3 : Int32) (x4 : Int32), w = .inr (x3, x4) → ∀ (ls : Array Slot) (H : Heap) (locs : List Loc), lv_has ls 7 [(2, .int x2), (3, .int x3), (4, .int x4)] → G dC dI A H0 (W_X9 a cI cJ c_length c_text c_stands c_homeFar c_nets c_netAt c_netWide c_netFrom c_netTo c_priceX c_priceY c_many c_days c_aims c_speeds c_kinds c_keptMany c_undoMany c_undos c_spot c_told c_to c_stood c_home c_lost c_out c_fewest c_ways c_next c_held) H locs → W p l e (RM 2 49) s m args below meth c H locs 0 0 QQ (F0 m 92 ls []) := fun b0 b1 e ls H locs hl hG => by cases hr _ e; exact K0 ls H locs hl hG
      clear h0 hi hr K0 ih
      unfold DX9_meeters_L29s at h
      refine lv_iload hx hb dX9_meeters_29 (lv_at hl 5 rfl) ?_
      refine lv_bipush (v := (40 : Int32)) hx hb dX9_meeters_31 (by decide) ?_
      refine lv_icmp_gt (tgt := 92) hx hb dX9_meeters_33 (by decide) (fun c_7 => ?_) (fun c_7 => ?_)
      · have h := ite_t h c_7
        exact KX _ _ (Option.some.inj h).symm _ _ _ (lv_sub hl [2, 3, 4] rfl) hG
      · have h := ite_f h c_7
        refine lv_iconst (v := (1 : Int32)) hx hb dX9_meeters_36 (by decide) ?_
        refine lv_istore (lv' := [(6, .int (1 : Int32)), (0, .ref (a 0)), (1, .int x1), (2, .int x2), (3, .int x3), (4, .int x4), (5, .int x5)]) hx hb dX9_meeters_37 hl (by decide) rfl (fun ls hl => ?_)
        obtain ⟨z3_13, z4_14, hz, h⟩ := bd2_some h
        refine L39 x5 FU x3 x4 (1 : Int32) _ _ hz (fun ls H locs hl hG => ?_) _ _ _ (lv_sub hl [1, 2, 3, 4, 5, 6, 0] rfl) hG
        clear hz
        refine lv_iinc (v := (x5 + (1 : Int32))) (lv' := [(5, .int (x5 + (1 : Int32))), (0, .ref (a 0)), (1, .int x1), (2, .int x2), (3, .int z3_13), (4, .int z4_14)]) hx hb dX9_meeters_86 hl (k := 5) rfl rfl (by decide) rfl (fun ls hl => ?_)
        refine lv_goto (tgt := 29) hx hb dX9_meeters_89 (by decide) ?_
        exact KC _ _ _ (Option.some.inj h).symm _ _ _ (lv_sub hl [1, 2, 3, 4, 5, 0] rfl) hG
  have h := hD
  unfold DX9_meeters at h
  clear hD
  refine lv_aload_n hx hb dX9_meeters_0 rfl (lv_at hl 0 rfl) ?_
  refine lv_iload_n hx hb dX9_meeters_1 rfl (lv_at hl 1 rfl) ?_
  obtain ⟨r_1, hz_2, h⟩ := bd1_some h
  refine aft_i1 (run_V1 (rest := []) X hG hl.1 (mX9_isThrow l dC dI cI cJ a c_length c_text c_stands c_homeFar c_nets c_netAt c_netWide c_netFrom c_netTo c_priceX c_priceY c_many c_days c_aims c_speeds c_kinds c_keptMany c_undoMany c_undos c_spot c_told c_to c_stood c_home c_lost c_out c_fewest c_ways c_next c_held x1 hz_2) gi_V_X9_182 hd_V_yX9_isThrow ⟨rfl, rfl⟩ rfl ⟨Nat.le_of_ble_eq_true rfl, Nat.le_of_ble_eq_true rfl⟩ 0 rfl rfl rfl rfl (Nat.le_of_ble_eq_true rfl) ⟨Nat.le_of_ble_eq_true rfl, Nat.le_of_ble_eq_true rfl⟩ dX9_meeters_2) hG rfl (fun H locs hG => ?_)
  clear hz_2
  refine lv_if_eq (tgt := 18) hx hb dX9_meeters_5 (by decide) (fun c_3 => ?_) (fun c_3 => ?_)
  · have h := ite_t h c_3
    refine lv_iconst (v := (-1 : Int32)) hx hb dX9_meeters_18 (by decide) ?_
    cases h
    exact ret _ _ _ _ dX9_meeters_19 hG
  · have h := ite_f h c_3
    refine lv_iload_n hx hb dX9_meeters_8 rfl (lv_at hl 2 rfl) ?_
    refine lv_i2l (v := (x2.toInt64)) hx hb dX9_meeters_9 rfl ?_
    refine lv_lconst (v := (0 : Int64)) hx hb dX9_meeters_10 (by decide) ?_
    refine lv_lconst (v := (1 : Int64)) hx hb dX9_meeters_11 (by decide) ?_
    obtain ⟨r_4, hz_5, h⟩ := bd1_some h
    refine aft_i (ws' := (W_X9 a cI cJ c_length c_text c_stands c_homeFar c_nets c_netAt c_netWide c_netFrom c_netTo c_priceX c_priceY c_many c_days c_aims c_speeds c_kinds c_keptMany c_undoMany c_undos c_spot c_told c_to c_stood c_home c_lost c_out c_fewest c_ways c_next c_held)) (run_S (rest := []) X hG hl.1 (mX9_in l dC dI cI cJ (x2.toInt64) (0 : Int64) (1 : Int64) hz_5) gi_S_X9_92 hd_S_yX9_in ⟨rfl, rfl⟩ rfl ⟨Nat.le_of_ble_eq_true rfl, Nat.le_of_ble_eq_true rfl⟩ [] (by decide) rfl rfl (Nat.le_of_ble_eq_true rfl) ⟨Nat.le_of_ble_eq_true rfl, Nat.le_of_ble_eq_true rfl⟩ dX9_meeters_12) hG [] rfl rfl rfl (fun H locs hG => ?_)
    clear hz_5
    refine lv_if_ne (tgt := 20) hx hb dX9_meeters_15 (by decide) (fun c_6 => ?_) (fun c_6 => ?_)
    · have h := ite_f h c_6
      refine lv_iconst (v := (0 : Int32)) hx hb dX9_meeters_20 (by decide) ?_
      refine lv_istore_n (lv' := [(3, .int (0 : Int32)), (0, .ref (a 0)), (1, .int x1), (2, .int x2)]) hx hb dX9_meeters_21 rfl hl (by decide) rfl (fun ls hl => ?_)
      refine lv_bipush (v := (-4 : Int32)) hx hb dX9_meeters_22 (by decide) ?_
      refine lv_istore (lv' := [(4, .int (-4 : Int32)), (3, .int (0 : Int32)), (0, .ref (a 0)), (1, .int x1), (2, .int x2)]) hx hb dX9_meeters_24 hl (by decide) rfl (fun ls hl => ?_)
      refine lv_iconst (v := (0 : Int32)) hx hb dX9_meeters_26 (by decide) ?_
      refine lv_istore (lv' := [(5, .int (0 : Int32)), (4, .int (-4 : Int32)), (3, .int (0 : Int32)), (0, .ref (a 0)), (1, .int x1), (2, .int x2)]) hx hb dX9_meeters_27 hl (by decide) rfl (fun ls hl => ?_)
      obtain ⟨z3_15, z4_16, hz, h⟩ := bd2_some h
      refine L29  FU (0 : Int32) (-4 : Int32) (0 : Int32) _ _ hz (fun ls H locs hl hG => ?_) _ _ _ (lv_sub hl [3, 4, 5, 2, 1, 0] rfl) hG
      clear hz
      refine lv_iload_n hx hb dX9_meeters_92 rfl (lv_at hl 0 rfl) ?_
      refine lv_if_ne (tgt := 100) hx hb dX9_meeters_93 (by decide) (fun c_17 => ?_) (fun c_17 => ?_)
      · have h := ite_f h c_17
        refine lv_iload hx hb dX9_meeters_100 (lv_at hl 2 rfl) ?_
        cases h
        exact ret _ _ _ _ dX9_meeters_102 hG
      · have h := ite_t h c_17
        refine lv_iload_n hx hb dX9_meeters_96 rfl (lv_at hl 1 rfl) ?_
        refine lv_goto (tgt := 102) hx hb dX9_meeters_97 (by decide) ?_
        cases h
        exact ret _ _ _ _ dX9_meeters_102 hG
    · have h := ite_t h c_6
      refine lv_iconst (v := (-1 : Int32)) hx hb dX9_meeters_18 (by decide) ?_
      cases h
      exact ret _ _ _ _ dX9_meeters_19 hG
set_option maxRecDepth 100000 in
set_option maxHeartbeats 4000000 in
theorem mX9_stand (l : Launch) (dC : Nat → ClassId) (dI : Nat → Nat → Nat) (cI cJ : ClassId) (a : Nat → Nat) (c_length : Int32) (c_text : Nat → Int32) (c_stands : Nat → Int32) (c_homeFar : Nat → Int32) (c_nets : Nat → Int32) (c_netAt : Nat → Int32) (c_netWide : Nat → Int32) (c_netFrom : Nat → Int32) (c_netTo : Nat → Int32) (c_priceX : Nat → Int32) (c_priceY : Nat → Int32) (c_many : Nat → Int32) (c_days : Nat → Int32) (c_aims : Nat → Int32) (c_speeds : Nat → Int32) (c_kinds : Nat → Int32) (c_keptMany : Int32) (c_undoMany : Int32) (c_undos : Nat → Int32) (c_spot : Int32) (c_told : Nat → Int32) (c_to : Nat → Int32) (c_stood : Nat → Int32) (c_home : Nat → Int32) (c_lost : Nat → Int32) (c_out : Int32) (c_fewest : Nat → Int32) (c_ways : Nat → Int64) (c_next : Nat → Int64) (c_held : Nat → Int32) (x1 : Int32) (x2 : Int32) (x3 : Int32) {res : Int32} {n_to : Nat → Int32} {n_stood : Nat → Int32} {n_out : Int32} {n_fewest : Nat → Int32} (hD : DX9_stand x1 x2 x3 c_stands c_many c_days c_aims c_speeds c_kinds c_to c_stood c_out c_fewest = some (res, n_to, n_stood, n_out, n_fewest)) : Met l yX9_stand (WZ yX9_stand cX9_stand 8 (some .int)) (RM 2 45) (PC dC dI cI cJ [.ref (a 0), .int x1, .int x2, .int x3] (W_X9 a cI cJ c_length c_text c_stands c_homeFar c_nets c_netAt c_netWide c_netFrom c_netTo c_priceX c_priceY c_many c_days c_aims c_speeds c_kinds c_keptMany c_undoMany c_undos c_spot c_told c_to c_stood c_home c_lost c_out c_fewest c_ways c_next c_held)) (QI dC dI (W_X9 a cI cJ c_length c_text c_stands c_homeFar c_nets c_netAt c_netWide c_netFrom c_netTo c_priceX c_priceY c_many c_days c_aims c_speeds c_kinds c_keptMany c_undoMany c_undos c_spot c_told c_to c_stood c_home c_lost c_out c_fewest c_ways c_next c_held) (W_X9 a cI cJ c_length c_text c_stands c_homeFar c_nets c_netAt c_netWide c_netFrom c_netTo c_priceX c_priceY c_many c_days c_aims c_speeds c_kinds c_keptMany c_undoMany c_undos c_spot c_told n_to n_stood c_home c_lost n_out n_fewest c_ways c_next c_held) res) 0 0 (FA (W_X9 a cI cJ c_length c_text c_stands c_homeFar c_nets c_netAt c_netWide c_netFrom c_netTo c_priceX c_priceY c_many c_days c_aims c_speeds c_kinds c_keptMany c_undoMany c_undos c_spot c_told c_to c_stood c_home c_lost c_out c_fewest c_ways c_next c_held)) := by
  refine r_metI (by decide +kernel) (Nat.le_of_ble_eq_true rfl) ?_
  intro p e s m args below meth c A H0 QQ X ret ls hl hG
  have X : Cx p m c cX9_stand 8 s args RX9 dC dI cI cJ meth (some .int) := X
  have hx := X.1.1
  have hb := X.1.2.1
  have hl : lv_has ls 8 [(0, .ref (a 0)), (1, .int x1), (2, .int x2), (3, .int x3)] := hl
  have L39 : ∀ (c_to : Nat → Int32) (c_stood : Nat → Int32) (c_out : Int32), ∀ (n : Nat) (x4 : Int32) (c_fewest : Nat → Int32) (ec_fewest : Nat → Int32), DX9_stand_L39 x1 n x4 c_fewest = some ec_fewest → (∀ (ls : Array Slot) (H : Heap) (locs : List Loc), lv_has ls 8 [(0, .ref (a 0)), (2, .int x2), (3, .int x3)] → G dC dI A H0 (W_X9 a cI cJ c_length c_text c_stands c_homeFar c_nets c_netAt c_netWide c_netFrom c_netTo c_priceX c_priceY c_many c_days c_aims c_speeds c_kinds c_keptMany c_undoMany c_undos c_spot c_told c_to c_stood c_home c_lost c_out ec_fewest c_ways c_next c_held) H locs → W p l e (RM 2 45) s m args below meth c H locs 0 0 QQ (F0 m 72 ls [])) → ∀ (ls : Array Slot) (H : Heap) (locs : List Loc), lv_has ls 8 [(0, .ref (a 0)), (1, .int x1), (2, .int x2), (3, .int x3), (4, .int x4)] → G dC dI A H0 (W_X9 a cI cJ c_length c_text c_stands c_homeFar c_nets c_netAt c_netWide c_netFrom c_netTo c_priceX c_priceY c_many c_days c_aims c_speeds c_kinds c_keptMany c_undoMany c_undos c_spot c_told c_to c_stood c_home c_lost c_out c_fewest c_ways c_next c_held) H locs → W p l e (RM 2 45) s m args below meth c H locs 0 0 QQ (F0 m 39 ls []) := by
    intro c_to c_stood c_out n
    induction n with
    | zero => intro x4 c_fewest ec_fewest h; exact it_zero h
    | succ n ih =>
      intro x4 c_fewest ec_fewest h0 K0 ls H locs hl hG
      obtain ⟨w, h, hi, hr⟩ := it_succ h0
      have h : DX9_stand_L39s x1 x4 c_fewest = some w := h
      have KC : ∀ (x4 : Int32) (c_fewest : Nat → Int32), w = .inl (x4, c_fewest) → ∀ (ls : Array Slot) (H : Heap) (locs : List Loc), lv_has ls 8 [(0, .ref (a 0)), (1, .int x1), (2, .int x2), (3, .int x3), (4, .int x4)] → G dC dI A H0 (W_X9 a cI cJ c_length c_text c_stands c_homeFar c_nets c_netAt c_netWide c_netFrom c_netTo c_priceX c_priceY c_many c_days c_aims c_speeds c_kinds c_keptMany c_undoMany c_undos c_spot c_told c_to c_stood c_home c_lost c_out c_fewest c_ways c_next c_held) H locs → W p l e (RM 2 45) s m args below meth c H locs 0 0 QQ (F0 m 39 ls []) := fun b0 b1 e ls H locs hl hG => ih b0 b1 ec_fewest (hi _ e) K0 ls H locs hl hG
      have KX : ∀ (c_fewest : Nat → Int32), w = .inr c_fewest → ∀ (ls : Array Slot) (H : Heap) (locs : List Loc), lv_has ls 8 [(0, .ref (a 0)), (2, .int x2), (3, .int x3)] → G dC dI A H0 (W_X9 a cI cJ c_length c_text c_stands c_homeFar c_nets c_netAt c_netWide c_netFrom c_netTo c_priceX c_priceY c_many c_days c_aims c_speeds c_kinds c_keptMany c_undoMany c_undos c_spot c_told c_to c_stood c_home c_lost c_out c_fewest c_ways c_next c_held) H locs → W p l e (RM 2 45) s m args below meth c H locs 0 0 QQ (F0 m 72 ls []) := fun b0 e ls H locs hl hG => by cases hr _ e; exact K0 ls H locs hl hG
      clear h0 hi hr K0 ih
      unfold DX9_stand_L39s at h
      refine lv_iload hx hb dX9_stand_39 (lv_at hl 4 rfl) ?_
      refine lv_bipush (v := (24 : Int32)) hx hb dX9_stand_41 (by decide) ?_
      refine lv_icmp_ge (tgt := 72) hx hb dX9_stand_43 (by decide) (fun c_10 => ?_) (fun c_10 => ?_)
      · have h := ite_t h c_10
        exact KX _ (Option.some.inj h).symm _ _ _ (lv_sub hl [0, 2, 3] rfl) hG
      · have h := ite_f h c_10
        refine lv_aload_n hx hb dX9_stand_46 rfl (lv_at hl 0 rfl) ?_
        refine r_get X hG in_X9 rfl 26 (by decide) w_657 0 rfl rfl dX9_stand_47 ?_
        refine lv_iload hx hb dX9_stand_50 (lv_at hl 4 rfl) ?_
        refine lv_iload hx hb dX9_stand_52 (lv_at hl 4 rfl) ?_
        refine lv_iload_n hx hb dX9_stand_54 rfl (lv_at hl 1 rfl) ?_
        refine lv_icmp_ne (tgt := 62) hx hb dX9_stand_55 (by decide) (fun c_11 => ?_) (fun c_11 => ?_)
        · have h := ite_f h c_11
          refine lv_sipush (v := (10000 : Int32)) hx hb dX9_stand_62 (by decide) ?_
          obtain ⟨g_12, h⟩ := gd h
          refine r_iast X hG 22 (ws' := (W_X9 a cI cJ c_length c_text c_stands c_homeFar c_nets c_netAt c_netWide c_netFrom c_netTo c_priceX c_priceY c_many c_days c_aims c_speeds c_kinds c_keptMany c_undoMany c_undos c_spot c_told c_to c_stood c_home c_lost c_out (upd c_fewest x4.toNatClampNeg (10000 : Int32)) c_ways c_next c_held)) rfl g_12 rfl dX9_stand_65 (fun H locs hG => ?_)
          refine lv_iinc (v := (x4 + (1 : Int32))) (lv' := [(4, .int (x4 + (1 : Int32))), (0, .ref (a 0)), (1, .int x1), (2, .int x2), (3, .int x3)]) hx hb dX9_stand_66 hl (k := 4) rfl rfl (by decide) rfl (fun ls hl => ?_)
          refine lv_goto (tgt := 39) hx hb dX9_stand_69 (by decide) ?_
          exact KC _ _ (Option.some.inj h).symm _ _ _ (lv_sub hl [1, 2, 3, 4, 0] rfl) hG
        · have h := ite_t h c_11
          refine lv_iconst (v := (0 : Int32)) hx hb dX9_stand_58 (by decide) ?_
          refine lv_goto (tgt := 65) hx hb dX9_stand_59 (by decide) ?_
          obtain ⟨g_13, h⟩ := gd h
          refine r_iast X hG 22 (ws' := (W_X9 a cI cJ c_length c_text c_stands c_homeFar c_nets c_netAt c_netWide c_netFrom c_netTo c_priceX c_priceY c_many c_days c_aims c_speeds c_kinds c_keptMany c_undoMany c_undos c_spot c_told c_to c_stood c_home c_lost c_out (upd c_fewest x4.toNatClampNeg (0 : Int32)) c_ways c_next c_held)) rfl g_13 rfl dX9_stand_65 (fun H locs hG => ?_)
          refine lv_iinc (v := (x4 + (1 : Int32))) (lv' := [(4, .int (x4 + (1 : Int32))), (0, .ref (a 0)), (1, .int x1), (2, .int x2), (3, .int x3)]) hx hb dX9_stand_66 hl (k := 4) rfl rfl (by decide) rfl (fun ls hl => ?_)
          refine lv_goto (tgt := 39) hx hb dX9_stand_69 (by decide) ?_
          exact KC _ _ (Option.some.inj h).symm _ _ _ (lv_sub hl [1, 2, 3, 4, 0] rfl) hG
  have J134 : ∀ (y0 : Int32) (x4 : Int32) (x5 : Int32) (x6 : Int32) (c_to : Nat → Int32) (c_stood : Nat → Int32) (c_out : Int32) (c_fewest : Nat → Int32), ∀ (w : (Int32 × (Nat → Int32)) ⊕ ((Nat → Int32))), DX9_stand_J134 c_fewest y0 x5 x6 = some w → (∀ (x6 : Int32) (c_fewest : Nat → Int32), w = .inl (x6, c_fewest) → ∀ (ls : Array Slot) (H : Heap) (locs : List Loc), lv_has ls 8 [(0, .ref (a 0)), (2, .int x2), (3, .int x3), (4, .int x4), (5, .int x5), (6, .int x6)] → G dC dI A H0 (W_X9 a cI cJ c_length c_text c_stands c_homeFar c_nets c_netAt c_netWide c_netFrom c_netTo c_priceX c_priceY c_many c_days c_aims c_speeds c_kinds c_keptMany c_undoMany c_undos c_spot c_told c_to c_stood c_home c_lost c_out c_fewest c_ways c_next c_held) H locs → W p l e (RM 2 45) s m args below meth c H locs 0 0 QQ (F0 m 95 ls [])) → (∀ (c_fewest : Nat → Int32), w = .inr c_fewest → ∀ (ls : Array Slot) (H : Heap) (locs : List Loc), lv_has ls 8 [(0, .ref (a 0)), (2, .int x2), (3, .int x3), (4, .int x4), (5, .int x5)] → G dC dI A H0 (W_X9 a cI cJ c_length c_text c_stands c_homeFar c_nets c_netAt c_netWide c_netFrom c_netTo c_priceX c_priceY c_many c_days c_aims c_speeds c_kinds c_keptMany c_undoMany c_undos c_spot c_told c_to c_stood c_home c_lost c_out c_fewest c_ways c_next c_held) H locs → W p l e (RM 2 45) s m args below meth c H locs 0 0 QQ (F0 m 173 ls [])) → ∀ (ls : Array Slot) (H : Heap) (locs : List Loc), lv_has ls 8 [(0, .ref (a 0)), (2, .int x2), (3, .int x3), (4, .int x4), (5, .int x5), (6, .int x6)] → G dC dI A H0 (W_X9 a cI cJ c_length c_text c_stands c_homeFar c_nets c_netAt c_netWide c_netFrom c_netTo c_priceX c_priceY c_many c_days c_aims c_speeds c_kinds c_keptMany c_undoMany c_undos c_spot c_told c_to c_stood c_home c_lost c_out c_fewest c_ways c_next c_held) H locs → W p l e (RM 2 45) s m args below meth c H locs 0 0 QQ (F0 m 134 ls [.int y0]) := by
    intro y0 x4 x5 x6 c_to c_stood c_out c_fewest w h KC KX ls H locs hl hG
    unfold DX9_stand_J134 at h
    refine lv_istore (lv' := [(7, .int y0), (0, .ref (a 0)), (2, .int x2), (3, .int x3), (4, .int x4), (5, .int x5), (6, .int x6)]) hx hb dX9_stand_134 hl (by decide) rfl (fun ls hl => ?_)
    refine lv_aload_n hx hb dX9_stand_136 rfl (lv_at hl 1 rfl) ?_
    refine r_get X hG in_X9 rfl 26 (by decide) w_657 0 rfl rfl dX9_stand_137 ?_
    refine lv_iload hx hb dX9_stand_140 (lv_at hl 5 rfl) ?_
    refine lv_iload hx hb dX9_stand_142 (lv_at hl 0 rfl) ?_
    refine lv_aload_n hx hb dX9_stand_144 rfl (lv_at hl 1 rfl) ?_
    refine r_get X hG in_X9 rfl 26 (by decide) w_657 0 rfl rfl dX9_stand_145 ?_
    refine lv_iload hx hb dX9_stand_148 (lv_at hl 5 rfl) ?_
    obtain ⟨g_21, h⟩ := gd h
    refine r_iald X hG 22 rfl g_21 dX9_stand_150 ?_
    refine lv_icmp_ge (tgt := 159) hx hb dX9_stand_151 (by decide) (fun c_22 => ?_) (fun c_22 => ?_)
    · have h := ite_t h c_22
      refine lv_aload_n hx hb dX9_stand_159 rfl (lv_at hl 1 rfl) ?_
      refine r_get X hG in_X9 rfl 26 (by decide) w_657 0 rfl rfl dX9_stand_160 ?_
      refine lv_iload hx hb dX9_stand_163 (lv_at hl 5 rfl) ?_
      obtain ⟨g_23, h⟩ := gd h
      refine r_iald X hG 22 rfl g_23 dX9_stand_165 ?_
      obtain ⟨g_24, h⟩ := gd h
      refine r_iast X hG 22 (ws' := (W_X9 a cI cJ c_length c_text c_stands c_homeFar c_nets c_netAt c_netWide c_netFrom c_netTo c_priceX c_priceY c_many c_days c_aims c_speeds c_kinds c_keptMany c_undoMany c_undos c_spot c_told c_to c_stood c_home c_lost c_out (upd c_fewest x5.toNatClampNeg (c_fewest x5.toNatClampNeg)) c_ways c_next c_held)) rfl g_24 rfl dX9_stand_166 (fun H locs hG => ?_)
      refine lv_iinc (v := (x6 + (1 : Int32))) (lv' := [(6, .int (x6 + (1 : Int32))), (7, .int y0), (0, .ref (a 0)), (2, .int x2), (3, .int x3), (4, .int x4), (5, .int x5)]) hx hb dX9_stand_167 hl (k := 6) rfl rfl (by decide) rfl (fun ls hl => ?_)
      refine lv_goto (tgt := 95) hx hb dX9_stand_170 (by decide) ?_
      exact KC _ _ (Option.some.inj h).symm _ _ _ (lv_sub hl [2, 3, 4, 5, 6, 0] rfl) hG
    · have h := ite_f h c_22
      refine lv_iload hx hb dX9_stand_154 (lv_at hl 0 rfl) ?_
      refine lv_goto (tgt := 166) hx hb dX9_stand_156 (by decide) ?_
      obtain ⟨g_25, h⟩ := gd h
      refine r_iast X hG 22 (ws' := (W_X9 a cI cJ c_length c_text c_stands c_homeFar c_nets c_netAt c_netWide c_netFrom c_netTo c_priceX c_priceY c_many c_days c_aims c_speeds c_kinds c_keptMany c_undoMany c_undos c_spot c_told c_to c_stood c_home c_lost c_out (upd c_fewest x5.toNatClampNeg y0) c_ways c_next c_held)) rfl g_25 rfl dX9_stand_166 (fun H locs hG => ?_)
      refine lv_iinc (v := (x6 + (1 : Int32))) (lv' := [(6, .int (x6 + (1 : Int32))), (7, .int y0), (0, .ref (a 0)), (2, .int x2), (3, .int x3), (4, .int x4), (5, .int x5)]) hx hb dX9_stand_167 hl (k := 6) rfl rfl (by decide) rfl (fun ls hl => ?_)
      refine lv_goto (tgt := 95) hx hb dX9_stand_170 (by decide) ?_
      exact KC _ _ (Option.some.inj h).symm _ _ _ (lv_sub hl [2, 3, 4, 5, 6, 0] rfl) hG
  have L95 : ∀ (x4 : Int32) (x5 : Int32) (c_to : Nat → Int32) (c_stood : Nat → Int32) (c_out : Int32), ∀ (n : Nat) (x6 : Int32) (c_fewest : Nat → Int32) (ec_fewest : Nat → Int32), DX9_stand_L95 x2 x5 n x6 c_fewest = some ec_fewest → (∀ (ls : Array Slot) (H : Heap) (locs : List Loc), lv_has ls 8 [(0, .ref (a 0)), (2, .int x2), (3, .int x3), (4, .int x4), (5, .int x5)] → G dC dI A H0 (W_X9 a cI cJ c_length c_text c_stands c_homeFar c_nets c_netAt c_netWide c_netFrom c_netTo c_priceX c_priceY c_many c_days c_aims c_speeds c_kinds c_keptMany c_undoMany c_undos c_spot c_told c_to c_stood c_home c_lost c_out ec_fewest c_ways c_next c_held) H locs → W p l e (RM 2 45) s m args below meth c H locs 0 0 QQ (F0 m 173 ls [])) → ∀ (ls : Array Slot) (H : Heap) (locs : List Loc), lv_has ls 8 [(0, .ref (a 0)), (2, .int x2), (3, .int x3), (4, .int x4), (5, .int x5), (6, .int x6)] → G dC dI A H0 (W_X9 a cI cJ c_length c_text c_stands c_homeFar c_nets c_netAt c_netWide c_netFrom c_netTo c_priceX c_priceY c_many c_days c_aims c_speeds c_kinds c_keptMany c_undoMany c_undos c_spot c_told c_to c_stood c_home c_lost c_out c_fewest c_ways c_next c_held) H locs → W p l e (RM 2 45) s m args below meth c H locs 0 0 QQ (F0 m 95 ls []) := by
    intro x4 x5 c_to c_stood c_out n
    induction n with
    | zero => intro x6 c_fewest ec_fewest h; exact it_zero h
    | succ n ih =>
      intro x6 c_fewest ec_fewest h0 K0 ls H locs hl hG
      obtain ⟨w, h, hi, hr⟩ := it_succ h0
      have h : DX9_stand_L95s x2 x5 x6 c_fewest = some w := h
      have KC : ∀ (x6 : Int32) (c_fewest : Nat → Int32), w = .inl (x6, c_fewest) → ∀ (ls : Array Slot) (H : Heap) (locs : List Loc), lv_has ls 8 [(0, .ref (a 0)), (2, .int x2), (3, .int x3), (4, .int x4), (5, .int x5), (6, .int x6)] → G dC dI A H0 (W_X9 a cI cJ c_length c_text c_stands c_homeFar c_nets c_netAt c_netWide c_netFrom c_netTo c_priceX c_priceY c_many c_days c_aims c_speeds c_kinds c_keptMany c_undoMany c_undos c_spot c_told c_to c_stood c_home c_lost c_out c_fewest c_ways c_next c_held) H locs → W p l e (RM 2 45) s m args below meth c H locs 0 0 QQ (F0 m 95 ls []) := fun b0 b1 e ls H locs hl hG => ih b0 b1 ec_fewest (hi _ e) K0 ls H locs hl hG
      have KX : ∀ (c_fewest : Nat → Int32), w = .inr c_fewest → ∀ (ls : Array Slot) (H : Heap) (locs : List Loc), lv_has ls 8 [(0, .ref (a 0)), (2, .int x2), (3, .int x3), (4, .int x4), (5, .int x5)] → G dC dI A H0 (W_X9 a cI cJ c_length c_text c_stands c_homeFar c_nets c_netAt c_netWide c_netFrom c_netTo c_priceX c_priceY c_many c_days c_aims c_speeds c_kinds c_keptMany c_undoMany c_undos c_spot c_told c_to c_stood c_home c_lost c_out c_fewest c_ways c_next c_held) H locs → W p l e (RM 2 45) s m args below meth c H locs 0 0 QQ (F0 m 173 ls []) := fun b0 e ls H locs hl hG => by cases hr _ e; exact K0 ls H locs hl hG
      clear h0 hi hr K0 ih
      unfold DX9_stand_L95s at h
      refine lv_iload hx hb dX9_stand_95 (lv_at hl 5 rfl) ?_
      refine lv_bipush (v := (6 : Int32)) hx hb dX9_stand_97 (by decide) ?_
      refine lv_icmp_gt (tgt := 173) hx hb dX9_stand_99 (by decide) (fun c_17 => ?_) (fun c_17 => ?_)
      · have h := ite_t h c_17
        exact KX _ (Option.some.inj h).symm _ _ _ (lv_sub hl [0, 1, 2, 3, 4] rfl) hG
      · have h := ite_f h c_17
        refine lv_iload_n hx hb dX9_stand_102 rfl (lv_at hl 1 rfl) ?_
        refine lv_iload hx hb dX9_stand_103 (lv_at hl 5 rfl) ?_
        refine lv_iconst (v := (1 : Int32)) hx hb dX9_stand_105 (by decide) ?_
        refine lv_isub hx hb dX9_stand_106 ?_
        obtain ⟨r_18, hz_19, h⟩ := bd1_some h
        refine aft_i (ws' := (W_X9 a cI cJ c_length c_text c_stands c_homeFar c_nets c_netAt c_netWide c_netFrom c_netTo c_priceX c_priceY c_many c_days c_aims c_speeds c_kinds c_keptMany c_undoMany c_undos c_spot c_told c_to c_stood c_home c_lost c_out c_fewest c_ways c_next c_held)) (run_S (rest := []) X hG hl.1 (mX9_has l dC dI cI cJ x2 (x6 - (1 : Int32)) hz_19) gi_S_X9_144 hd_S_yX9_has ⟨rfl, rfl⟩ rfl ⟨Nat.le_of_ble_eq_true rfl, Nat.le_of_ble_eq_true rfl⟩ [] (by decide) rfl rfl (Nat.le_of_ble_eq_true rfl) ⟨Nat.le_of_ble_eq_true rfl, Nat.le_of_ble_eq_true rfl⟩ dX9_stand_107) hG [] rfl rfl rfl (fun H locs hG => ?_)
        clear hz_19
        refine lv_if_eq (tgt := 131) hx hb dX9_stand_110 (by decide) (fun c_20 => ?_) (fun c_20 => ?_)
        · have h := ite_t h c_20
          refine lv_sipush (v := (10000 : Int32)) hx hb dX9_stand_131 (by decide) ?_
          exact J134 (10000 : Int32) x4 x5 x6 c_to c_stood c_out c_fewest _ h KC KX _ _ _ (lv_sub hl [0, 1, 2, 3, 4, 5] rfl) hG
        · have h := ite_f h c_20
          refine lv_aload_n hx hb dX9_stand_113 rfl (lv_at hl 0 rfl) ?_
          refine r_get X hG in_X9 rfl 26 (by decide) w_657 0 rfl rfl dX9_stand_114 ?_
          refine lv_iload hx hb dX9_stand_117 (lv_at hl 4 rfl) ?_
          refine lv_iload hx hb dX9_stand_119 (lv_at hl 5 rfl) ?_
          refine lv_isub hx hb dX9_stand_121 ?_
          obtain ⟨r_26, hz_27, h⟩ := bd1_some h
          refine aft_i (ws' := (W_X9 a cI cJ c_length c_text c_stands c_homeFar c_nets c_netAt c_netWide c_netFrom c_netTo c_priceX c_priceY c_many c_days c_aims c_speeds c_kinds c_keptMany c_undoMany c_undos c_spot c_told c_to c_stood c_home c_lost c_out c_fewest c_ways c_next c_held)) (run_S (rest := [.ref (a 22)]) X hG hl.1 (mX9_around l dC dI cI cJ (x5 - x6) hz_27) gi_S_X9_148 hd_S_yX9_around ⟨rfl, rfl⟩ rfl ⟨Nat.le_of_ble_eq_true rfl, Nat.le_of_ble_eq_true rfl⟩ [] (by decide) rfl rfl (Nat.le_of_ble_eq_true rfl) ⟨Nat.le_of_ble_eq_true rfl, Nat.le_of_ble_eq_true rfl⟩ dX9_stand_122) hG [] rfl rfl rfl (fun H locs hG => ?_)
          clear hz_27
          obtain ⟨g_28, h⟩ := gd h
          refine r_iald X hG 22 rfl g_28 dX9_stand_125 ?_
          refine lv_iconst (v := (1 : Int32)) hx hb dX9_stand_126 (by decide) ?_
          refine lv_iadd hx hb dX9_stand_127 ?_
          refine lv_goto (tgt := 134) hx hb dX9_stand_128 (by decide) ?_
          exact J134 ((c_fewest r_26.toNatClampNeg) + (1 : Int32)) x4 x5 x6 c_to c_stood c_out c_fewest _ h KC KX _ _ _ (lv_sub hl [0, 1, 2, 3, 4, 5] rfl) hG
  have L85 : ∀ (x4 : Int32) (c_to : Nat → Int32) (c_stood : Nat → Int32) (c_out : Int32), ∀ (n : Nat) (x5 : Int32) (c_fewest : Nat → Int32) (ec_fewest : Nat → Int32), DX9_stand_L85 x2 n x5 c_fewest = some ec_fewest → (∀ (ls : Array Slot) (H : Heap) (locs : List Loc), lv_has ls 8 [(0, .ref (a 0)), (2, .int x2), (3, .int x3), (4, .int x4)] → G dC dI A H0 (W_X9 a cI cJ c_length c_text c_stands c_homeFar c_nets c_netAt c_netWide c_netFrom c_netTo c_priceX c_priceY c_many c_days c_aims c_speeds c_kinds c_keptMany c_undoMany c_undos c_spot c_told c_to c_stood c_home c_lost c_out ec_fewest c_ways c_next c_held) H locs → W p l e (RM 2 45) s m args below meth c H locs 0 0 QQ (F0 m 179 ls [])) → ∀ (ls : Array Slot) (H : Heap) (locs : List Loc), lv_has ls 8 [(0, .ref (a 0)), (2, .int x2), (3, .int x3), (4, .int x4), (5, .int x5)] → G dC dI A H0 (W_X9 a cI cJ c_length c_text c_stands c_homeFar c_nets c_netAt c_netWide c_netFrom c_netTo c_priceX c_priceY c_many c_days c_aims c_speeds c_kinds c_keptMany c_undoMany c_undos c_spot c_told c_to c_stood c_home c_lost c_out c_fewest c_ways c_next c_held) H locs → W p l e (RM 2 45) s m args below meth c H locs 0 0 QQ (F0 m 85 ls []) := by
    intro x4 c_to c_stood c_out n
    induction n with
    | zero => intro x5 c_fewest ec_fewest h; exact it_zero h
    | succ n ih =>
      intro x5 c_fewest ec_fewest h0 K0 ls H locs hl hG
      obtain ⟨w, h, hi, hr⟩ := it_succ h0
      have h : DX9_stand_L85s x2 x5 c_fewest = some w := h
      have KC : ∀ (x5 : Int32) (c_fewest : Nat → Int32), w = .inl (x5, c_fewest) → ∀ (ls : Array Slot) (H : Heap) (locs : List Loc), lv_has ls 8 [(0, .ref (a 0)), (2, .int x2), (3, .int x3), (4, .int x4), (5, .int x5)] → G dC dI A H0 (W_X9 a cI cJ c_length c_text c_stands c_homeFar c_nets c_netAt c_netWide c_netFrom c_netTo c_priceX c_priceY c_many c_days c_aims c_speeds c_kinds c_keptMany c_undoMany c_undos c_spot c_told c_to c_stood c_home c_lost c_out c_fewest c_ways c_next c_held) H locs → W p l e (RM 2 45) s m args below meth c H locs 0 0 QQ (F0 m 85 ls []) := fun b0 b1 e ls H locs hl hG => ih b0 b1 ec_fewest (hi _ e) K0 ls H locs hl hG
      have KX : ∀ (c_fewest : Nat → Int32), w = .inr c_fewest → ∀ (ls : Array Slot) (H : Heap) (locs : List Loc), lv_has ls 8 [(0, .ref (a 0)), (2, .int x2), (3, .int x3), (4, .int x4)] → G dC dI A H0 (W_X9 a cI cJ c_length c_text c_stands c_homeFar c_nets c_netAt c_netWide c_netFrom c_netTo c_priceX c_priceY c_many c_days c_aims c_speeds c_kinds c_keptMany c_undoMany c_undos c_spot c_told c_to c_stood c_home c_lost c_out c_fewest c_ways c_next c_held) H locs → W p l e (RM 2 45) s m args below meth c H locs 0 0 QQ (F0 m 179 ls []) := fun b0 e ls H locs hl hG => by cases hr _ e; exact K0 ls H locs hl hG
      clear h0 hi hr K0 ih
      unfold DX9_stand_L85s at h
      refine lv_iload hx hb dX9_stand_85 (lv_at hl 4 rfl) ?_
      refine lv_bipush (v := (24 : Int32)) hx hb dX9_stand_87 (by decide) ?_
      refine lv_icmp_ge (tgt := 179) hx hb dX9_stand_89 (by decide) (fun c_16 => ?_) (fun c_16 => ?_)
      · have h := ite_t h c_16
        exact KX _ (Option.some.inj h).symm _ _ _ (lv_sub hl [0, 1, 2, 3] rfl) hG
      · have h := ite_f h c_16
        refine lv_iconst (v := (1 : Int32)) hx hb dX9_stand_92 (by decide) ?_
        refine lv_istore (lv' := [(6, .int (1 : Int32)), (0, .ref (a 0)), (2, .int x2), (3, .int x3), (4, .int x4), (5, .int x5)]) hx hb dX9_stand_93 hl (by decide) rfl (fun ls hl => ?_)
        obtain ⟨k_fewest_29, hz, h⟩ := bd1_some h
        refine L95 x4 x5 c_to c_stood c_out FU (1 : Int32) c_fewest _ hz (fun ls H locs hl hG => ?_) _ _ _ (lv_sub hl [1, 2, 3, 4, 5, 0] rfl) hG
        clear hz
        refine lv_iinc (v := (x5 + (1 : Int32))) (lv' := [(5, .int (x5 + (1 : Int32))), (0, .ref (a 0)), (2, .int x2), (3, .int x3), (4, .int x4)]) hx hb dX9_stand_173 hl (k := 4) rfl rfl (by decide) rfl (fun ls hl => ?_)
        refine lv_goto (tgt := 85) hx hb dX9_stand_176 (by decide) ?_
        exact KC _ _ (Option.some.inj h).symm _ _ _ (lv_sub hl [1, 2, 3, 4, 0] rfl) hG
  have L75 : ∀ (c_to : Nat → Int32) (c_stood : Nat → Int32) (c_out : Int32), ∀ (n : Nat) (x4 : Int32) (c_fewest : Nat → Int32) (ec_fewest : Nat → Int32), DX9_stand_L75 x2 n x4 c_fewest = some ec_fewest → (∀ (ls : Array Slot) (H : Heap) (locs : List Loc), lv_has ls 8 [(0, .ref (a 0)), (2, .int x2), (3, .int x3)] → G dC dI A H0 (W_X9 a cI cJ c_length c_text c_stands c_homeFar c_nets c_netAt c_netWide c_netFrom c_netTo c_priceX c_priceY c_many c_days c_aims c_speeds c_kinds c_keptMany c_undoMany c_undos c_spot c_told c_to c_stood c_home c_lost c_out ec_fewest c_ways c_next c_held) H locs → W p l e (RM 2 45) s m args below meth c H locs 0 0 QQ (F0 m 185 ls [])) → ∀ (ls : Array Slot) (H : Heap) (locs : List Loc), lv_has ls 8 [(0, .ref (a 0)), (2, .int x2), (3, .int x3), (4, .int x4)] → G dC dI A H0 (W_X9 a cI cJ c_length c_text c_stands c_homeFar c_nets c_netAt c_netWide c_netFrom c_netTo c_priceX c_priceY c_many c_days c_aims c_speeds c_kinds c_keptMany c_undoMany c_undos c_spot c_told c_to c_stood c_home c_lost c_out c_fewest c_ways c_next c_held) H locs → W p l e (RM 2 45) s m args below meth c H locs 0 0 QQ (F0 m 75 ls []) := by
    intro c_to c_stood c_out n
    induction n with
    | zero => intro x4 c_fewest ec_fewest h; exact it_zero h
    | succ n ih =>
      intro x4 c_fewest ec_fewest h0 K0 ls H locs hl hG
      obtain ⟨w, h, hi, hr⟩ := it_succ h0
      have h : DX9_stand_L75s x2 x4 c_fewest = some w := h
      have KC : ∀ (x4 : Int32) (c_fewest : Nat → Int32), w = .inl (x4, c_fewest) → ∀ (ls : Array Slot) (H : Heap) (locs : List Loc), lv_has ls 8 [(0, .ref (a 0)), (2, .int x2), (3, .int x3), (4, .int x4)] → G dC dI A H0 (W_X9 a cI cJ c_length c_text c_stands c_homeFar c_nets c_netAt c_netWide c_netFrom c_netTo c_priceX c_priceY c_many c_days c_aims c_speeds c_kinds c_keptMany c_undoMany c_undos c_spot c_told c_to c_stood c_home c_lost c_out c_fewest c_ways c_next c_held) H locs → W p l e (RM 2 45) s m args below meth c H locs 0 0 QQ (F0 m 75 ls []) := fun b0 b1 e ls H locs hl hG => ih b0 b1 ec_fewest (hi _ e) K0 ls H locs hl hG
      have KX : ∀ (c_fewest : Nat → Int32), w = .inr c_fewest → ∀ (ls : Array Slot) (H : Heap) (locs : List Loc), lv_has ls 8 [(0, .ref (a 0)), (2, .int x2), (3, .int x3)] → G dC dI A H0 (W_X9 a cI cJ c_length c_text c_stands c_homeFar c_nets c_netAt c_netWide c_netFrom c_netTo c_priceX c_priceY c_many c_days c_aims c_speeds c_kinds c_keptMany c_undoMany c_undos c_spot c_told c_to c_stood c_home c_lost c_out c_fewest c_ways c_next c_held) H locs → W p l e (RM 2 45) s m args below meth c H locs 0 0 QQ (F0 m 185 ls []) := fun b0 e ls H locs hl hG => by cases hr _ e; exact K0 ls H locs hl hG
      clear h0 hi hr K0 ih
      unfold DX9_stand_L75s at h
      refine lv_iload hx hb dX9_stand_75 (lv_at hl 3 rfl) ?_
      refine lv_bipush (v := (24 : Int32)) hx hb dX9_stand_77 (by decide) ?_
      refine lv_icmp_ge (tgt := 185) hx hb dX9_stand_79 (by decide) (fun c_15 => ?_) (fun c_15 => ?_)
      · have h := ite_t h c_15
        exact KX _ (Option.some.inj h).symm _ _ _ (lv_sub hl [0, 1, 2] rfl) hG
      · have h := ite_f h c_15
        refine lv_iconst (v := (0 : Int32)) hx hb dX9_stand_82 (by decide) ?_
        refine lv_istore (lv' := [(5, .int (0 : Int32)), (0, .ref (a 0)), (2, .int x2), (3, .int x3), (4, .int x4)]) hx hb dX9_stand_83 hl (by decide) rfl (fun ls hl => ?_)
        obtain ⟨k_fewest_30, hz, h⟩ := bd1_some h
        refine L85 x4 c_to c_stood c_out FU (0 : Int32) c_fewest _ hz (fun ls H locs hl hG => ?_) _ _ _ (lv_sub hl [1, 2, 3, 4, 0] rfl) hG
        clear hz
        refine lv_iinc (v := (x4 + (1 : Int32))) (lv' := [(4, .int (x4 + (1 : Int32))), (0, .ref (a 0)), (2, .int x2), (3, .int x3)]) hx hb dX9_stand_179 hl (k := 3) rfl rfl (by decide) rfl (fun ls hl => ?_)
        refine lv_goto (tgt := 75) hx hb dX9_stand_182 (by decide) ?_
        exact KC _ _ (Option.some.inj h).symm _ _ _ (lv_sub hl [1, 2, 3, 0] rfl) hG
  have L229 : ∀ (x4 : Int32) (c_to : Nat → Int32) (c_stood : Nat → Int32) (c_out : Int32) (c_fewest : Nat → Int32), ∀ (n : Nat) (x5 : Int32) (v : (Unit) ⊕ (Int32 × (Nat → Int32) × (Nat → Int32) × Int32 × (Nat → Int32))), DX9_stand_L229 x2 c_to c_stood c_out c_fewest x4 n x5 = some v → (v = .inl () → ∀ (ls : Array Slot) (H : Heap) (locs : List Loc), lv_has ls 8 [] → G dC dI A H0 (W_X9 a cI cJ c_length c_text c_stands c_homeFar c_nets c_netAt c_netWide c_netFrom c_netTo c_priceX c_priceY c_many c_days c_aims c_speeds c_kinds c_keptMany c_undoMany c_undos c_spot c_told c_to c_stood c_home c_lost c_out c_fewest c_ways c_next c_held) H locs → W p l e (RM 2 45) s m args below meth c H locs 0 0 QQ (F0 m 291 ls [])) → (∀ (r : Int32 × (Nat → Int32) × (Nat → Int32) × Int32 × (Nat → Int32)), v = .inr r → r = (res, n_to, n_stood, n_out, n_fewest)) → ∀ (ls : Array Slot) (H : Heap) (locs : List Loc), lv_has ls 8 [(0, .ref (a 0)), (2, .int x2), (4, .int x4), (5, .int x5)] → G dC dI A H0 (W_X9 a cI cJ c_length c_text c_stands c_homeFar c_nets c_netAt c_netWide c_netFrom c_netTo c_priceX c_priceY c_many c_days c_aims c_speeds c_kinds c_keptMany c_undoMany c_undos c_spot c_told c_to c_stood c_home c_lost c_out c_fewest c_ways c_next c_held) H locs → W p l e (RM 2 45) s m args below meth c H locs 0 0 QQ (F0 m 229 ls []) := by
    intro x4 c_to c_stood c_out c_fewest n
    induction n with
    | zero => intro x5 v h; exact it_zero h
    | succ n ih =>
      intro x5 v h0 K0 KR0 ls H locs hl hG
      obtain ⟨w, h, hi, hr⟩ := it_succ h0
      have h : DX9_stand_L229s x2 c_to c_stood c_out c_fewest x4 x5 = some w := h
      have KC : ∀ (x5 : Int32), w = .inl x5 → ∀ (ls : Array Slot) (H : Heap) (locs : List Loc), lv_has ls 8 [(0, .ref (a 0)), (2, .int x2), (4, .int x4), (5, .int x5)] → G dC dI A H0 (W_X9 a cI cJ c_length c_text c_stands c_homeFar c_nets c_netAt c_netWide c_netFrom c_netTo c_priceX c_priceY c_many c_days c_aims c_speeds c_kinds c_keptMany c_undoMany c_undos c_spot c_told c_to c_stood c_home c_lost c_out c_fewest c_ways c_next c_held) H locs → W p l e (RM 2 45) s m args below meth c H locs 0 0 QQ (F0 m 229 ls []) := fun b0 e ls H locs hl hG => ih b0 v (hi _ e) K0 KR0 ls H locs hl hG
      have KX : w = .inr (.inl ()) → ∀ (ls : Array Slot) (H : Heap) (locs : List Loc), lv_has ls 8 [] → G dC dI A H0 (W_X9 a cI cJ c_length c_text c_stands c_homeFar c_nets c_netAt c_netWide c_netFrom c_netTo c_priceX c_priceY c_many c_days c_aims c_speeds c_kinds c_keptMany c_undoMany c_undos c_spot c_told c_to c_stood c_home c_lost c_out c_fewest c_ways c_next c_held) H locs → W p l e (RM 2 45) s m args below meth c H locs 0 0 QQ (F0 m 291 ls []) := fun  e ls H locs hl hG => K0  (hr _ e) ls H locs hl hG
      have KR : ∀ (r : Int32 × (Nat → Int32) × (Nat → Int32) × Int32 × (Nat → Int32)), w = .inr (.inr r) → r = (res, n_to, n_stood, n_out, n_fewest) := fun r e => KR0 r (hr _ e)
      clear h0 hi hr K0 ih KR0
      unfold DX9_stand_L229s at h
      refine lv_iload hx hb dX9_stand_229 (lv_at hl 3 rfl) ?_
      refine lv_bipush (v := (6 : Int32)) hx hb dX9_stand_231 (by decide) ?_
      refine lv_icmp_gt (tgt := 291) hx hb dX9_stand_233 (by decide) (fun c_39 => ?_) (fun c_39 => ?_)
      · have h := ite_t h c_39
        exact KX  (Option.some.inj h).symm _ _ _ (lv_sub hl [] rfl) hG
      · have h := ite_f h c_39
        refine lv_iload_n hx hb dX9_stand_236 rfl (lv_at hl 1 rfl) ?_
        refine lv_iload hx hb dX9_stand_237 (lv_at hl 3 rfl) ?_
        refine lv_iconst (v := (1 : Int32)) hx hb dX9_stand_239 (by decide) ?_
        refine lv_isub hx hb dX9_stand_240 ?_
        obtain ⟨r_40, hz_41, h⟩ := bd1_some h
        refine aft_i (ws' := (W_X9 a cI cJ c_length c_text c_stands c_homeFar c_nets c_netAt c_netWide c_netFrom c_netTo c_priceX c_priceY c_many c_days c_aims c_speeds c_kinds c_keptMany c_undoMany c_undos c_spot c_told c_to c_stood c_home c_lost c_out c_fewest c_ways c_next c_held)) (run_S (rest := []) X hG hl.1 (mX9_has l dC dI cI cJ x2 (x5 - (1 : Int32)) hz_41) gi_S_X9_144 hd_S_yX9_has ⟨rfl, rfl⟩ rfl ⟨Nat.le_of_ble_eq_true rfl, Nat.le_of_ble_eq_true rfl⟩ [] (by decide) rfl rfl (Nat.le_of_ble_eq_true rfl) ⟨Nat.le_of_ble_eq_true rfl, Nat.le_of_ble_eq_true rfl⟩ dX9_stand_241) hG [] rfl rfl rfl (fun H locs hG => ?_)
        clear hz_41
        refine lv_if_eq (tgt := 285) hx hb dX9_stand_244 (by decide) (fun c_42 => ?_) (fun c_42 => ?_)
        · have h := ite_t h c_42
          refine lv_iinc (v := (x5 + (1 : Int32))) (lv' := [(5, .int (x5 + (1 : Int32))), (0, .ref (a 0)), (2, .int x2), (4, .int x4)]) hx hb dX9_stand_285 hl (k := 3) rfl rfl (by decide) rfl (fun ls hl => ?_)
          refine lv_goto (tgt := 229) hx hb dX9_stand_288 (by decide) ?_
          exact KC _ (Option.some.inj h).symm _ _ _ (lv_sub hl [1, 2, 3, 0] rfl) hG
        · have h := ite_f h c_42
          refine lv_aload_n hx hb dX9_stand_247 rfl (lv_at hl 0 rfl) ?_
          refine r_get X hG in_X9 rfl 26 (by decide) w_657 0 rfl rfl dX9_stand_248 ?_
          refine lv_iload hx hb dX9_stand_251 (lv_at hl 2 rfl) ?_
          obtain ⟨g_43, h⟩ := gd h
          refine r_iald X hG 22 rfl g_43 dX9_stand_253 ?_
          refine lv_if_le (tgt := 285) hx hb dX9_stand_254 (by decide) (fun c_44 => ?_) (fun c_44 => ?_)
          · have h := ite_t h c_44
            refine lv_iinc (v := (x5 + (1 : Int32))) (lv' := [(5, .int (x5 + (1 : Int32))), (0, .ref (a 0)), (2, .int x2), (4, .int x4)]) hx hb dX9_stand_285 hl (k := 3) rfl rfl (by decide) rfl (fun ls hl => ?_)
            refine lv_goto (tgt := 229) hx hb dX9_stand_288 (by decide) ?_
            exact KC _ (Option.some.inj h).symm _ _ _ (lv_sub hl [1, 2, 3, 0] rfl) hG
          · have h := ite_f h c_44
            refine lv_aload_n hx hb dX9_stand_257 rfl (lv_at hl 0 rfl) ?_
            refine r_get X hG in_X9 rfl 26 (by decide) w_657 0 rfl rfl dX9_stand_258 ?_
            refine lv_iload hx hb dX9_stand_261 (lv_at hl 2 rfl) ?_
            refine lv_iload hx hb dX9_stand_263 (lv_at hl 3 rfl) ?_
            refine lv_isub hx hb dX9_stand_265 ?_
            obtain ⟨r_45, hz_46, h⟩ := bd1_some h
            refine aft_i (ws' := (W_X9 a cI cJ c_length c_text c_stands c_homeFar c_nets c_netAt c_netWide c_netFrom c_netTo c_priceX c_priceY c_many c_days c_aims c_speeds c_kinds c_keptMany c_undoMany c_undos c_spot c_told c_to c_stood c_home c_lost c_out c_fewest c_ways c_next c_held)) (run_S (rest := [.ref (a 22)]) X hG hl.1 (mX9_around l dC dI cI cJ (x4 - x5) hz_46) gi_S_X9_148 hd_S_yX9_around ⟨rfl, rfl⟩ rfl ⟨Nat.le_of_ble_eq_true rfl, Nat.le_of_ble_eq_true rfl⟩ [] (by decide) rfl rfl (Nat.le_of_ble_eq_true rfl) ⟨Nat.le_of_ble_eq_true rfl, Nat.le_of_ble_eq_true rfl⟩ dX9_stand_266) hG [] rfl rfl rfl (fun H locs hG => ?_)
            clear hz_46
            obtain ⟨g_47, h⟩ := gd h
            refine r_iald X hG 22 rfl g_47 dX9_stand_269 ?_
            refine lv_aload_n hx hb dX9_stand_270 rfl (lv_at hl 0 rfl) ?_
            refine r_get X hG in_X9 rfl 26 (by decide) w_657 0 rfl rfl dX9_stand_271 ?_
            refine lv_iload hx hb dX9_stand_274 (lv_at hl 2 rfl) ?_
            obtain ⟨g_48, h⟩ := gd h
            refine r_iald X hG 22 rfl g_48 dX9_stand_276 ?_
            refine lv_iconst (v := (1 : Int32)) hx hb dX9_stand_277 (by decide) ?_
            refine lv_isub hx hb dX9_stand_278 ?_
            refine lv_icmp_ne (tgt := 285) hx hb dX9_stand_279 (by decide) (fun c_49 => ?_) (fun c_49 => ?_)
            · have h := ite_f h c_49
              refine lv_iinc (v := (x5 + (1 : Int32))) (lv' := [(5, .int (x5 + (1 : Int32))), (0, .ref (a 0)), (2, .int x2), (4, .int x4)]) hx hb dX9_stand_285 hl (k := 3) rfl rfl (by decide) rfl (fun ls hl => ?_)
              refine lv_goto (tgt := 229) hx hb dX9_stand_288 (by decide) ?_
              exact KC _ (Option.some.inj h).symm _ _ _ (lv_sub hl [1, 2, 3, 0] rfl) hG
            · have h := ite_t h c_49
              refine lv_iload hx hb dX9_stand_282 (lv_at hl 3 rfl) ?_
              cases KR _ (Option.some.inj h).symm
              exact ret _ _ _ _ dX9_stand_284 hG
  have h := hD
  unfold DX9_stand at h
  clear hD
  refine lv_iload_n hx hb dX9_stand_0 rfl (lv_at hl 1 rfl) ?_
  refine lv_i2l (v := (x1.toInt64)) hx hb dX9_stand_1 rfl ?_
  refine lv_lconst (v := (0 : Int64)) hx hb dX9_stand_2 (by decide) ?_
  refine lv_ldc2 (v := (23 : Int64)) hx hb X.1.2.2.2.1 (X.1.2.2.2.2 _ w_863) dX9_stand_3 ?_
  obtain ⟨r_1, hz_2, h⟩ := bd1_some h
  refine aft_i (ws' := (W_X9 a cI cJ c_length c_text c_stands c_homeFar c_nets c_netAt c_netWide c_netFrom c_netTo c_priceX c_priceY c_many c_days c_aims c_speeds c_kinds c_keptMany c_undoMany c_undos c_spot c_told c_to c_stood c_home c_lost c_out c_fewest c_ways c_next c_held)) (run_S (rest := []) X hG hl.1 (mX9_in l dC dI cI cJ (x1.toInt64) (0 : Int64) (23 : Int64) hz_2) gi_S_X9_92 hd_S_yX9_in ⟨rfl, rfl⟩ rfl ⟨Nat.le_of_ble_eq_true rfl, Nat.le_of_ble_eq_true rfl⟩ [] (by decide) rfl rfl (Nat.le_of_ble_eq_true rfl) ⟨Nat.le_of_ble_eq_true rfl, Nat.le_of_ble_eq_true rfl⟩ dX9_stand_6) hG [] rfl rfl rfl (fun H locs hG => ?_)
  clear hz_2
  refine lv_if_eq (tgt := 34) hx hb dX9_stand_9 (by decide) (fun c_3 => ?_) (fun c_3 => ?_)
  · have h := ite_t h c_3
    refine lv_iconst (v := (-1 : Int32)) hx hb dX9_stand_34 (by decide) ?_
    cases h
    exact ret _ _ _ _ dX9_stand_35 hG
  · have h := ite_f h c_3
    refine lv_iload_n hx hb dX9_stand_12 rfl (lv_at hl 2 rfl) ?_
    refine lv_i2l (v := (x2.toInt64)) hx hb dX9_stand_13 rfl ?_
    refine lv_lconst (v := (1 : Int64)) hx hb dX9_stand_14 (by decide) ?_
    refine lv_ldc2 (v := (63 : Int64)) hx hb X.1.2.2.2.1 (X.1.2.2.2.2 _ w_916) dX9_stand_15 ?_
    obtain ⟨r_4, hz_5, h⟩ := bd1_some h
    refine aft_i (ws' := (W_X9 a cI cJ c_length c_text c_stands c_homeFar c_nets c_netAt c_netWide c_netFrom c_netTo c_priceX c_priceY c_many c_days c_aims c_speeds c_kinds c_keptMany c_undoMany c_undos c_spot c_told c_to c_stood c_home c_lost c_out c_fewest c_ways c_next c_held)) (run_S (rest := []) X hG hl.1 (mX9_in l dC dI cI cJ (x2.toInt64) (1 : Int64) (63 : Int64) hz_5) gi_S_X9_92 hd_S_yX9_in ⟨rfl, rfl⟩ rfl ⟨Nat.le_of_ble_eq_true rfl, Nat.le_of_ble_eq_true rfl⟩ [] (by decide) rfl rfl (Nat.le_of_ble_eq_true rfl) ⟨Nat.le_of_ble_eq_true rfl, Nat.le_of_ble_eq_true rfl⟩ dX9_stand_18) hG [] rfl rfl rfl (fun H locs hG => ?_)
    clear hz_5
    refine lv_if_eq (tgt := 34) hx hb dX9_stand_21 (by decide) (fun c_6 => ?_) (fun c_6 => ?_)
    · have h := ite_t h c_6
      refine lv_iconst (v := (-1 : Int32)) hx hb dX9_stand_34 (by decide) ?_
      cases h
      exact ret _ _ _ _ dX9_stand_35 hG
    · have h := ite_f h c_6
      refine lv_iload_n hx hb dX9_stand_24 rfl (lv_at hl 3 rfl) ?_
      refine lv_i2l (v := (x3.toInt64)) hx hb dX9_stand_25 rfl ?_
      refine lv_lconst (v := (0 : Int64)) hx hb dX9_stand_26 (by decide) ?_
      refine lv_lconst (v := (1 : Int64)) hx hb dX9_stand_27 (by decide) ?_
      obtain ⟨r_7, hz_8, h⟩ := bd1_some h
      refine aft_i (ws' := (W_X9 a cI cJ c_length c_text c_stands c_homeFar c_nets c_netAt c_netWide c_netFrom c_netTo c_priceX c_priceY c_many c_days c_aims c_speeds c_kinds c_keptMany c_undoMany c_undos c_spot c_told c_to c_stood c_home c_lost c_out c_fewest c_ways c_next c_held)) (run_S (rest := []) X hG hl.1 (mX9_in l dC dI cI cJ (x3.toInt64) (0 : Int64) (1 : Int64) hz_8) gi_S_X9_92 hd_S_yX9_in ⟨rfl, rfl⟩ rfl ⟨Nat.le_of_ble_eq_true rfl, Nat.le_of_ble_eq_true rfl⟩ [] (by decide) rfl rfl (Nat.le_of_ble_eq_true rfl) ⟨Nat.le_of_ble_eq_true rfl, Nat.le_of_ble_eq_true rfl⟩ dX9_stand_28) hG [] rfl rfl rfl (fun H locs hG => ?_)
      clear hz_8
      refine lv_if_ne (tgt := 36) hx hb dX9_stand_31 (by decide) (fun c_9 => ?_) (fun c_9 => ?_)
      · have h := ite_f h c_9
        refine lv_iconst (v := (0 : Int32)) hx hb dX9_stand_36 (by decide) ?_
        refine lv_istore (lv' := [(4, .int (0 : Int32)), (0, .ref (a 0)), (1, .int x1), (2, .int x2), (3, .int x3)]) hx hb dX9_stand_37 hl (by decide) rfl (fun ls hl => ?_)
        obtain ⟨k_fewest_14, hz, h⟩ := bd1_some h
        refine L39 c_to c_stood c_out FU (0 : Int32) c_fewest _ hz (fun ls H locs hl hG => ?_) _ _ _ (lv_sub hl [1, 2, 3, 4, 0] rfl) hG
        clear hz
        refine lv_iconst (v := (0 : Int32)) hx hb dX9_stand_72 (by decide) ?_
        refine lv_istore (lv' := [(4, .int (0 : Int32)), (0, .ref (a 0)), (2, .int x2), (3, .int x3)]) hx hb dX9_stand_73 hl (by decide) rfl (fun ls hl => ?_)
        obtain ⟨k_fewest_31, hz, h⟩ := bd1_some h
        refine L75 c_to c_stood c_out FU (0 : Int32) k_fewest_14 _ hz (fun ls H locs hl hG => ?_) _ _ _ (lv_sub hl [1, 2, 3, 0] rfl) hG
        clear hz
        refine lv_aload_n hx hb dX9_stand_185 rfl (lv_at hl 0 rfl) ?_
        refine lv_iconst (v := (0 : Int32)) hx hb dX9_stand_186 (by decide) ?_
        refine r_put X hG in_X9 rfl tyX9 tyX9_ok nmX9 25 (by decide) rfl (by decide +kernel) w_656 0 (ws' := (W_X9 a cI cJ c_length c_text c_stands c_homeFar c_nets c_netAt c_netWide c_netFrom c_netTo c_priceX c_priceY c_many c_days c_aims c_speeds c_kinds c_keptMany c_undoMany c_undos c_spot c_told c_to c_stood c_home c_lost (0 : Int32) k_fewest_31 c_ways c_next c_held)) rfl (Nat.le_of_ble_eq_true rfl) rfl dX9_stand_187 (fun H locs hG => ?_)
        refine lv_aload_n hx hb dX9_stand_190 rfl (lv_at hl 0 rfl) ?_
        refine lv_bipush (v := (40 : Int32)) hx hb dX9_stand_191 (by decide) ?_
        obtain ⟨r_32, k_to_33, k_stood_34, hz_35, h⟩ := bd3_some h
        refine aft_i1 (run_V1 (rest := []) X hG hl.1 (mX9_turnTo l dC dI cI cJ a c_length c_text c_stands c_homeFar c_nets c_netAt c_netWide c_netFrom c_netTo c_priceX c_priceY c_many c_days c_aims c_speeds c_kinds c_keptMany c_undoMany c_undos c_spot c_told c_to c_stood c_home c_lost (0 : Int32) k_fewest_31 c_ways c_next c_held (40 : Int32) hz_35) gi_V_X9_158 hd_V_yX9_turnTo ⟨rfl, rfl⟩ rfl ⟨Nat.le_of_ble_eq_true rfl, Nat.le_of_ble_eq_true rfl⟩ 0 rfl rfl rfl rfl (Nat.le_of_ble_eq_true rfl) ⟨Nat.le_of_ble_eq_true rfl, Nat.le_of_ble_eq_true rfl⟩ dX9_stand_193) hG rfl (fun H locs hG => ?_)
        clear hz_35
        refine lv_istore (lv' := [(4, .int r_32), (0, .ref (a 0)), (2, .int x2), (3, .int x3)]) hx hb dX9_stand_196 hl (by decide) rfl (fun ls hl => ?_)
        refine lv_aload_n hx hb dX9_stand_198 rfl (lv_at hl 1 rfl) ?_
        refine r_get X hG in_X9 rfl 26 (by decide) w_657 0 rfl rfl dX9_stand_199 ?_
        refine lv_iload hx hb dX9_stand_202 (lv_at hl 0 rfl) ?_
        obtain ⟨g_36, h⟩ := gd h
        refine r_iald X hG 22 rfl g_36 dX9_stand_204 ?_
        refine lv_sipush (v := (10000 : Int32)) hx hb dX9_stand_205 (by decide) ?_
        refine lv_icmp_lt (tgt := 214) hx hb dX9_stand_208 (by decide) (fun c_37 => ?_) (fun c_37 => ?_)
        · have h := ite_t h c_37
          refine lv_iload_n hx hb dX9_stand_214 rfl (lv_at hl 3 rfl) ?_
          refine lv_if_ne (tgt := 226) hx hb dX9_stand_215 (by decide) (fun c_38 => ?_) (fun c_38 => ?_)
          · have h := ite_f h c_38
            refine lv_iconst (v := (1 : Int32)) hx hb dX9_stand_226 (by decide) ?_
            refine lv_istore (lv' := [(5, .int (1 : Int32)), (4, .int r_32), (0, .ref (a 0)), (2, .int x2), (3, .int x3)]) hx hb dX9_stand_227 hl (by decide) rfl (fun ls hl => ?_)
            rcases el0_some h with ⟨hz, h⟩ | ⟨r, hz, h⟩
            · refine L229 r_32 k_to_33 k_stood_34 (0 : Int32) k_fewest_31 FU (1 : Int32) _ hz ?_ (fun r e => by cases e) _ _ _ (lv_sub hl [2, 3, 1, 0] rfl) hG
              rintro  ⟨⟩ ls H locs hl hG
              clear hz
              refine lv_bipush (v := (-4 : Int32)) hx hb dX9_stand_291 (by decide) ?_
              cases h
              exact ret _ _ _ _ dX9_stand_293 hG
            · refine L229 r_32 k_to_33 k_stood_34 (0 : Int32) k_fewest_31 FU (1 : Int32) _ hz (fun  e => by cases e) (fun r2 e => ?_) _ _ _ (lv_sub hl [2, 3, 1, 0] rfl) hG
              cases e; cases h; rfl
          · have h := ite_t h c_38
            refine lv_aload_n hx hb dX9_stand_218 rfl (lv_at hl 1 rfl) ?_
            refine r_get X hG in_X9 rfl 26 (by decide) w_657 0 rfl rfl dX9_stand_219 ?_
            refine lv_iload hx hb dX9_stand_222 (lv_at hl 0 rfl) ?_
            obtain ⟨g_50, h⟩ := gd h
            refine r_iald X hG 22 rfl g_50 dX9_stand_224 ?_
            cases h
            exact ret _ _ _ _ dX9_stand_225 hG
        · have h := ite_f h c_37
          refine lv_bipush (v := (-4 : Int32)) hx hb dX9_stand_211 (by decide) ?_
          cases h
          exact ret _ _ _ _ dX9_stand_213 hG
      · have h := ite_t h c_9
        refine lv_iconst (v := (-1 : Int32)) hx hb dX9_stand_34 (by decide) ?_
        cases h
        exact ret _ _ _ _ dX9_stand_35 hG
set_option maxRecDepth 100000 in
set_option maxHeartbeats 4000000 in
theorem mX9_odds (l : Launch) (dC : Nat → ClassId) (dI : Nat → Nat → Nat) (cI cJ : ClassId) (a : Nat → Nat) (c_length : Int32) (c_text : Nat → Int32) (c_stands : Nat → Int32) (c_homeFar : Nat → Int32) (c_nets : Nat → Int32) (c_netAt : Nat → Int32) (c_netWide : Nat → Int32) (c_netFrom : Nat → Int32) (c_netTo : Nat → Int32) (c_priceX : Nat → Int32) (c_priceY : Nat → Int32) (c_many : Nat → Int32) (c_days : Nat → Int32) (c_aims : Nat → Int32) (c_speeds : Nat → Int32) (c_kinds : Nat → Int32) (c_keptMany : Int32) (c_undoMany : Int32) (c_undos : Nat → Int32) (c_spot : Int32) (c_told : Nat → Int32) (c_to : Nat → Int32) (c_stood : Nat → Int32) (c_home : Nat → Int32) (c_lost : Nat → Int32) (c_out : Int32) (c_fewest : Nat → Int32) (c_ways : Nat → Int64) (c_next : Nat → Int64) (c_held : Nat → Int32) (x1 : Int32) (x2 : Int32) (x3 : Int32) {res : Int64} {n_ways : Nat → Int64} {n_next : Nat → Int64} (hD : DX9_odds x1 x2 x3 c_ways c_next = some (res, n_ways, n_next)) : Met l yX9_odds (WZ yX9_odds cX9_odds 14 (some .long)) (RM 1 25) (PC dC dI cI cJ [.ref (a 0), .int x1, .int x2, .int x3] (W_X9 a cI cJ c_length c_text c_stands c_homeFar c_nets c_netAt c_netWide c_netFrom c_netTo c_priceX c_priceY c_many c_days c_aims c_speeds c_kinds c_keptMany c_undoMany c_undos c_spot c_told c_to c_stood c_home c_lost c_out c_fewest c_ways c_next c_held)) (QL dC dI (W_X9 a cI cJ c_length c_text c_stands c_homeFar c_nets c_netAt c_netWide c_netFrom c_netTo c_priceX c_priceY c_many c_days c_aims c_speeds c_kinds c_keptMany c_undoMany c_undos c_spot c_told c_to c_stood c_home c_lost c_out c_fewest c_ways c_next c_held) (W_X9 a cI cJ c_length c_text c_stands c_homeFar c_nets c_netAt c_netWide c_netFrom c_netTo c_priceX c_priceY c_many c_days c_aims c_speeds c_kinds c_keptMany c_undoMany c_undos c_spot c_told c_to c_stood c_home c_lost c_out c_fewest n_ways n_next c_held) res) 0 0 (FA (W_X9 a cI cJ c_length c_text c_stands c_homeFar c_nets c_netAt c_netWide c_netFrom c_netTo c_priceX c_priceY c_many c_days c_aims c_speeds c_kinds c_keptMany c_undoMany c_undos c_spot c_told c_to c_stood c_home c_lost c_out c_fewest c_ways c_next c_held)) := by
  refine r_metL (by decide +kernel) (Nat.le_of_ble_eq_true rfl) ?_
  intro p e s m args below meth c A H0 QQ X ret ls hl hG
  have X : Cx p m c cX9_odds 14 s args RX9 dC dI cI cJ meth (some .long) := X
  have hx := X.1.1
  have hb := X.1.2.1
  have hl : lv_has ls 14 [(0, .ref (a 0)), (1, .int x1), (2, .int x2), (3, .int x3)] := hl
  have L41 : ∀ (c_next : Nat → Int64), ∀ (n : Nat) (x4 : Int32) (c_ways : Nat → Int64) (ec_ways : Nat → Int64), DX9_odds_L41 n x4 c_ways = some ec_ways → (∀ (ls : Array Slot) (H : Heap) (locs : List Loc), lv_has ls 14 [(0, .ref (a 0)), (1, .int x1), (2, .int x2), (3, .int x3)] → G dC dI A H0 (W_X9 a cI cJ c_length c_text c_stands c_homeFar c_nets c_netAt c_netWide c_netFrom c_netTo c_priceX c_priceY c_many c_days c_aims c_speeds c_kinds c_keptMany c_undoMany c_undos c_spot c_told c_to c_stood c_home c_lost c_out c_fewest ec_ways c_next c_held) H locs → W p l e (RM 1 25) s m args below meth c H locs 0 0 QQ (F0 m 73 ls [])) → ∀ (ls : Array Slot) (H : Heap) (locs : List Loc), lv_has ls 14 [(0, .ref (a 0)), (1, .int x1), (2, .int x2), (3, .int x3), (4, .int x4)] → G dC dI A H0 (W_X9 a cI cJ c_length c_text c_stands c_homeFar c_nets c_netAt c_netWide c_netFrom c_netTo c_priceX c_priceY c_many c_days c_aims c_speeds c_kinds c_keptMany c_undoMany c_undos c_spot c_told c_to c_stood c_home c_lost c_out c_fewest c_ways c_next c_held) H locs → W p l e (RM 1 25) s m args below meth c H locs 0 0 QQ (F0 m 41 ls []) := by
    intro c_next n
    induction n with
    | zero => intro x4 c_ways ec_ways h; exact it_zero h
    | succ n ih =>
      intro x4 c_ways ec_ways h0 K0 ls H locs hl hG
      obtain ⟨w, h, hi, hr⟩ := it_succ h0
      have h : DX9_odds_L41s x4 c_ways = some w := h
      have KC : ∀ (x4 : Int32) (c_ways : Nat → Int64), w = .inl (x4, c_ways) → ∀ (ls : Array Slot) (H : Heap) (locs : List Loc), lv_has ls 14 [(0, .ref (a 0)), (1, .int x1), (2, .int x2), (3, .int x3), (4, .int x4)] → G dC dI A H0 (W_X9 a cI cJ c_length c_text c_stands c_homeFar c_nets c_netAt c_netWide c_netFrom c_netTo c_priceX c_priceY c_many c_days c_aims c_speeds c_kinds c_keptMany c_undoMany c_undos c_spot c_told c_to c_stood c_home c_lost c_out c_fewest c_ways c_next c_held) H locs → W p l e (RM 1 25) s m args below meth c H locs 0 0 QQ (F0 m 41 ls []) := fun b0 b1 e ls H locs hl hG => ih b0 b1 ec_ways (hi _ e) K0 ls H locs hl hG
      have KX : ∀ (c_ways : Nat → Int64), w = .inr c_ways → ∀ (ls : Array Slot) (H : Heap) (locs : List Loc), lv_has ls 14 [(0, .ref (a 0)), (1, .int x1), (2, .int x2), (3, .int x3)] → G dC dI A H0 (W_X9 a cI cJ c_length c_text c_stands c_homeFar c_nets c_netAt c_netWide c_netFrom c_netTo c_priceX c_priceY c_many c_days c_aims c_speeds c_kinds c_keptMany c_undoMany c_undos c_spot c_told c_to c_stood c_home c_lost c_out c_fewest c_ways c_next c_held) H locs → W p l e (RM 1 25) s m args below meth c H locs 0 0 QQ (F0 m 73 ls []) := fun b0 e ls H locs hl hG => by cases hr _ e; exact K0 ls H locs hl hG
      clear h0 hi hr K0 ih
      unfold DX9_odds_L41s at h
      refine lv_iload hx hb dX9_odds_41 (lv_at hl 4 rfl) ?_
      refine lv_bipush (v := (21 : Int32)) hx hb dX9_odds_43 (by decide) ?_
      refine lv_icmp_ge (tgt := 73) hx hb dX9_odds_45 (by decide) (fun c_10 => ?_) (fun c_10 => ?_)
      · have h := ite_t h c_10
        exact KX _ (Option.some.inj h).symm _ _ _ (lv_sub hl [0, 1, 2, 3] rfl) hG
      · have h := ite_f h c_10
        refine lv_aload_n hx hb dX9_odds_48 rfl (lv_at hl 0 rfl) ?_
        refine r_get X hG in_X9 rfl 27 (by decide) w_658 0 rfl rfl dX9_odds_49 ?_
        refine lv_iload hx hb dX9_odds_52 (lv_at hl 4 rfl) ?_
        refine lv_iload hx hb dX9_odds_54 (lv_at hl 4 rfl) ?_
        refine lv_bipush (v := (10 : Int32)) hx hb dX9_odds_56 (by decide) ?_
        refine lv_icmp_ne (tgt := 65) hx hb dX9_odds_58 (by decide) (fun c_11 => ?_) (fun c_11 => ?_)
        · have h := ite_f h c_11
          refine lv_lconst (v := (0 : Int64)) hx hb dX9_odds_65 (by decide) ?_
          obtain ⟨g_12, h⟩ := gd h
          refine r_last X hG 23 (ws' := (W_X9 a cI cJ c_length c_text c_stands c_homeFar c_nets c_netAt c_netWide c_netFrom c_netTo c_priceX c_priceY c_many c_days c_aims c_speeds c_kinds c_keptMany c_undoMany c_undos c_spot c_told c_to c_stood c_home c_lost c_out c_fewest (vp_updL c_ways x4.toNatClampNeg (0 : Int64)) c_next c_held)) rfl g_12 rfl dX9_odds_66 (fun H locs hG => ?_)
          refine lv_iinc (v := (x4 + (1 : Int32))) (lv' := [(4, .int (x4 + (1 : Int32))), (0, .ref (a 0)), (1, .int x1), (2, .int x2), (3, .int x3)]) hx hb dX9_odds_67 hl (k := 4) rfl rfl (by decide) rfl (fun ls hl => ?_)
          refine lv_goto (tgt := 41) hx hb dX9_odds_70 (by decide) ?_
          exact KC _ _ (Option.some.inj h).symm _ _ _ (lv_sub hl [1, 2, 3, 4, 0] rfl) hG
        · have h := ite_t h c_11
          refine lv_lconst (v := (1 : Int64)) hx hb dX9_odds_61 (by decide) ?_
          refine lv_goto (tgt := 66) hx hb dX9_odds_62 (by decide) ?_
          obtain ⟨g_13, h⟩ := gd h
          refine r_last X hG 23 (ws' := (W_X9 a cI cJ c_length c_text c_stands c_homeFar c_nets c_netAt c_netWide c_netFrom c_netTo c_priceX c_priceY c_many c_days c_aims c_speeds c_kinds c_keptMany c_undoMany c_undos c_spot c_told c_to c_stood c_home c_lost c_out c_fewest (vp_updL c_ways x4.toNatClampNeg (1 : Int64)) c_next c_held)) rfl g_13 rfl dX9_odds_66 (fun H locs hG => ?_)
          refine lv_iinc (v := (x4 + (1 : Int32))) (lv' := [(4, .int (x4 + (1 : Int32))), (0, .ref (a 0)), (1, .int x1), (2, .int x2), (3, .int x3)]) hx hb dX9_odds_67 hl (k := 4) rfl rfl (by decide) rfl (fun ls hl => ?_)
          refine lv_goto (tgt := 41) hx hb dX9_odds_70 (by decide) ?_
          exact KC _ _ (Option.some.inj h).symm _ _ _ (lv_sub hl [1, 2, 3, 4, 0] rfl) hG
  have L88 : ∀ (x4 : Int64) (x6 : Int32) (c_ways : Nat → Int64), ∀ (n : Nat) (x7 : Int32) (c_next : Nat → Int64) (ec_next : Nat → Int64), DX9_odds_L88 x2 c_ways n x7 c_next = some ec_next → (∀ (ls : Array Slot) (H : Heap) (locs : List Loc), lv_has ls 14 [(0, .ref (a 0)), (1, .int x1), (2, .int x2), (3, .int x3), (4, .long x4), (6, .int x6)] → G dC dI A H0 (W_X9 a cI cJ c_length c_text c_stands c_homeFar c_nets c_netAt c_netWide c_netFrom c_netTo c_priceX c_priceY c_many c_days c_aims c_speeds c_kinds c_keptMany c_undoMany c_undos c_spot c_told c_to c_stood c_home c_lost c_out c_fewest c_ways ec_next c_held) H locs → W p l e (RM 1 25) s m args below meth c H locs 0 0 QQ (F0 m 136 ls [])) → ∀ (ls : Array Slot) (H : Heap) (locs : List Loc), lv_has ls 14 [(0, .ref (a 0)), (1, .int x1), (2, .int x2), (3, .int x3), (4, .long x4), (6, .int x6), (7, .int x7)] → G dC dI A H0 (W_X9 a cI cJ c_length c_text c_stands c_homeFar c_nets c_netAt c_netWide c_netFrom c_netTo c_priceX c_priceY c_many c_days c_aims c_speeds c_kinds c_keptMany c_undoMany c_undos c_spot c_told c_to c_stood c_home c_lost c_out c_fewest c_ways c_next c_held) H locs → W p l e (RM 1 25) s m args below meth c H locs 0 0 QQ (F0 m 88 ls []) := by
    intro x4 x6 c_ways n
    induction n with
    | zero => intro x7 c_next ec_next h; exact it_zero h
    | succ n ih =>
      intro x7 c_next ec_next h0 K0 ls H locs hl hG
      obtain ⟨w, h, hi, hr⟩ := it_succ h0
      have h : DX9_odds_L88s x2 c_ways x7 c_next = some w := h
      have KC : ∀ (x7 : Int32) (c_next : Nat → Int64), w = .inl (x7, c_next) → ∀ (ls : Array Slot) (H : Heap) (locs : List Loc), lv_has ls 14 [(0, .ref (a 0)), (1, .int x1), (2, .int x2), (3, .int x3), (4, .long x4), (6, .int x6), (7, .int x7)] → G dC dI A H0 (W_X9 a cI cJ c_length c_text c_stands c_homeFar c_nets c_netAt c_netWide c_netFrom c_netTo c_priceX c_priceY c_many c_days c_aims c_speeds c_kinds c_keptMany c_undoMany c_undos c_spot c_told c_to c_stood c_home c_lost c_out c_fewest c_ways c_next c_held) H locs → W p l e (RM 1 25) s m args below meth c H locs 0 0 QQ (F0 m 88 ls []) := fun b0 b1 e ls H locs hl hG => ih b0 b1 ec_next (hi _ e) K0 ls H locs hl hG
      have KX : ∀ (c_next : Nat → Int64), w = .inr c_next → ∀ (ls : Array Slot) (H : Heap) (locs : List Loc), lv_has ls 14 [(0, .ref (a 0)), (1, .int x1), (2, .int x2), (3, .int x3), (4, .long x4), (6, .int x6)] → G dC dI A H0 (W_X9 a cI cJ c_length c_text c_stands c_homeFar c_nets c_netAt c_netWide c_netFrom c_netTo c_priceX c_priceY c_many c_days c_aims c_speeds c_kinds c_keptMany c_undoMany c_undos c_spot c_told c_to c_stood c_home c_lost c_out c_fewest c_ways c_next c_held) H locs → W p l e (RM 1 25) s m args below meth c H locs 0 0 QQ (F0 m 136 ls []) := fun b0 e ls H locs hl hG => by cases hr _ e; exact K0 ls H locs hl hG
      clear h0 hi hr K0 ih
      unfold DX9_odds_L88s at h
      refine lv_iload hx hb dX9_odds_88 (lv_at hl 6 rfl) ?_
      refine lv_bipush (v := (20 : Int32)) hx hb dX9_odds_90 (by decide) ?_
      refine lv_icmp_ge (tgt := 136) hx hb dX9_odds_92 (by decide) (fun c_16 => ?_) (fun c_16 => ?_)
      · have h := ite_t h c_16
        exact KX _ (Option.some.inj h).symm _ _ _ (lv_sub hl [0, 1, 2, 3, 4, 5] rfl) hG
      · have h := ite_f h c_16
        refine lv_aload_n hx hb dX9_odds_95 rfl (lv_at hl 0 rfl) ?_
        refine r_get X hG in_X9 rfl 28 (by decide) w_659 0 rfl rfl dX9_odds_96 ?_
        refine lv_iload hx hb dX9_odds_99 (lv_at hl 6 rfl) ?_
        refine lv_aload_n hx hb dX9_odds_101 rfl (lv_at hl 0 rfl) ?_
        refine r_get X hG in_X9 rfl 27 (by decide) w_658 0 rfl rfl dX9_odds_102 ?_
        refine lv_iload hx hb dX9_odds_105 (lv_at hl 6 rfl) ?_
        refine lv_iconst (v := (1 : Int32)) hx hb dX9_odds_107 (by decide) ?_
        refine lv_isub hx hb dX9_odds_108 ?_
        obtain ⟨g_17, h⟩ := gd h
        refine r_lald X hG 23 rfl g_17 dX9_odds_109 ?_
        refine lv_iload_n hx hb dX9_odds_110 rfl (lv_at hl 2 rfl) ?_
        refine lv_i2l (v := (x2.toInt64)) hx hb dX9_odds_111 rfl ?_
        refine lv_lmul hx hb dX9_odds_112 ?_
        refine lv_aload_n hx hb dX9_odds_113 rfl (lv_at hl 0 rfl) ?_
        refine r_get X hG in_X9 rfl 27 (by decide) w_658 0 rfl rfl dX9_odds_114 ?_
        refine lv_iload hx hb dX9_odds_117 (lv_at hl 6 rfl) ?_
        refine lv_iconst (v := (1 : Int32)) hx hb dX9_odds_119 (by decide) ?_
        refine lv_iadd hx hb dX9_odds_120 ?_
        obtain ⟨g_18, h⟩ := gd h
        refine r_lald X hG 23 rfl g_18 dX9_odds_121 ?_
        refine lv_bipush (v := (10 : Int32)) hx hb dX9_odds_122 (by decide) ?_
        refine lv_iload_n hx hb dX9_odds_124 rfl (lv_at hl 2 rfl) ?_
        refine lv_isub hx hb dX9_odds_125 ?_
        refine lv_i2l (v := (((10 : Int32) - x2).toInt64)) hx hb dX9_odds_126 rfl ?_
        refine lv_lmul hx hb dX9_odds_127 ?_
        refine lv_ladd hx hb dX9_odds_128 ?_
        obtain ⟨g_19, h⟩ := gd h
        refine r_last X hG 24 (ws' := (W_X9 a cI cJ c_length c_text c_stands c_homeFar c_nets c_netAt c_netWide c_netFrom c_netTo c_priceX c_priceY c_many c_days c_aims c_speeds c_kinds c_keptMany c_undoMany c_undos c_spot c_told c_to c_stood c_home c_lost c_out c_fewest c_ways (vp_updL c_next x7.toNatClampNeg (((c_ways (x7 - (1 : Int32)).toNatClampNeg) * (x2.toInt64)) + ((c_ways (x7 + (1 : Int32)).toNatClampNeg) * (((10 : Int32) - x2).toInt64)))) c_held)) rfl g_19 rfl dX9_odds_129 (fun H locs hG => ?_)
        refine lv_iinc (v := (x7 + (1 : Int32))) (lv' := [(7, .int (x7 + (1 : Int32))), (0, .ref (a 0)), (1, .int x1), (2, .int x2), (3, .int x3), (4, .long x4), (6, .int x6)]) hx hb dX9_odds_130 hl (k := 6) rfl rfl (by decide) rfl (fun ls hl => ?_)
        refine lv_goto (tgt := 88) hx hb dX9_odds_133 (by decide) ?_
        exact KC _ _ (Option.some.inj h).symm _ _ _ (lv_sub hl [1, 2, 3, 4, 5, 6, 0] rfl) hG
  have L139 : ∀ (x4 : Int64) (x6 : Int32) (c_next : Nat → Int64), ∀ (n : Nat) (x7 : Int32) (c_ways : Nat → Int64) (ec_ways : Nat → Int64), DX9_odds_L139 c_next n x7 c_ways = some ec_ways → (∀ (ls : Array Slot) (H : Heap) (locs : List Loc), lv_has ls 14 [(0, .ref (a 0)), (1, .int x1), (2, .int x2), (3, .int x3), (4, .long x4), (6, .int x6)] → G dC dI A H0 (W_X9 a cI cJ c_length c_text c_stands c_homeFar c_nets c_netAt c_netWide c_netFrom c_netTo c_priceX c_priceY c_many c_days c_aims c_speeds c_kinds c_keptMany c_undoMany c_undos c_spot c_told c_to c_stood c_home c_lost c_out c_fewest ec_ways c_next c_held) H locs → W p l e (RM 1 25) s m args below meth c H locs 0 0 QQ (F0 m 166 ls [])) → ∀ (ls : Array Slot) (H : Heap) (locs : List Loc), lv_has ls 14 [(0, .ref (a 0)), (1, .int x1), (2, .int x2), (3, .int x3), (4, .long x4), (6, .int x6), (7, .int x7)] → G dC dI A H0 (W_X9 a cI cJ c_length c_text c_stands c_homeFar c_nets c_netAt c_netWide c_netFrom c_netTo c_priceX c_priceY c_many c_days c_aims c_speeds c_kinds c_keptMany c_undoMany c_undos c_spot c_told c_to c_stood c_home c_lost c_out c_fewest c_ways c_next c_held) H locs → W p l e (RM 1 25) s m args below meth c H locs 0 0 QQ (F0 m 139 ls []) := by
    intro x4 x6 c_next n
    induction n with
    | zero => intro x7 c_ways ec_ways h; exact it_zero h
    | succ n ih =>
      intro x7 c_ways ec_ways h0 K0 ls H locs hl hG
      obtain ⟨w, h, hi, hr⟩ := it_succ h0
      have h : DX9_odds_L139s c_next x7 c_ways = some w := h
      have KC : ∀ (x7 : Int32) (c_ways : Nat → Int64), w = .inl (x7, c_ways) → ∀ (ls : Array Slot) (H : Heap) (locs : List Loc), lv_has ls 14 [(0, .ref (a 0)), (1, .int x1), (2, .int x2), (3, .int x3), (4, .long x4), (6, .int x6), (7, .int x7)] → G dC dI A H0 (W_X9 a cI cJ c_length c_text c_stands c_homeFar c_nets c_netAt c_netWide c_netFrom c_netTo c_priceX c_priceY c_many c_days c_aims c_speeds c_kinds c_keptMany c_undoMany c_undos c_spot c_told c_to c_stood c_home c_lost c_out c_fewest c_ways c_next c_held) H locs → W p l e (RM 1 25) s m args below meth c H locs 0 0 QQ (F0 m 139 ls []) := fun b0 b1 e ls H locs hl hG => ih b0 b1 ec_ways (hi _ e) K0 ls H locs hl hG
      have KX : ∀ (c_ways : Nat → Int64), w = .inr c_ways → ∀ (ls : Array Slot) (H : Heap) (locs : List Loc), lv_has ls 14 [(0, .ref (a 0)), (1, .int x1), (2, .int x2), (3, .int x3), (4, .long x4), (6, .int x6)] → G dC dI A H0 (W_X9 a cI cJ c_length c_text c_stands c_homeFar c_nets c_netAt c_netWide c_netFrom c_netTo c_priceX c_priceY c_many c_days c_aims c_speeds c_kinds c_keptMany c_undoMany c_undos c_spot c_told c_to c_stood c_home c_lost c_out c_fewest c_ways c_next c_held) H locs → W p l e (RM 1 25) s m args below meth c H locs 0 0 QQ (F0 m 166 ls []) := fun b0 e ls H locs hl hG => by cases hr _ e; exact K0 ls H locs hl hG
      clear h0 hi hr K0 ih
      unfold DX9_odds_L139s at h
      refine lv_iload hx hb dX9_odds_139 (lv_at hl 6 rfl) ?_
      refine lv_bipush (v := (20 : Int32)) hx hb dX9_odds_141 (by decide) ?_
      refine lv_icmp_ge (tgt := 166) hx hb dX9_odds_143 (by decide) (fun c_21 => ?_) (fun c_21 => ?_)
      · have h := ite_t h c_21
        exact KX _ (Option.some.inj h).symm _ _ _ (lv_sub hl [0, 1, 2, 3, 4, 5] rfl) hG
      · have h := ite_f h c_21
        refine lv_aload_n hx hb dX9_odds_146 rfl (lv_at hl 0 rfl) ?_
        refine r_get X hG in_X9 rfl 27 (by decide) w_658 0 rfl rfl dX9_odds_147 ?_
        refine lv_iload hx hb dX9_odds_150 (lv_at hl 6 rfl) ?_
        refine lv_aload_n hx hb dX9_odds_152 rfl (lv_at hl 0 rfl) ?_
        refine r_get X hG in_X9 rfl 28 (by decide) w_659 0 rfl rfl dX9_odds_153 ?_
        refine lv_iload hx hb dX9_odds_156 (lv_at hl 6 rfl) ?_
        obtain ⟨g_22, h⟩ := gd h
        refine r_lald X hG 24 rfl g_22 dX9_odds_158 ?_
        obtain ⟨g_23, h⟩ := gd h
        refine r_last X hG 23 (ws' := (W_X9 a cI cJ c_length c_text c_stands c_homeFar c_nets c_netAt c_netWide c_netFrom c_netTo c_priceX c_priceY c_many c_days c_aims c_speeds c_kinds c_keptMany c_undoMany c_undos c_spot c_told c_to c_stood c_home c_lost c_out c_fewest (vp_updL c_ways x7.toNatClampNeg (c_next x7.toNatClampNeg)) c_next c_held)) rfl g_23 rfl dX9_odds_159 (fun H locs hG => ?_)
        refine lv_iinc (v := (x7 + (1 : Int32))) (lv' := [(7, .int (x7 + (1 : Int32))), (0, .ref (a 0)), (1, .int x1), (2, .int x2), (3, .int x3), (4, .long x4), (6, .int x6)]) hx hb dX9_odds_160 hl (k := 6) rfl rfl (by decide) rfl (fun ls hl => ?_)
        refine lv_goto (tgt := 139) hx hb dX9_odds_163 (by decide) ?_
        exact KC _ _ (Option.some.inj h).symm _ _ _ (lv_sub hl [1, 2, 3, 4, 5, 6, 0] rfl) hG
  have L79 : ∀ (n : Nat) (x4 : Int64) (x6 : Int32) (c_ways : Nat → Int64) (c_next : Nat → Int64) (ex4 : Int64) (ec_ways : Nat → Int64) (ec_next : Nat → Int64), DX9_odds_L79 x1 x2 n x4 x6 c_ways c_next = some (ex4, ec_ways, ec_next) → (∀ (ls : Array Slot) (H : Heap) (locs : List Loc), lv_has ls 14 [(0, .ref (a 0)), (3, .int x3), (4, .long ex4)] → G dC dI A H0 (W_X9 a cI cJ c_length c_text c_stands c_homeFar c_nets c_netAt c_netWide c_netFrom c_netTo c_priceX c_priceY c_many c_days c_aims c_speeds c_kinds c_keptMany c_undoMany c_undos c_spot c_told c_to c_stood c_home c_lost c_out c_fewest ec_ways ec_next c_held) H locs → W p l e (RM 1 25) s m args below meth c H locs 0 0 QQ (F0 m 180 ls [])) → ∀ (ls : Array Slot) (H : Heap) (locs : List Loc), lv_has ls 14 [(0, .ref (a 0)), (1, .int x1), (2, .int x2), (3, .int x3), (4, .long x4), (6, .int x6)] → G dC dI A H0 (W_X9 a cI cJ c_length c_text c_stands c_homeFar c_nets c_netAt c_netWide c_netFrom c_netTo c_priceX c_priceY c_many c_days c_aims c_speeds c_kinds c_keptMany c_undoMany c_undos c_spot c_told c_to c_stood c_home c_lost c_out c_fewest c_ways c_next c_held) H locs → W p l e (RM 1 25) s m args below meth c H locs 0 0 QQ (F0 m 79 ls []) := by
    intro  n
    induction n with
    | zero => intro x4 x6 c_ways c_next ex4 ec_ways ec_next h; exact it_zero h
    | succ n ih =>
      intro x4 x6 c_ways c_next ex4 ec_ways ec_next h0 K0 ls H locs hl hG
      obtain ⟨w, h, hi, hr⟩ := it_succ h0
      have h : DX9_odds_L79s x1 x2 x4 x6 c_ways c_next = some w := h
      have KC : ∀ (x4 : Int64) (x6 : Int32) (c_ways : Nat → Int64) (c_next : Nat → Int64), w = .inl (x4, x6, c_ways, c_next) → ∀ (ls : Array Slot) (H : Heap) (locs : List Loc), lv_has ls 14 [(0, .ref (a 0)), (1, .int x1), (2, .int x2), (3, .int x3), (4, .long x4), (6, .int x6)] → G dC dI A H0 (W_X9 a cI cJ c_length c_text c_stands c_homeFar c_nets c_netAt c_netWide c_netFrom c_netTo c_priceX c_priceY c_many c_days c_aims c_speeds c_kinds c_keptMany c_undoMany c_undos c_spot c_told c_to c_stood c_home c_lost c_out c_fewest c_ways c_next c_held) H locs → W p l e (RM 1 25) s m args below meth c H locs 0 0 QQ (F0 m 79 ls []) := fun b0 b1 b2 b3 e ls H locs hl hG => ih b0 b1 b2 b3 ex4 ec_ways ec_next (hi _ e) K0 ls H locs hl hG
      have KX : ∀ (x4 : Int64) (c_ways : Nat → Int64) (c_next : Nat → Int64), w = .inr (x4, c_ways, c_next) → ∀ (ls : Array Slot) (H : Heap) (locs : List Loc), lv_has ls 14 [(0, .ref (a 0)), (3, .int x3), (4, .long x4)] → G dC dI A H0 (W_X9 a cI cJ c_length c_text c_stands c_homeFar c_nets c_netAt c_netWide c_netFrom c_netTo c_priceX c_priceY c_many c_days c_aims c_speeds c_kinds c_keptMany c_undoMany c_undos c_spot c_told c_to c_stood c_home c_lost c_out c_fewest c_ways c_next c_held) H locs → W p l e (RM 1 25) s m args below meth c H locs 0 0 QQ (F0 m 180 ls []) := fun b0 b1 b2 e ls H locs hl hG => by cases hr _ e; exact K0 ls H locs hl hG
      clear h0 hi hr K0 ih
      unfold DX9_odds_L79s at h
      refine lv_iload hx hb dX9_odds_79 (lv_at hl 5 rfl) ?_
      refine lv_iload_n hx hb dX9_odds_81 rfl (lv_at hl 1 rfl) ?_
      refine lv_icmp_ge (tgt := 180) hx hb dX9_odds_82 (by decide) (fun c_15 => ?_) (fun c_15 => ?_)
      · have h := ite_t h c_15
        exact KX _ _ _ (Option.some.inj h).symm _ _ _ (lv_sub hl [0, 3, 4] rfl) hG
      · have h := ite_f h c_15
        refine lv_iconst (v := (1 : Int32)) hx hb dX9_odds_85 (by decide) ?_
        refine lv_istore (lv' := [(7, .int (1 : Int32)), (0, .ref (a 0)), (1, .int x1), (2, .int x2), (3, .int x3), (4, .long x4), (6, .int x6)]) hx hb dX9_odds_86 hl (by decide) rfl (fun ls hl => ?_)
        obtain ⟨k_next_20, hz, h⟩ := bd1_some h
        refine L88 x4 x6 c_ways FU (1 : Int32) c_next _ hz (fun ls H locs hl hG => ?_) _ _ _ (lv_sub hl [1, 2, 3, 4, 5, 6, 0] rfl) hG
        clear hz
        refine lv_iconst (v := (1 : Int32)) hx hb dX9_odds_136 (by decide) ?_
        refine lv_istore (lv' := [(7, .int (1 : Int32)), (0, .ref (a 0)), (1, .int x1), (2, .int x2), (3, .int x3), (4, .long x4), (6, .int x6)]) hx hb dX9_odds_137 hl (by decide) rfl (fun ls hl => ?_)
        obtain ⟨k_ways_24, hz, h⟩ := bd1_some h
        refine L139 x4 x6 k_next_20 FU (1 : Int32) c_ways _ hz (fun ls H locs hl hG => ?_) _ _ _ (lv_sub hl [1, 2, 3, 4, 5, 6, 0] rfl) hG
        clear hz
        refine lv_lload hx hb dX9_odds_166 (lv_at hl 4 rfl) ?_
        refine lv_ldc2 (v := (10 : Int64)) hx hb X.1.2.2.2.1 (X.1.2.2.2.2 _ w_922) dX9_odds_168 ?_
        refine lv_lmul hx hb dX9_odds_171 ?_
        refine lv_lstore (lv' := [(4, .long (x4 * (10 : Int64))), (0, .ref (a 0)), (1, .int x1), (2, .int x2), (3, .int x3), (6, .int x6)]) hx hb dX9_odds_172 hl (by decide) rfl (fun ls hl => ?_)
        refine lv_iinc (v := (x6 + (1 : Int32))) (lv' := [(6, .int (x6 + (1 : Int32))), (4, .long (x4 * (10 : Int64))), (0, .ref (a 0)), (1, .int x1), (2, .int x2), (3, .int x3)]) hx hb dX9_odds_174 hl (k := 5) rfl rfl (by decide) rfl (fun ls hl => ?_)
        refine lv_goto (tgt := 79) hx hb dX9_odds_177 (by decide) ?_
        exact KC _ _ _ _ (Option.some.inj h).symm _ _ _ (lv_sub hl [2, 3, 4, 5, 1, 0] rfl) hG
  have L187 : ∀ (x4 : Int64) (c_ways : Nat → Int64) (c_next : Nat → Int64), ∀ (n : Nat) (x6 : Int64) (x8 : Int32) (ex6 : Int64), DX9_odds_L187 c_ways n x6 x8 = some ex6 → (∀ (ls : Array Slot) (H : Heap) (locs : List Loc), lv_has ls 14 [(3, .int x3), (4, .long x4), (6, .long ex6)] → G dC dI A H0 (W_X9 a cI cJ c_length c_text c_stands c_homeFar c_nets c_netAt c_netWide c_netFrom c_netTo c_priceX c_priceY c_many c_days c_aims c_speeds c_kinds c_keptMany c_undoMany c_undos c_spot c_told c_to c_stood c_home c_lost c_out c_fewest c_ways c_next c_held) H locs → W p l e (RM 1 25) s m args below meth c H locs 0 0 QQ (F0 m 212 ls [])) → ∀ (ls : Array Slot) (H : Heap) (locs : List Loc), lv_has ls 14 [(0, .ref (a 0)), (3, .int x3), (4, .long x4), (6, .long x6), (8, .int x8)] → G dC dI A H0 (W_X9 a cI cJ c_length c_text c_stands c_homeFar c_nets c_netAt c_netWide c_netFrom c_netTo c_priceX c_priceY c_many c_days c_aims c_speeds c_kinds c_keptMany c_undoMany c_undos c_spot c_told c_to c_stood c_home c_lost c_out c_fewest c_ways c_next c_held) H locs → W p l e (RM 1 25) s m args below meth c H locs 0 0 QQ (F0 m 187 ls []) := by
    intro x4 c_ways c_next n
    induction n with
    | zero => intro x6 x8 ex6 h; exact it_zero h
    | succ n ih =>
      intro x6 x8 ex6 h0 K0 ls H locs hl hG
      obtain ⟨w, h, hi, hr⟩ := it_succ h0
      have h : DX9_odds_L187s c_ways x6 x8 = some w := h
      have KC : ∀ (x6 : Int64) (x8 : Int32), w = .inl (x6, x8) → ∀ (ls : Array Slot) (H : Heap) (locs : List Loc), lv_has ls 14 [(0, .ref (a 0)), (3, .int x3), (4, .long x4), (6, .long x6), (8, .int x8)] → G dC dI A H0 (W_X9 a cI cJ c_length c_text c_stands c_homeFar c_nets c_netAt c_netWide c_netFrom c_netTo c_priceX c_priceY c_many c_days c_aims c_speeds c_kinds c_keptMany c_undoMany c_undos c_spot c_told c_to c_stood c_home c_lost c_out c_fewest c_ways c_next c_held) H locs → W p l e (RM 1 25) s m args below meth c H locs 0 0 QQ (F0 m 187 ls []) := fun b0 b1 e ls H locs hl hG => ih b0 b1 ex6 (hi _ e) K0 ls H locs hl hG
      have KX : ∀ (x6 : Int64), w = .inr x6 → ∀ (ls : Array Slot) (H : Heap) (locs : List Loc), lv_has ls 14 [(3, .int x3), (4, .long x4), (6, .long x6)] → G dC dI A H0 (W_X9 a cI cJ c_length c_text c_stands c_homeFar c_nets c_netAt c_netWide c_netFrom c_netTo c_priceX c_priceY c_many c_days c_aims c_speeds c_kinds c_keptMany c_undoMany c_undos c_spot c_told c_to c_stood c_home c_lost c_out c_fewest c_ways c_next c_held) H locs → W p l e (RM 1 25) s m args below meth c H locs 0 0 QQ (F0 m 212 ls []) := fun b0 e ls H locs hl hG => by cases hr _ e; exact K0 ls H locs hl hG
      clear h0 hi hr K0 ih
      unfold DX9_odds_L187s at h
      refine lv_iload hx hb dX9_odds_187 (lv_at hl 4 rfl) ?_
      refine lv_bipush (v := (20 : Int32)) hx hb dX9_odds_189 (by decide) ?_
      refine lv_icmp_ge (tgt := 212) hx hb dX9_odds_191 (by decide) (fun c_28 => ?_) (fun c_28 => ?_)
      · have h := ite_t h c_28
        exact KX _ (Option.some.inj h).symm _ _ _ (lv_sub hl [1, 2, 3] rfl) hG
      · have h := ite_f h c_28
        refine lv_lload hx hb dX9_odds_194 (lv_at hl 3 rfl) ?_
        refine lv_aload_n hx hb dX9_odds_196 rfl (lv_at hl 0 rfl) ?_
        refine r_get X hG in_X9 rfl 27 (by decide) w_658 0 rfl rfl dX9_odds_197 ?_
        refine lv_iload hx hb dX9_odds_200 (lv_at hl 4 rfl) ?_
        obtain ⟨g_29, h⟩ := gd h
        refine r_lald X hG 23 rfl g_29 dX9_odds_202 ?_
        refine lv_ladd hx hb dX9_odds_203 ?_
        refine lv_lstore (lv' := [(6, .long (x6 + (c_ways x8.toNatClampNeg))), (0, .ref (a 0)), (3, .int x3), (4, .long x4), (8, .int x8)]) hx hb dX9_odds_204 hl (by decide) rfl (fun ls hl => ?_)
        refine lv_iinc (v := (x8 + (1 : Int32))) (lv' := [(8, .int (x8 + (1 : Int32))), (6, .long (x6 + (c_ways x8.toNatClampNeg))), (0, .ref (a 0)), (3, .int x3), (4, .long x4)]) hx hb dX9_odds_206 hl (k := 4) rfl rfl (by decide) rfl (fun ls hl => ?_)
        refine lv_goto (tgt := 187) hx hb dX9_odds_209 (by decide) ?_
        exact KC _ _ (Option.some.inj h).symm _ _ _ (lv_sub hl [2, 3, 4, 1, 0] rfl) hG
  have L220 : ∀ (x4 : Int64) (x6 : Int64) (c_ways : Nat → Int64) (c_next : Nat → Int64), ∀ (n : Nat) (x8 : Int64) (x10 : Int64) (ex8 : Int64), DX9_odds_L220 n x8 x10 = some ex8 → (∀ (ls : Array Slot) (H : Heap) (locs : List Loc), lv_has ls 14 [(3, .int x3), (4, .long x4), (6, .long x6), (8, .long ex8)] → G dC dI A H0 (W_X9 a cI cJ c_length c_text c_stands c_homeFar c_nets c_netAt c_netWide c_netFrom c_netTo c_priceX c_priceY c_many c_days c_aims c_speeds c_kinds c_keptMany c_undoMany c_undos c_spot c_told c_to c_stood c_home c_lost c_out c_fewest c_ways c_next c_held) H locs → W p l e (RM 1 25) s m args below meth c H locs 0 0 QQ (F0 m 245 ls [])) → ∀ (ls : Array Slot) (H : Heap) (locs : List Loc), lv_has ls 14 [(3, .int x3), (4, .long x4), (6, .long x6), (8, .long x8), (10, .long x10)] → G dC dI A H0 (W_X9 a cI cJ c_length c_text c_stands c_homeFar c_nets c_netAt c_netWide c_netFrom c_netTo c_priceX c_priceY c_many c_days c_aims c_speeds c_kinds c_keptMany c_undoMany c_undos c_spot c_told c_to c_stood c_home c_lost c_out c_fewest c_ways c_next c_held) H locs → W p l e (RM 1 25) s m args below meth c H locs 0 0 QQ (F0 m 220 ls []) := by
    intro x4 x6 c_ways c_next n
    induction n with
    | zero => intro x8 x10 ex8 h; exact it_zero h
    | succ n ih =>
      intro x8 x10 ex8 h0 K0 ls H locs hl hG
      obtain ⟨w, h, hi, hr⟩ := it_succ h0
      have h : DX9_odds_L220s x8 x10 = some w := h
      have KC : ∀ (x8 : Int64) (x10 : Int64), w = .inl (x8, x10) → ∀ (ls : Array Slot) (H : Heap) (locs : List Loc), lv_has ls 14 [(3, .int x3), (4, .long x4), (6, .long x6), (8, .long x8), (10, .long x10)] → G dC dI A H0 (W_X9 a cI cJ c_length c_text c_stands c_homeFar c_nets c_netAt c_netWide c_netFrom c_netTo c_priceX c_priceY c_many c_days c_aims c_speeds c_kinds c_keptMany c_undoMany c_undos c_spot c_told c_to c_stood c_home c_lost c_out c_fewest c_ways c_next c_held) H locs → W p l e (RM 1 25) s m args below meth c H locs 0 0 QQ (F0 m 220 ls []) := fun b0 b1 e ls H locs hl hG => ih b0 b1 ex8 (hi _ e) K0 ls H locs hl hG
      have KX : ∀ (x8 : Int64), w = .inr x8 → ∀ (ls : Array Slot) (H : Heap) (locs : List Loc), lv_has ls 14 [(3, .int x3), (4, .long x4), (6, .long x6), (8, .long x8)] → G dC dI A H0 (W_X9 a cI cJ c_length c_text c_stands c_homeFar c_nets c_netAt c_netWide c_netFrom c_netTo c_priceX c_priceY c_many c_days c_aims c_speeds c_kinds c_keptMany c_undoMany c_undos c_spot c_told c_to c_stood c_home c_lost c_out c_fewest c_ways c_next c_held) H locs → W p l e (RM 1 25) s m args below meth c H locs 0 0 QQ (F0 m 245 ls []) := fun b0 e ls H locs hl hG => by cases hr _ e; exact K0 ls H locs hl hG
      clear h0 hi hr K0 ih
      unfold DX9_odds_L220s at h
      refine lv_lload hx hb dX9_odds_220 (lv_at hl 4 rfl) ?_
      refine lv_lconst (v := (0 : Int64)) hx hb dX9_odds_222 (by decide) ?_
      refine W.lcmp hx hb dX9_odds_223 ?_
      refine lv_if_eq (tgt := 245) hx hb dX9_odds_224 (by decide) (fun c_31 => ?_) (fun c_31 => ?_)
      · have h := ite_t h c_31
        exact KX _ (Option.some.inj h).symm _ _ _ (lv_sub hl [0, 1, 2, 3] rfl) hG
      · have h := ite_f h c_31
        refine lv_lload hx hb dX9_odds_227 (lv_at hl 3 rfl) ?_
        refine lv_lload hx hb dX9_odds_229 (lv_at hl 4 rfl) ?_
        obtain ⟨g_32, h⟩ := gd h
        refine lv_lrem hx hb dX9_odds_231 g_32 ?_
        refine lv_lstore (lv' := [(12, .long (x8 - x8 / x10 * x10)), (3, .int x3), (4, .long x4), (6, .long x6), (8, .long x8), (10, .long x10)]) hx hb dX9_odds_232 hl (by decide) rfl (fun ls hl => ?_)
        refine lv_lload hx hb dX9_odds_234 (lv_at hl 5 rfl) ?_
        refine lv_lstore (lv' := [(8, .long x10), (12, .long (x8 - x8 / x10 * x10)), (3, .int x3), (4, .long x4), (6, .long x6), (10, .long x10)]) hx hb dX9_odds_236 hl (by decide) rfl (fun ls hl => ?_)
        refine lv_lload hx hb dX9_odds_238 (lv_at hl 1 rfl) ?_
        refine lv_lstore (lv' := [(10, .long (x8 - x8 / x10 * x10)), (8, .long x10), (12, .long (x8 - x8 / x10 * x10)), (3, .int x3), (4, .long x4), (6, .long x6)]) hx hb dX9_odds_240 hl (by decide) rfl (fun ls hl => ?_)
        refine lv_goto (tgt := 220) hx hb dX9_odds_242 (by decide) ?_
        exact KC _ _ (Option.some.inj h).symm _ _ _ (lv_sub hl [3, 4, 5, 1, 0] rfl) hG
  have h := hD
  unfold DX9_odds at h
  clear hD
  refine lv_iload_n hx hb dX9_odds_0 rfl (lv_at hl 1 rfl) ?_
  refine lv_i2l (v := (x1.toInt64)) hx hb dX9_odds_1 rfl ?_
  refine lv_lconst (v := (0 : Int64)) hx hb dX9_odds_2 (by decide) ?_
  refine lv_ldc2 (v := (9 : Int64)) hx hb X.1.2.2.2.1 (X.1.2.2.2.2 _ w_921) dX9_odds_3 ?_
  obtain ⟨r_1, hz_2, h⟩ := bd1_some h
  refine aft_i (ws' := (W_X9 a cI cJ c_length c_text c_stands c_homeFar c_nets c_netAt c_netWide c_netFrom c_netTo c_priceX c_priceY c_many c_days c_aims c_speeds c_kinds c_keptMany c_undoMany c_undos c_spot c_told c_to c_stood c_home c_lost c_out c_fewest c_ways c_next c_held)) (run_S (rest := []) X hG hl.1 (mX9_in l dC dI cI cJ (x1.toInt64) (0 : Int64) (9 : Int64) hz_2) gi_S_X9_92 hd_S_yX9_in ⟨rfl, rfl⟩ rfl ⟨Nat.le_of_ble_eq_true rfl, Nat.le_of_ble_eq_true rfl⟩ [] (by decide) rfl rfl (Nat.le_of_ble_eq_true rfl) ⟨Nat.le_of_ble_eq_true rfl, Nat.le_of_ble_eq_true rfl⟩ dX9_odds_6) hG [] rfl rfl rfl (fun H locs hG => ?_)
  clear hz_2
  refine lv_if_eq (tgt := 34) hx hb dX9_odds_9 (by decide) (fun c_3 => ?_) (fun c_3 => ?_)
  · have h := ite_t h c_3
    refine lv_ldc2 (v := (-1 : Int64)) hx hb X.1.2.2.2.1 (X.1.2.2.2.2 _ w_923) dX9_odds_34 ?_
    cases h
    exact ret _ _ _ _ dX9_odds_37 hG
  · have h := ite_f h c_3
    refine lv_iload_n hx hb dX9_odds_12 rfl (lv_at hl 2 rfl) ?_
    refine lv_i2l (v := (x2.toInt64)) hx hb dX9_odds_13 rfl ?_
    refine lv_lconst (v := (0 : Int64)) hx hb dX9_odds_14 (by decide) ?_
    refine lv_ldc2 (v := (10 : Int64)) hx hb X.1.2.2.2.1 (X.1.2.2.2.2 _ w_922) dX9_odds_15 ?_
    obtain ⟨r_4, hz_5, h⟩ := bd1_some h
    refine aft_i (ws' := (W_X9 a cI cJ c_length c_text c_stands c_homeFar c_nets c_netAt c_netWide c_netFrom c_netTo c_priceX c_priceY c_many c_days c_aims c_speeds c_kinds c_keptMany c_undoMany c_undos c_spot c_told c_to c_stood c_home c_lost c_out c_fewest c_ways c_next c_held)) (run_S (rest := []) X hG hl.1 (mX9_in l dC dI cI cJ (x2.toInt64) (0 : Int64) (10 : Int64) hz_5) gi_S_X9_92 hd_S_yX9_in ⟨rfl, rfl⟩ rfl ⟨Nat.le_of_ble_eq_true rfl, Nat.le_of_ble_eq_true rfl⟩ [] (by decide) rfl rfl (Nat.le_of_ble_eq_true rfl) ⟨Nat.le_of_ble_eq_true rfl, Nat.le_of_ble_eq_true rfl⟩ dX9_odds_18) hG [] rfl rfl rfl (fun H locs hG => ?_)
    clear hz_5
    refine lv_if_eq (tgt := 34) hx hb dX9_odds_21 (by decide) (fun c_6 => ?_) (fun c_6 => ?_)
    · have h := ite_t h c_6
      refine lv_ldc2 (v := (-1 : Int64)) hx hb X.1.2.2.2.1 (X.1.2.2.2.2 _ w_923) dX9_odds_34 ?_
      cases h
      exact ret _ _ _ _ dX9_odds_37 hG
    · have h := ite_f h c_6
      refine lv_iload_n hx hb dX9_odds_24 rfl (lv_at hl 3 rfl) ?_
      refine lv_i2l (v := (x3.toInt64)) hx hb dX9_odds_25 rfl ?_
      refine lv_lconst (v := (0 : Int64)) hx hb dX9_odds_26 (by decide) ?_
      refine lv_lconst (v := (1 : Int64)) hx hb dX9_odds_27 (by decide) ?_
      obtain ⟨r_7, hz_8, h⟩ := bd1_some h
      refine aft_i (ws' := (W_X9 a cI cJ c_length c_text c_stands c_homeFar c_nets c_netAt c_netWide c_netFrom c_netTo c_priceX c_priceY c_many c_days c_aims c_speeds c_kinds c_keptMany c_undoMany c_undos c_spot c_told c_to c_stood c_home c_lost c_out c_fewest c_ways c_next c_held)) (run_S (rest := []) X hG hl.1 (mX9_in l dC dI cI cJ (x3.toInt64) (0 : Int64) (1 : Int64) hz_8) gi_S_X9_92 hd_S_yX9_in ⟨rfl, rfl⟩ rfl ⟨Nat.le_of_ble_eq_true rfl, Nat.le_of_ble_eq_true rfl⟩ [] (by decide) rfl rfl (Nat.le_of_ble_eq_true rfl) ⟨Nat.le_of_ble_eq_true rfl, Nat.le_of_ble_eq_true rfl⟩ dX9_odds_28) hG [] rfl rfl rfl (fun H locs hG => ?_)
      clear hz_8
      refine lv_if_ne (tgt := 38) hx hb dX9_odds_31 (by decide) (fun c_9 => ?_) (fun c_9 => ?_)
      · have h := ite_f h c_9
        refine lv_iconst (v := (0 : Int32)) hx hb dX9_odds_38 (by decide) ?_
        refine lv_istore (lv' := [(4, .int (0 : Int32)), (0, .ref (a 0)), (1, .int x1), (2, .int x2), (3, .int x3)]) hx hb dX9_odds_39 hl (by decide) rfl (fun ls hl => ?_)
        obtain ⟨k_ways_14, hz, h⟩ := bd1_some h
        refine L41 c_next FU (0 : Int32) c_ways _ hz (fun ls H locs hl hG => ?_) _ _ _ (lv_sub hl [1, 2, 3, 4, 0] rfl) hG
        clear hz
        refine lv_lconst (v := (1 : Int64)) hx hb dX9_odds_73 (by decide) ?_
        refine lv_lstore (lv' := [(4, .long (1 : Int64)), (0, .ref (a 0)), (1, .int x1), (2, .int x2), (3, .int x3)]) hx hb dX9_odds_74 hl (by decide) rfl (fun ls hl => ?_)
        refine lv_iconst (v := (0 : Int32)) hx hb dX9_odds_76 (by decide) ?_
        refine lv_istore (lv' := [(6, .int (0 : Int32)), (4, .long (1 : Int64)), (0, .ref (a 0)), (1, .int x1), (2, .int x2), (3, .int x3)]) hx hb dX9_odds_77 hl (by decide) rfl (fun ls hl => ?_)
        obtain ⟨z4_25, k_ways_26, k_next_27, hz, h⟩ := bd3_some h
        refine L79  FU (1 : Int64) (0 : Int32) k_ways_14 c_next _ _ _ hz (fun ls H locs hl hG => ?_) _ _ _ (lv_sub hl [2, 3, 4, 5, 1, 0] rfl) hG
        clear hz
        refine lv_lconst (v := (0 : Int64)) hx hb dX9_odds_180 (by decide) ?_
        refine lv_lstore (lv' := [(6, .long (0 : Int64)), (0, .ref (a 0)), (3, .int x3), (4, .long z4_25)]) hx hb dX9_odds_181 hl (by decide) rfl (fun ls hl => ?_)
        refine lv_bipush (v := (10 : Int32)) hx hb dX9_odds_183 (by decide) ?_
        refine lv_istore (lv' := [(8, .int (10 : Int32)), (6, .long (0 : Int64)), (0, .ref (a 0)), (3, .int x3), (4, .long z4_25)]) hx hb dX9_odds_185 hl (by decide) rfl (fun ls hl => ?_)
        obtain ⟨z6_30, hz, h⟩ := bd1_some h
        refine L187 z4_25 k_ways_26 k_next_27 FU (0 : Int64) (10 : Int32) _ hz (fun ls H locs hl hG => ?_) _ _ _ (lv_sub hl [2, 3, 4, 1, 0] rfl) hG
        clear hz
        refine lv_lload hx hb dX9_odds_212 (lv_at hl 2 rfl) ?_
        refine lv_lstore (lv' := [(8, .long z6_30), (3, .int x3), (4, .long z4_25), (6, .long z6_30)]) hx hb dX9_odds_214 hl (by decide) rfl (fun ls hl => ?_)
        refine lv_lload hx hb dX9_odds_216 (lv_at hl 2 rfl) ?_
        refine lv_lstore (lv' := [(10, .long z4_25), (8, .long z6_30), (3, .int x3), (4, .long z4_25), (6, .long z6_30)]) hx hb dX9_odds_218 hl (by decide) rfl (fun ls hl => ?_)
        obtain ⟨z8_33, hz, h⟩ := bd1_some h
        refine L220 z4_25 z6_30 k_ways_26 k_next_27 FU z6_30 z4_25 _ hz (fun ls H locs hl hG => ?_) _ _ _ (lv_sub hl [2, 3, 4, 1, 0] rfl) hG
        clear hz
        refine lv_iload_n hx hb dX9_odds_245 rfl (lv_at hl 0 rfl) ?_
        refine lv_if_ne (tgt := 257) hx hb dX9_odds_246 (by decide) (fun c_34 => ?_) (fun c_34 => ?_)
        · have h := ite_f h c_34
          refine lv_lload hx hb dX9_odds_257 (lv_at hl 1 rfl) ?_
          refine lv_lload hx hb dX9_odds_259 (lv_at hl 3 rfl) ?_
          obtain ⟨g_35, h⟩ := gd h
          refine lv_ldiv hx hb dX9_odds_261 g_35 ?_
          cases h
          exact ret _ _ _ _ dX9_odds_262 hG
        · have h := ite_t h c_34
          refine lv_lload hx hb dX9_odds_249 (lv_at hl 2 rfl) ?_
          refine lv_lload hx hb dX9_odds_251 (lv_at hl 3 rfl) ?_
          obtain ⟨g_36, h⟩ := gd h
          refine lv_ldiv hx hb dX9_odds_253 g_36 ?_
          refine lv_goto (tgt := 262) hx hb dX9_odds_254 (by decide) ?_
          cases h
          exact ret _ _ _ _ dX9_odds_262 hG
      · have h := ite_t h c_9
        refine lv_ldc2 (v := (-1 : Int64)) hx hb X.1.2.2.2.1 (X.1.2.2.2.2 _ w_923) dX9_odds_34 ?_
        cases h
        exact ret _ _ _ _ dX9_odds_37 hG
set_option maxRecDepth 100000 in
set_option maxHeartbeats 4000000 in
theorem mX9_year (l : Launch) (dC : Nat → ClassId) (dI : Nat → Nat → Nat) (cI cJ : ClassId) (a : Nat → Nat) (c_length : Int32) (c_text : Nat → Int32) (c_stands : Nat → Int32) (c_homeFar : Nat → Int32) (c_nets : Nat → Int32) (c_netAt : Nat → Int32) (c_netWide : Nat → Int32) (c_netFrom : Nat → Int32) (c_netTo : Nat → Int32) (c_priceX : Nat → Int32) (c_priceY : Nat → Int32) (c_many : Nat → Int32) (c_days : Nat → Int32) (c_aims : Nat → Int32) (c_speeds : Nat → Int32) (c_kinds : Nat → Int32) (c_keptMany : Int32) (c_undoMany : Int32) (c_undos : Nat → Int32) (c_spot : Int32) (c_told : Nat → Int32) (c_to : Nat → Int32) (c_stood : Nat → Int32) (c_home : Nat → Int32) (c_lost : Nat → Int32) (c_out : Int32) (c_fewest : Nat → Int32) (c_ways : Nat → Int64) (c_next : Nat → Int64) (c_held : Nat → Int32) (x1 : Int32) (x2 : Int32) {res : Int32} {n_aims : Nat → Int32} {n_to : Nat → Int32} {n_stood : Nat → Int32} {n_home : Nat → Int32} {n_lost : Nat → Int32} {n_out : Int32} {n_held : Nat → Int32} (hD : DX9_year x1 x2 c_stands c_homeFar c_nets c_netAt c_netWide c_netFrom c_netTo c_priceX c_priceY c_many c_days c_aims c_speeds c_kinds c_to c_stood c_home c_lost c_out c_held = some (res, n_aims, n_to, n_stood, n_home, n_lost, n_out, n_held)) : Met l yX9_year (WZ yX9_year cX9_year 6 (some .int)) (RM 6 129) (PC dC dI cI cJ [.ref (a 0), .int x1, .int x2] (W_X9 a cI cJ c_length c_text c_stands c_homeFar c_nets c_netAt c_netWide c_netFrom c_netTo c_priceX c_priceY c_many c_days c_aims c_speeds c_kinds c_keptMany c_undoMany c_undos c_spot c_told c_to c_stood c_home c_lost c_out c_fewest c_ways c_next c_held)) (QI dC dI (W_X9 a cI cJ c_length c_text c_stands c_homeFar c_nets c_netAt c_netWide c_netFrom c_netTo c_priceX c_priceY c_many c_days c_aims c_speeds c_kinds c_keptMany c_undoMany c_undos c_spot c_told c_to c_stood c_home c_lost c_out c_fewest c_ways c_next c_held) (W_X9 a cI cJ c_length c_text c_stands c_homeFar c_nets c_netAt c_netWide c_netFrom c_netTo c_priceX c_priceY c_many c_days n_aims c_speeds c_kinds c_keptMany c_undoMany c_undos c_spot c_told n_to n_stood n_home n_lost n_out c_fewest c_ways c_next n_held) res) 0 0 (FA (W_X9 a cI cJ c_length c_text c_stands c_homeFar c_nets c_netAt c_netWide c_netFrom c_netTo c_priceX c_priceY c_many c_days c_aims c_speeds c_kinds c_keptMany c_undoMany c_undos c_spot c_told c_to c_stood c_home c_lost c_out c_fewest c_ways c_next c_held)) := by
  refine r_metI (by decide +kernel) (Nat.le_of_ble_eq_true rfl) ?_
  intro p e s m args below meth c A H0 QQ X ret ls hl hG
  have X : Cx p m c cX9_year 6 s args RX9 dC dI cI cJ meth (some .int) := X
  have hx := X.1.1
  have hb := X.1.2.1
  have hl : lv_has ls 6 [(0, .ref (a 0)), (1, .int x1), (2, .int x2)] := hl
  have L28 : ∀ (c_to : Nat → Int32) (c_stood : Nat → Int32) (c_home : Nat → Int32) (c_lost : Nat → Int32) (c_out : Int32), ∀ (n : Nat) (x3 : Int32) (c_aims : Nat → Int32) (c_held : Nat → Int32) (ec_aims : Nat → Int32) (ec_held : Nat → Int32), DX9_year_L28 x1 c_many n x3 c_aims c_held = some (ec_aims, ec_held) → (∀ (ls : Array Slot) (H : Heap) (locs : List Loc), lv_has ls 6 [(0, .ref (a 0)), (2, .int x2)] → G dC dI A H0 (W_X9 a cI cJ c_length c_text c_stands c_homeFar c_nets c_netAt c_netWide c_netFrom c_netTo c_priceX c_priceY c_many c_days ec_aims c_speeds c_kinds c_keptMany c_undoMany c_undos c_spot c_told c_to c_stood c_home c_lost c_out c_fewest c_ways c_next ec_held) H locs → W p l e (RM 6 129) s m args below meth c H locs 0 0 QQ (F0 m 93 ls [])) → ∀ (ls : Array Slot) (H : Heap) (locs : List Loc), lv_has ls 6 [(0, .ref (a 0)), (1, .int x1), (2, .int x2), (3, .int x3)] → G dC dI A H0 (W_X9 a cI cJ c_length c_text c_stands c_homeFar c_nets c_netAt c_netWide c_netFrom c_netTo c_priceX c_priceY c_many c_days c_aims c_speeds c_kinds c_keptMany c_undoMany c_undos c_spot c_told c_to c_stood c_home c_lost c_out c_fewest c_ways c_next c_held) H locs → W p l e (RM 6 129) s m args below meth c H locs 0 0 QQ (F0 m 28 ls []) := by
    intro c_to c_stood c_home c_lost c_out n
    induction n with
    | zero => intro x3 c_aims c_held ec_aims ec_held h; exact it_zero h
    | succ n ih =>
      intro x3 c_aims c_held ec_aims ec_held h0 K0 ls H locs hl hG
      obtain ⟨w, h, hi, hr⟩ := it_succ h0
      have h : DX9_year_L28s x1 c_many x3 c_aims c_held = some w := h
      have KC : ∀ (x3 : Int32) (c_aims : Nat → Int32) (c_held : Nat → Int32), w = .inl (x3, c_aims, c_held) → ∀ (ls : Array Slot) (H : Heap) (locs : List Loc), lv_has ls 6 [(0, .ref (a 0)), (1, .int x1), (2, .int x2), (3, .int x3)] → G dC dI A H0 (W_X9 a cI cJ c_length c_text c_stands c_homeFar c_nets c_netAt c_netWide c_netFrom c_netTo c_priceX c_priceY c_many c_days c_aims c_speeds c_kinds c_keptMany c_undoMany c_undos c_spot c_told c_to c_stood c_home c_lost c_out c_fewest c_ways c_next c_held) H locs → W p l e (RM 6 129) s m args below meth c H locs 0 0 QQ (F0 m 28 ls []) := fun b0 b1 b2 e ls H locs hl hG => ih b0 b1 b2 ec_aims ec_held (hi _ e) K0 ls H locs hl hG
      have KX : ∀ (c_aims : Nat → Int32) (c_held : Nat → Int32), w = .inr (c_aims, c_held) → ∀ (ls : Array Slot) (H : Heap) (locs : List Loc), lv_has ls 6 [(0, .ref (a 0)), (2, .int x2)] → G dC dI A H0 (W_X9 a cI cJ c_length c_text c_stands c_homeFar c_nets c_netAt c_netWide c_netFrom c_netTo c_priceX c_priceY c_many c_days c_aims c_speeds c_kinds c_keptMany c_undoMany c_undos c_spot c_told c_to c_stood c_home c_lost c_out c_fewest c_ways c_next c_held) H locs → W p l e (RM 6 129) s m args below meth c H locs 0 0 QQ (F0 m 93 ls []) := fun b0 b1 e ls H locs hl hG => by cases hr _ e; exact K0 ls H locs hl hG
      clear h0 hi hr K0 ih
      unfold DX9_year_L28s at h
      refine lv_iload_n hx hb dX9_year_28 rfl (lv_at hl 3 rfl) ?_
      refine lv_aload_n hx hb dX9_year_29 rfl (lv_at hl 0 rfl) ?_
      refine r_get X hG in_X9 rfl 11 (by decide) w_642 0 rfl rfl dX9_year_30 ?_
      refine lv_iconst (v := (0 : Int32)) hx hb dX9_year_33 (by decide) ?_
      refine r_iald X hG 11 rfl (vpd (by decide)) dX9_year_34 ?_
      refine lv_icmp_ge (tgt := 93) hx hb dX9_year_35 (by decide) (fun c_7 => ?_) (fun c_7 => ?_)
      · have h := ite_t h c_7
        exact KX _ _ (Option.some.inj h).symm _ _ _ (lv_sub hl [0, 2] rfl) hG
      · have h := ite_f h c_7
        refine lv_ldc2 (v := (7919 : Int64)) hx hb X.1.2.2.2.1 (X.1.2.2.2.2 _ w_929) dX9_year_38 ?_
        refine lv_iload_n hx hb dX9_year_41 rfl (lv_at hl 1 rfl) ?_
        refine lv_i2l (v := (x1.toInt64)) hx hb dX9_year_42 rfl ?_
        refine lv_lmul hx hb dX9_year_43 ?_
        refine lv_ldc2 (v := (6151 : Int64)) hx hb X.1.2.2.2.1 (X.1.2.2.2.2 _ w_930) dX9_year_44 ?_
        refine lv_iload_n hx hb dX9_year_47 rfl (lv_at hl 3 rfl) ?_
        refine lv_i2l (v := (x3.toInt64)) hx hb dX9_year_48 rfl ?_
        refine lv_lmul hx hb dX9_year_49 ?_
        refine lv_ladd hx hb dX9_year_50 ?_
        refine lv_lconst (v := (1 : Int64)) hx hb dX9_year_51 (by decide) ?_
        refine lv_ladd hx hb dX9_year_52 ?_
        refine lv_lstore (lv' := [(4, .long ((((7919 : Int64) * (x1.toInt64)) + ((6151 : Int64) * (x3.toInt64))) + (1 : Int64))), (0, .ref (a 0)), (1, .int x1), (2, .int x2), (3, .int x3)]) hx hb dX9_year_53 hl (by decide) rfl (fun ls hl => ?_)
        refine lv_aload_n hx hb dX9_year_55 rfl (lv_at hl 1 rfl) ?_
        refine r_get X hG in_X9 rfl 29 (by decide) w_660 0 rfl rfl dX9_year_56 ?_
        refine lv_iload_n hx hb dX9_year_59 rfl (lv_at hl 4 rfl) ?_
        refine lv_aload_n hx hb dX9_year_60 rfl (lv_at hl 1 rfl) ?_
        refine r_get X hG in_X9 rfl 13 (by decide) w_644 0 rfl rfl dX9_year_61 ?_
        refine lv_iload_n hx hb dX9_year_64 rfl (lv_at hl 4 rfl) ?_
        obtain ⟨g_8, h⟩ := gd h
        refine r_iald X hG 13 rfl g_8 dX9_year_65 ?_
        obtain ⟨g_9, h⟩ := gd h
        refine r_iast X hG 25 (ws' := (W_X9 a cI cJ c_length c_text c_stands c_homeFar c_nets c_netAt c_netWide c_netFrom c_netTo c_priceX c_priceY c_many c_days c_aims c_speeds c_kinds c_keptMany c_undoMany c_undos c_spot c_told c_to c_stood c_home c_lost c_out c_fewest c_ways c_next (upd c_held x3.toNatClampNeg (c_aims x3.toNatClampNeg)))) rfl g_9 rfl dX9_year_66 (fun H locs hG => ?_)
        refine lv_aload_n hx hb dX9_year_67 rfl (lv_at hl 1 rfl) ?_
        refine r_get X hG in_X9 rfl 13 (by decide) w_644 0 rfl rfl dX9_year_68 ?_
        refine lv_iload_n hx hb dX9_year_71 rfl (lv_at hl 4 rfl) ?_
        refine lv_lload hx hb dX9_year_72 (lv_at hl 0 rfl) ?_
        refine lv_lload hx hb dX9_year_74 (lv_at hl 0 rfl) ?_
        refine lv_lmul hx hb dX9_year_76 ?_
        refine lv_ldc2 (v := (65521 : Int64)) hx hb X.1.2.2.2.1 (X.1.2.2.2.2 _ w_931) dX9_year_77 ?_
        refine lv_lrem hx hb dX9_year_80 (by decide) ?_
        refine lv_ldc2 (v := (24 : Int64)) hx hb X.1.2.2.2.1 (X.1.2.2.2.2 _ w_932) dX9_year_81 ?_
        refine lv_lrem hx hb dX9_year_84 (by decide) ?_
        refine lv_l2i (v := ((((((((7919 : Int64) * (x1.toInt64)) + ((6151 : Int64) * (x3.toInt64))) + (1 : Int64)) * ((((7919 : Int64) * (x1.toInt64)) + ((6151 : Int64) * (x3.toInt64))) + (1 : Int64))) - (((((7919 : Int64) * (x1.toInt64)) + ((6151 : Int64) * (x3.toInt64))) + (1 : Int64)) * ((((7919 : Int64) * (x1.toInt64)) + ((6151 : Int64) * (x3.toInt64))) + (1 : Int64))) / (65521 : Int64) * (65521 : Int64)) - ((((((7919 : Int64) * (x1.toInt64)) + ((6151 : Int64) * (x3.toInt64))) + (1 : Int64)) * ((((7919 : Int64) * (x1.toInt64)) + ((6151 : Int64) * (x3.toInt64))) + (1 : Int64))) - (((((7919 : Int64) * (x1.toInt64)) + ((6151 : Int64) * (x3.toInt64))) + (1 : Int64)) * ((((7919 : Int64) * (x1.toInt64)) + ((6151 : Int64) * (x3.toInt64))) + (1 : Int64))) / (65521 : Int64) * (65521 : Int64)) / (24 : Int64) * (24 : Int64)).toInt32)) hx hb dX9_year_85 rfl ?_
        obtain ⟨g_10, h⟩ := gd h
        refine r_iast X hG 13 (ws' := (W_X9 a cI cJ c_length c_text c_stands c_homeFar c_nets c_netAt c_netWide c_netFrom c_netTo c_priceX c_priceY c_many c_days (upd c_aims x3.toNatClampNeg ((((((((7919 : Int64) * (x1.toInt64)) + ((6151 : Int64) * (x3.toInt64))) + (1 : Int64)) * ((((7919 : Int64) * (x1.toInt64)) + ((6151 : Int64) * (x3.toInt64))) + (1 : Int64))) - (((((7919 : Int64) * (x1.toInt64)) + ((6151 : Int64) * (x3.toInt64))) + (1 : Int64)) * ((((7919 : Int64) * (x1.toInt64)) + ((6151 : Int64) * (x3.toInt64))) + (1 : Int64))) / (65521 : Int64) * (65521 : Int64)) - ((((((7919 : Int64) * (x1.toInt64)) + ((6151 : Int64) * (x3.toInt64))) + (1 : Int64)) * ((((7919 : Int64) * (x1.toInt64)) + ((6151 : Int64) * (x3.toInt64))) + (1 : Int64))) - (((((7919 : Int64) * (x1.toInt64)) + ((6151 : Int64) * (x3.toInt64))) + (1 : Int64)) * ((((7919 : Int64) * (x1.toInt64)) + ((6151 : Int64) * (x3.toInt64))) + (1 : Int64))) / (65521 : Int64) * (65521 : Int64)) / (24 : Int64) * (24 : Int64)).toInt32)) c_speeds c_kinds c_keptMany c_undoMany c_undos c_spot c_told c_to c_stood c_home c_lost c_out c_fewest c_ways c_next (upd c_held x3.toNatClampNeg (c_aims x3.toNatClampNeg)))) rfl g_10 rfl dX9_year_86 (fun H locs hG => ?_)
        refine lv_iinc (v := (x3 + (1 : Int32))) (lv' := [(3, .int (x3 + (1 : Int32))), (4, .long ((((7919 : Int64) * (x1.toInt64)) + ((6151 : Int64) * (x3.toInt64))) + (1 : Int64))), (0, .ref (a 0)), (1, .int x1), (2, .int x2)]) hx hb dX9_year_87 hl (k := 4) rfl rfl (by decide) rfl (fun ls hl => ?_)
        refine lv_goto (tgt := 28) hx hb dX9_year_90 (by decide) ?_
        exact KC _ _ _ (Option.some.inj h).symm _ _ _ (lv_sub hl [2, 3, 4, 0] rfl) hG
  have L132 : ∀ (x3 : Int32) (c_to : Nat → Int32) (c_stood : Nat → Int32) (c_home : Nat → Int32) (c_lost : Nat → Int32) (c_out : Int32) (c_held : Nat → Int32), ∀ (n : Nat) (x4 : Int32) (c_aims : Nat → Int32) (ec_aims : Nat → Int32), DX9_year_L132 c_many c_held n x4 c_aims = some ec_aims → (∀ (ls : Array Slot) (H : Heap) (locs : List Loc), lv_has ls 6 [(3, .int x3)] → G dC dI A H0 (W_X9 a cI cJ c_length c_text c_stands c_homeFar c_nets c_netAt c_netWide c_netFrom c_netTo c_priceX c_priceY c_many c_days ec_aims c_speeds c_kinds c_keptMany c_undoMany c_undos c_spot c_told c_to c_stood c_home c_lost c_out c_fewest c_ways c_next c_held) H locs → W p l e (RM 6 129) s m args below meth c H locs 0 0 QQ (F0 m 163 ls [])) → ∀ (ls : Array Slot) (H : Heap) (locs : List Loc), lv_has ls 6 [(0, .ref (a 0)), (3, .int x3), (4, .int x4)] → G dC dI A H0 (W_X9 a cI cJ c_length c_text c_stands c_homeFar c_nets c_netAt c_netWide c_netFrom c_netTo c_priceX c_priceY c_many c_days c_aims c_speeds c_kinds c_keptMany c_undoMany c_undos c_spot c_told c_to c_stood c_home c_lost c_out c_fewest c_ways c_next c_held) H locs → W p l e (RM 6 129) s m args below meth c H locs 0 0 QQ (F0 m 132 ls []) := by
    intro x3 c_to c_stood c_home c_lost c_out c_held n
    induction n with
    | zero => intro x4 c_aims ec_aims h; exact it_zero h
    | succ n ih =>
      intro x4 c_aims ec_aims h0 K0 ls H locs hl hG
      obtain ⟨w, h, hi, hr⟩ := it_succ h0
      have h : DX9_year_L132s c_many c_held x4 c_aims = some w := h
      have KC : ∀ (x4 : Int32) (c_aims : Nat → Int32), w = .inl (x4, c_aims) → ∀ (ls : Array Slot) (H : Heap) (locs : List Loc), lv_has ls 6 [(0, .ref (a 0)), (3, .int x3), (4, .int x4)] → G dC dI A H0 (W_X9 a cI cJ c_length c_text c_stands c_homeFar c_nets c_netAt c_netWide c_netFrom c_netTo c_priceX c_priceY c_many c_days c_aims c_speeds c_kinds c_keptMany c_undoMany c_undos c_spot c_told c_to c_stood c_home c_lost c_out c_fewest c_ways c_next c_held) H locs → W p l e (RM 6 129) s m args below meth c H locs 0 0 QQ (F0 m 132 ls []) := fun b0 b1 e ls H locs hl hG => ih b0 b1 ec_aims (hi _ e) K0 ls H locs hl hG
      have KX : ∀ (c_aims : Nat → Int32), w = .inr c_aims → ∀ (ls : Array Slot) (H : Heap) (locs : List Loc), lv_has ls 6 [(3, .int x3)] → G dC dI A H0 (W_X9 a cI cJ c_length c_text c_stands c_homeFar c_nets c_netAt c_netWide c_netFrom c_netTo c_priceX c_priceY c_many c_days c_aims c_speeds c_kinds c_keptMany c_undoMany c_undos c_spot c_told c_to c_stood c_home c_lost c_out c_fewest c_ways c_next c_held) H locs → W p l e (RM 6 129) s m args below meth c H locs 0 0 QQ (F0 m 163 ls []) := fun b0 e ls H locs hl hG => by cases hr _ e; exact K0 ls H locs hl hG
      clear h0 hi hr K0 ih
      unfold DX9_year_L132s at h
      refine lv_iload hx hb dX9_year_132 (lv_at hl 2 rfl) ?_
      refine lv_aload_n hx hb dX9_year_134 rfl (lv_at hl 0 rfl) ?_
      refine r_get X hG in_X9 rfl 11 (by decide) w_642 0 rfl rfl dX9_year_135 ?_
      refine lv_iconst (v := (0 : Int32)) hx hb dX9_year_138 (by decide) ?_
      refine r_iald X hG 11 rfl (vpd (by decide)) dX9_year_139 ?_
      refine lv_icmp_ge (tgt := 163) hx hb dX9_year_140 (by decide) (fun c_25 => ?_) (fun c_25 => ?_)
      · have h := ite_t h c_25
        exact KX _ (Option.some.inj h).symm _ _ _ (lv_sub hl [1] rfl) hG
      · have h := ite_f h c_25
        refine lv_aload_n hx hb dX9_year_143 rfl (lv_at hl 0 rfl) ?_
        refine r_get X hG in_X9 rfl 13 (by decide) w_644 0 rfl rfl dX9_year_144 ?_
        refine lv_iload hx hb dX9_year_147 (lv_at hl 2 rfl) ?_
        refine lv_aload_n hx hb dX9_year_149 rfl (lv_at hl 0 rfl) ?_
        refine r_get X hG in_X9 rfl 29 (by decide) w_660 0 rfl rfl dX9_year_150 ?_
        refine lv_iload hx hb dX9_year_153 (lv_at hl 2 rfl) ?_
        obtain ⟨g_26, h⟩ := gd h
        refine r_iald X hG 25 rfl g_26 dX9_year_155 ?_
        obtain ⟨g_27, h⟩ := gd h
        refine r_iast X hG 13 (ws' := (W_X9 a cI cJ c_length c_text c_stands c_homeFar c_nets c_netAt c_netWide c_netFrom c_netTo c_priceX c_priceY c_many c_days (upd c_aims x4.toNatClampNeg (c_held x4.toNatClampNeg)) c_speeds c_kinds c_keptMany c_undoMany c_undos c_spot c_told c_to c_stood c_home c_lost c_out c_fewest c_ways c_next c_held)) rfl g_27 rfl dX9_year_156 (fun H locs hG => ?_)
        refine lv_iinc (v := (x4 + (1 : Int32))) (lv' := [(4, .int (x4 + (1 : Int32))), (0, .ref (a 0)), (3, .int x3)]) hx hb dX9_year_157 hl (k := 2) rfl rfl (by decide) rfl (fun ls hl => ?_)
        refine lv_goto (tgt := 132) hx hb dX9_year_160 (by decide) ?_
        exact KC _ _ (Option.some.inj h).symm _ _ _ (lv_sub hl [1, 2, 0] rfl) hG
  have h := hD
  unfold DX9_year at h
  clear hD
  refine lv_iload_n hx hb dX9_year_0 rfl (lv_at hl 1 rfl) ?_
  refine lv_i2l (v := (x1.toInt64)) hx hb dX9_year_1 rfl ?_
  refine lv_lconst (v := (0 : Int64)) hx hb dX9_year_2 (by decide) ?_
  refine lv_ldc2 (v := (9999 : Int64)) hx hb X.1.2.2.2.1 (X.1.2.2.2.2 _ w_928) dX9_year_3 ?_
  obtain ⟨r_1, hz_2, h⟩ := bd1_some h
  refine aft_i (ws' := (W_X9 a cI cJ c_length c_text c_stands c_homeFar c_nets c_netAt c_netWide c_netFrom c_netTo c_priceX c_priceY c_many c_days c_aims c_speeds c_kinds c_keptMany c_undoMany c_undos c_spot c_told c_to c_stood c_home c_lost c_out c_fewest c_ways c_next c_held)) (run_S (rest := []) X hG hl.1 (mX9_in l dC dI cI cJ (x1.toInt64) (0 : Int64) (9999 : Int64) hz_2) gi_S_X9_92 hd_S_yX9_in ⟨rfl, rfl⟩ rfl ⟨Nat.le_of_ble_eq_true rfl, Nat.le_of_ble_eq_true rfl⟩ [] (by decide) rfl rfl (Nat.le_of_ble_eq_true rfl) ⟨Nat.le_of_ble_eq_true rfl, Nat.le_of_ble_eq_true rfl⟩ dX9_year_6) hG [] rfl rfl rfl (fun H locs hG => ?_)
  clear hz_2
  refine lv_if_eq (tgt := 24) hx hb dX9_year_9 (by decide) (fun c_3 => ?_) (fun c_3 => ?_)
  · have h := ite_t h c_3
    refine lv_iconst (v := (-1 : Int32)) hx hb dX9_year_24 (by decide) ?_
    cases h
    exact ret _ _ _ _ dX9_year_25 hG
  · have h := ite_f h c_3
    refine lv_iload_n hx hb dX9_year_12 rfl (lv_at hl 2 rfl) ?_
    refine lv_i2l (v := (x2.toInt64)) hx hb dX9_year_13 rfl ?_
    refine lv_lconst (v := (0 : Int64)) hx hb dX9_year_14 (by decide) ?_
    refine lv_ldc2 (v := (2 : Int64)) hx hb X.1.2.2.2.1 (X.1.2.2.2.2 _ w_758) dX9_year_15 ?_
    obtain ⟨r_4, hz_5, h⟩ := bd1_some h
    refine aft_i (ws' := (W_X9 a cI cJ c_length c_text c_stands c_homeFar c_nets c_netAt c_netWide c_netFrom c_netTo c_priceX c_priceY c_many c_days c_aims c_speeds c_kinds c_keptMany c_undoMany c_undos c_spot c_told c_to c_stood c_home c_lost c_out c_fewest c_ways c_next c_held)) (run_S (rest := []) X hG hl.1 (mX9_in l dC dI cI cJ (x2.toInt64) (0 : Int64) (2 : Int64) hz_5) gi_S_X9_92 hd_S_yX9_in ⟨rfl, rfl⟩ rfl ⟨Nat.le_of_ble_eq_true rfl, Nat.le_of_ble_eq_true rfl⟩ [] (by decide) rfl rfl (Nat.le_of_ble_eq_true rfl) ⟨Nat.le_of_ble_eq_true rfl, Nat.le_of_ble_eq_true rfl⟩ dX9_year_18) hG [] rfl rfl rfl (fun H locs hG => ?_)
    clear hz_5
    refine lv_if_ne (tgt := 26) hx hb dX9_year_21 (by decide) (fun c_6 => ?_) (fun c_6 => ?_)
    · have h := ite_f h c_6
      refine lv_iconst (v := (0 : Int32)) hx hb dX9_year_26 (by decide) ?_
      refine lv_istore_n (lv' := [(3, .int (0 : Int32)), (0, .ref (a 0)), (1, .int x1), (2, .int x2)]) hx hb dX9_year_27 rfl hl (by decide) rfl (fun ls hl => ?_)
      obtain ⟨k_aims_11, k_held_12, hz, h⟩ := bd2_some h
      refine L28 c_to c_stood c_home c_lost c_out FU (0 : Int32) c_aims c_held _ _ hz (fun ls H locs hl hG => ?_) _ _ _ (lv_sub hl [1, 2, 3, 0] rfl) hG
      clear hz
      refine lv_aload_n hx hb dX9_year_93 rfl (lv_at hl 0 rfl) ?_
      refine lv_iconst (v := (0 : Int32)) hx hb dX9_year_94 (by decide) ?_
      obtain ⟨k_to_13, k_stood_14, k_home_15, k_lost_16, k_out_17, hz_18, h⟩ := bd5_some h
      refine aft_v1 (run_V1 (rest := []) X hG hl.1 (mX9_go l dC dI cI cJ a c_length c_text c_stands c_homeFar c_nets c_netAt c_netWide c_netFrom c_netTo c_priceX c_priceY c_many c_days k_aims_11 c_speeds c_kinds c_keptMany c_undoMany c_undos c_spot c_told c_to c_stood c_home c_lost c_out c_fewest c_ways c_next k_held_12 (0 : Int32) hz_18) gi_V_X9_185 hd_V_yX9_go ⟨rfl, rfl⟩ rfl ⟨Nat.le_of_ble_eq_true rfl, Nat.le_of_ble_eq_true rfl⟩ 0 rfl rfl rfl rfl (Nat.le_of_ble_eq_true rfl) ⟨Nat.le_of_ble_eq_true rfl, Nat.le_of_ble_eq_true rfl⟩ dX9_year_95) hG rfl (fun H locs hG => ?_)
      clear hz_18
      refine lv_iload_n hx hb dX9_year_98 rfl (lv_at hl 1 rfl) ?_
      refine lv_if_ne (tgt := 110) hx hb dX9_year_99 (by decide) (fun c_19 => ?_) (fun c_19 => ?_)
      · have h := ite_f h c_19
        refine lv_iload_n hx hb dX9_year_110 rfl (lv_at hl 1 rfl) ?_
        refine lv_iconst (v := (1 : Int32)) hx hb dX9_year_111 (by decide) ?_
        refine lv_icmp_ne (tgt := 122) hx hb dX9_year_112 (by decide) (fun c_20 => ?_) (fun c_20 => ?_)
        · have h := ite_f h c_20
          refine lv_aload_n hx hb dX9_year_122 rfl (lv_at hl 0 rfl) ?_
          refine lv_bipush (v := (40 : Int32)) hx hb dX9_year_123 (by decide) ?_
          obtain ⟨r_21, k_to_22, k_stood_23, hz_24, h⟩ := bd3_some h
          refine aft_i1 (run_V1 (rest := []) X hG hl.1 (mX9_turnTo l dC dI cI cJ a c_length c_text c_stands c_homeFar c_nets c_netAt c_netWide c_netFrom c_netTo c_priceX c_priceY c_many c_days k_aims_11 c_speeds c_kinds c_keptMany c_undoMany c_undos c_spot c_told k_to_13 k_stood_14 k_home_15 k_lost_16 k_out_17 c_fewest c_ways c_next k_held_12 (40 : Int32) hz_24) gi_V_X9_158 hd_V_yX9_turnTo ⟨rfl, rfl⟩ rfl ⟨Nat.le_of_ble_eq_true rfl, Nat.le_of_ble_eq_true rfl⟩ 0 rfl rfl rfl rfl (Nat.le_of_ble_eq_true rfl) ⟨Nat.le_of_ble_eq_true rfl, Nat.le_of_ble_eq_true rfl⟩ dX9_year_125) hG rfl (fun H locs hG => ?_)
          clear hz_24
          refine lv_istore_n (lv' := [(3, .int r_21), (0, .ref (a 0)), (2, .int x2)]) hx hb dX9_year_128 rfl hl (by decide) rfl (fun ls hl => ?_)
          refine lv_iconst (v := (0 : Int32)) hx hb dX9_year_129 (by decide) ?_
          refine lv_istore (lv' := [(4, .int (0 : Int32)), (3, .int r_21), (0, .ref (a 0)), (2, .int x2)]) hx hb dX9_year_130 hl (by decide) rfl (fun ls hl => ?_)
          obtain ⟨k_aims_28, hz, h⟩ := bd1_some h
          refine L132 r_21 k_to_22 k_stood_23 k_home_15 k_lost_16 k_out_17 k_held_12 FU (0 : Int32) k_aims_11 _ hz (fun ls H locs hl hG => ?_) _ _ _ (lv_sub hl [2, 1, 0] rfl) hG
          clear hz
          refine lv_iload_n hx hb dX9_year_163 rfl (lv_at hl 0 rfl) ?_
          cases h
          exact ret _ _ _ _ dX9_year_164 hG
        · have h := ite_t h c_20
          refine lv_aload_n hx hb dX9_year_115 rfl (lv_at hl 0 rfl) ?_
          obtain ⟨r_29, hz_30, h⟩ := bd1_some h
          refine aft_i1 (run_V1 (rest := []) X hG hl.1 (mX9_paidAll l dC dI cI cJ a c_length c_text c_stands c_homeFar c_nets c_netAt c_netWide c_netFrom c_netTo c_priceX c_priceY c_many c_days k_aims_11 c_speeds c_kinds c_keptMany c_undoMany c_undos c_spot c_told k_to_13 k_stood_14 k_home_15 k_lost_16 k_out_17 c_fewest c_ways c_next k_held_12 hz_30) gi_V_X9_201 hd_V_yX9_paidAll ⟨rfl, rfl⟩ rfl ⟨Nat.le_of_ble_eq_true rfl, Nat.le_of_ble_eq_true rfl⟩ 0 rfl rfl rfl rfl (Nat.le_of_ble_eq_true rfl) ⟨Nat.le_of_ble_eq_true rfl, Nat.le_of_ble_eq_true rfl⟩ dX9_year_116) hG rfl (fun H locs hG => ?_)
          clear hz_30
          refine lv_goto (tgt := 128) hx hb dX9_year_119 (by decide) ?_
          refine lv_istore_n (lv' := [(3, .int r_29), (0, .ref (a 0)), (2, .int x2)]) hx hb dX9_year_128 rfl hl (by decide) rfl (fun ls hl => ?_)
          refine lv_iconst (v := (0 : Int32)) hx hb dX9_year_129 (by decide) ?_
          refine lv_istore (lv' := [(4, .int (0 : Int32)), (3, .int r_29), (0, .ref (a 0)), (2, .int x2)]) hx hb dX9_year_130 hl (by decide) rfl (fun ls hl => ?_)
          obtain ⟨k_aims_31, hz, h⟩ := bd1_some h
          refine L132 r_29 k_to_13 k_stood_14 k_home_15 k_lost_16 k_out_17 k_held_12 FU (0 : Int32) k_aims_11 _ hz (fun ls H locs hl hG => ?_) _ _ _ (lv_sub hl [2, 1, 0] rfl) hG
          clear hz
          refine lv_iload_n hx hb dX9_year_163 rfl (lv_at hl 0 rfl) ?_
          cases h
          exact ret _ _ _ _ dX9_year_164 hG
      · have h := ite_t h c_19
        refine lv_aload_n hx hb dX9_year_102 rfl (lv_at hl 0 rfl) ?_
        refine lv_iconst (v := (0 : Int32)) hx hb dX9_year_103 (by decide) ?_
        obtain ⟨r_32, hz_33, h⟩ := bd1_some h
        refine aft_i1 (run_V1 (rest := []) X hG hl.1 (mX9_howMany l dC dI cI cJ a c_length c_text c_stands c_homeFar c_nets c_netAt c_netWide c_netFrom c_netTo c_priceX c_priceY c_many c_days k_aims_11 c_speeds c_kinds c_keptMany c_undoMany c_undos c_spot c_told k_to_13 k_stood_14 k_home_15 k_lost_16 k_out_17 c_fewest c_ways c_next k_held_12 (0 : Int32) hz_33) gi_V_X9_198 hd_V_yX9_howMany ⟨rfl, rfl⟩ rfl ⟨Nat.le_of_ble_eq_true rfl, Nat.le_of_ble_eq_true rfl⟩ 0 rfl rfl rfl rfl (Nat.le_of_ble_eq_true rfl) ⟨Nat.le_of_ble_eq_true rfl, Nat.le_of_ble_eq_true rfl⟩ dX9_year_104) hG rfl (fun H locs hG => ?_)
        clear hz_33
        refine lv_goto (tgt := 128) hx hb dX9_year_107 (by decide) ?_
        refine lv_istore_n (lv' := [(3, .int r_32), (0, .ref (a 0)), (2, .int x2)]) hx hb dX9_year_128 rfl hl (by decide) rfl (fun ls hl => ?_)
        refine lv_iconst (v := (0 : Int32)) hx hb dX9_year_129 (by decide) ?_
        refine lv_istore (lv' := [(4, .int (0 : Int32)), (3, .int r_32), (0, .ref (a 0)), (2, .int x2)]) hx hb dX9_year_130 hl (by decide) rfl (fun ls hl => ?_)
        obtain ⟨k_aims_34, hz, h⟩ := bd1_some h
        refine L132 r_32 k_to_13 k_stood_14 k_home_15 k_lost_16 k_out_17 k_held_12 FU (0 : Int32) k_aims_11 _ hz (fun ls H locs hl hG => ?_) _ _ _ (lv_sub hl [2, 1, 0] rfl) hG
        clear hz
        refine lv_iload_n hx hb dX9_year_163 rfl (lv_at hl 0 rfl) ?_
        cases h
        exact ret _ _ _ _ dX9_year_164 hG
    · have h := ite_t h c_6
      refine lv_iconst (v := (-1 : Int32)) hx hb dX9_year_24 (by decide) ?_
      cases h
      exact ret _ _ _ _ dX9_year_25 hG
set_option maxRecDepth 100000 in
set_option maxHeartbeats 4000000 in
theorem mX9_keep (l : Launch) (dC : Nat → ClassId) (dI : Nat → Nat → Nat) (cI cJ : ClassId) (a : Nat → Nat) (c_length : Int32) (c_text : Nat → Int32) (c_stands : Nat → Int32) (c_homeFar : Nat → Int32) (c_nets : Nat → Int32) (c_netAt : Nat → Int32) (c_netWide : Nat → Int32) (c_netFrom : Nat → Int32) (c_netTo : Nat → Int32) (c_priceX : Nat → Int32) (c_priceY : Nat → Int32) (c_many : Nat → Int32) (c_days : Nat → Int32) (c_aims : Nat → Int32) (c_speeds : Nat → Int32) (c_kinds : Nat → Int32) (c_keptMany : Int32) (c_undoMany : Int32) (c_undos : Nat → Int32) (c_spot : Int32) (c_told : Nat → Int32) (c_to : Nat → Int32) (c_stood : Nat → Int32) (c_home : Nat → Int32) (c_lost : Nat → Int32) (c_out : Int32) (c_fewest : Nat → Int32) (c_ways : Nat → Int64) (c_next : Nat → Int64) (c_held : Nat → Int32) {res : Int32} {n_many : Nat → Int32} {n_days : Nat → Int32} {n_aims : Nat → Int32} {n_speeds : Nat → Int32} {n_kinds : Nat → Int32} {n_keptMany : Int32} (hD : DX9_keep c_many c_days c_aims c_speeds c_kinds c_keptMany = some (res, n_many, n_days, n_aims, n_speeds, n_kinds, n_keptMany)) : Met l yX9_keep (WZ yX9_keep cX9_keep 1 (some .int)) (RM 1 23) (PC dC dI cI cJ [.ref (a 0)] (W_X9 a cI cJ c_length c_text c_stands c_homeFar c_nets c_netAt c_netWide c_netFrom c_netTo c_priceX c_priceY c_many c_days c_aims c_speeds c_kinds c_keptMany c_undoMany c_undos c_spot c_told c_to c_stood c_home c_lost c_out c_fewest c_ways c_next c_held)) (QI dC dI (W_X9 a cI cJ c_length c_text c_stands c_homeFar c_nets c_netAt c_netWide c_netFrom c_netTo c_priceX c_priceY c_many c_days c_aims c_speeds c_kinds c_keptMany c_undoMany c_undos c_spot c_told c_to c_stood c_home c_lost c_out c_fewest c_ways c_next c_held) (W_X9 a cI cJ c_length c_text c_stands c_homeFar c_nets c_netAt c_netWide c_netFrom c_netTo c_priceX c_priceY n_many n_days n_aims n_speeds n_kinds n_keptMany c_undoMany c_undos c_spot c_told c_to c_stood c_home c_lost c_out c_fewest c_ways c_next c_held) res) 0 0 (FA (W_X9 a cI cJ c_length c_text c_stands c_homeFar c_nets c_netAt c_netWide c_netFrom c_netTo c_priceX c_priceY c_many c_days c_aims c_speeds c_kinds c_keptMany c_undoMany c_undos c_spot c_told c_to c_stood c_home c_lost c_out c_fewest c_ways c_next c_held)) := by
  refine r_metI (by decide +kernel) (Nat.le_of_ble_eq_true rfl) ?_
  intro p e s m args below meth c A H0 QQ X ret ls hl hG
  have X : Cx p m c cX9_keep 1 s args RX9 dC dI cI cJ meth (some .int) := X
  have hx := X.1.1
  have hb := X.1.2.1
  have hl : lv_has ls 1 [(0, .ref (a 0))] := hl
  have h := hD
  unfold DX9_keep at h
  clear hD
  refine lv_aload_n hx hb dX9_keep_0 rfl (lv_at hl 0 rfl) ?_
  refine r_get X hG in_X9 rfl 16 (by decide) w_647 0 rfl rfl dX9_keep_1 ?_
  refine lv_iconst (v := (2 : Int32)) hx hb dX9_keep_4 (by decide) ?_
  refine lv_icmp_ne (tgt := 11) hx hb dX9_keep_5 (by decide) (fun c_1 => ?_) (fun c_1 => ?_)
  · have h := ite_f h c_1
    refine lv_aload_n hx hb dX9_keep_11 rfl (lv_at hl 0 rfl) ?_
    refine lv_dup hx hb dX9_keep_12 rfl ?_
    refine r_get X hG in_X9 rfl 16 (by decide) w_647 0 rfl rfl dX9_keep_13 ?_
    refine lv_iconst (v := (1 : Int32)) hx hb dX9_keep_16 (by decide) ?_
    refine lv_iadd hx hb dX9_keep_17 ?_
    refine r_put X hG in_X9 rfl tyX9 tyX9_ok nmX9 16 (by decide) rfl (by decide +kernel) w_647 0 (ws' := (W_X9 a cI cJ c_length c_text c_stands c_homeFar c_nets c_netAt c_netWide c_netFrom c_netTo c_priceX c_priceY c_many c_days c_aims c_speeds c_kinds (c_keptMany + (1 : Int32)) c_undoMany c_undos c_spot c_told c_to c_stood c_home c_lost c_out c_fewest c_ways c_next c_held)) rfl (Nat.le_of_ble_eq_true rfl) rfl dX9_keep_18 (fun H locs hG => ?_)
    refine lv_aload_n hx hb dX9_keep_21 rfl (lv_at hl 0 rfl) ?_
    refine lv_iconst (v := (0 : Int32)) hx hb dX9_keep_22 (by decide) ?_
    refine lv_iconst (v := (1 : Int32)) hx hb dX9_keep_23 (by decide) ?_
    refine lv_aload_n hx hb dX9_keep_24 rfl (lv_at hl 0 rfl) ?_
    refine r_get X hG in_X9 rfl 16 (by decide) w_647 0 rfl rfl dX9_keep_25 ?_
    refine lv_iadd hx hb dX9_keep_28 ?_
    obtain ⟨k_many_2, k_days_3, k_aims_4, k_speeds_5, k_kinds_6, hz_7, h⟩ := bd5_some h
    refine aft_v1 (run_V1 (rest := []) X hG hl.1 (mX9_copy l dC dI cI cJ a c_length c_text c_stands c_homeFar c_nets c_netAt c_netWide c_netFrom c_netTo c_priceX c_priceY c_many c_days c_aims c_speeds c_kinds (c_keptMany + (1 : Int32)) c_undoMany c_undos c_spot c_told c_to c_stood c_home c_lost c_out c_fewest c_ways c_next c_held (0 : Int32) ((1 : Int32) + (c_keptMany + (1 : Int32))) hz_7) gi_V_X9_131 hd_V_yX9_copy ⟨rfl, rfl⟩ rfl ⟨Nat.le_of_ble_eq_true rfl, Nat.le_of_ble_eq_true rfl⟩ 0 rfl rfl rfl rfl (Nat.le_of_ble_eq_true rfl) ⟨Nat.le_of_ble_eq_true rfl, Nat.le_of_ble_eq_true rfl⟩ dX9_keep_29) hG rfl (fun H locs hG => ?_)
    clear hz_7
    refine lv_aload_n hx hb dX9_keep_32 rfl (lv_at hl 0 rfl) ?_
    refine r_get X hG in_X9 rfl 16 (by decide) w_647 0 rfl rfl dX9_keep_33 ?_
    cases h
    exact ret _ _ _ _ dX9_keep_36 hG
  · have h := ite_t h c_1
    refine lv_bipush (v := (-3 : Int32)) hx hb dX9_keep_8 (by decide) ?_
    cases h
    exact ret _ _ _ _ dX9_keep_10 hG
set_option maxRecDepth 100000 in
set_option maxHeartbeats 4000000 in
theorem mX9_back (l : Launch) (dC : Nat → ClassId) (dI : Nat → Nat → Nat) (cI cJ : ClassId) (a : Nat → Nat) (c_length : Int32) (c_text : Nat → Int32) (c_stands : Nat → Int32) (c_homeFar : Nat → Int32) (c_nets : Nat → Int32) (c_netAt : Nat → Int32) (c_netWide : Nat → Int32) (c_netFrom : Nat → Int32) (c_netTo : Nat → Int32) (c_priceX : Nat → Int32) (c_priceY : Nat → Int32) (c_many : Nat → Int32) (c_days : Nat → Int32) (c_aims : Nat → Int32) (c_speeds : Nat → Int32) (c_kinds : Nat → Int32) (c_keptMany : Int32) (c_undoMany : Int32) (c_undos : Nat → Int32) (c_spot : Int32) (c_told : Nat → Int32) (c_to : Nat → Int32) (c_stood : Nat → Int32) (c_home : Nat → Int32) (c_lost : Nat → Int32) (c_out : Int32) (c_fewest : Nat → Int32) (c_ways : Nat → Int64) (c_next : Nat → Int64) (c_held : Nat → Int32) {res : Int32} {n_many : Nat → Int32} {n_days : Nat → Int32} {n_aims : Nat → Int32} {n_speeds : Nat → Int32} {n_kinds : Nat → Int32} {n_keptMany : Int32} {n_undoMany : Int32} (hD : DX9_back c_many c_days c_aims c_speeds c_kinds c_keptMany c_undoMany = some (res, n_many, n_days, n_aims, n_speeds, n_kinds, n_keptMany, n_undoMany)) : Met l yX9_back (WZ yX9_back cX9_back 1 (some .int)) (RM 1 23) (PC dC dI cI cJ [.ref (a 0)] (W_X9 a cI cJ c_length c_text c_stands c_homeFar c_nets c_netAt c_netWide c_netFrom c_netTo c_priceX c_priceY c_many c_days c_aims c_speeds c_kinds c_keptMany c_undoMany c_undos c_spot c_told c_to c_stood c_home c_lost c_out c_fewest c_ways c_next c_held)) (QI dC dI (W_X9 a cI cJ c_length c_text c_stands c_homeFar c_nets c_netAt c_netWide c_netFrom c_netTo c_priceX c_priceY c_many c_days c_aims c_speeds c_kinds c_keptMany c_undoMany c_undos c_spot c_told c_to c_stood c_home c_lost c_out c_fewest c_ways c_next c_held) (W_X9 a cI cJ c_length c_text c_stands c_homeFar c_nets c_netAt c_netWide c_netFrom c_netTo c_priceX c_priceY n_many n_days n_aims n_speeds n_kinds n_keptMany n_undoMany c_undos c_spot c_told c_to c_stood c_home c_lost c_out c_fewest c_ways c_next c_held) res) 0 0 (FA (W_X9 a cI cJ c_length c_text c_stands c_homeFar c_nets c_netAt c_netWide c_netFrom c_netTo c_priceX c_priceY c_many c_days c_aims c_speeds c_kinds c_keptMany c_undoMany c_undos c_spot c_told c_to c_stood c_home c_lost c_out c_fewest c_ways c_next c_held)) := by
  refine r_metI (by decide +kernel) (Nat.le_of_ble_eq_true rfl) ?_
  intro p e s m args below meth c A H0 QQ X ret ls hl hG
  have X : Cx p m c cX9_back 1 s args RX9 dC dI cI cJ meth (some .int) := X
  have hx := X.1.1
  have hb := X.1.2.1
  have hl : lv_has ls 1 [(0, .ref (a 0))] := hl
  have h := hD
  unfold DX9_back at h
  clear hD
  refine lv_aload_n hx hb dX9_back_0 rfl (lv_at hl 0 rfl) ?_
  refine r_get X hG in_X9 rfl 16 (by decide) w_647 0 rfl rfl dX9_back_1 ?_
  refine lv_if_ne (tgt := 10) hx hb dX9_back_4 (by decide) (fun c_1 => ?_) (fun c_1 => ?_)
  · have h := ite_f h c_1
    refine lv_aload_n hx hb dX9_back_10 rfl (lv_at hl 0 rfl) ?_
    refine lv_iconst (v := (1 : Int32)) hx hb dX9_back_11 (by decide) ?_
    refine lv_aload_n hx hb dX9_back_12 rfl (lv_at hl 0 rfl) ?_
    refine r_get X hG in_X9 rfl 16 (by decide) w_647 0 rfl rfl dX9_back_13 ?_
    refine lv_iadd hx hb dX9_back_16 ?_
    refine lv_iconst (v := (0 : Int32)) hx hb dX9_back_17 (by decide) ?_
    obtain ⟨k_many_2, k_days_3, k_aims_4, k_speeds_5, k_kinds_6, hz_7, h⟩ := bd5_some h
    refine aft_v1 (run_V1 (rest := []) X hG hl.1 (mX9_copy l dC dI cI cJ a c_length c_text c_stands c_homeFar c_nets c_netAt c_netWide c_netFrom c_netTo c_priceX c_priceY c_many c_days c_aims c_speeds c_kinds c_keptMany c_undoMany c_undos c_spot c_told c_to c_stood c_home c_lost c_out c_fewest c_ways c_next c_held ((1 : Int32) + c_keptMany) (0 : Int32) hz_7) gi_V_X9_131 hd_V_yX9_copy ⟨rfl, rfl⟩ rfl ⟨Nat.le_of_ble_eq_true rfl, Nat.le_of_ble_eq_true rfl⟩ 0 rfl rfl rfl rfl (Nat.le_of_ble_eq_true rfl) ⟨Nat.le_of_ble_eq_true rfl, Nat.le_of_ble_eq_true rfl⟩ dX9_back_18) hG rfl (fun H locs hG => ?_)
    clear hz_7
    refine lv_aload_n hx hb dX9_back_21 rfl (lv_at hl 0 rfl) ?_
    refine lv_dup hx hb dX9_back_22 rfl ?_
    refine r_get X hG in_X9 rfl 16 (by decide) w_647 0 rfl rfl dX9_back_23 ?_
    refine lv_iconst (v := (1 : Int32)) hx hb dX9_back_26 (by decide) ?_
    refine lv_isub hx hb dX9_back_27 ?_
    refine r_put X hG in_X9 rfl tyX9 tyX9_ok nmX9 16 (by decide) rfl (by decide +kernel) w_647 0 (ws' := (W_X9 a cI cJ c_length c_text c_stands c_homeFar c_nets c_netAt c_netWide c_netFrom c_netTo c_priceX c_priceY k_many_2 k_days_3 k_aims_4 k_speeds_5 k_kinds_6 (c_keptMany - (1 : Int32)) c_undoMany c_undos c_spot c_told c_to c_stood c_home c_lost c_out c_fewest c_ways c_next c_held)) rfl (Nat.le_of_ble_eq_true rfl) rfl dX9_back_28 (fun H locs hG => ?_)
    refine lv_aload_n hx hb dX9_back_31 rfl (lv_at hl 0 rfl) ?_
    refine lv_iconst (v := (0 : Int32)) hx hb dX9_back_32 (by decide) ?_
    refine r_put X hG in_X9 rfl tyX9 tyX9_ok nmX9 17 (by decide) rfl (by decide +kernel) w_648 0 (ws' := (W_X9 a cI cJ c_length c_text c_stands c_homeFar c_nets c_netAt c_netWide c_netFrom c_netTo c_priceX c_priceY k_many_2 k_days_3 k_aims_4 k_speeds_5 k_kinds_6 (c_keptMany - (1 : Int32)) (0 : Int32) c_undos c_spot c_told c_to c_stood c_home c_lost c_out c_fewest c_ways c_next c_held)) rfl (Nat.le_of_ble_eq_true rfl) rfl dX9_back_33 (fun H locs hG => ?_)
    refine lv_aload_n hx hb dX9_back_36 rfl (lv_at hl 0 rfl) ?_
    refine r_get X hG in_X9 rfl 16 (by decide) w_647 0 rfl rfl dX9_back_37 ?_
    cases h
    exact ret _ _ _ _ dX9_back_40 hG
  · have h := ite_t h c_1
    refine lv_bipush (v := (-2 : Int32)) hx hb dX9_back_7 (by decide) ?_
    cases h
    exact ret _ _ _ _ dX9_back_9 hG
set_option maxRecDepth 100000 in
set_option maxHeartbeats 4000000 in
theorem mX9_count (l : Launch) (dC : Nat → ClassId) (dI : Nat → Nat → Nat) (cI cJ : ClassId) (a : Nat → Nat) (c_length : Int32) (c_text : Nat → Int32) (c_stands : Nat → Int32) (c_homeFar : Nat → Int32) (c_nets : Nat → Int32) (c_netAt : Nat → Int32) (c_netWide : Nat → Int32) (c_netFrom : Nat → Int32) (c_netTo : Nat → Int32) (c_priceX : Nat → Int32) (c_priceY : Nat → Int32) (c_many : Nat → Int32) (c_days : Nat → Int32) (c_aims : Nat → Int32) (c_speeds : Nat → Int32) (c_kinds : Nat → Int32) (c_keptMany : Int32) (c_undoMany : Int32) (c_undos : Nat → Int32) (c_spot : Int32) (c_told : Nat → Int32) (c_to : Nat → Int32) (c_stood : Nat → Int32) (c_home : Nat → Int32) (c_lost : Nat → Int32) (c_out : Int32) (c_fewest : Nat → Int32) (c_ways : Nat → Int64) (c_next : Nat → Int64) (c_held : Nat → Int32) (x1 : Int32) {res : Int32} (hD : DX9_count x1 c_length c_stands c_homeFar c_nets c_many c_keptMany c_undoMany = some res) : Met l yX9_count (WZ yX9_count cX9_count 2 (some .int)) (RM 0 0) (PC dC dI cI cJ [.ref (a 0), .int x1] (W_X9 a cI cJ c_length c_text c_stands c_homeFar c_nets c_netAt c_netWide c_netFrom c_netTo c_priceX c_priceY c_many c_days c_aims c_speeds c_kinds c_keptMany c_undoMany c_undos c_spot c_told c_to c_stood c_home c_lost c_out c_fewest c_ways c_next c_held)) (QI dC dI (W_X9 a cI cJ c_length c_text c_stands c_homeFar c_nets c_netAt c_netWide c_netFrom c_netTo c_priceX c_priceY c_many c_days c_aims c_speeds c_kinds c_keptMany c_undoMany c_undos c_spot c_told c_to c_stood c_home c_lost c_out c_fewest c_ways c_next c_held) (W_X9 a cI cJ c_length c_text c_stands c_homeFar c_nets c_netAt c_netWide c_netFrom c_netTo c_priceX c_priceY c_many c_days c_aims c_speeds c_kinds c_keptMany c_undoMany c_undos c_spot c_told c_to c_stood c_home c_lost c_out c_fewest c_ways c_next c_held) res) 0 0 (FA (W_X9 a cI cJ c_length c_text c_stands c_homeFar c_nets c_netAt c_netWide c_netFrom c_netTo c_priceX c_priceY c_many c_days c_aims c_speeds c_kinds c_keptMany c_undoMany c_undos c_spot c_told c_to c_stood c_home c_lost c_out c_fewest c_ways c_next c_held)) := by
  refine r_metI (by decide +kernel) (Nat.le_of_ble_eq_true rfl) ?_
  intro p e s m args below meth c A H0 QQ X ret ls hl hG
  have X : Cx p m c cX9_count 2 s args RX9 dC dI cI cJ meth (some .int) := X
  have hx := X.1.1
  have hb := X.1.2.1
  have hl : lv_has ls 2 [(0, .ref (a 0)), (1, .int x1)] := hl
  have h := hD
  unfold DX9_count at h
  clear hD
  refine lv_iload_n hx hb dX9_count_0 rfl (lv_at hl 1 rfl) ?_
  rcases Decidable.em (x1 = (0 : Int32)) with c_1 | c_1
  · have h := ite_t h c_1
    refine lv_tableIn (off := 43) (tgt := 44) hx hb dX9_count_1 (by rw [c_1] <;> decide) (by rw [c_1] <;> decide) (by rw [c_1] <;> rfl) (by decide) ?_
    refine lv_aload_n hx hb dX9_count_44 rfl (lv_at hl 0 rfl) ?_
    refine r_get X hG in_X9 rfl 11 (by decide) w_642 0 rfl rfl dX9_count_45 ?_
    refine lv_iconst (v := (0 : Int32)) hx hb dX9_count_48 (by decide) ?_
    refine r_iald X hG 11 rfl (vpd (by decide)) dX9_count_49 ?_
    cases h
    exact ret _ _ _ _ dX9_count_50 hG
  · have h := ite_f h c_1
    rcases Decidable.em (x1 = (1 : Int32)) with c_2 | c_2
    · have h := ite_t h c_2
      refine lv_tableIn (off := 50) (tgt := 51) hx hb dX9_count_1 (by rw [c_2] <;> decide) (by rw [c_2] <;> decide) (by rw [c_2] <;> rfl) (by decide) ?_
      refine lv_aload_n hx hb dX9_count_51 rfl (lv_at hl 0 rfl) ?_
      refine r_get X hG in_X9 rfl 4 (by decide) w_635 0 rfl rfl dX9_count_52 ?_
      refine lv_iconst (v := (0 : Int32)) hx hb dX9_count_55 (by decide) ?_
      refine r_iald X hG 4 rfl (vpd (by decide)) dX9_count_56 ?_
      cases h
      exact ret _ _ _ _ dX9_count_57 hG
    · have h := ite_f h c_2
      rcases Decidable.em (x1 = (2 : Int32)) with c_3 | c_3
      · have h := ite_t h c_3
        refine lv_tableIn (off := 57) (tgt := 58) hx hb dX9_count_1 (by rw [c_3] <;> decide) (by rw [c_3] <;> decide) (by rw [c_3] <;> rfl) (by decide) ?_
        refine lv_aload_n hx hb dX9_count_58 rfl (lv_at hl 0 rfl) ?_
        refine r_get X hG in_X9 rfl 2 (by decide) w_633 0 rfl rfl dX9_count_59 ?_
        refine lv_iconst (v := (0 : Int32)) hx hb dX9_count_62 (by decide) ?_
        refine r_iald X hG 2 rfl (vpd (by decide)) dX9_count_63 ?_
        cases h
        exact ret _ _ _ _ dX9_count_64 hG
      · have h := ite_f h c_3
        rcases Decidable.em (x1 = (3 : Int32)) with c_4 | c_4
        · have h := ite_t h c_4
          refine lv_tableIn (off := 64) (tgt := 65) hx hb dX9_count_1 (by rw [c_4] <;> decide) (by rw [c_4] <;> decide) (by rw [c_4] <;> rfl) (by decide) ?_
          refine lv_aload_n hx hb dX9_count_65 rfl (lv_at hl 0 rfl) ?_
          refine r_get X hG in_X9 rfl 3 (by decide) w_634 0 rfl rfl dX9_count_66 ?_
          refine lv_iconst (v := (0 : Int32)) hx hb dX9_count_69 (by decide) ?_
          refine r_iald X hG 3 rfl (vpd (by decide)) dX9_count_70 ?_
          cases h
          exact ret _ _ _ _ dX9_count_71 hG
        · have h := ite_f h c_4
          rcases Decidable.em (x1 = (4 : Int32)) with c_5 | c_5
          · have h := ite_t h c_5
            refine lv_tableIn (off := 71) (tgt := 72) hx hb dX9_count_1 (by rw [c_5] <;> decide) (by rw [c_5] <;> decide) (by rw [c_5] <;> rfl) (by decide) ?_
            refine lv_aload_n hx hb dX9_count_72 rfl (lv_at hl 0 rfl) ?_
            refine r_get X hG in_X9 rfl 17 (by decide) w_648 0 rfl rfl dX9_count_73 ?_
            cases h
            exact ret _ _ _ _ dX9_count_76 hG
          · have h := ite_f h c_5
            rcases Decidable.em (x1 = (5 : Int32)) with c_6 | c_6
            · have h := ite_t h c_6
              refine lv_tableIn (off := 76) (tgt := 77) hx hb dX9_count_1 (by rw [c_6] <;> decide) (by rw [c_6] <;> decide) (by rw [c_6] <;> rfl) (by decide) ?_
              refine lv_aload_n hx hb dX9_count_77 rfl (lv_at hl 0 rfl) ?_
              refine r_get X hG in_X9 rfl 16 (by decide) w_647 0 rfl rfl dX9_count_78 ?_
              cases h
              exact ret _ _ _ _ dX9_count_81 hG
            · have h := ite_f h c_6
              rcases Decidable.em (x1 = (6 : Int32)) with c_7 | c_7
              · have h := ite_t h c_7
                refine lv_tableIn (off := 81) (tgt := 82) hx hb dX9_count_1 (by rw [c_7] <;> decide) (by rw [c_7] <;> decide) (by rw [c_7] <;> rfl) (by decide) ?_
                refine lv_aload_n hx hb dX9_count_82 rfl (lv_at hl 0 rfl) ?_
                refine r_get X hG in_X9 rfl 0 (by decide) w_631 0 rfl rfl dX9_count_83 ?_
                cases h
                exact ret _ _ _ _ dX9_count_86 hG
              · have h := ite_f h c_7
                refine lv_tableOut (tgt := 87) hx hb dX9_count_1 (by have := lv_neT c_1 (a := 0) rfl; have := lv_neT c_2 (a := 1) rfl; have := lv_neT c_3 (a := 2) rfl; have := lv_neT c_4 (a := 3) rfl; have := lv_neT c_5 (a := 4) rfl; have := lv_neT c_6 (a := 5) rfl; have := lv_neT c_7 (a := 6) rfl; omega) (by decide) ?_
                refine lv_iconst (v := (-1 : Int32)) hx hb dX9_count_87 (by decide) ?_
                cases h
                exact ret _ _ _ _ dX9_count_88 hG
