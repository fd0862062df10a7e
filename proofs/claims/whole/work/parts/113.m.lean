/-! CONTRACTS, laid by wip/gen/lay.py: yX9_load, yX9_isDay, yX9_far, yX9_rock, yX9_price, yX9_howMany, yX9_paidAll, yX9_all, yX9_note, yX9_aim, yX9_move -/
set_option maxRecDepth 100000 in
set_option maxHeartbeats 4000000 in
theorem mX9_load (l : Launch) (dC : Nat → ClassId) (dI : Nat → Nat → Nat) (cI cJ : ClassId) (a : Nat → Nat) (c_length : Int32) (c_text : Nat → Int32) (c_stands : Nat → Int32) (c_homeFar : Nat → Int32) (c_nets : Nat → Int32) (c_netAt : Nat → Int32) (c_netWide : Nat → Int32) (c_netFrom : Nat → Int32) (c_netTo : Nat → Int32) (c_priceX : Nat → Int32) (c_priceY : Nat → Int32) (c_many : Nat → Int32) (c_days : Nat → Int32) (c_aims : Nat → Int32) (c_speeds : Nat → Int32) (c_kinds : Nat → Int32) (c_keptMany : Int32) (c_undoMany : Int32) (c_undos : Nat → Int32) (c_spot : Int32) (c_told : Nat → Int32) (c_to : Nat → Int32) (c_stood : Nat → Int32) (c_home : Nat → Int32) (c_lost : Nat → Int32) (c_out : Int32) (c_fewest : Nat → Int32) (c_ways : Nat → Int64) (c_next : Nat → Int64) (c_held : Nat → Int32) (x1 : Int32) (x2 : Int32) {res : Int32} {n_to : Nat → Int32} {n_stood : Nat → Int32} {n_home : Nat → Int32} {n_lost : Nat → Int32} {n_out : Int32} (hD : DX9_load x1 x2 c_stands c_homeFar c_nets c_netAt c_netWide c_netFrom c_netTo c_priceX c_priceY c_many c_days c_aims c_speeds c_kinds c_to c_stood c_home c_lost c_out = some (res, n_to, n_stood, n_home, n_lost, n_out)) : Met l yX9_load (WZ yX9_load cX9_load 3 (some .int)) (RM 5 107) (PC dC dI cI cJ [.ref (a 0), .int x1, .int x2] (W_X9 a cI cJ c_length c_text c_stands c_homeFar c_nets c_netAt c_netWide c_netFrom c_netTo c_priceX c_priceY c_many c_days c_aims c_speeds c_kinds c_keptMany c_undoMany c_undos c_spot c_told c_to c_stood c_home c_lost c_out c_fewest c_ways c_next c_held)) (QI dC dI (W_X9 a cI cJ c_length c_text c_stands c_homeFar c_nets c_netAt c_netWide c_netFrom c_netTo c_priceX c_priceY c_many c_days c_aims c_speeds c_kinds c_keptMany c_undoMany c_undos c_spot c_told c_to c_stood c_home c_lost c_out c_fewest c_ways c_next c_held) (W_X9 a cI cJ c_length c_text c_stands c_homeFar c_nets c_netAt c_netWide c_netFrom c_netTo c_priceX c_priceY c_many c_days c_aims c_speeds c_kinds c_keptMany c_undoMany c_undos c_spot c_told n_to n_stood n_home n_lost n_out c_fewest c_ways c_next c_held) res) 0 0 (FA (W_X9 a cI cJ c_length c_text c_stands c_homeFar c_nets c_netAt c_netWide c_netFrom c_netTo c_priceX c_priceY c_many c_days c_aims c_speeds c_kinds c_keptMany c_undoMany c_undos c_spot c_told c_to c_stood c_home c_lost c_out c_fewest c_ways c_next c_held)) := by
  refine r_metI (by decide +kernel) (Nat.le_of_ble_eq_true rfl) ?_
  intro p e s m args below meth c A H0 QQ X ret ls hl hG
  have X : Cx p m c cX9_load 3 s args RX9 dC dI cI cJ meth (some .int) := X
  have hx := X.1.1
  have hb := X.1.2.1
  have hl : lv_has ls 3 [(0, .ref (a 0)), (1, .int x1), (2, .int x2)] := hl
  have h := hD
  unfold DX9_load at h
  clear hD
  refine lv_aload_n hx hb dX9_load_0 rfl (lv_at hl 0 rfl) ?_
  refine lv_iload_n hx hb dX9_load_1 rfl (lv_at hl 1 rfl) ?_
  obtain ⟨r_1, hz_2, h⟩ := bd1_some h
  refine aft_i1 (run_V1 (rest := []) X hG hl.1 (mX9_isThrow l dC dI cI cJ a c_length c_text c_stands c_homeFar c_nets c_netAt c_netWide c_netFrom c_netTo c_priceX c_priceY c_many c_days c_aims c_speeds c_kinds c_keptMany c_undoMany c_undos c_spot c_told c_to c_stood c_home c_lost c_out c_fewest c_ways c_next c_held x1 hz_2) gi_V_X9_182 hd_V_yX9_isThrow ⟨rfl, rfl⟩ rfl ⟨Nat.le_of_ble_eq_true rfl, Nat.le_of_ble_eq_true rfl⟩ 0 rfl rfl rfl rfl (Nat.le_of_ble_eq_true rfl) ⟨Nat.le_of_ble_eq_true rfl, Nat.le_of_ble_eq_true rfl⟩ dX9_load_2) hG rfl (fun H locs hG => ?_)
  clear hz_2
  refine lv_if_eq (tgt := 20) hx hb dX9_load_5 (by decide) (fun c_3 => ?_) (fun c_3 => ?_)
  · have h := ite_t h c_3
    refine lv_iconst (v := (-1 : Int32)) hx hb dX9_load_20 (by decide) ?_
    cases h
    exact ret _ _ _ _ dX9_load_21 hG
  · have h := ite_f h c_3
    refine lv_iload_n hx hb dX9_load_8 rfl (lv_at hl 2 rfl) ?_
    refine lv_i2l (v := (x2.toInt64)) hx hb dX9_load_9 rfl ?_
    refine lv_lconst (v := (0 : Int64)) hx hb dX9_load_10 (by decide) ?_
    refine lv_ldc2 (v := (8 : Int64)) hx hb X.1.2.2.2.1 (X.1.2.2.2.2 _ w_727) dX9_load_11 ?_
    obtain ⟨r_4, hz_5, h⟩ := bd1_some h
    refine aft_i (ws' := (W_X9 a cI cJ c_length c_text c_stands c_homeFar c_nets c_netAt c_netWide c_netFrom c_netTo c_priceX c_priceY c_many c_days c_aims c_speeds c_kinds c_keptMany c_undoMany c_undos c_spot c_told c_to c_stood c_home c_lost c_out c_fewest c_ways c_next c_held)) (run_S (rest := []) X hG hl.1 (mX9_in l dC dI cI cJ (x2.toInt64) (0 : Int64) (8 : Int64) hz_5) gi_S_X9_92 hd_S_yX9_in ⟨rfl, rfl⟩ rfl ⟨Nat.le_of_ble_eq_true rfl, Nat.le_of_ble_eq_true rfl⟩ [] (by decide) rfl rfl (Nat.le_of_ble_eq_true rfl) ⟨Nat.le_of_ble_eq_true rfl, Nat.le_of_ble_eq_true rfl⟩ dX9_load_14) hG [] rfl rfl rfl (fun H locs hG => ?_)
    clear hz_5
    refine lv_if_ne (tgt := 22) hx hb dX9_load_17 (by decide) (fun c_6 => ?_) (fun c_6 => ?_)
    · have h := ite_f h c_6
      refine lv_aload_n hx hb dX9_load_22 rfl (lv_at hl 0 rfl) ?_
      refine lv_iconst (v := (0 : Int32)) hx hb dX9_load_23 (by decide) ?_
      obtain ⟨k_to_7, k_stood_8, k_home_9, k_lost_10, k_out_11, hz_12, h⟩ := bd5_some h
      refine aft_v1 (run_V1 (rest := []) X hG hl.1 (mX9_go l dC dI cI cJ a c_length c_text c_stands c_homeFar c_nets c_netAt c_netWide c_netFrom c_netTo c_priceX c_priceY c_many c_days c_aims c_speeds c_kinds c_keptMany c_undoMany c_undos c_spot c_told c_to c_stood c_home c_lost c_out c_fewest c_ways c_next c_held (0 : Int32) hz_12) gi_V_X9_185 hd_V_yX9_go ⟨rfl, rfl⟩ rfl ⟨Nat.le_of_ble_eq_true rfl, Nat.le_of_ble_eq_true rfl⟩ 0 rfl rfl rfl rfl (Nat.le_of_ble_eq_true rfl) ⟨Nat.le_of_ble_eq_true rfl, Nat.le_of_ble_eq_true rfl⟩ dX9_load_24) hG rfl (fun H locs hG => ?_)
      clear hz_12
      refine lv_iload_n hx hb dX9_load_27 rfl (lv_at hl 2 rfl) ?_
      rcases Decidable.em (x2 = (0 : Int32)) with c_13 | c_13
      · have h := ite_t h c_13
        refine lv_tableIn (off := 48) (tgt := 76) hx hb dX9_load_28 (by rw [c_13] <;> decide) (by rw [c_13] <;> decide) (by rw [c_13] <;> rfl) (by decide) ?_
        refine lv_aload_n hx hb dX9_load_76 rfl (lv_at hl 0 rfl) ?_
        refine r_get X hG in_X9 rfl 12 (by decide) w_643 0 rfl rfl dX9_load_77 ?_
        refine lv_iload_n hx hb dX9_load_80 rfl (lv_at hl 1 rfl) ?_
        obtain ⟨g_14, h⟩ := gd h
        refine r_iald X hG 12 rfl g_14 dX9_load_81 ?_
        cases h
        exact ret _ _ _ _ dX9_load_82 hG
      · have h := ite_f h c_13
        rcases Decidable.em (x2 = (1 : Int32)) with c_15 | c_15
        · have h := ite_t h c_15
          refine lv_tableIn (off := 55) (tgt := 83) hx hb dX9_load_28 (by rw [c_15] <;> decide) (by rw [c_15] <;> decide) (by rw [c_15] <;> rfl) (by decide) ?_
          refine lv_aload_n hx hb dX9_load_83 rfl (lv_at hl 0 rfl) ?_
          refine r_get X hG in_X9 rfl 13 (by decide) w_644 0 rfl rfl dX9_load_84 ?_
          refine lv_iload_n hx hb dX9_load_87 rfl (lv_at hl 1 rfl) ?_
          obtain ⟨g_16, h⟩ := gd h
          refine r_iald X hG 13 rfl g_16 dX9_load_88 ?_
          cases h
          exact ret _ _ _ _ dX9_load_89 hG
        · have h := ite_f h c_15
          rcases Decidable.em (x2 = (2 : Int32)) with c_17 | c_17
          · have h := ite_t h c_17
            refine lv_tableIn (off := 62) (tgt := 90) hx hb dX9_load_28 (by rw [c_17] <;> decide) (by rw [c_17] <;> decide) (by rw [c_17] <;> rfl) (by decide) ?_
            refine lv_aload_n hx hb dX9_load_90 rfl (lv_at hl 0 rfl) ?_
            refine r_get X hG in_X9 rfl 14 (by decide) w_645 0 rfl rfl dX9_load_91 ?_
            refine lv_iload_n hx hb dX9_load_94 rfl (lv_at hl 1 rfl) ?_
            obtain ⟨g_18, h⟩ := gd h
            refine r_iald X hG 14 rfl g_18 dX9_load_95 ?_
            cases h
            exact ret _ _ _ _ dX9_load_96 hG
          · have h := ite_f h c_17
            rcases Decidable.em (x2 = (3 : Int32)) with c_19 | c_19
            · have h := ite_t h c_19
              refine lv_tableIn (off := 69) (tgt := 97) hx hb dX9_load_28 (by rw [c_19] <;> decide) (by rw [c_19] <;> decide) (by rw [c_19] <;> rfl) (by decide) ?_
              refine lv_aload_n hx hb dX9_load_97 rfl (lv_at hl 0 rfl) ?_
              refine r_get X hG in_X9 rfl 15 (by decide) w_646 0 rfl rfl dX9_load_98 ?_
              refine lv_iload_n hx hb dX9_load_101 rfl (lv_at hl 1 rfl) ?_
              obtain ⟨g_20, h⟩ := gd h
              refine r_iald X hG 15 rfl g_20 dX9_load_102 ?_
              cases h
              exact ret _ _ _ _ dX9_load_103 hG
            · have h := ite_f h c_19
              rcases Decidable.em (x2 = (4 : Int32)) with c_21 | c_21
              · have h := ite_t h c_21
                refine lv_tableIn (off := 76) (tgt := 104) hx hb dX9_load_28 (by rw [c_21] <;> decide) (by rw [c_21] <;> decide) (by rw [c_21] <;> rfl) (by decide) ?_
                refine lv_aload_n hx hb dX9_load_104 rfl (lv_at hl 0 rfl) ?_
                refine r_get X hG in_X9 rfl 21 (by decide) w_652 0 rfl rfl dX9_load_105 ?_
                refine lv_iload_n hx hb dX9_load_108 rfl (lv_at hl 1 rfl) ?_
                obtain ⟨g_22, h⟩ := gd h
                refine r_iald X hG 18 rfl g_22 dX9_load_109 ?_
                cases h
                exact ret _ _ _ _ dX9_load_110 hG
              · have h := ite_f h c_21
                rcases Decidable.em (x2 = (5 : Int32)) with c_23 | c_23
                · have h := ite_t h c_23
                  refine lv_tableIn (off := 83) (tgt := 111) hx hb dX9_load_28 (by rw [c_23] <;> decide) (by rw [c_23] <;> decide) (by rw [c_23] <;> rfl) (by decide) ?_
                  refine lv_aload_n hx hb dX9_load_111 rfl (lv_at hl 0 rfl) ?_
                  refine r_get X hG in_X9 rfl 22 (by decide) w_653 0 rfl rfl dX9_load_112 ?_
                  refine lv_iload_n hx hb dX9_load_115 rfl (lv_at hl 1 rfl) ?_
                  obtain ⟨g_24, h⟩ := gd h
                  refine r_iald X hG 19 rfl g_24 dX9_load_116 ?_
                  cases h
                  exact ret _ _ _ _ dX9_load_117 hG
                · have h := ite_f h c_23
                  rcases Decidable.em (x2 = (6 : Int32)) with c_25 | c_25
                  · have h := ite_t h c_25
                    refine lv_tableIn (off := 90) (tgt := 118) hx hb dX9_load_28 (by rw [c_25] <;> decide) (by rw [c_25] <;> decide) (by rw [c_25] <;> rfl) (by decide) ?_
                    refine lv_aload_n hx hb dX9_load_118 rfl (lv_at hl 0 rfl) ?_
                    refine lv_iload_n hx hb dX9_load_119 rfl (lv_at hl 1 rfl) ?_
                    obtain ⟨r_26, hz_27, h⟩ := bd1_some h
                    refine aft_i1 (run_V1 (rest := []) X hG hl.1 (mX9_howOf l dC dI cI cJ a c_length c_text c_stands c_homeFar c_nets c_netAt c_netWide c_netFrom c_netTo c_priceX c_priceY c_many c_days c_aims c_speeds c_kinds c_keptMany c_undoMany c_undos c_spot c_told k_to_7 k_stood_8 k_home_9 k_lost_10 k_out_11 c_fewest c_ways c_next c_held x1 hz_27) gi_V_X9_176 hd_V_yX9_howOf ⟨rfl, rfl⟩ rfl ⟨Nat.le_of_ble_eq_true rfl, Nat.le_of_ble_eq_true rfl⟩ 0 rfl rfl rfl rfl (Nat.le_of_ble_eq_true rfl) ⟨Nat.le_of_ble_eq_true rfl, Nat.le_of_ble_eq_true rfl⟩ dX9_load_120) hG rfl (fun H locs hG => ?_)
                    clear hz_27
                    cases h
                    exact ret _ _ _ _ dX9_load_123 hG
                  · have h := ite_f h c_25
                    rcases Decidable.em (x2 = (7 : Int32)) with c_28 | c_28
                    · have h := ite_t h c_28
                      refine lv_tableIn (off := 96) (tgt := 124) hx hb dX9_load_28 (by rw [c_28] <;> decide) (by rw [c_28] <;> decide) (by rw [c_28] <;> rfl) (by decide) ?_
                      refine lv_aload_n hx hb dX9_load_124 rfl (lv_at hl 0 rfl) ?_
                      refine r_get X hG in_X9 rfl 23 (by decide) w_654 0 rfl rfl dX9_load_125 ?_
                      refine lv_iload_n hx hb dX9_load_128 rfl (lv_at hl 1 rfl) ?_
                      obtain ⟨g_29, h⟩ := gd h
                      refine r_iald X hG 20 rfl g_29 dX9_load_129 ?_
                      cases h
                      exact ret _ _ _ _ dX9_load_130 hG
                    · have h := ite_f h c_28
                      refine lv_tableOut (tgt := 131) hx hb dX9_load_28 (by have := lv_neT c_13 (a := 0) rfl; have := lv_neT c_15 (a := 1) rfl; have := lv_neT c_17 (a := 2) rfl; have := lv_neT c_19 (a := 3) rfl; have := lv_neT c_21 (a := 4) rfl; have := lv_neT c_23 (a := 5) rfl; have := lv_neT c_25 (a := 6) rfl; have := lv_neT c_28 (a := 7) rfl; omega) (by decide) ?_
                      refine lv_aload_n hx hb dX9_load_131 rfl (lv_at hl 0 rfl) ?_
                      refine lv_iload_n hx hb dX9_load_132 rfl (lv_at hl 1 rfl) ?_
                      obtain ⟨r_30, hz_31, h⟩ := bd1_some h
                      refine aft_i1 (run_V1 (rest := []) X hG hl.1 (mX9_paidOf l dC dI cI cJ a c_length c_text c_stands c_homeFar c_nets c_netAt c_netWide c_netFrom c_netTo c_priceX c_priceY c_many c_days c_aims c_speeds c_kinds c_keptMany c_undoMany c_undos c_spot c_told k_to_7 k_stood_8 k_home_9 k_lost_10 k_out_11 c_fewest c_ways c_next c_held x1 hz_31) gi_V_X9_188 hd_V_yX9_paidOf ⟨rfl, rfl⟩ rfl ⟨Nat.le_of_ble_eq_true rfl, Nat.le_of_ble_eq_true rfl⟩ 0 rfl rfl rfl rfl (Nat.le_of_ble_eq_true rfl) ⟨Nat.le_of_ble_eq_true rfl, Nat.le_of_ble_eq_true rfl⟩ dX9_load_133) hG rfl (fun H locs hG => ?_)
                      clear hz_31
                      cases h
                      exact ret _ _ _ _ dX9_load_136 hG
    · have h := ite_t h c_6
      refine lv_iconst (v := (-1 : Int32)) hx hb dX9_load_20 (by decide) ?_
      cases h
      exact ret _ _ _ _ dX9_load_21 hG
set_option maxRecDepth 100000 in
set_option maxHeartbeats 4000000 in
theorem mX9_isDay (l : Launch) (dC : Nat → ClassId) (dI : Nat → Nat → Nat) (cI cJ : ClassId) (x0 : Int32) {res : Int32} (hD : DX9_isDay x0 = some res) : Met l yX9_isDay (WZ yX9_isDay cX9_isDay 1 (some .boolean)) (RM 1 25) (PC dC dI cI cJ [.int x0] []) (QI dC dI [] [] res) 0 0 (FA []) := by
  refine r_metZ (by decide +kernel) (Nat.le_of_ble_eq_true rfl) ?_
  intro p e s m args below meth c A H0 QQ X ret ls hl hG
  have X : Cx p m c cX9_isDay 1 s args RX9 dC dI cI cJ meth (some .boolean) := X
  have hx := X.1.1
  have hb := X.1.2.1
  have hl : lv_has ls 1 [(0, .int x0)] := hl
  have h := hD
  unfold DX9_isDay at h
  clear hD
  refine lv_iload_n hx hb dX9_isDay_0 rfl (lv_at hl 0 rfl) ?_
  refine lv_i2l (v := (x0.toInt64)) hx hb dX9_isDay_1 rfl ?_
  refine lv_lconst (v := (0 : Int64)) hx hb dX9_isDay_2 (by decide) ?_
  refine lv_ldc2 (v := (99 : Int64)) hx hb X.1.2.2.2.1 (X.1.2.2.2.2 _ w_837) dX9_isDay_3 ?_
  obtain ⟨r_1, hz_2, h⟩ := bd1_some h
  refine aft_i (ws' := []) (run_S (rest := []) X hG hl.1 (mX9_in l dC dI cI cJ (x0.toInt64) (0 : Int64) (99 : Int64) hz_2) gi_S_X9_92 hd_S_yX9_in ⟨rfl, rfl⟩ rfl ⟨Nat.le_of_ble_eq_true rfl, Nat.le_of_ble_eq_true rfl⟩ [] (by decide) rfl rfl (Nat.le_of_ble_eq_true rfl) ⟨Nat.le_of_ble_eq_true rfl, Nat.le_of_ble_eq_true rfl⟩ dX9_isDay_6) hG [] rfl rfl rfl (fun H locs hG => ?_)
  clear hz_2
  obtain ⟨g_3, h⟩ := gd h
  cases h
  exact ret _ _ _ _ dX9_isDay_9 (Decidable.not_not.mp g_3) hG
set_option maxRecDepth 100000 in
set_option maxHeartbeats 4000000 in
theorem mX9_far (l : Launch) (dC : Nat → ClassId) (dI : Nat → Nat → Nat) (cI cJ : ClassId) (a : Nat → Nat) (c_length : Int32) (c_text : Nat → Int32) (c_stands : Nat → Int32) (c_homeFar : Nat → Int32) (c_nets : Nat → Int32) (c_netAt : Nat → Int32) (c_netWide : Nat → Int32) (c_netFrom : Nat → Int32) (c_netTo : Nat → Int32) (c_priceX : Nat → Int32) (c_priceY : Nat → Int32) (c_many : Nat → Int32) (c_days : Nat → Int32) (c_aims : Nat → Int32) (c_speeds : Nat → Int32) (c_kinds : Nat → Int32) (c_keptMany : Int32) (c_undoMany : Int32) (c_undos : Nat → Int32) (c_spot : Int32) (c_told : Nat → Int32) (c_to : Nat → Int32) (c_stood : Nat → Int32) (c_home : Nat → Int32) (c_lost : Nat → Int32) (c_out : Int32) (c_fewest : Nat → Int32) (c_ways : Nat → Int64) (c_next : Nat → Int64) (c_held : Nat → Int32) (x1 : Int32) (x2 : Int32) {res : Int32} {n_to : Nat → Int32} {n_stood : Nat → Int32} {n_home : Nat → Int32} {n_lost : Nat → Int32} {n_out : Int32} (hD : DX9_far x1 x2 c_stands c_homeFar c_many c_days c_aims c_speeds c_kinds c_to c_stood c_home c_lost c_out = some (res, n_to, n_stood, n_home, n_lost, n_out)) : Met l yX9_far (WZ yX9_far cX9_far 3 (some .int)) (RM 4 91) (PC dC dI cI cJ [.ref (a 0), .int x1, .int x2] (W_X9 a cI cJ c_length c_text c_stands c_homeFar c_nets c_netAt c_netWide c_netFrom c_netTo c_priceX c_priceY c_many c_days c_aims c_speeds c_kinds c_keptMany c_undoMany c_undos c_spot c_told c_to c_stood c_home c_lost c_out c_fewest c_ways c_next c_held)) (QI dC dI (W_X9 a cI cJ c_length c_text c_stands c_homeFar c_nets c_netAt c_netWide c_netFrom c_netTo c_priceX c_priceY c_many c_days c_aims c_speeds c_kinds c_keptMany c_undoMany c_undos c_spot c_told c_to c_stood c_home c_lost c_out c_fewest c_ways c_next c_held) (W_X9 a cI cJ c_length c_text c_stands c_homeFar c_nets c_netAt c_netWide c_netFrom c_netTo c_priceX c_priceY c_many c_days c_aims c_speeds c_kinds c_keptMany c_undoMany c_undos c_spot c_told n_to n_stood n_home n_lost n_out c_fewest c_ways c_next c_held) res) 0 0 (FA (W_X9 a cI cJ c_length c_text c_stands c_homeFar c_nets c_netAt c_netWide c_netFrom c_netTo c_priceX c_priceY c_many c_days c_aims c_speeds c_kinds c_keptMany c_undoMany c_undos c_spot c_told c_to c_stood c_home c_lost c_out c_fewest c_ways c_next c_held)) := by
  refine r_metI (by decide +kernel) (Nat.le_of_ble_eq_true rfl) ?_
  intro p e s m args below meth c A H0 QQ X ret ls hl hG
  have X : Cx p m c cX9_far 3 s args RX9 dC dI cI cJ meth (some .int) := X
  have hx := X.1.1
  have hb := X.1.2.1
  have hl : lv_has ls 3 [(0, .ref (a 0)), (1, .int x1), (2, .int x2)] := hl
  have h := hD
  unfold DX9_far at h
  clear hD
  refine lv_aload_n hx hb dX9_far_0 rfl (lv_at hl 0 rfl) ?_
  refine lv_iload_n hx hb dX9_far_1 rfl (lv_at hl 1 rfl) ?_
  obtain ⟨r_1, hz_2, h⟩ := bd1_some h
  refine aft_i1 (run_V1 (rest := []) X hG hl.1 (mX9_isThrow l dC dI cI cJ a c_length c_text c_stands c_homeFar c_nets c_netAt c_netWide c_netFrom c_netTo c_priceX c_priceY c_many c_days c_aims c_speeds c_kinds c_keptMany c_undoMany c_undos c_spot c_told c_to c_stood c_home c_lost c_out c_fewest c_ways c_next c_held x1 hz_2) gi_V_X9_182 hd_V_yX9_isThrow ⟨rfl, rfl⟩ rfl ⟨Nat.le_of_ble_eq_true rfl, Nat.le_of_ble_eq_true rfl⟩ 0 rfl rfl rfl rfl (Nat.le_of_ble_eq_true rfl) ⟨Nat.le_of_ble_eq_true rfl, Nat.le_of_ble_eq_true rfl⟩ dX9_far_2) hG rfl (fun H locs hG => ?_)
  clear hz_2
  refine lv_if_eq (tgt := 15) hx hb dX9_far_5 (by decide) (fun c_3 => ?_) (fun c_3 => ?_)
  · have h := ite_t h c_3
    refine lv_iconst (v := (-1 : Int32)) hx hb dX9_far_15 (by decide) ?_
    cases h
    exact ret _ _ _ _ dX9_far_16 hG
  · have h := ite_f h c_3
    refine lv_iload_n hx hb dX9_far_8 rfl (lv_at hl 2 rfl) ?_
    obtain ⟨r_4, hz_5, h⟩ := bd1_some h
    refine aft_i (ws' := (W_X9 a cI cJ c_length c_text c_stands c_homeFar c_nets c_netAt c_netWide c_netFrom c_netTo c_priceX c_priceY c_many c_days c_aims c_speeds c_kinds c_keptMany c_undoMany c_undos c_spot c_told c_to c_stood c_home c_lost c_out c_fewest c_ways c_next c_held)) (run_S (rest := []) X hG hl.1 (mX9_isDay l dC dI cI cJ x2 hz_5) gi_S_X9_193 hd_S_yX9_isDay ⟨rfl, rfl⟩ rfl ⟨Nat.le_of_ble_eq_true rfl, Nat.le_of_ble_eq_true rfl⟩ [] (by decide) rfl rfl (Nat.le_of_ble_eq_true rfl) ⟨Nat.le_of_ble_eq_true rfl, Nat.le_of_ble_eq_true rfl⟩ dX9_far_9) hG [] rfl rfl rfl (fun H locs hG => ?_)
    clear hz_5
    refine lv_if_ne (tgt := 17) hx hb dX9_far_12 (by decide) (fun c_6 => ?_) (fun c_6 => ?_)
    · have h := ite_f h c_6
      refine lv_aload_n hx hb dX9_far_17 rfl (lv_at hl 0 rfl) ?_
      refine lv_iconst (v := (0 : Int32)) hx hb dX9_far_18 (by decide) ?_
      obtain ⟨k_to_7, k_stood_8, k_home_9, k_lost_10, k_out_11, hz_12, h⟩ := bd5_some h
      refine aft_v1 (run_V1 (rest := []) X hG hl.1 (mX9_go l dC dI cI cJ a c_length c_text c_stands c_homeFar c_nets c_netAt c_netWide c_netFrom c_netTo c_priceX c_priceY c_many c_days c_aims c_speeds c_kinds c_keptMany c_undoMany c_undos c_spot c_told c_to c_stood c_home c_lost c_out c_fewest c_ways c_next c_held (0 : Int32) hz_12) gi_V_X9_185 hd_V_yX9_go ⟨rfl, rfl⟩ rfl ⟨Nat.le_of_ble_eq_true rfl, Nat.le_of_ble_eq_true rfl⟩ 0 rfl rfl rfl rfl (Nat.le_of_ble_eq_true rfl) ⟨Nat.le_of_ble_eq_true rfl, Nat.le_of_ble_eq_true rfl⟩ dX9_far_19) hG rfl (fun H locs hG => ?_)
      clear hz_12
      refine lv_iload_n hx hb dX9_far_22 rfl (lv_at hl 2 rfl) ?_
      refine lv_aload_n hx hb dX9_far_23 rfl (lv_at hl 0 rfl) ?_
      refine r_get X hG in_X9 rfl 12 (by decide) w_643 0 rfl rfl dX9_far_24 ?_
      refine lv_iload_n hx hb dX9_far_27 rfl (lv_at hl 1 rfl) ?_
      obtain ⟨g_13, h⟩ := gd h
      refine r_iald X hG 12 rfl g_13 dX9_far_28 ?_
      refine lv_icmp_lt (tgt := 51) hx hb dX9_far_29 (by decide) (fun c_14 => ?_) (fun c_14 => ?_)
      · have h := ite_t h c_14
        refine lv_bipush (v := (-4 : Int32)) hx hb dX9_far_51 (by decide) ?_
        cases h
        exact ret _ _ _ _ dX9_far_53 hG
      · have h := ite_f h c_14
        refine lv_iload_n hx hb dX9_far_32 rfl (lv_at hl 2 rfl) ?_
        refine lv_aload_n hx hb dX9_far_33 rfl (lv_at hl 0 rfl) ?_
        refine r_get X hG in_X9 rfl 23 (by decide) w_654 0 rfl rfl dX9_far_34 ?_
        refine lv_iload_n hx hb dX9_far_37 rfl (lv_at hl 1 rfl) ?_
        obtain ⟨g_15, h⟩ := gd h
        refine r_iald X hG 20 rfl g_15 dX9_far_38 ?_
        refine lv_icmp_ge (tgt := 51) hx hb dX9_far_39 (by decide) (fun c_16 => ?_) (fun c_16 => ?_)
        · have h := ite_t h c_16
          refine lv_bipush (v := (-4 : Int32)) hx hb dX9_far_51 (by decide) ?_
          cases h
          exact ret _ _ _ _ dX9_far_53 hG
        · have h := ite_f h c_16
          refine lv_aload_n hx hb dX9_far_42 rfl (lv_at hl 0 rfl) ?_
          refine lv_iload_n hx hb dX9_far_43 rfl (lv_at hl 1 rfl) ?_
          refine lv_iload_n hx hb dX9_far_44 rfl (lv_at hl 2 rfl) ?_
          obtain ⟨r_17, hz_18, h⟩ := bd1_some h
          refine aft_i1 (run_V1 (rest := []) X hG hl.1 (mX9_farOf l dC dI cI cJ a c_length c_text c_stands c_homeFar c_nets c_netAt c_netWide c_netFrom c_netTo c_priceX c_priceY c_many c_days c_aims c_speeds c_kinds c_keptMany c_undoMany c_undos c_spot c_told k_to_7 k_stood_8 k_home_9 k_lost_10 k_out_11 c_fewest c_ways c_next c_held x1 x2 hz_18) gi_V_X9_154 hd_V_yX9_farOf ⟨rfl, rfl⟩ rfl ⟨Nat.le_of_ble_eq_true rfl, Nat.le_of_ble_eq_true rfl⟩ 0 rfl rfl rfl rfl (Nat.le_of_ble_eq_true rfl) ⟨Nat.le_of_ble_eq_true rfl, Nat.le_of_ble_eq_true rfl⟩ dX9_far_45) hG rfl (fun H locs hG => ?_)
          clear hz_18
          refine lv_goto (tgt := 53) hx hb dX9_far_48 (by decide) ?_
          cases h
          exact ret _ _ _ _ dX9_far_53 hG
    · have h := ite_t h c_6
      refine lv_iconst (v := (-1 : Int32)) hx hb dX9_far_15 (by decide) ?_
      cases h
      exact ret _ _ _ _ dX9_far_16 hG
set_option maxRecDepth 100000 in
set_option maxHeartbeats 4000000 in
theorem mX9_rock (l : Launch) (dC : Nat → ClassId) (dI : Nat → Nat → Nat) (cI cJ : ClassId) (a : Nat → Nat) (c_length : Int32) (c_text : Nat → Int32) (c_stands : Nat → Int32) (c_homeFar : Nat → Int32) (c_nets : Nat → Int32) (c_netAt : Nat → Int32) (c_netWide : Nat → Int32) (c_netFrom : Nat → Int32) (c_netTo : Nat → Int32) (c_priceX : Nat → Int32) (c_priceY : Nat → Int32) (c_many : Nat → Int32) (c_days : Nat → Int32) (c_aims : Nat → Int32) (c_speeds : Nat → Int32) (c_kinds : Nat → Int32) (c_keptMany : Int32) (c_undoMany : Int32) (c_undos : Nat → Int32) (c_spot : Int32) (c_told : Nat → Int32) (c_to : Nat → Int32) (c_stood : Nat → Int32) (c_home : Nat → Int32) (c_lost : Nat → Int32) (c_out : Int32) (c_fewest : Nat → Int32) (c_ways : Nat → Int64) (c_next : Nat → Int64) (c_held : Nat → Int32) (x1 : Int32) {res : Int32} {n_to : Nat → Int32} {n_stood : Nat → Int32} {n_out : Int32} (hD : DX9_rock x1 c_stands c_many c_days c_aims c_speeds c_kinds c_to c_stood c_out = some (res, n_to, n_stood, n_out)) : Met l yX9_rock (WZ yX9_rock cX9_rock 2 (some .int)) (RM 2 45) (PC dC dI cI cJ [.ref (a 0), .int x1] (W_X9 a cI cJ c_length c_text c_stands c_homeFar c_nets c_netAt c_netWide c_netFrom c_netTo c_priceX c_priceY c_many c_days c_aims c_speeds c_kinds c_keptMany c_undoMany c_undos c_spot c_told c_to c_stood c_home c_lost c_out c_fewest c_ways c_next c_held)) (QI dC dI (W_X9 a cI cJ c_length c_text c_stands c_homeFar c_nets c_netAt c_netWide c_netFrom c_netTo c_priceX c_priceY c_many c_days c_aims c_speeds c_kinds c_keptMany c_undoMany c_undos c_spot c_told c_to c_stood c_home c_lost c_out c_fewest c_ways c_next c_held) (W_X9 a cI cJ c_length c_text c_stands c_homeFar c_nets c_netAt c_netWide c_netFrom c_netTo c_priceX c_priceY c_many c_days c_aims c_speeds c_kinds c_keptMany c_undoMany c_undos c_spot c_told n_to n_stood c_home c_lost n_out c_fewest c_ways c_next c_held) res) 0 0 (FA (W_X9 a cI cJ c_length c_text c_stands c_homeFar c_nets c_netAt c_netWide c_netFrom c_netTo c_priceX c_priceY c_many c_days c_aims c_speeds c_kinds c_keptMany c_undoMany c_undos c_spot c_told c_to c_stood c_home c_lost c_out c_fewest c_ways c_next c_held)) := by
  refine r_metI (by decide +kernel) (Nat.le_of_ble_eq_true rfl) ?_
  intro p e s m args below meth c A H0 QQ X ret ls hl hG
  have X : Cx p m c cX9_rock 2 s args RX9 dC dI cI cJ meth (some .int) := X
  have hx := X.1.1
  have hb := X.1.2.1
  have hl : lv_has ls 2 [(0, .ref (a 0)), (1, .int x1)] := hl
  have h := hD
  unfold DX9_rock at h
  clear hD
  refine lv_iload_n hx hb dX9_rock_0 rfl (lv_at hl 1 rfl) ?_
  obtain ⟨r_1, hz_2, h⟩ := bd1_some h
  refine aft_i (ws' := (W_X9 a cI cJ c_length c_text c_stands c_homeFar c_nets c_netAt c_netWide c_netFrom c_netTo c_priceX c_priceY c_many c_days c_aims c_speeds c_kinds c_keptMany c_undoMany c_undos c_spot c_told c_to c_stood c_home c_lost c_out c_fewest c_ways c_next c_held)) (run_S (rest := []) X hG hl.1 (mX9_isDay l dC dI cI cJ x1 hz_2) gi_S_X9_193 hd_S_yX9_isDay ⟨rfl, rfl⟩ rfl ⟨Nat.le_of_ble_eq_true rfl, Nat.le_of_ble_eq_true rfl⟩ [] (by decide) rfl rfl (Nat.le_of_ble_eq_true rfl) ⟨Nat.le_of_ble_eq_true rfl, Nat.le_of_ble_eq_true rfl⟩ dX9_rock_1) hG [] rfl rfl rfl (fun H locs hG => ?_)
  clear hz_2
  refine lv_if_ne (tgt := 9) hx hb dX9_rock_4 (by decide) (fun c_3 => ?_) (fun c_3 => ?_)
  · have h := ite_f h c_3
    refine lv_aload_n hx hb dX9_rock_9 rfl (lv_at hl 0 rfl) ?_
    refine lv_iconst (v := (0 : Int32)) hx hb dX9_rock_10 (by decide) ?_
    refine r_put X hG in_X9 rfl tyX9 tyX9_ok nmX9 25 (by decide) rfl (by decide +kernel) w_656 0 (ws' := (W_X9 a cI cJ c_length c_text c_stands c_homeFar c_nets c_netAt c_netWide c_netFrom c_netTo c_priceX c_priceY c_many c_days c_aims c_speeds c_kinds c_keptMany c_undoMany c_undos c_spot c_told c_to c_stood c_home c_lost (0 : Int32) c_fewest c_ways c_next c_held)) rfl (Nat.le_of_ble_eq_true rfl) rfl dX9_rock_11 (fun H locs hG => ?_)
    refine lv_aload_n hx hb dX9_rock_14 rfl (lv_at hl 0 rfl) ?_
    refine lv_iload_n hx hb dX9_rock_15 rfl (lv_at hl 1 rfl) ?_
    obtain ⟨r_4, k_to_5, k_stood_6, hz_7, h⟩ := bd3_some h
    refine aft_i1 (run_V1 (rest := []) X hG hl.1 (mX9_turnTo l dC dI cI cJ a c_length c_text c_stands c_homeFar c_nets c_netAt c_netWide c_netFrom c_netTo c_priceX c_priceY c_many c_days c_aims c_speeds c_kinds c_keptMany c_undoMany c_undos c_spot c_told c_to c_stood c_home c_lost (0 : Int32) c_fewest c_ways c_next c_held x1 hz_7) gi_V_X9_158 hd_V_yX9_turnTo ⟨rfl, rfl⟩ rfl ⟨Nat.le_of_ble_eq_true rfl, Nat.le_of_ble_eq_true rfl⟩ 0 rfl rfl rfl rfl (Nat.le_of_ble_eq_true rfl) ⟨Nat.le_of_ble_eq_true rfl, Nat.le_of_ble_eq_true rfl⟩ dX9_rock_16) hG rfl (fun H locs hG => ?_)
    clear hz_7
    cases h
    exact ret _ _ _ _ dX9_rock_19 hG
  · have h := ite_t h c_3
    refine lv_iconst (v := (-1 : Int32)) hx hb dX9_rock_7 (by decide) ?_
    cases h
    exact ret _ _ _ _ dX9_rock_8 hG
set_option maxRecDepth 100000 in
set_option maxHeartbeats 4000000 in
theorem mX9_price (l : Launch) (dC : Nat → ClassId) (dI : Nat → Nat → Nat) (cI cJ : ClassId) (a : Nat → Nat) (c_length : Int32) (c_text : Nat → Int32) (c_stands : Nat → Int32) (c_homeFar : Nat → Int32) (c_nets : Nat → Int32) (c_netAt : Nat → Int32) (c_netWide : Nat → Int32) (c_netFrom : Nat → Int32) (c_netTo : Nat → Int32) (c_priceX : Nat → Int32) (c_priceY : Nat → Int32) (c_many : Nat → Int32) (c_days : Nat → Int32) (c_aims : Nat → Int32) (c_speeds : Nat → Int32) (c_kinds : Nat → Int32) (c_keptMany : Int32) (c_undoMany : Int32) (c_undos : Nat → Int32) (c_spot : Int32) (c_told : Nat → Int32) (c_to : Nat → Int32) (c_stood : Nat → Int32) (c_home : Nat → Int32) (c_lost : Nat → Int32) (c_out : Int32) (c_fewest : Nat → Int32) (c_ways : Nat → Int64) (c_next : Nat → Int64) (c_held : Nat → Int32) (x1 : Int32) {res : Int32} (hD : DX9_price x1 c_priceX c_priceY = some res) : Met l yX9_price (WZ yX9_price cX9_price 2 (some .int)) (RM 2 45) (PC dC dI cI cJ [.ref (a 0), .int x1] (W_X9 a cI cJ c_length c_text c_stands c_homeFar c_nets c_netAt c_netWide c_netFrom c_netTo c_priceX c_priceY c_many c_days c_aims c_speeds c_kinds c_keptMany c_undoMany c_undos c_spot c_told c_to c_stood c_home c_lost c_out c_fewest c_ways c_next c_held)) (QI dC dI (W_X9 a cI cJ c_length c_text c_stands c_homeFar c_nets c_netAt c_netWide c_netFrom c_netTo c_priceX c_priceY c_many c_days c_aims c_speeds c_kinds c_keptMany c_undoMany c_undos c_spot c_told c_to c_stood c_home c_lost c_out c_fewest c_ways c_next c_held) (W_X9 a cI cJ c_length c_text c_stands c_homeFar c_nets c_netAt c_netWide c_netFrom c_netTo c_priceX c_priceY c_many c_days c_aims c_speeds c_kinds c_keptMany c_undoMany c_undos c_spot c_told c_to c_stood c_home c_lost c_out c_fewest c_ways c_next c_held) res) 0 0 (FA (W_X9 a cI cJ c_length c_text c_stands c_homeFar c_nets c_netAt c_netWide c_netFrom c_netTo c_priceX c_priceY c_many c_days c_aims c_speeds c_kinds c_keptMany c_undoMany c_undos c_spot c_told c_to c_stood c_home c_lost c_out c_fewest c_ways c_next c_held)) := by
  refine r_metI (by decide +kernel) (Nat.le_of_ble_eq_true rfl) ?_
  intro p e s m args below meth c A H0 QQ X ret ls hl hG
  have X : Cx p m c cX9_price 2 s args RX9 dC dI cI cJ meth (some .int) := X
  have hx := X.1.1
  have hb := X.1.2.1
  have hl : lv_has ls 2 [(0, .ref (a 0)), (1, .int x1)] := hl
  have h := hD
  unfold DX9_price at h
  clear hD
  refine lv_iload_n hx hb dX9_price_0 rfl (lv_at hl 1 rfl) ?_
  obtain ⟨r_1, hz_2, h⟩ := bd1_some h
  refine aft_i (ws' := (W_X9 a cI cJ c_length c_text c_stands c_homeFar c_nets c_netAt c_netWide c_netFrom c_netTo c_priceX c_priceY c_many c_days c_aims c_speeds c_kinds c_keptMany c_undoMany c_undos c_spot c_told c_to c_stood c_home c_lost c_out c_fewest c_ways c_next c_held)) (run_S (rest := []) X hG hl.1 (mX9_isDay l dC dI cI cJ x1 hz_2) gi_S_X9_193 hd_S_yX9_isDay ⟨rfl, rfl⟩ rfl ⟨Nat.le_of_ble_eq_true rfl, Nat.le_of_ble_eq_true rfl⟩ [] (by decide) rfl rfl (Nat.le_of_ble_eq_true rfl) ⟨Nat.le_of_ble_eq_true rfl, Nat.le_of_ble_eq_true rfl⟩ dX9_price_1) hG [] rfl rfl rfl (fun H locs hG => ?_)
  clear hz_2
  refine lv_if_eq (tgt := 15) hx hb dX9_price_4 (by decide) (fun c_3 => ?_) (fun c_3 => ?_)
  · have h := ite_t h c_3
    refine lv_iconst (v := (-1 : Int32)) hx hb dX9_price_15 (by decide) ?_
    cases h
    exact ret _ _ _ _ dX9_price_16 hG
  · have h := ite_f h c_3
    refine lv_aload_n hx hb dX9_price_7 rfl (lv_at hl 0 rfl) ?_
    refine lv_iload_n hx hb dX9_price_8 rfl (lv_at hl 1 rfl) ?_
    obtain ⟨r_4, hz_5, h⟩ := bd1_some h
    refine aft_i1 (run_V1 (rest := []) X hG hl.1 (mX9_priceOf l dC dI cI cJ a c_length c_text c_stands c_homeFar c_nets c_netAt c_netWide c_netFrom c_netTo c_priceX c_priceY c_many c_days c_aims c_speeds c_kinds c_keptMany c_undoMany c_undos c_spot c_told c_to c_stood c_home c_lost c_out c_fewest c_ways c_next c_held x1 hz_5) gi_V_X9_179 hd_V_yX9_priceOf ⟨rfl, rfl⟩ rfl ⟨Nat.le_of_ble_eq_true rfl, Nat.le_of_ble_eq_true rfl⟩ 0 rfl rfl rfl rfl (Nat.le_of_ble_eq_true rfl) ⟨Nat.le_of_ble_eq_true rfl, Nat.le_of_ble_eq_true rfl⟩ dX9_price_9) hG rfl (fun H locs hG => ?_)
    clear hz_5
    refine lv_goto (tgt := 16) hx hb dX9_price_12 (by decide) ?_
    cases h
    exact ret _ _ _ _ dX9_price_16 hG
set_option maxRecDepth 100000 in
set_option maxHeartbeats 4000000 in
theorem mX9_howMany (l : Launch) (dC : Nat → ClassId) (dI : Nat → Nat → Nat) (cI cJ : ClassId) (a : Nat → Nat) (c_length : Int32) (c_text : Nat → Int32) (c_stands : Nat → Int32) (c_homeFar : Nat → Int32) (c_nets : Nat → Int32) (c_netAt : Nat → Int32) (c_netWide : Nat → Int32) (c_netFrom : Nat → Int32) (c_netTo : Nat → Int32) (c_priceX : Nat → Int32) (c_priceY : Nat → Int32) (c_many : Nat → Int32) (c_days : Nat → Int32) (c_aims : Nat → Int32) (c_speeds : Nat → Int32) (c_kinds : Nat → Int32) (c_keptMany : Int32) (c_undoMany : Int32) (c_undos : Nat → Int32) (c_spot : Int32) (c_told : Nat → Int32) (c_to : Nat → Int32) (c_stood : Nat → Int32) (c_home : Nat → Int32) (c_lost : Nat → Int32) (c_out : Int32) (c_fewest : Nat → Int32) (c_ways : Nat → Int64) (c_next : Nat → Int64) (c_held : Nat → Int32) (x1 : Int32) {res : Int32} (hD : DX9_howMany x1 c_nets c_netAt c_netWide c_netFrom c_netTo c_many c_days c_kinds c_to c_home c_lost = some res) : Met l yX9_howMany (WZ yX9_howMany cX9_howMany 4 (some .int)) (RM 4 86) (PC dC dI cI cJ [.ref (a 0), .int x1] (W_X9 a cI cJ c_length c_text c_stands c_homeFar c_nets c_netAt c_netWide c_netFrom c_netTo c_priceX c_priceY c_many c_days c_aims c_speeds c_kinds c_keptMany c_undoMany c_undos c_spot c_told c_to c_stood c_home c_lost c_out c_fewest c_ways c_next c_held)) (QI dC dI (W_X9 a cI cJ c_length c_text c_stands c_homeFar c_nets c_netAt c_netWide c_netFrom c_netTo c_priceX c_priceY c_many c_days c_aims c_speeds c_kinds c_keptMany c_undoMany c_undos c_spot c_told c_to c_stood c_home c_lost c_out c_fewest c_ways c_next c_held) (W_X9 a cI cJ c_length c_text c_stands c_homeFar c_nets c_netAt c_netWide c_netFrom c_netTo c_priceX c_priceY c_many c_days c_aims c_speeds c_kinds c_keptMany c_undoMany c_undos c_spot c_told c_to c_stood c_home c_lost c_out c_fewest c_ways c_next c_held) res) 0 0 (FA (W_X9 a cI cJ c_length c_text c_stands c_homeFar c_nets c_netAt c_netWide c_netFrom c_netTo c_priceX c_priceY c_many c_days c_aims c_speeds c_kinds c_keptMany c_undoMany c_undos c_spot c_told c_to c_stood c_home c_lost c_out c_fewest c_ways c_next c_held)) := by
  refine r_metI (by decide +kernel) (Nat.le_of_ble_eq_true rfl) ?_
  intro p e s m args below meth c A H0 QQ X ret ls hl hG
  have X : Cx p m c cX9_howMany 4 s args RX9 dC dI cI cJ meth (some .int) := X
  have hx := X.1.1
  have hb := X.1.2.1
  have hl : lv_has ls 4 [(0, .ref (a 0)), (1, .int x1)] := hl
  have L4 : ∀ (n : Nat) (x2 : Int32) (x3 : Int32) (ex2 : Int32), DX9_howMany_L4 x1 c_nets c_netAt c_netWide c_netFrom c_netTo c_many c_days c_kinds c_to c_home c_lost n x2 x3 = some ex2 → (∀ (ls : Array Slot) (H : Heap) (locs : List Loc), lv_has ls 4 [(2, .int ex2)] → G dC dI A H0 (W_X9 a cI cJ c_length c_text c_stands c_homeFar c_nets c_netAt c_netWide c_netFrom c_netTo c_priceX c_priceY c_many c_days c_aims c_speeds c_kinds c_keptMany c_undoMany c_undos c_spot c_told c_to c_stood c_home c_lost c_out c_fewest c_ways c_next c_held) H locs → W p l e (RM 4 86) s m args below meth c H locs 0 0 QQ (F0 m 37 ls [])) → ∀ (ls : Array Slot) (H : Heap) (locs : List Loc), lv_has ls 4 [(0, .ref (a 0)), (1, .int x1), (2, .int x2), (3, .int x3)] → G dC dI A H0 (W_X9 a cI cJ c_length c_text c_stands c_homeFar c_nets c_netAt c_netWide c_netFrom c_netTo c_priceX c_priceY c_many c_days c_aims c_speeds c_kinds c_keptMany c_undoMany c_undos c_spot c_told c_to c_stood c_home c_lost c_out c_fewest c_ways c_next c_held) H locs → W p l e (RM 4 86) s m args below meth c H locs 0 0 QQ (F0 m 4 ls []) := by
    intro  n
    induction n with
    | zero => intro x2 x3 ex2 h; exact it_zero h
    | succ n ih =>
      intro x2 x3 ex2 h0 K0 ls H locs hl hG
      obtain ⟨w, h, hi, hr⟩ := it_succ h0
      have h : DX9_howMany_L4s x1 c_nets c_netAt c_netWide c_netFrom c_netTo c_many c_days c_kinds c_to c_home c_lost x2 x3 = some w := h
      have KC : ∀ (x2 : Int32) (x3 : Int32), w = .inl (x2, x3) → ∀ (ls : Array Slot) (H : Heap) (locs : List Loc), lv_has ls 4 [(0, .ref (a 0)), (1, .int x1), (2, .int x2), (3, .int x3)] → G dC dI A H0 (W_X9 a cI cJ c_length c_text c_stands c_homeFar c_nets c_netAt c_netWide c_netFrom c_netTo c_priceX c_priceY c_many c_days c_aims c_speeds c_kinds c_keptMany c_undoMany c_undos c_spot c_told c_to c_stood c_home c_lost c_out c_fewest c_ways c_next c_held) H locs → W p l e (RM 4 86) s m args below meth c H locs 0 0 QQ (F0 m 4 ls []) := fun b0 b1 e ls H locs hl hG => ih b0 b1 ex2 (hi _ e) K0 ls H locs hl hG
      have KX : ∀ (x2 : Int32), w = .inr x2 → ∀ (ls : Array Slot) (H : Heap) (locs : List Loc), lv_has ls 4 [(2, .int x2)] → G dC dI A H0 (W_X9 a cI cJ c_length c_text c_stands c_homeFar c_nets c_netAt c_netWide c_netFrom c_netTo c_priceX c_priceY c_many c_days c_aims c_speeds c_kinds c_keptMany c_undoMany c_undos c_spot c_told c_to c_stood c_home c_lost c_out c_fewest c_ways c_next c_held) H locs → W p l e (RM 4 86) s m args below meth c H locs 0 0 QQ (F0 m 37 ls []) := fun b0 e ls H locs hl hG => by cases hr _ e; exact K0 ls H locs hl hG
      clear h0 hi hr K0 ih
      unfold DX9_howMany_L4s at h
      refine lv_iload_n hx hb dX9_howMany_4 rfl (lv_at hl 3 rfl) ?_
      refine lv_aload_n hx hb dX9_howMany_5 rfl (lv_at hl 0 rfl) ?_
      refine r_get X hG in_X9 rfl 11 (by decide) w_642 0 rfl rfl dX9_howMany_6 ?_
      refine lv_iconst (v := (0 : Int32)) hx hb dX9_howMany_9 (by decide) ?_
      refine r_iald X hG 11 rfl (vpd (by decide)) dX9_howMany_10 ?_
      refine lv_icmp_ge (tgt := 37) hx hb dX9_howMany_11 (by decide) (fun c_1 => ?_) (fun c_1 => ?_)
      · have h := ite_t h c_1
        exact KX _ (Option.some.inj h).symm _ _ _ (lv_sub hl [2] rfl) hG
      · have h := ite_f h c_1
        refine lv_iload_n hx hb dX9_howMany_14 rfl (lv_at hl 2 rfl) ?_
        refine lv_aload_n hx hb dX9_howMany_15 rfl (lv_at hl 0 rfl) ?_
        refine lv_iload_n hx hb dX9_howMany_16 rfl (lv_at hl 3 rfl) ?_
        obtain ⟨r_2, hz_3, h⟩ := bd1_some h
        refine aft_i1 (run_V1 (rest := [.int x2]) X hG hl.1 (mX9_howOf l dC dI cI cJ a c_length c_text c_stands c_homeFar c_nets c_netAt c_netWide c_netFrom c_netTo c_priceX c_priceY c_many c_days c_aims c_speeds c_kinds c_keptMany c_undoMany c_undos c_spot c_told c_to c_stood c_home c_lost c_out c_fewest c_ways c_next c_held x3 hz_3) gi_V_X9_176 hd_V_yX9_howOf ⟨rfl, rfl⟩ rfl ⟨Nat.le_of_ble_eq_true rfl, Nat.le_of_ble_eq_true rfl⟩ 0 rfl rfl rfl rfl (Nat.le_of_ble_eq_true rfl) ⟨Nat.le_of_ble_eq_true rfl, Nat.le_of_ble_eq_true rfl⟩ dX9_howMany_17) hG rfl (fun H locs hG => ?_)
        clear hz_3
        refine lv_iload_n hx hb dX9_howMany_20 rfl (lv_at hl 1 rfl) ?_
        refine lv_icmp_ne (tgt := 28) hx hb dX9_howMany_21 (by decide) (fun c_4 => ?_) (fun c_4 => ?_)
        · have h := ite_f h c_4
          refine lv_iconst (v := (0 : Int32)) hx hb dX9_howMany_28 (by decide) ?_
          refine lv_iadd hx hb dX9_howMany_29 ?_
          refine lv_istore_n (lv' := [(2, .int (x2 + (0 : Int32))), (0, .ref (a 0)), (1, .int x1), (3, .int x3)]) hx hb dX9_howMany_30 rfl hl (by decide) rfl (fun ls hl => ?_)
          refine lv_iinc (v := (x3 + (1 : Int32))) (lv' := [(3, .int (x3 + (1 : Int32))), (2, .int (x2 + (0 : Int32))), (0, .ref (a 0)), (1, .int x1)]) hx hb dX9_howMany_31 hl (k := 3) rfl rfl (by decide) rfl (fun ls hl => ?_)
          refine lv_goto (tgt := 4) hx hb dX9_howMany_34 (by decide) ?_
          exact KC _ _ (Option.some.inj h).symm _ _ _ (lv_sub hl [2, 3, 1, 0] rfl) hG
        · have h := ite_t h c_4
          refine lv_iconst (v := (1 : Int32)) hx hb dX9_howMany_24 (by decide) ?_
          refine lv_goto (tgt := 29) hx hb dX9_howMany_25 (by decide) ?_
          refine lv_iadd hx hb dX9_howMany_29 ?_
          refine lv_istore_n (lv' := [(2, .int (x2 + (1 : Int32))), (0, .ref (a 0)), (1, .int x1), (3, .int x3)]) hx hb dX9_howMany_30 rfl hl (by decide) rfl (fun ls hl => ?_)
          refine lv_iinc (v := (x3 + (1 : Int32))) (lv' := [(3, .int (x3 + (1 : Int32))), (2, .int (x2 + (1 : Int32))), (0, .ref (a 0)), (1, .int x1)]) hx hb dX9_howMany_31 hl (k := 3) rfl rfl (by decide) rfl (fun ls hl => ?_)
          refine lv_goto (tgt := 4) hx hb dX9_howMany_34 (by decide) ?_
          exact KC _ _ (Option.some.inj h).symm _ _ _ (lv_sub hl [2, 3, 1, 0] rfl) hG
  have h := hD
  unfold DX9_howMany at h
  clear hD
  refine lv_iconst (v := (0 : Int32)) hx hb dX9_howMany_0 (by decide) ?_
  refine lv_istore_n (lv' := [(2, .int (0 : Int32)), (0, .ref (a 0)), (1, .int x1)]) hx hb dX9_howMany_1 rfl hl (by decide) rfl (fun ls hl => ?_)
  refine lv_iconst (v := (0 : Int32)) hx hb dX9_howMany_2 (by decide) ?_
  refine lv_istore_n (lv' := [(3, .int (0 : Int32)), (2, .int (0 : Int32)), (0, .ref (a 0)), (1, .int x1)]) hx hb dX9_howMany_3 rfl hl (by decide) rfl (fun ls hl => ?_)
  obtain ⟨z2_5, hz, h⟩ := bd1_some h
  refine L4  FU (0 : Int32) (0 : Int32) _ hz (fun ls H locs hl hG => ?_) _ _ _ (lv_sub hl [2, 3, 1, 0] rfl) hG
  clear hz
  refine lv_iload_n hx hb dX9_howMany_37 rfl (lv_at hl 0 rfl) ?_
  cases h
  exact ret _ _ _ _ dX9_howMany_38 hG
set_option maxRecDepth 100000 in
set_option maxHeartbeats 4000000 in
theorem mX9_paidAll (l : Launch) (dC : Nat → ClassId) (dI : Nat → Nat → Nat) (cI cJ : ClassId) (a : Nat → Nat) (c_length : Int32) (c_text : Nat → Int32) (c_stands : Nat → Int32) (c_homeFar : Nat → Int32) (c_nets : Nat → Int32) (c_netAt : Nat → Int32) (c_netWide : Nat → Int32) (c_netFrom : Nat → Int32) (c_netTo : Nat → Int32) (c_priceX : Nat → Int32) (c_priceY : Nat → Int32) (c_many : Nat → Int32) (c_days : Nat → Int32) (c_aims : Nat → Int32) (c_speeds : Nat → Int32) (c_kinds : Nat → Int32) (c_keptMany : Int32) (c_undoMany : Int32) (c_undos : Nat → Int32) (c_spot : Int32) (c_told : Nat → Int32) (c_to : Nat → Int32) (c_stood : Nat → Int32) (c_home : Nat → Int32) (c_lost : Nat → Int32) (c_out : Int32) (c_fewest : Nat → Int32) (c_ways : Nat → Int64) (c_next : Nat → Int64) (c_held : Nat → Int32) {res : Int32} (hD : DX9_paidAll c_nets c_netAt c_netWide c_netFrom c_netTo c_priceX c_priceY c_many c_days c_kinds c_to c_home c_lost = some res) : Met l yX9_paidAll (WZ yX9_paidAll cX9_paidAll 3 (some .int)) (RM 5 107) (PC dC dI cI cJ [.ref (a 0)] (W_X9 a cI cJ c_length c_text c_stands c_homeFar c_nets c_netAt c_netWide c_netFrom c_netTo c_priceX c_priceY c_many c_days c_aims c_speeds c_kinds c_keptMany c_undoMany c_undos c_spot c_told c_to c_stood c_home c_lost c_out c_fewest c_ways c_next c_held)) (QI dC dI (W_X9 a cI cJ c_length c_text c_stands c_homeFar c_nets c_netAt c_netWide c_netFrom c_netTo c_priceX c_priceY c_many c_days c_aims c_speeds c_kinds c_keptMany c_undoMany c_undos c_spot c_told c_to c_stood c_home c_lost c_out c_fewest c_ways c_next c_held) (W_X9 a cI cJ c_length c_text c_stands c_homeFar c_nets c_netAt c_netWide c_netFrom c_netTo c_priceX c_priceY c_many c_days c_aims c_speeds c_kinds c_keptMany c_undoMany c_undos c_spot c_told c_to c_stood c_home c_lost c_out c_fewest c_ways c_next c_held) res) 0 0 (FA (W_X9 a cI cJ c_length c_text c_stands c_homeFar c_nets c_netAt c_netWide c_netFrom c_netTo c_priceX c_priceY c_many c_days c_aims c_speeds c_kinds c_keptMany c_undoMany c_undos c_spot c_told c_to c_stood c_home c_lost c_out c_fewest c_ways c_next c_held)) := by
  refine r_metI (by decide +kernel) (Nat.le_of_ble_eq_true rfl) ?_
  intro p e s m args below meth c A H0 QQ X ret ls hl hG
  have X : Cx p m c cX9_paidAll 3 s args RX9 dC dI cI cJ meth (some .int) := X
  have hx := X.1.1
  have hb := X.1.2.1
  have hl : lv_has ls 3 [(0, .ref (a 0))] := hl
  have L4 : ∀ (n : Nat) (x1 : Int32) (x2 : Int32) (ex1 : Int32), DX9_paidAll_L4 c_nets c_netAt c_netWide c_netFrom c_netTo c_priceX c_priceY c_many c_days c_kinds c_to c_home c_lost n x1 x2 = some ex1 → (∀ (ls : Array Slot) (H : Heap) (locs : List Loc), lv_has ls 3 [(1, .int ex1)] → G dC dI A H0 (W_X9 a cI cJ c_length c_text c_stands c_homeFar c_nets c_netAt c_netWide c_netFrom c_netTo c_priceX c_priceY c_many c_days c_aims c_speeds c_kinds c_keptMany c_undoMany c_undos c_spot c_told c_to c_stood c_home c_lost c_out c_fewest c_ways c_next c_held) H locs → W p l e (RM 5 107) s m args below meth c H locs 0 0 QQ (F0 m 28 ls [])) → ∀ (ls : Array Slot) (H : Heap) (locs : List Loc), lv_has ls 3 [(0, .ref (a 0)), (1, .int x1), (2, .int x2)] → G dC dI A H0 (W_X9 a cI cJ c_length c_text c_stands c_homeFar c_nets c_netAt c_netWide c_netFrom c_netTo c_priceX c_priceY c_many c_days c_aims c_speeds c_kinds c_keptMany c_undoMany c_undos c_spot c_told c_to c_stood c_home c_lost c_out c_fewest c_ways c_next c_held) H locs → W p l e (RM 5 107) s m args below meth c H locs 0 0 QQ (F0 m 4 ls []) := by
    intro  n
    induction n with
    | zero => intro x1 x2 ex1 h; exact it_zero h
    | succ n ih =>
      intro x1 x2 ex1 h0 K0 ls H locs hl hG
      obtain ⟨w, h, hi, hr⟩ := it_succ h0
      have h : DX9_paidAll_L4s c_nets c_netAt c_netWide c_netFrom c_netTo c_priceX c_priceY c_many c_days c_kinds c_to c_home c_lost x1 x2 = some w := h
      have KC : ∀ (x1 : Int32) (x2 : Int32), w = .inl (x1, x2) → ∀ (ls : Array Slot) (H : Heap) (locs : List Loc), lv_has ls 3 [(0, .ref (a 0)), (1, .int x1), (2, .int x2)] → G dC dI A H0 (W_X9 a cI cJ c_length c_text c_stands c_homeFar c_nets c_netAt c_netWide c_netFrom c_netTo c_priceX c_priceY c_many c_days c_aims c_speeds c_kinds c_keptMany c_undoMany c_undos c_spot c_told c_to c_stood c_home c_lost c_out c_fewest c_ways c_next c_held) H locs → W p l e (RM 5 107) s m args below meth c H locs 0 0 QQ (F0 m 4 ls []) := fun b0 b1 e ls H locs hl hG => ih b0 b1 ex1 (hi _ e) K0 ls H locs hl hG
      have KX : ∀ (x1 : Int32), w = .inr x1 → ∀ (ls : Array Slot) (H : Heap) (locs : List Loc), lv_has ls 3 [(1, .int x1)] → G dC dI A H0 (W_X9 a cI cJ c_length c_text c_stands c_homeFar c_nets c_netAt c_netWide c_netFrom c_netTo c_priceX c_priceY c_many c_days c_aims c_speeds c_kinds c_keptMany c_undoMany c_undos c_spot c_told c_to c_stood c_home c_lost c_out c_fewest c_ways c_next c_held) H locs → W p l e (RM 5 107) s m args below meth c H locs 0 0 QQ (F0 m 28 ls []) := fun b0 e ls H locs hl hG => by cases hr _ e; exact K0 ls H locs hl hG
      clear h0 hi hr K0 ih
      unfold DX9_paidAll_L4s at h
      refine lv_iload_n hx hb dX9_paidAll_4 rfl (lv_at hl 2 rfl) ?_
      refine lv_aload_n hx hb dX9_paidAll_5 rfl (lv_at hl 0 rfl) ?_
      refine r_get X hG in_X9 rfl 11 (by decide) w_642 0 rfl rfl dX9_paidAll_6 ?_
      refine lv_iconst (v := (0 : Int32)) hx hb dX9_paidAll_9 (by decide) ?_
      refine r_iald X hG 11 rfl (vpd (by decide)) dX9_paidAll_10 ?_
      refine lv_icmp_ge (tgt := 28) hx hb dX9_paidAll_11 (by decide) (fun c_1 => ?_) (fun c_1 => ?_)
      · have h := ite_t h c_1
        exact KX _ (Option.some.inj h).symm _ _ _ (lv_sub hl [1] rfl) hG
      · have h := ite_f h c_1
        refine lv_iload_n hx hb dX9_paidAll_14 rfl (lv_at hl 1 rfl) ?_
        refine lv_aload_n hx hb dX9_paidAll_15 rfl (lv_at hl 0 rfl) ?_
        refine lv_iload_n hx hb dX9_paidAll_16 rfl (lv_at hl 2 rfl) ?_
        obtain ⟨r_2, hz_3, h⟩ := bd1_some h
        refine aft_i1 (run_V1 (rest := [.int x1]) X hG hl.1 (mX9_paidOf l dC dI cI cJ a c_length c_text c_stands c_homeFar c_nets c_netAt c_netWide c_netFrom c_netTo c_priceX c_priceY c_many c_days c_aims c_speeds c_kinds c_keptMany c_undoMany c_undos c_spot c_told c_to c_stood c_home c_lost c_out c_fewest c_ways c_next c_held x2 hz_3) gi_V_X9_188 hd_V_yX9_paidOf ⟨rfl, rfl⟩ rfl ⟨Nat.le_of_ble_eq_true rfl, Nat.le_of_ble_eq_true rfl⟩ 0 rfl rfl rfl rfl (Nat.le_of_ble_eq_true rfl) ⟨Nat.le_of_ble_eq_true rfl, Nat.le_of_ble_eq_true rfl⟩ dX9_paidAll_17) hG rfl (fun H locs hG => ?_)
        clear hz_3
        refine lv_iadd hx hb dX9_paidAll_20 ?_
        refine lv_istore_n (lv' := [(1, .int (x1 + r_2)), (0, .ref (a 0)), (2, .int x2)]) hx hb dX9_paidAll_21 rfl hl (by decide) rfl (fun ls hl => ?_)
        refine lv_iinc (v := (x2 + (1 : Int32))) (lv' := [(2, .int (x2 + (1 : Int32))), (1, .int (x1 + r_2)), (0, .ref (a 0))]) hx hb dX9_paidAll_22 hl (k := 2) rfl rfl (by decide) rfl (fun ls hl => ?_)
        refine lv_goto (tgt := 4) hx hb dX9_paidAll_25 (by decide) ?_
        exact KC _ _ (Option.some.inj h).symm _ _ _ (lv_sub hl [2, 1, 0] rfl) hG
  have h := hD
  unfold DX9_paidAll at h
  clear hD
  refine lv_iconst (v := (0 : Int32)) hx hb dX9_paidAll_0 (by decide) ?_
  refine lv_istore_n (lv' := [(1, .int (0 : Int32)), (0, .ref (a 0))]) hx hb dX9_paidAll_1 rfl hl (by decide) rfl (fun ls hl => ?_)
  refine lv_iconst (v := (0 : Int32)) hx hb dX9_paidAll_2 (by decide) ?_
  refine lv_istore_n (lv' := [(2, .int (0 : Int32)), (1, .int (0 : Int32)), (0, .ref (a 0))]) hx hb dX9_paidAll_3 rfl hl (by decide) rfl (fun ls hl => ?_)
  obtain ⟨z1_4, hz, h⟩ := bd1_some h
  refine L4  FU (0 : Int32) (0 : Int32) _ hz (fun ls H locs hl hG => ?_) _ _ _ (lv_sub hl [2, 1, 0] rfl) hG
  clear hz
  refine lv_iload_n hx hb dX9_paidAll_28 rfl (lv_at hl 0 rfl) ?_
  cases h
  exact ret _ _ _ _ dX9_paidAll_29 hG
set_option maxRecDepth 100000 in
set_option maxHeartbeats 4000000 in
theorem mX9_all (l : Launch) (dC : Nat → ClassId) (dI : Nat → Nat → Nat) (cI cJ : ClassId) (a : Nat → Nat) (c_length : Int32) (c_text : Nat → Int32) (c_stands : Nat → Int32) (c_homeFar : Nat → Int32) (c_nets : Nat → Int32) (c_netAt : Nat → Int32) (c_netWide : Nat → Int32) (c_netFrom : Nat → Int32) (c_netTo : Nat → Int32) (c_priceX : Nat → Int32) (c_priceY : Nat → Int32) (c_many : Nat → Int32) (c_days : Nat → Int32) (c_aims : Nat → Int32) (c_speeds : Nat → Int32) (c_kinds : Nat → Int32) (c_keptMany : Int32) (c_undoMany : Int32) (c_undos : Nat → Int32) (c_spot : Int32) (c_told : Nat → Int32) (c_to : Nat → Int32) (c_stood : Nat → Int32) (c_home : Nat → Int32) (c_lost : Nat → Int32) (c_out : Int32) (c_fewest : Nat → Int32) (c_ways : Nat → Int64) (c_next : Nat → Int64) (c_held : Nat → Int32) (x1 : Int32) {res : Int32} {n_to : Nat → Int32} {n_stood : Nat → Int32} {n_home : Nat → Int32} {n_lost : Nat → Int32} {n_out : Int32} (hD : DX9_all x1 c_stands c_homeFar c_nets c_netAt c_netWide c_netFrom c_netTo c_priceX c_priceY c_many c_days c_aims c_speeds c_kinds c_to c_stood c_home c_lost c_out = some (res, n_to, n_stood, n_home, n_lost, n_out)) : Met l yX9_all (WZ yX9_all cX9_all 2 (some .int)) (RM 6 129) (PC dC dI cI cJ [.ref (a 0), .int x1] (W_X9 a cI cJ c_length c_text c_stands c_homeFar c_nets c_netAt c_netWide c_netFrom c_netTo c_priceX c_priceY c_many c_days c_aims c_speeds c_kinds c_keptMany c_undoMany c_undos c_spot c_told c_to c_stood c_home c_lost c_out c_fewest c_ways c_next c_held)) (QI dC dI (W_X9 a cI cJ c_length c_text c_stands c_homeFar c_nets c_netAt c_netWide c_netFrom c_netTo c_priceX c_priceY c_many c_days c_aims c_speeds c_kinds c_keptMany c_undoMany c_undos c_spot c_told c_to c_stood c_home c_lost c_out c_fewest c_ways c_next c_held) (W_X9 a cI cJ c_length c_text c_stands c_homeFar c_nets c_netAt c_netWide c_netFrom c_netTo c_priceX c_priceY c_many c_days c_aims c_speeds c_kinds c_keptMany c_undoMany c_undos c_spot c_told n_to n_stood n_home n_lost n_out c_fewest c_ways c_next c_held) res) 0 0 (FA (W_X9 a cI cJ c_length c_text c_stands c_homeFar c_nets c_netAt c_netWide c_netFrom c_netTo c_priceX c_priceY c_many c_days c_aims c_speeds c_kinds c_keptMany c_undoMany c_undos c_spot c_told c_to c_stood c_home c_lost c_out c_fewest c_ways c_next c_held)) := by
  refine r_metI (by decide +kernel) (Nat.le_of_ble_eq_true rfl) ?_
  intro p e s m args below meth c A H0 QQ X ret ls hl hG
  have X : Cx p m c cX9_all 2 s args RX9 dC dI cI cJ meth (some .int) := X
  have hx := X.1.1
  have hb := X.1.2.1
  have hl : lv_has ls 2 [(0, .ref (a 0)), (1, .int x1)] := hl
  have h := hD
  unfold DX9_all at h
  clear hD
  refine lv_iload_n hx hb dX9_all_0 rfl (lv_at hl 1 rfl) ?_
  refine lv_i2l (v := (x1.toInt64)) hx hb dX9_all_1 rfl ?_
  refine lv_lconst (v := (0 : Int64)) hx hb dX9_all_2 (by decide) ?_
  refine lv_ldc2 (v := (3 : Int64)) hx hb X.1.2.2.2.1 (X.1.2.2.2.2 _ w_850) dX9_all_3 ?_
  obtain ⟨r_1, hz_2, h⟩ := bd1_some h
  refine aft_i (ws' := (W_X9 a cI cJ c_length c_text c_stands c_homeFar c_nets c_netAt c_netWide c_netFrom c_netTo c_priceX c_priceY c_many c_days c_aims c_speeds c_kinds c_keptMany c_undoMany c_undos c_spot c_told c_to c_stood c_home c_lost c_out c_fewest c_ways c_next c_held)) (run_S (rest := []) X hG hl.1 (mX9_in l dC dI cI cJ (x1.toInt64) (0 : Int64) (3 : Int64) hz_2) gi_S_X9_92 hd_S_yX9_in ⟨rfl, rfl⟩ rfl ⟨Nat.le_of_ble_eq_true rfl, Nat.le_of_ble_eq_true rfl⟩ [] (by decide) rfl rfl (Nat.le_of_ble_eq_true rfl) ⟨Nat.le_of_ble_eq_true rfl, Nat.le_of_ble_eq_true rfl⟩ dX9_all_6) hG [] rfl rfl rfl (fun H locs hG => ?_)
  clear hz_2
  refine lv_if_ne (tgt := 14) hx hb dX9_all_9 (by decide) (fun c_3 => ?_) (fun c_3 => ?_)
  · have h := ite_f h c_3
    refine lv_aload_n hx hb dX9_all_14 rfl (lv_at hl 0 rfl) ?_
    refine lv_iconst (v := (0 : Int32)) hx hb dX9_all_15 (by decide) ?_
    obtain ⟨k_to_4, k_stood_5, k_home_6, k_lost_7, k_out_8, hz_9, h⟩ := bd5_some h
    refine aft_v1 (run_V1 (rest := []) X hG hl.1 (mX9_go l dC dI cI cJ a c_length c_text c_stands c_homeFar c_nets c_netAt c_netWide c_netFrom c_netTo c_priceX c_priceY c_many c_days c_aims c_speeds c_kinds c_keptMany c_undoMany c_undos c_spot c_told c_to c_stood c_home c_lost c_out c_fewest c_ways c_next c_held (0 : Int32) hz_9) gi_V_X9_185 hd_V_yX9_go ⟨rfl, rfl⟩ rfl ⟨Nat.le_of_ble_eq_true rfl, Nat.le_of_ble_eq_true rfl⟩ 0 rfl rfl rfl rfl (Nat.le_of_ble_eq_true rfl) ⟨Nat.le_of_ble_eq_true rfl, Nat.le_of_ble_eq_true rfl⟩ dX9_all_16) hG rfl (fun H locs hG => ?_)
    clear hz_9
    refine lv_iload_n hx hb dX9_all_19 rfl (lv_at hl 1 rfl) ?_
    refine lv_iconst (v := (3 : Int32)) hx hb dX9_all_20 (by decide) ?_
    refine lv_icmp_ge (tgt := 32) hx hb dX9_all_21 (by decide) (fun c_10 => ?_) (fun c_10 => ?_)
    · have h := ite_t h c_10
      refine lv_aload_n hx hb dX9_all_32 rfl (lv_at hl 0 rfl) ?_
      obtain ⟨r_11, hz_12, h⟩ := bd1_some h
      refine aft_i1 (run_V1 (rest := []) X hG hl.1 (mX9_paidAll l dC dI cI cJ a c_length c_text c_stands c_homeFar c_nets c_netAt c_netWide c_netFrom c_netTo c_priceX c_priceY c_many c_days c_aims c_speeds c_kinds c_keptMany c_undoMany c_undos c_spot c_told k_to_4 k_stood_5 k_home_6 k_lost_7 k_out_8 c_fewest c_ways c_next c_held hz_12) gi_V_X9_201 hd_V_yX9_paidAll ⟨rfl, rfl⟩ rfl ⟨Nat.le_of_ble_eq_true rfl, Nat.le_of_ble_eq_true rfl⟩ 0 rfl rfl rfl rfl (Nat.le_of_ble_eq_true rfl) ⟨Nat.le_of_ble_eq_true rfl, Nat.le_of_ble_eq_true rfl⟩ dX9_all_33) hG rfl (fun H locs hG => ?_)
      clear hz_12
      cases h
      exact ret _ _ _ _ dX9_all_36 hG
    · have h := ite_f h c_10
      refine lv_aload_n hx hb dX9_all_24 rfl (lv_at hl 0 rfl) ?_
      refine lv_iload_n hx hb dX9_all_25 rfl (lv_at hl 1 rfl) ?_
      obtain ⟨r_13, hz_14, h⟩ := bd1_some h
      refine aft_i1 (run_V1 (rest := []) X hG hl.1 (mX9_howMany l dC dI cI cJ a c_length c_text c_stands c_homeFar c_nets c_netAt c_netWide c_netFrom c_netTo c_priceX c_priceY c_many c_days c_aims c_speeds c_kinds c_keptMany c_undoMany c_undos c_spot c_told k_to_4 k_stood_5 k_home_6 k_lost_7 k_out_8 c_fewest c_ways c_next c_held x1 hz_14) gi_V_X9_198 hd_V_yX9_howMany ⟨rfl, rfl⟩ rfl ⟨Nat.le_of_ble_eq_true rfl, Nat.le_of_ble_eq_true rfl⟩ 0 rfl rfl rfl rfl (Nat.le_of_ble_eq_true rfl) ⟨Nat.le_of_ble_eq_true rfl, Nat.le_of_ble_eq_true rfl⟩ dX9_all_26) hG rfl (fun H locs hG => ?_)
      clear hz_14
      refine lv_goto (tgt := 36) hx hb dX9_all_29 (by decide) ?_
      cases h
      exact ret _ _ _ _ dX9_all_36 hG
  · have h := ite_t h c_3
    refine lv_iconst (v := (-1 : Int32)) hx hb dX9_all_12 (by decide) ?_
    cases h
    exact ret _ _ _ _ dX9_all_13 hG
set_option maxRecDepth 100000 in
set_option maxHeartbeats 4000000 in
theorem mX9_note (l : Launch) (dC : Nat → ClassId) (dI : Nat → Nat → Nat) (cI cJ : ClassId) (a : Nat → Nat) (c_length : Int32) (c_text : Nat → Int32) (c_stands : Nat → Int32) (c_homeFar : Nat → Int32) (c_nets : Nat → Int32) (c_netAt : Nat → Int32) (c_netWide : Nat → Int32) (c_netFrom : Nat → Int32) (c_netTo : Nat → Int32) (c_priceX : Nat → Int32) (c_priceY : Nat → Int32) (c_many : Nat → Int32) (c_days : Nat → Int32) (c_aims : Nat → Int32) (c_speeds : Nat → Int32) (c_kinds : Nat → Int32) (c_keptMany : Int32) (c_undoMany : Int32) (c_undos : Nat → Int32) (c_spot : Int32) (c_told : Nat → Int32) (c_to : Nat → Int32) (c_stood : Nat → Int32) (c_home : Nat → Int32) (c_lost : Nat → Int32) (c_out : Int32) (c_fewest : Nat → Int32) (c_ways : Nat → Int64) (c_next : Nat → Int64) (c_held : Nat → Int32) (x1 : Int32) (x2 : Int32) (x3 : Int32) {res : Int32} {n_undoMany : Int32} {n_undos : Nat → Int32} (hD : DX9_note x1 x2 x3 c_undoMany c_undos = some (res, n_undoMany, n_undos)) : Met l yX9_note (WZ yX9_note cX9_note 5 (some .int)) (RM 0 0) (PC dC dI cI cJ [.ref (a 0), .int x1, .int x2, .int x3] (W_X9 a cI cJ c_length c_text c_stands c_homeFar c_nets c_netAt c_netWide c_netFrom c_netTo c_priceX c_priceY c_many c_days c_aims c_speeds c_kinds c_keptMany c_undoMany c_undos c_spot c_told c_to c_stood c_home c_lost c_out c_fewest c_ways c_next c_held)) (QI dC dI (W_X9 a cI cJ c_length c_text c_stands c_homeFar c_nets c_netAt c_netWide c_netFrom c_netTo c_priceX c_priceY c_many c_days c_aims c_speeds c_kinds c_keptMany c_undoMany c_undos c_spot c_told c_to c_stood c_home c_lost c_out c_fewest c_ways c_next c_held) (W_X9 a cI cJ c_length c_text c_stands c_homeFar c_nets c_netAt c_netWide c_netFrom c_netTo c_priceX c_priceY c_many c_days c_aims c_speeds c_kinds c_keptMany n_undoMany n_undos c_spot c_told c_to c_stood c_home c_lost c_out c_fewest c_ways c_next c_held) res) 0 0 (FA (W_X9 a cI cJ c_length c_text c_stands c_homeFar c_nets c_netAt c_netWide c_netFrom c_netTo c_priceX c_priceY c_many c_days c_aims c_speeds c_kinds c_keptMany c_undoMany c_undos c_spot c_told c_to c_stood c_home c_lost c_out c_fewest c_ways c_next c_held)) := by
  refine r_metI (by decide +kernel) (Nat.le_of_ble_eq_true rfl) ?_
  intro p e s m args below meth c A H0 QQ X ret ls hl hG
  have X : Cx p m c cX9_note 5 s args RX9 dC dI cI cJ meth (some .int) := X
  have hx := X.1.1
  have hb := X.1.2.1
  have hl : lv_has ls 5 [(0, .ref (a 0)), (1, .int x1), (2, .int x2), (3, .int x3)] := hl
  have J51 : ∀ (c_undoMany : Int32) (c_undos : Nat → Int32), DX9_note_J51 x1 x2 x3 c_undoMany c_undos = some (res, n_undoMany, n_undos) → ∀ (ls : Array Slot) (H : Heap) (locs : List Loc), lv_has ls 5 [(0, .ref (a 0)), (1, .int x1), (2, .int x2), (3, .int x3)] → G dC dI A H0 (W_X9 a cI cJ c_length c_text c_stands c_homeFar c_nets c_netAt c_netWide c_netFrom c_netTo c_priceX c_priceY c_many c_days c_aims c_speeds c_kinds c_keptMany c_undoMany c_undos c_spot c_told c_to c_stood c_home c_lost c_out c_fewest c_ways c_next c_held) H locs → W p l e (RM 0 0) s m args below meth c H locs 0 0 QQ (F0 m 51 ls []) := by
    intro c_undoMany c_undos h  ls H locs hl hG
    unfold DX9_note_J51 at h
    refine lv_aload_n hx hb dX9_note_51 rfl (lv_at hl 0 rfl) ?_
    refine r_get X hG in_X9 rfl 18 (by decide) w_649 0 rfl rfl dX9_note_52 ?_
    refine lv_iconst (v := (3 : Int32)) hx hb dX9_note_55 (by decide) ?_
    refine lv_aload_n hx hb dX9_note_56 rfl (lv_at hl 0 rfl) ?_
    refine r_get X hG in_X9 rfl 17 (by decide) w_648 0 rfl rfl dX9_note_57 ?_
    refine lv_imul hx hb dX9_note_60 ?_
    refine lv_iload_n hx hb dX9_note_61 rfl (lv_at hl 1 rfl) ?_
    obtain ⟨g_2, h⟩ := gd h
    refine r_iast X hG 16 (ws' := (W_X9 a cI cJ c_length c_text c_stands c_homeFar c_nets c_netAt c_netWide c_netFrom c_netTo c_priceX c_priceY c_many c_days c_aims c_speeds c_kinds c_keptMany c_undoMany (upd c_undos ((3 : Int32) * c_undoMany).toNatClampNeg x1) c_spot c_told c_to c_stood c_home c_lost c_out c_fewest c_ways c_next c_held)) rfl g_2 rfl dX9_note_62 (fun H locs hG => ?_)
    refine lv_aload_n hx hb dX9_note_63 rfl (lv_at hl 0 rfl) ?_
    refine r_get X hG in_X9 rfl 18 (by decide) w_649 0 rfl rfl dX9_note_64 ?_
    refine lv_iconst (v := (3 : Int32)) hx hb dX9_note_67 (by decide) ?_
    refine lv_aload_n hx hb dX9_note_68 rfl (lv_at hl 0 rfl) ?_
    refine r_get X hG in_X9 rfl 17 (by decide) w_648 0 rfl rfl dX9_note_69 ?_
    refine lv_imul hx hb dX9_note_72 ?_
    refine lv_iconst (v := (1 : Int32)) hx hb dX9_note_73 (by decide) ?_
    refine lv_iadd hx hb dX9_note_74 ?_
    refine lv_iload_n hx hb dX9_note_75 rfl (lv_at hl 2 rfl) ?_
    obtain ⟨g_3, h⟩ := gd h
    refine r_iast X hG 16 (ws' := (W_X9 a cI cJ c_length c_text c_stands c_homeFar c_nets c_netAt c_netWide c_netFrom c_netTo c_priceX c_priceY c_many c_days c_aims c_speeds c_kinds c_keptMany c_undoMany (upd (upd c_undos ((3 : Int32) * c_undoMany).toNatClampNeg x1) (((3 : Int32) * c_undoMany) + (1 : Int32)).toNatClampNeg x2) c_spot c_told c_to c_stood c_home c_lost c_out c_fewest c_ways c_next c_held)) rfl g_3 rfl dX9_note_76 (fun H locs hG => ?_)
    refine lv_aload_n hx hb dX9_note_77 rfl (lv_at hl 0 rfl) ?_
    refine r_get X hG in_X9 rfl 18 (by decide) w_649 0 rfl rfl dX9_note_78 ?_
    refine lv_iconst (v := (3 : Int32)) hx hb dX9_note_81 (by decide) ?_
    refine lv_aload_n hx hb dX9_note_82 rfl (lv_at hl 0 rfl) ?_
    refine r_get X hG in_X9 rfl 17 (by decide) w_648 0 rfl rfl dX9_note_83 ?_
    refine lv_imul hx hb dX9_note_86 ?_
    refine lv_iconst (v := (2 : Int32)) hx hb dX9_note_87 (by decide) ?_
    refine lv_iadd hx hb dX9_note_88 ?_
    refine lv_iload_n hx hb dX9_note_89 rfl (lv_at hl 3 rfl) ?_
    obtain ⟨g_4, h⟩ := gd h
    refine r_iast X hG 16 (ws' := (W_X9 a cI cJ c_length c_text c_stands c_homeFar c_nets c_netAt c_netWide c_netFrom c_netTo c_priceX c_priceY c_many c_days c_aims c_speeds c_kinds c_keptMany c_undoMany (upd (upd (upd c_undos ((3 : Int32) * c_undoMany).toNatClampNeg x1) (((3 : Int32) * c_undoMany) + (1 : Int32)).toNatClampNeg x2) (((3 : Int32) * c_undoMany) + (2 : Int32)).toNatClampNeg x3) c_spot c_told c_to c_stood c_home c_lost c_out c_fewest c_ways c_next c_held)) rfl g_4 rfl dX9_note_90 (fun H locs hG => ?_)
    refine lv_aload_n hx hb dX9_note_91 rfl (lv_at hl 0 rfl) ?_
    refine lv_dup hx hb dX9_note_92 rfl ?_
    refine r_get X hG in_X9 rfl 17 (by decide) w_648 0 rfl rfl dX9_note_93 ?_
    refine lv_iconst (v := (1 : Int32)) hx hb dX9_note_96 (by decide) ?_
    refine lv_iadd hx hb dX9_note_97 ?_
    refine r_put X hG in_X9 rfl tyX9 tyX9_ok nmX9 17 (by decide) rfl (by decide +kernel) w_648 0 (ws' := (W_X9 a cI cJ c_length c_text c_stands c_homeFar c_nets c_netAt c_netWide c_netFrom c_netTo c_priceX c_priceY c_many c_days c_aims c_speeds c_kinds c_keptMany (c_undoMany + (1 : Int32)) (upd (upd (upd c_undos ((3 : Int32) * c_undoMany).toNatClampNeg x1) (((3 : Int32) * c_undoMany) + (1 : Int32)).toNatClampNeg x2) (((3 : Int32) * c_undoMany) + (2 : Int32)).toNatClampNeg x3) c_spot c_told c_to c_stood c_home c_lost c_out c_fewest c_ways c_next c_held)) rfl (Nat.le_of_ble_eq_true rfl) rfl dX9_note_98 (fun H locs hG => ?_)
    refine lv_iload_n hx hb dX9_note_101 rfl (lv_at hl 3 rfl) ?_
    cases h
    exact ret _ _ _ _ dX9_note_102 hG
  have L12 : ∀ (c_undoMany : Int32), ∀ (n : Nat) (x4 : Int32) (c_undos : Nat → Int32) (ec_undos : Nat → Int32), DX9_note_L12 n x4 c_undos = some ec_undos → (∀ (ls : Array Slot) (H : Heap) (locs : List Loc), lv_has ls 5 [(0, .ref (a 0)), (1, .int x1), (2, .int x2), (3, .int x3)] → G dC dI A H0 (W_X9 a cI cJ c_length c_text c_stands c_homeFar c_nets c_netAt c_netWide c_netFrom c_netTo c_priceX c_priceY c_many c_days c_aims c_speeds c_kinds c_keptMany c_undoMany ec_undos c_spot c_told c_to c_stood c_home c_lost c_out c_fewest c_ways c_next c_held) H locs → W p l e (RM 0 0) s m args below meth c H locs 0 0 QQ (F0 m 41 ls [])) → ∀ (ls : Array Slot) (H : Heap) (locs : List Loc), lv_has ls 5 [(0, .ref (a 0)), (1, .int x1), (2, .int x2), (3, .int x3), (4, .int x4)] → G dC dI A H0 (W_X9 a cI cJ c_length c_text c_stands c_homeFar c_nets c_netAt c_netWide c_netFrom c_netTo c_priceX c_priceY c_many c_days c_aims c_speeds c_kinds c_keptMany c_undoMany c_undos c_spot c_told c_to c_stood c_home c_lost c_out c_fewest c_ways c_next c_held) H locs → W p l e (RM 0 0) s m args below meth c H locs 0 0 QQ (F0 m 12 ls []) := by
    intro c_undoMany n
    induction n with
    | zero => intro x4 c_undos ec_undos h; exact it_zero h
    | succ n ih =>
      intro x4 c_undos ec_undos h0 K0 ls H locs hl hG
      obtain ⟨w, h, hi, hr⟩ := it_succ h0
      have h : DX9_note_L12s x4 c_undos = some w := h
      have KC : ∀ (x4 : Int32) (c_undos : Nat → Int32), w = .inl (x4, c_undos) → ∀ (ls : Array Slot) (H : Heap) (locs : List Loc), lv_has ls 5 [(0, .ref (a 0)), (1, .int x1), (2, .int x2), (3, .int x3), (4, .int x4)] → G dC dI A H0 (W_X9 a cI cJ c_length c_text c_stands c_homeFar c_nets c_netAt c_netWide c_netFrom c_netTo c_priceX c_priceY c_many c_days c_aims c_speeds c_kinds c_keptMany c_undoMany c_undos c_spot c_told c_to c_stood c_home c_lost c_out c_fewest c_ways c_next c_held) H locs → W p l e (RM 0 0) s m args below meth c H locs 0 0 QQ (F0 m 12 ls []) := fun b0 b1 e ls H locs hl hG => ih b0 b1 ec_undos (hi _ e) K0 ls H locs hl hG
      have KX : ∀ (c_undos : Nat → Int32), w = .inr c_undos → ∀ (ls : Array Slot) (H : Heap) (locs : List Loc), lv_has ls 5 [(0, .ref (a 0)), (1, .int x1), (2, .int x2), (3, .int x3)] → G dC dI A H0 (W_X9 a cI cJ c_length c_text c_stands c_homeFar c_nets c_netAt c_netWide c_netFrom c_netTo c_priceX c_priceY c_many c_days c_aims c_speeds c_kinds c_keptMany c_undoMany c_undos c_spot c_told c_to c_stood c_home c_lost c_out c_fewest c_ways c_next c_held) H locs → W p l e (RM 0 0) s m args below meth c H locs 0 0 QQ (F0 m 41 ls []) := fun b0 e ls H locs hl hG => by cases hr _ e; exact K0 ls H locs hl hG
      clear h0 hi hr K0 ih
      unfold DX9_note_L12s at h
      refine lv_iload hx hb dX9_note_12 (lv_at hl 4 rfl) ?_
      refine lv_bipush (v := (21 : Int32)) hx hb dX9_note_14 (by decide) ?_
      refine lv_icmp_ge (tgt := 41) hx hb dX9_note_16 (by decide) (fun c_5 => ?_) (fun c_5 => ?_)
      · have h := ite_t h c_5
        exact KX _ (Option.some.inj h).symm _ _ _ (lv_sub hl [0, 1, 2, 3] rfl) hG
      · have h := ite_f h c_5
        refine lv_aload_n hx hb dX9_note_19 rfl (lv_at hl 0 rfl) ?_
        refine r_get X hG in_X9 rfl 18 (by decide) w_649 0 rfl rfl dX9_note_20 ?_
        refine lv_iload hx hb dX9_note_23 (lv_at hl 4 rfl) ?_
        refine lv_aload_n hx hb dX9_note_25 rfl (lv_at hl 0 rfl) ?_
        refine r_get X hG in_X9 rfl 18 (by decide) w_649 0 rfl rfl dX9_note_26 ?_
        refine lv_iload hx hb dX9_note_29 (lv_at hl 4 rfl) ?_
        refine lv_iconst (v := (3 : Int32)) hx hb dX9_note_31 (by decide) ?_
        refine lv_iadd hx hb dX9_note_32 ?_
        obtain ⟨g_6, h⟩ := gd h
        refine r_iald X hG 16 rfl g_6 dX9_note_33 ?_
        obtain ⟨g_7, h⟩ := gd h
        refine r_iast X hG 16 (ws' := (W_X9 a cI cJ c_length c_text c_stands c_homeFar c_nets c_netAt c_netWide c_netFrom c_netTo c_priceX c_priceY c_many c_days c_aims c_speeds c_kinds c_keptMany c_undoMany (upd c_undos x4.toNatClampNeg (c_undos (x4 + (3 : Int32)).toNatClampNeg)) c_spot c_told c_to c_stood c_home c_lost c_out c_fewest c_ways c_next c_held)) rfl g_7 rfl dX9_note_34 (fun H locs hG => ?_)
        refine lv_iinc (v := (x4 + (1 : Int32))) (lv' := [(4, .int (x4 + (1 : Int32))), (0, .ref (a 0)), (1, .int x1), (2, .int x2), (3, .int x3)]) hx hb dX9_note_35 hl (k := 4) rfl rfl (by decide) rfl (fun ls hl => ?_)
        refine lv_goto (tgt := 12) hx hb dX9_note_38 (by decide) ?_
        exact KC _ _ (Option.some.inj h).symm _ _ _ (lv_sub hl [1, 2, 3, 4, 0] rfl) hG
  have h := hD
  unfold DX9_note at h
  clear hD
  refine lv_aload_n hx hb dX9_note_0 rfl (lv_at hl 0 rfl) ?_
  refine r_get X hG in_X9 rfl 17 (by decide) w_648 0 rfl rfl dX9_note_1 ?_
  refine lv_bipush (v := (8 : Int32)) hx hb dX9_note_4 (by decide) ?_
  refine lv_icmp_ne (tgt := 51) hx hb dX9_note_6 (by decide) (fun c_1 => ?_) (fun c_1 => ?_)
  · have h := ite_f h c_1
    exact J51 c_undoMany c_undos  h  _ _ _ (lv_sub hl [0, 1, 2, 3] rfl) hG
  · have h := ite_t h c_1
    refine lv_iconst (v := (0 : Int32)) hx hb dX9_note_9 (by decide) ?_
    refine lv_istore (lv' := [(4, .int (0 : Int32)), (0, .ref (a 0)), (1, .int x1), (2, .int x2), (3, .int x3)]) hx hb dX9_note_10 hl (by decide) rfl (fun ls hl => ?_)
    obtain ⟨k_undos_8, hz, h⟩ := bd1_some h
    refine L12 c_undoMany FU (0 : Int32) c_undos _ hz (fun ls H locs hl hG => ?_) _ _ _ (lv_sub hl [1, 2, 3, 4, 0] rfl) hG
    clear hz
    refine lv_aload_n hx hb dX9_note_41 rfl (lv_at hl 0 rfl) ?_
    refine lv_dup hx hb dX9_note_42 rfl ?_
    refine r_get X hG in_X9 rfl 17 (by decide) w_648 0 rfl rfl dX9_note_43 ?_
    refine lv_iconst (v := (1 : Int32)) hx hb dX9_note_46 (by decide) ?_
    refine lv_isub hx hb dX9_note_47 ?_
    refine r_put X hG in_X9 rfl tyX9 tyX9_ok nmX9 17 (by decide) rfl (by decide +kernel) w_648 0 (ws' := (W_X9 a cI cJ c_length c_text c_stands c_homeFar c_nets c_netAt c_netWide c_netFrom c_netTo c_priceX c_priceY c_many c_days c_aims c_speeds c_kinds c_keptMany (c_undoMany - (1 : Int32)) k_undos_8 c_spot c_told c_to c_stood c_home c_lost c_out c_fewest c_ways c_next c_held)) rfl (Nat.le_of_ble_eq_true rfl) rfl dX9_note_48 (fun H locs hG => ?_)
    exact J51 (c_undoMany - (1 : Int32)) k_undos_8  h  _ _ _ (lv_sub hl [0, 1, 2, 3] rfl) hG
set_option maxRecDepth 100000 in
set_option maxHeartbeats 4000000 in
theorem mX9_aim (l : Launch) (dC : Nat → ClassId) (dI : Nat → Nat → Nat) (cI cJ : ClassId) (a : Nat → Nat) (c_length : Int32) (c_text : Nat → Int32) (c_stands : Nat → Int32) (c_homeFar : Nat → Int32) (c_nets : Nat → Int32) (c_netAt : Nat → Int32) (c_netWide : Nat → Int32) (c_netFrom : Nat → Int32) (c_netTo : Nat → Int32) (c_priceX : Nat → Int32) (c_priceY : Nat → Int32) (c_many : Nat → Int32) (c_days : Nat → Int32) (c_aims : Nat → Int32) (c_speeds : Nat → Int32) (c_kinds : Nat → Int32) (c_keptMany : Int32) (c_undoMany : Int32) (c_undos : Nat → Int32) (c_spot : Int32) (c_told : Nat → Int32) (c_to : Nat → Int32) (c_stood : Nat → Int32) (c_home : Nat → Int32) (c_lost : Nat → Int32) (c_out : Int32) (c_fewest : Nat → Int32) (c_ways : Nat → Int64) (c_next : Nat → Int64) (c_held : Nat → Int32) (x1 : Int32) (x2 : Int32) {res : Int32} {n_aims : Nat → Int32} {n_undoMany : Int32} {n_undos : Nat → Int32} (hD : DX9_aim x1 x2 c_many c_aims c_undoMany c_undos = some (res, n_aims, n_undoMany, n_undos)) : Met l yX9_aim (WZ yX9_aim cX9_aim 4 (some .int)) (RM 2 46) (PC dC dI cI cJ [.ref (a 0), .int x1, .int x2] (W_X9 a cI cJ c_length c_text c_stands c_homeFar c_nets c_netAt c_netWide c_netFrom c_netTo c_priceX c_priceY c_many c_days c_aims c_speeds c_kinds c_keptMany c_undoMany c_undos c_spot c_told c_to c_stood c_home c_lost c_out c_fewest c_ways c_next c_held)) (QI dC dI (W_X9 a cI cJ c_length c_text c_stands c_homeFar c_nets c_netAt c_netWide c_netFrom c_netTo c_priceX c_priceY c_many c_days c_aims c_speeds c_kinds c_keptMany c_undoMany c_undos c_spot c_told c_to c_stood c_home c_lost c_out c_fewest c_ways c_next c_held) (W_X9 a cI cJ c_length c_text c_stands c_homeFar c_nets c_netAt c_netWide c_netFrom c_netTo c_priceX c_priceY c_many c_days n_aims c_speeds c_kinds c_keptMany n_undoMany n_undos c_spot c_told c_to c_stood c_home c_lost c_out c_fewest c_ways c_next c_held) res) 0 0 (FA (W_X9 a cI cJ c_length c_text c_stands c_homeFar c_nets c_netAt c_netWide c_netFrom c_netTo c_priceX c_priceY c_many c_days c_aims c_speeds c_kinds c_keptMany c_undoMany c_undos c_spot c_told c_to c_stood c_home c_lost c_out c_fewest c_ways c_next c_held)) := by
  refine r_metI (by decide +kernel) (Nat.le_of_ble_eq_true rfl) ?_
  intro p e s m args below meth c A H0 QQ X ret ls hl hG
  have X : Cx p m c cX9_aim 4 s args RX9 dC dI cI cJ meth (some .int) := X
  have hx := X.1.1
  have hb := X.1.2.1
  have hl : lv_has ls 4 [(0, .ref (a 0)), (1, .int x1), (2, .int x2)] := hl
  have h := hD
  unfold DX9_aim at h
  clear hD
  refine lv_aload_n hx hb dX9_aim_0 rfl (lv_at hl 0 rfl) ?_
  refine lv_iload_n hx hb dX9_aim_1 rfl (lv_at hl 1 rfl) ?_
  obtain ⟨r_1, hz_2, h⟩ := bd1_some h
  refine aft_i1 (run_V1 (rest := []) X hG hl.1 (mX9_isThrow l dC dI cI cJ a c_length c_text c_stands c_homeFar c_nets c_netAt c_netWide c_netFrom c_netTo c_priceX c_priceY c_many c_days c_aims c_speeds c_kinds c_keptMany c_undoMany c_undos c_spot c_told c_to c_stood c_home c_lost c_out c_fewest c_ways c_next c_held x1 hz_2) gi_V_X9_182 hd_V_yX9_isThrow ⟨rfl, rfl⟩ rfl ⟨Nat.le_of_ble_eq_true rfl, Nat.le_of_ble_eq_true rfl⟩ 0 rfl rfl rfl rfl (Nat.le_of_ble_eq_true rfl) ⟨Nat.le_of_ble_eq_true rfl, Nat.le_of_ble_eq_true rfl⟩ dX9_aim_2) hG rfl (fun H locs hG => ?_)
  clear hz_2
  refine lv_if_eq (tgt := 20) hx hb dX9_aim_5 (by decide) (fun c_3 => ?_) (fun c_3 => ?_)
  · have h := ite_t h c_3
    refine lv_iconst (v := (-1 : Int32)) hx hb dX9_aim_20 (by decide) ?_
    cases h
    exact ret _ _ _ _ dX9_aim_21 hG
  · have h := ite_f h c_3
    refine lv_iload_n hx hb dX9_aim_8 rfl (lv_at hl 2 rfl) ?_
    refine lv_i2l (v := (x2.toInt64)) hx hb dX9_aim_9 rfl ?_
    refine lv_lconst (v := (0 : Int64)) hx hb dX9_aim_10 (by decide) ?_
    refine lv_ldc2 (v := (23 : Int64)) hx hb X.1.2.2.2.1 (X.1.2.2.2.2 _ w_863) dX9_aim_11 ?_
    obtain ⟨r_4, hz_5, h⟩ := bd1_some h
    refine aft_i (ws' := (W_X9 a cI cJ c_length c_text c_stands c_homeFar c_nets c_netAt c_netWide c_netFrom c_netTo c_priceX c_priceY c_many c_days c_aims c_speeds c_kinds c_keptMany c_undoMany c_undos c_spot c_told c_to c_stood c_home c_lost c_out c_fewest c_ways c_next c_held)) (run_S (rest := []) X hG hl.1 (mX9_in l dC dI cI cJ (x2.toInt64) (0 : Int64) (23 : Int64) hz_5) gi_S_X9_92 hd_S_yX9_in ⟨rfl, rfl⟩ rfl ⟨Nat.le_of_ble_eq_true rfl, Nat.le_of_ble_eq_true rfl⟩ [] (by decide) rfl rfl (Nat.le_of_ble_eq_true rfl) ⟨Nat.le_of_ble_eq_true rfl, Nat.le_of_ble_eq_true rfl⟩ dX9_aim_14) hG [] rfl rfl rfl (fun H locs hG => ?_)
    clear hz_5
    refine lv_if_ne (tgt := 22) hx hb dX9_aim_17 (by decide) (fun c_6 => ?_) (fun c_6 => ?_)
    · have h := ite_f h c_6
      refine lv_aload_n hx hb dX9_aim_22 rfl (lv_at hl 0 rfl) ?_
      refine lv_iconst (v := (0 : Int32)) hx hb dX9_aim_23 (by decide) ?_
      refine lv_iload_n hx hb dX9_aim_24 rfl (lv_at hl 1 rfl) ?_
      refine lv_aload_n hx hb dX9_aim_25 rfl (lv_at hl 0 rfl) ?_
      refine r_get X hG in_X9 rfl 13 (by decide) w_644 0 rfl rfl dX9_aim_26 ?_
      refine lv_iload_n hx hb dX9_aim_29 rfl (lv_at hl 1 rfl) ?_
      obtain ⟨g_7, h⟩ := gd h
      refine r_iald X hG 13 rfl g_7 dX9_aim_30 ?_
      obtain ⟨r_8, k_undoMany_9, k_undos_10, hz_11, h⟩ := bd3_some h
      refine aft_i1 (run_V1 (rest := []) X hG hl.1 (mX9_note l dC dI cI cJ a c_length c_text c_stands c_homeFar c_nets c_netAt c_netWide c_netFrom c_netTo c_priceX c_priceY c_many c_days c_aims c_speeds c_kinds c_keptMany c_undoMany c_undos c_spot c_told c_to c_stood c_home c_lost c_out c_fewest c_ways c_next c_held (0 : Int32) x1 (c_aims x1.toNatClampNeg) hz_11) gi_V_X9_206 hd_V_yX9_note ⟨rfl, rfl⟩ rfl ⟨Nat.le_of_ble_eq_true rfl, Nat.le_of_ble_eq_true rfl⟩ 0 rfl rfl rfl rfl (Nat.le_of_ble_eq_true rfl) ⟨Nat.le_of_ble_eq_true rfl, Nat.le_of_ble_eq_true rfl⟩ dX9_aim_31) hG rfl (fun H locs hG => ?_)
      clear hz_11
      refine lv_istore_n (lv' := [(3, .int r_8), (0, .ref (a 0)), (1, .int x1), (2, .int x2)]) hx hb dX9_aim_34 rfl hl (by decide) rfl (fun ls hl => ?_)
      refine lv_aload_n hx hb dX9_aim_35 rfl (lv_at hl 1 rfl) ?_
      refine r_get X hG in_X9 rfl 13 (by decide) w_644 0 rfl rfl dX9_aim_36 ?_
      refine lv_iload_n hx hb dX9_aim_39 rfl (lv_at hl 2 rfl) ?_
      refine lv_iload_n hx hb dX9_aim_40 rfl (lv_at hl 3 rfl) ?_
      obtain ⟨g_12, h⟩ := gd h
      refine r_iast X hG 13 (ws' := (W_X9 a cI cJ c_length c_text c_stands c_homeFar c_nets c_netAt c_netWide c_netFrom c_netTo c_priceX c_priceY c_many c_days (upd c_aims x1.toNatClampNeg x2) c_speeds c_kinds c_keptMany k_undoMany_9 k_undos_10 c_spot c_told c_to c_stood c_home c_lost c_out c_fewest c_ways c_next c_held)) rfl g_12 rfl dX9_aim_41 (fun H locs hG => ?_)
      refine lv_iload_n hx hb dX9_aim_42 rfl (lv_at hl 0 rfl) ?_
      cases h
      exact ret _ _ _ _ dX9_aim_43 hG
    · have h := ite_t h c_6
      refine lv_iconst (v := (-1 : Int32)) hx hb dX9_aim_20 (by decide) ?_
      cases h
      exact ret _ _ _ _ dX9_aim_21 hG
set_option maxRecDepth 100000 in
set_option maxHeartbeats 4000000 in
theorem mX9_move (l : Launch) (dC : Nat → ClassId) (dI : Nat → Nat → Nat) (cI cJ : ClassId) (a : Nat → Nat) (c_length : Int32) (c_text : Nat → Int32) (c_stands : Nat → Int32) (c_homeFar : Nat → Int32) (c_nets : Nat → Int32) (c_netAt : Nat → Int32) (c_netWide : Nat → Int32) (c_netFrom : Nat → Int32) (c_netTo : Nat → Int32) (c_priceX : Nat → Int32) (c_priceY : Nat → Int32) (c_many : Nat → Int32) (c_days : Nat → Int32) (c_aims : Nat → Int32) (c_speeds : Nat → Int32) (c_kinds : Nat → Int32) (c_keptMany : Int32) (c_undoMany : Int32) (c_undos : Nat → Int32) (c_spot : Int32) (c_told : Nat → Int32) (c_to : Nat → Int32) (c_stood : Nat → Int32) (c_home : Nat → Int32) (c_lost : Nat → Int32) (c_out : Int32) (c_fewest : Nat → Int32) (c_ways : Nat → Int64) (c_next : Nat → Int64) (c_held : Nat → Int32) (x1 : Int32) (x2 : Int32) {res : Int32} {n_days : Nat → Int32} {n_undoMany : Int32} {n_undos : Nat → Int32} (hD : DX9_move x1 x2 c_many c_days c_undoMany c_undos = some (res, n_days, n_undoMany, n_undos)) : Met l yX9_move (WZ yX9_move cX9_move 4 (some .int)) (RM 2 46) (PC dC dI cI cJ [.ref (a 0), .int x1, .int x2] (W_X9 a cI cJ c_length c_text c_stands c_homeFar c_nets c_netAt c_netWide c_netFrom c_netTo c_priceX c_priceY c_many c_days c_aims c_speeds c_kinds c_keptMany c_undoMany c_undos c_spot c_told c_to c_stood c_home c_lost c_out c_fewest c_ways c_next c_held)) (QI dC dI (W_X9 a cI cJ c_length c_text c_stands c_homeFar c_nets c_netAt c_netWide c_netFrom c_netTo c_priceX c_priceY c_many c_days c_aims c_speeds c_kinds c_keptMany c_undoMany c_undos c_spot c_told c_to c_stood c_home c_lost c_out c_fewest c_ways c_next c_held) (W_X9 a cI cJ c_length c_text c_stands c_homeFar c_nets c_netAt c_netWide c_netFrom c_netTo c_priceX c_priceY c_many n_days c_aims c_speeds c_kinds c_keptMany n_undoMany n_undos c_spot c_told c_to c_stood c_home c_lost c_out c_fewest c_ways c_next c_held) res) 0 0 (FA (W_X9 a cI cJ c_length c_text c_stands c_homeFar c_nets c_netAt c_netWide c_netFrom c_netTo c_priceX c_priceY c_many c_days c_aims c_speeds c_kinds c_keptMany c_undoMany c_undos c_spot c_told c_to c_stood c_home c_lost c_out c_fewest c_ways c_next c_held)) := by
  refine r_metI (by decide +kernel) (Nat.le_of_ble_eq_true rfl) ?_
  intro p e s m args below meth c A H0 QQ X ret ls hl hG
  have X : Cx p m c cX9_move 4 s args RX9 dC dI cI cJ meth (some .int) := X
  have hx := X.1.1
  have hb := X.1.2.1
  have hl : lv_has ls 4 [(0, .ref (a 0)), (1, .int x1), (2, .int x2)] := hl
  have h := hD
  unfold DX9_move at h
  clear hD
  refine lv_aload_n hx hb dX9_move_0 rfl (lv_at hl 0 rfl) ?_
  refine lv_iload_n hx hb dX9_move_1 rfl (lv_at hl 1 rfl) ?_
  obtain ⟨r_1, hz_2, h⟩ := bd1_some h
  refine aft_i1 (run_V1 (rest := []) X hG hl.1 (mX9_isThrow l dC dI cI cJ a c_length c_text c_stands c_homeFar c_nets c_netAt c_netWide c_netFrom c_netTo c_priceX c_priceY c_many c_days c_aims c_speeds c_kinds c_keptMany c_undoMany c_undos c_spot c_told c_to c_stood c_home c_lost c_out c_fewest c_ways c_next c_held x1 hz_2) gi_V_X9_182 hd_V_yX9_isThrow ⟨rfl, rfl⟩ rfl ⟨Nat.le_of_ble_eq_true rfl, Nat.le_of_ble_eq_true rfl⟩ 0 rfl rfl rfl rfl (Nat.le_of_ble_eq_true rfl) ⟨Nat.le_of_ble_eq_true rfl, Nat.le_of_ble_eq_true rfl⟩ dX9_move_2) hG rfl (fun H locs hG => ?_)
  clear hz_2
  refine lv_if_eq (tgt := 20) hx hb dX9_move_5 (by decide) (fun c_3 => ?_) (fun c_3 => ?_)
  · have h := ite_t h c_3
    refine lv_iconst (v := (-1 : Int32)) hx hb dX9_move_20 (by decide) ?_
    cases h
    exact ret _ _ _ _ dX9_move_21 hG
  · have h := ite_f h c_3
    refine lv_iload_n hx hb dX9_move_8 rfl (lv_at hl 2 rfl) ?_
    refine lv_i2l (v := (x2.toInt64)) hx hb dX9_move_9 rfl ?_
    refine lv_lconst (v := (0 : Int64)) hx hb dX9_move_10 (by decide) ?_
    refine lv_ldc2 (v := (40 : Int64)) hx hb X.1.2.2.2.1 (X.1.2.2.2.2 _ w_872) dX9_move_11 ?_
    obtain ⟨r_4, hz_5, h⟩ := bd1_some h
    refine aft_i (ws' := (W_X9 a cI cJ c_length c_text c_stands c_homeFar c_nets c_netAt c_netWide c_netFrom c_netTo c_priceX c_priceY c_many c_days c_aims c_speeds c_kinds c_keptMany c_undoMany c_undos c_spot c_told c_to c_stood c_home c_lost c_out c_fewest c_ways c_next c_held)) (run_S (rest := []) X hG hl.1 (mX9_in l dC dI cI cJ (x2.toInt64) (0 : Int64) (40 : Int64) hz_5) gi_S_X9_92 hd_S_yX9_in ⟨rfl, rfl⟩ rfl ⟨Nat.le_of_ble_eq_true rfl, Nat.le_of_ble_eq_true rfl⟩ [] (by decide) rfl rfl (Nat.le_of_ble_eq_true rfl) ⟨Nat.le_of_ble_eq_true rfl, Nat.le_of_ble_eq_true rfl⟩ dX9_move_14) hG [] rfl rfl rfl (fun H locs hG => ?_)
    clear hz_5
    refine lv_if_ne (tgt := 22) hx hb dX9_move_17 (by decide) (fun c_6 => ?_) (fun c_6 => ?_)
    · have h := ite_f h c_6
      refine lv_aload_n hx hb dX9_move_22 rfl (lv_at hl 0 rfl) ?_
      refine lv_iconst (v := (1 : Int32)) hx hb dX9_move_23 (by decide) ?_
      refine lv_iload_n hx hb dX9_move_24 rfl (lv_at hl 1 rfl) ?_
      refine lv_aload_n hx hb dX9_move_25 rfl (lv_at hl 0 rfl) ?_
      refine r_get X hG in_X9 rfl 12 (by decide) w_643 0 rfl rfl dX9_move_26 ?_
      refine lv_iload_n hx hb dX9_move_29 rfl (lv_at hl 1 rfl) ?_
      obtain ⟨g_7, h⟩ := gd h
      refine r_iald X hG 12 rfl g_7 dX9_move_30 ?_
      obtain ⟨r_8, k_undoMany_9, k_undos_10, hz_11, h⟩ := bd3_some h
      refine aft_i1 (run_V1 (rest := []) X hG hl.1 (mX9_note l dC dI cI cJ a c_length c_text c_stands c_homeFar c_nets c_netAt c_netWide c_netFrom c_netTo c_priceX c_priceY c_many c_days c_aims c_speeds c_kinds c_keptMany c_undoMany c_undos c_spot c_told c_to c_stood c_home c_lost c_out c_fewest c_ways c_next c_held (1 : Int32) x1 (c_days x1.toNatClampNeg) hz_11) gi_V_X9_206 hd_V_yX9_note ⟨rfl, rfl⟩ rfl ⟨Nat.le_of_ble_eq_true rfl, Nat.le_of_ble_eq_true rfl⟩ 0 rfl rfl rfl rfl (Nat.le_of_ble_eq_true rfl) ⟨Nat.le_of_ble_eq_true rfl, Nat.le_of_ble_eq_true rfl⟩ dX9_move_31) hG rfl (fun H locs hG => ?_)
      clear hz_11
      refine lv_istore_n (lv' := [(3, .int r_8), (0, .ref (a 0)), (1, .int x1), (2, .int x2)]) hx hb dX9_move_34 rfl hl (by decide) rfl (fun ls hl => ?_)
      refine lv_aload_n hx hb dX9_move_35 rfl (lv_at hl 1 rfl) ?_
      refine r_get X hG in_X9 rfl 12 (by decide) w_643 0 rfl rfl dX9_move_36 ?_
      refine lv_iload_n hx hb dX9_move_39 rfl (lv_at hl 2 rfl) ?_
      refine lv_iload_n hx hb dX9_move_40 rfl (lv_at hl 3 rfl) ?_
      obtain ⟨g_12, h⟩ := gd h
      refine r_iast X hG 12 (ws' := (W_X9 a cI cJ c_length c_text c_stands c_homeFar c_nets c_netAt c_netWide c_netFrom c_netTo c_priceX c_priceY c_many (upd c_days x1.toNatClampNeg x2) c_aims c_speeds c_kinds c_keptMany k_undoMany_9 k_undos_10 c_spot c_told c_to c_stood c_home c_lost c_out c_fewest c_ways c_next c_held)) rfl g_12 rfl dX9_move_41 (fun H locs hG => ?_)
      refine lv_iload_n hx hb dX9_move_42 rfl (lv_at hl 0 rfl) ?_
      cases h
      exact ret _ _ _ _ dX9_move_43 hG
    · have h := ite_t h c_6
      refine lv_iconst (v := (-1 : Int32)) hx hb dX9_move_20 (by decide) ?_
      cases h
      exact ret _ _ _ _ dX9_move_21 hG
