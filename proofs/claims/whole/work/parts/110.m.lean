/-! CONTRACTS, laid by wip/gen/lay.py: yX9_item, yX9_readAll, yX9_fault, yX9_copy -/
set_option maxRecDepth 100000 in
set_option maxHeartbeats 4000000 in
theorem mX9_item (l : Launch) (dC : Nat → ClassId) (dI : Nat → Nat → Nat) (cI cJ : ClassId) (a : Nat → Nat) (c_length : Int32) (c_text : Nat → Int32) (c_stands : Nat → Int32) (c_homeFar : Nat → Int32) (c_nets : Nat → Int32) (c_netAt : Nat → Int32) (c_netWide : Nat → Int32) (c_netFrom : Nat → Int32) (c_netTo : Nat → Int32) (c_priceX : Nat → Int32) (c_priceY : Nat → Int32) (c_many : Nat → Int32) (c_days : Nat → Int32) (c_aims : Nat → Int32) (c_speeds : Nat → Int32) (c_kinds : Nat → Int32) (c_keptMany : Int32) (c_undoMany : Int32) (c_undos : Nat → Int32) (c_spot : Int32) (c_told : Nat → Int32) (c_to : Nat → Int32) (c_stood : Nat → Int32) (c_home : Nat → Int32) (c_lost : Nat → Int32) (c_out : Int32) (c_fewest : Nat → Int32) (c_ways : Nat → Int64) (c_next : Nat → Int64) (c_held : Nat → Int32) {res : Int32} {n_stands : Nat → Int32} {n_homeFar : Nat → Int32} {n_nets : Nat → Int32} {n_netAt : Nat → Int32} {n_netWide : Nat → Int32} {n_netFrom : Nat → Int32} {n_netTo : Nat → Int32} {n_priceX : Nat → Int32} {n_priceY : Nat → Int32} {n_many : Nat → Int32} {n_days : Nat → Int32} {n_aims : Nat → Int32} {n_speeds : Nat → Int32} {n_kinds : Nat → Int32} {n_spot : Int32} {n_told : Nat → Int32} (hD : DX9_item c_length c_text c_stands c_homeFar c_nets c_netAt c_netWide c_netFrom c_netTo c_priceX c_priceY c_many c_days c_aims c_speeds c_kinds c_spot c_told = some (res, n_stands, n_homeFar, n_nets, n_netAt, n_netWide, n_netFrom, n_netTo, n_priceX, n_priceY, n_many, n_days, n_aims, n_speeds, n_kinds, n_spot, n_told)) : Met l yX9_item (WZ yX9_item cX9_item 2 (some .boolean)) (RM 2 49) (PC dC dI cI cJ [.ref (a 0)] (W_X9 a cI cJ c_length c_text c_stands c_homeFar c_nets c_netAt c_netWide c_netFrom c_netTo c_priceX c_priceY c_many c_days c_aims c_speeds c_kinds c_keptMany c_undoMany c_undos c_spot c_told c_to c_stood c_home c_lost c_out c_fewest c_ways c_next c_held)) (QI dC dI (W_X9 a cI cJ c_length c_text c_stands c_homeFar c_nets c_netAt c_netWide c_netFrom c_netTo c_priceX c_priceY c_many c_days c_aims c_speeds c_kinds c_keptMany c_undoMany c_undos c_spot c_told c_to c_stood c_home c_lost c_out c_fewest c_ways c_next c_held) (W_X9 a cI cJ c_length c_text n_stands n_homeFar n_nets n_netAt n_netWide n_netFrom n_netTo n_priceX n_priceY n_many n_days n_aims n_speeds n_kinds c_keptMany c_undoMany c_undos n_spot n_told c_to c_stood c_home c_lost c_out c_fewest c_ways c_next c_held) res) 0 0 (FA (W_X9 a cI cJ c_length c_text c_stands c_homeFar c_nets c_netAt c_netWide c_netFrom c_netTo c_priceX c_priceY c_many c_days c_aims c_speeds c_kinds c_keptMany c_undoMany c_undos c_spot c_told c_to c_stood c_home c_lost c_out c_fewest c_ways c_next c_held)) := by
  refine r_metZ (by decide +kernel) (Nat.le_of_ble_eq_true rfl) ?_
  intro p e s m args below meth c A H0 QQ X ret ls hl hG
  have X : Cx p m c cX9_item 2 s args RX9 dC dI cI cJ meth (some .boolean) := X
  have hx := X.1.1
  have hb := X.1.2.1
  have hl : lv_has ls 2 [(0, .ref (a 0))] := hl
  have h := hD
  unfold DX9_item at h
  clear hD
  refine lv_aload_n hx hb dX9_item_0 rfl (lv_at hl 0 rfl) ?_
  refine lv_aload_n hx hb dX9_item_1 rfl (lv_at hl 0 rfl) ?_
  refine r_get X hG in_X9 rfl 19 (by decide) w_650 0 rfl rfl dX9_item_2 ?_
  obtain ⟨r_1, hz_2, h⟩ := bd1_some h
  refine aft_i1 (run_V1 (rest := []) X hG hl.1 (mX9_byteAt l dC dI cI cJ a c_length c_text c_stands c_homeFar c_nets c_netAt c_netWide c_netFrom c_netTo c_priceX c_priceY c_many c_days c_aims c_speeds c_kinds c_keptMany c_undoMany c_undos c_spot c_told c_to c_stood c_home c_lost c_out c_fewest c_ways c_next c_held c_spot hz_2) gi_V_X9_105 hd_V_yX9_byteAt ⟨rfl, rfl⟩ rfl ⟨Nat.le_of_ble_eq_true rfl, Nat.le_of_ble_eq_true rfl⟩ 0 rfl rfl rfl rfl (Nat.le_of_ble_eq_true rfl) ⟨Nat.le_of_ble_eq_true rfl, Nat.le_of_ble_eq_true rfl⟩ dX9_item_5) hG rfl (fun H locs hG => ?_)
  clear hz_2
  refine lv_istore_n (lv' := [(1, .int r_1), (0, .ref (a 0))]) hx hb dX9_item_8 rfl hl (by decide) rfl (fun ls hl => ?_)
  refine lv_aload_n hx hb dX9_item_9 rfl (lv_at hl 1 rfl) ?_
  refine lv_dup hx hb dX9_item_10 rfl ?_
  refine r_get X hG in_X9 rfl 19 (by decide) w_650 0 rfl rfl dX9_item_11 ?_
  refine lv_iconst (v := (1 : Int32)) hx hb dX9_item_14 (by decide) ?_
  refine lv_iadd hx hb dX9_item_15 ?_
  refine r_put X hG in_X9 rfl tyX9 tyX9_ok nmX9 19 (by decide) rfl (by decide +kernel) w_650 0 (ws' := (W_X9 a cI cJ c_length c_text c_stands c_homeFar c_nets c_netAt c_netWide c_netFrom c_netTo c_priceX c_priceY c_many c_days c_aims c_speeds c_kinds c_keptMany c_undoMany c_undos (c_spot + (1 : Int32)) c_told c_to c_stood c_home c_lost c_out c_fewest c_ways c_next c_held)) rfl (Nat.le_of_ble_eq_true rfl) rfl dX9_item_16 (fun H locs hG => ?_)
  refine lv_iload_n hx hb dX9_item_19 rfl (lv_at hl 0 rfl) ?_
  rcases Decidable.em (r_1 = (110 : Int32)) with c_3 | c_3
  · have h := ite_t h c_3
    refine lv_tableIn (off := 270) (tgt := 290) hx hb dX9_item_20 (by rw [c_3] <;> decide) (by rw [c_3] <;> decide) (by rw [c_3] <;> rfl) (by decide) ?_
    refine lv_aload_n hx hb dX9_item_290 rfl (lv_at hl 1 rfl) ?_
    refine lv_iconst (v := (4 : Int32)) hx hb dX9_item_291 (by decide) ?_
    obtain ⟨r_4, k_spot_5, k_told_6, hz_7, h⟩ := bd3_some h
    refine aft_i1 (run_V1 (rest := []) X hG hl.1 (mX9_figures l dC dI cI cJ a c_length c_text c_stands c_homeFar c_nets c_netAt c_netWide c_netFrom c_netTo c_priceX c_priceY c_many c_days c_aims c_speeds c_kinds c_keptMany c_undoMany c_undos (c_spot + (1 : Int32)) c_told c_to c_stood c_home c_lost c_out c_fewest c_ways c_next c_held (4 : Int32) hz_7) gi_V_X9_115 hd_V_yX9_figures ⟨rfl, rfl⟩ rfl ⟨Nat.le_of_ble_eq_true rfl, Nat.le_of_ble_eq_true rfl⟩ 0 rfl rfl rfl rfl (Nat.le_of_ble_eq_true rfl) ⟨Nat.le_of_ble_eq_true rfl, Nat.le_of_ble_eq_true rfl⟩ dX9_item_292) hG rfl (fun H locs hG => ?_)
    clear hz_7
    refine lv_if_eq (tgt := 329) hx hb dX9_item_295 (by decide) (fun c_8 => ?_) (fun c_8 => ?_)
    · have h := ite_t h c_8
      refine lv_iconst (v := (0 : Int32)) hx hb dX9_item_329 (by decide) ?_
      cases h
      exact ret _ _ _ _ dX9_item_330 (by decide) hG
    · have h := ite_f h c_8
      refine lv_aload_n hx hb dX9_item_298 rfl (lv_at hl 1 rfl) ?_
      refine r_get X hG in_X9 rfl 4 (by decide) w_635 0 rfl rfl dX9_item_299 ?_
      refine lv_iconst (v := (1 : Int32)) hx hb dX9_item_302 (by decide) ?_
      refine r_iald X hG 4 rfl (vpd (by decide)) dX9_item_303 ?_
      refine lv_iconst (v := (5 : Int32)) hx hb dX9_item_304 (by decide) ?_
      refine lv_icmp_eq (tgt := 329) hx hb dX9_item_305 (by decide) (fun c_9 => ?_) (fun c_9 => ?_)
      · have h := ite_t h c_9
        refine lv_iconst (v := (0 : Int32)) hx hb dX9_item_329 (by decide) ?_
        cases h
        exact ret _ _ _ _ dX9_item_330 (by decide) hG
      · have h := ite_f h c_9
        refine lv_aload_n hx hb dX9_item_308 rfl (lv_at hl 1 rfl) ?_
        refine r_get X hG in_X9 rfl 20 (by decide) w_651 0 rfl rfl dX9_item_309 ?_
        refine lv_iconst (v := (0 : Int32)) hx hb dX9_item_312 (by decide) ?_
        refine r_iald X hG 17 rfl (vpd (by decide)) dX9_item_313 ?_
        refine lv_bipush (v := (23 : Int32)) hx hb dX9_item_314 (by decide) ?_
        refine lv_icmp_gt (tgt := 329) hx hb dX9_item_316 (by decide) (fun c_10 => ?_) (fun c_10 => ?_)
        · have h := ite_t h c_10
          refine lv_iconst (v := (0 : Int32)) hx hb dX9_item_329 (by decide) ?_
          cases h
          exact ret _ _ _ _ dX9_item_330 (by decide) hG
        · have h := ite_f h c_10
          refine lv_aload_n hx hb dX9_item_319 rfl (lv_at hl 1 rfl) ?_
          refine r_get X hG in_X9 rfl 20 (by decide) w_651 0 rfl rfl dX9_item_320 ?_
          refine lv_iconst (v := (1 : Int32)) hx hb dX9_item_323 (by decide) ?_
          refine r_iald X hG 17 rfl (vpd (by decide)) dX9_item_324 ?_
          refine lv_iconst (v := (3 : Int32)) hx hb dX9_item_325 (by decide) ?_
          refine lv_icmp_le (tgt := 331) hx hb dX9_item_326 (by decide) (fun c_11 => ?_) (fun c_11 => ?_)
          · have h := ite_t h c_11
            refine lv_aload_n hx hb dX9_item_331 rfl (lv_at hl 1 rfl) ?_
            refine r_get X hG in_X9 rfl 5 (by decide) w_636 0 rfl rfl dX9_item_332 ?_
            refine lv_bipush (v := (6 : Int32)) hx hb dX9_item_335 (by decide) ?_
            refine lv_aload_n hx hb dX9_item_337 rfl (lv_at hl 1 rfl) ?_
            refine r_get X hG in_X9 rfl 4 (by decide) w_635 0 rfl rfl dX9_item_338 ?_
            refine lv_iconst (v := (1 : Int32)) hx hb dX9_item_341 (by decide) ?_
            refine r_iald X hG 4 rfl (vpd (by decide)) dX9_item_342 ?_
            refine lv_iadd hx hb dX9_item_343 ?_
            refine lv_aload_n hx hb dX9_item_344 rfl (lv_at hl 1 rfl) ?_
            refine r_get X hG in_X9 rfl 20 (by decide) w_651 0 rfl rfl dX9_item_345 ?_
            refine lv_iconst (v := (0 : Int32)) hx hb dX9_item_348 (by decide) ?_
            refine r_iald X hG 17 rfl (vpd (by decide)) dX9_item_349 ?_
            obtain ⟨g_12, h⟩ := gd h
            refine r_iast X hG 5 (ws' := (W_X9 a cI cJ c_length c_text c_stands c_homeFar c_nets (upd c_netAt ((6 : Int32) + (c_nets (1 : Int32).toNatClampNeg)).toNatClampNeg (k_told_6 (0 : Int32).toNatClampNeg)) c_netWide c_netFrom c_netTo c_priceX c_priceY c_many c_days c_aims c_speeds c_kinds c_keptMany c_undoMany c_undos k_spot_5 k_told_6 c_to c_stood c_home c_lost c_out c_fewest c_ways c_next c_held)) rfl g_12 rfl dX9_item_350 (fun H locs hG => ?_)
            refine lv_aload_n hx hb dX9_item_351 rfl (lv_at hl 1 rfl) ?_
            refine r_get X hG in_X9 rfl 6 (by decide) w_637 0 rfl rfl dX9_item_352 ?_
            refine lv_bipush (v := (6 : Int32)) hx hb dX9_item_355 (by decide) ?_
            refine lv_aload_n hx hb dX9_item_357 rfl (lv_at hl 1 rfl) ?_
            refine r_get X hG in_X9 rfl 4 (by decide) w_635 0 rfl rfl dX9_item_358 ?_
            refine lv_iconst (v := (1 : Int32)) hx hb dX9_item_361 (by decide) ?_
            refine r_iald X hG 4 rfl (vpd (by decide)) dX9_item_362 ?_
            refine lv_iadd hx hb dX9_item_363 ?_
            refine lv_aload_n hx hb dX9_item_364 rfl (lv_at hl 1 rfl) ?_
            refine r_get X hG in_X9 rfl 20 (by decide) w_651 0 rfl rfl dX9_item_365 ?_
            refine lv_iconst (v := (1 : Int32)) hx hb dX9_item_368 (by decide) ?_
            refine r_iald X hG 17 rfl (vpd (by decide)) dX9_item_369 ?_
            obtain ⟨g_13, h⟩ := gd h
            refine r_iast X hG 6 (ws' := (W_X9 a cI cJ c_length c_text c_stands c_homeFar c_nets (upd c_netAt ((6 : Int32) + (c_nets (1 : Int32).toNatClampNeg)).toNatClampNeg (k_told_6 (0 : Int32).toNatClampNeg)) (upd c_netWide ((6 : Int32) + (c_nets (1 : Int32).toNatClampNeg)).toNatClampNeg (k_told_6 (1 : Int32).toNatClampNeg)) c_netFrom c_netTo c_priceX c_priceY c_many c_days c_aims c_speeds c_kinds c_keptMany c_undoMany c_undos k_spot_5 k_told_6 c_to c_stood c_home c_lost c_out c_fewest c_ways c_next c_held)) rfl g_13 rfl dX9_item_370 (fun H locs hG => ?_)
            refine lv_aload_n hx hb dX9_item_371 rfl (lv_at hl 1 rfl) ?_
            refine r_get X hG in_X9 rfl 7 (by decide) w_638 0 rfl rfl dX9_item_372 ?_
            refine lv_bipush (v := (6 : Int32)) hx hb dX9_item_375 (by decide) ?_
            refine lv_aload_n hx hb dX9_item_377 rfl (lv_at hl 1 rfl) ?_
            refine r_get X hG in_X9 rfl 4 (by decide) w_635 0 rfl rfl dX9_item_378 ?_
            refine lv_iconst (v := (1 : Int32)) hx hb dX9_item_381 (by decide) ?_
            refine r_iald X hG 4 rfl (vpd (by decide)) dX9_item_382 ?_
            refine lv_iadd hx hb dX9_item_383 ?_
            refine lv_aload_n hx hb dX9_item_384 rfl (lv_at hl 1 rfl) ?_
            refine r_get X hG in_X9 rfl 20 (by decide) w_651 0 rfl rfl dX9_item_385 ?_
            refine lv_iconst (v := (2 : Int32)) hx hb dX9_item_388 (by decide) ?_
            refine r_iald X hG 17 rfl (vpd (by decide)) dX9_item_389 ?_
            obtain ⟨g_14, h⟩ := gd h
            refine r_iast X hG 7 (ws' := (W_X9 a cI cJ c_length c_text c_stands c_homeFar c_nets (upd c_netAt ((6 : Int32) + (c_nets (1 : Int32).toNatClampNeg)).toNatClampNeg (k_told_6 (0 : Int32).toNatClampNeg)) (upd c_netWide ((6 : Int32) + (c_nets (1 : Int32).toNatClampNeg)).toNatClampNeg (k_told_6 (1 : Int32).toNatClampNeg)) (upd c_netFrom ((6 : Int32) + (c_nets (1 : Int32).toNatClampNeg)).toNatClampNeg (k_told_6 (2 : Int32).toNatClampNeg)) c_netTo c_priceX c_priceY c_many c_days c_aims c_speeds c_kinds c_keptMany c_undoMany c_undos k_spot_5 k_told_6 c_to c_stood c_home c_lost c_out c_fewest c_ways c_next c_held)) rfl g_14 rfl dX9_item_390 (fun H locs hG => ?_)
            refine lv_aload_n hx hb dX9_item_391 rfl (lv_at hl 1 rfl) ?_
            refine r_get X hG in_X9 rfl 8 (by decide) w_639 0 rfl rfl dX9_item_392 ?_
            refine lv_bipush (v := (6 : Int32)) hx hb dX9_item_395 (by decide) ?_
            refine lv_aload_n hx hb dX9_item_397 rfl (lv_at hl 1 rfl) ?_
            refine r_get X hG in_X9 rfl 4 (by decide) w_635 0 rfl rfl dX9_item_398 ?_
            refine lv_iconst (v := (1 : Int32)) hx hb dX9_item_401 (by decide) ?_
            refine r_iald X hG 4 rfl (vpd (by decide)) dX9_item_402 ?_
            refine lv_iadd hx hb dX9_item_403 ?_
            refine lv_aload_n hx hb dX9_item_404 rfl (lv_at hl 1 rfl) ?_
            refine r_get X hG in_X9 rfl 20 (by decide) w_651 0 rfl rfl dX9_item_405 ?_
            refine lv_iconst (v := (3 : Int32)) hx hb dX9_item_408 (by decide) ?_
            refine r_iald X hG 17 rfl (vpd (by decide)) dX9_item_409 ?_
            obtain ⟨g_15, h⟩ := gd h
            refine r_iast X hG 8 (ws' := (W_X9 a cI cJ c_length c_text c_stands c_homeFar c_nets (upd c_netAt ((6 : Int32) + (c_nets (1 : Int32).toNatClampNeg)).toNatClampNeg (k_told_6 (0 : Int32).toNatClampNeg)) (upd c_netWide ((6 : Int32) + (c_nets (1 : Int32).toNatClampNeg)).toNatClampNeg (k_told_6 (1 : Int32).toNatClampNeg)) (upd c_netFrom ((6 : Int32) + (c_nets (1 : Int32).toNatClampNeg)).toNatClampNeg (k_told_6 (2 : Int32).toNatClampNeg)) (upd c_netTo ((6 : Int32) + (c_nets (1 : Int32).toNatClampNeg)).toNatClampNeg (k_told_6 (3 : Int32).toNatClampNeg)) c_priceX c_priceY c_many c_days c_aims c_speeds c_kinds c_keptMany c_undoMany c_undos k_spot_5 k_told_6 c_to c_stood c_home c_lost c_out c_fewest c_ways c_next c_held)) rfl g_15 rfl dX9_item_410 (fun H locs hG => ?_)
            refine lv_aload_n hx hb dX9_item_411 rfl (lv_at hl 1 rfl) ?_
            refine r_get X hG in_X9 rfl 4 (by decide) w_635 0 rfl rfl dX9_item_412 ?_
            refine lv_iconst (v := (1 : Int32)) hx hb dX9_item_415 (by decide) ?_
            refine lv_dup2_11 hx hb dX9_item_416 rfl rfl ?_
            refine r_iald X hG 4 rfl (vpd (by decide)) dX9_item_417 ?_
            refine lv_iconst (v := (1 : Int32)) hx hb dX9_item_418 (by decide) ?_
            refine lv_iadd hx hb dX9_item_419 ?_
            refine r_iast X hG 4 (ws' := (W_X9 a cI cJ c_length c_text c_stands c_homeFar (upd c_nets (1 : Int32).toNatClampNeg ((c_nets (1 : Int32).toNatClampNeg) + (1 : Int32))) (upd c_netAt ((6 : Int32) + (c_nets (1 : Int32).toNatClampNeg)).toNatClampNeg (k_told_6 (0 : Int32).toNatClampNeg)) (upd c_netWide ((6 : Int32) + (c_nets (1 : Int32).toNatClampNeg)).toNatClampNeg (k_told_6 (1 : Int32).toNatClampNeg)) (upd c_netFrom ((6 : Int32) + (c_nets (1 : Int32).toNatClampNeg)).toNatClampNeg (k_told_6 (2 : Int32).toNatClampNeg)) (upd c_netTo ((6 : Int32) + (c_nets (1 : Int32).toNatClampNeg)).toNatClampNeg (k_told_6 (3 : Int32).toNatClampNeg)) c_priceX c_priceY c_many c_days c_aims c_speeds c_kinds c_keptMany c_undoMany c_undos k_spot_5 k_told_6 c_to c_stood c_home c_lost c_out c_fewest c_ways c_next c_held)) rfl (vpd (by decide)) rfl dX9_item_420 (fun H locs hG => ?_)
            refine lv_iconst (v := (1 : Int32)) hx hb dX9_item_421 (by decide) ?_
            cases h
            exact ret _ _ _ _ dX9_item_422 (by decide) hG
          · have h := ite_f h c_11
            refine lv_iconst (v := (0 : Int32)) hx hb dX9_item_329 (by decide) ?_
            cases h
            exact ret _ _ _ _ dX9_item_330 (by decide) hG
  · have h := ite_f h c_3
    rcases Decidable.em (r_1 = (111 : Int32)) with c_16 | c_16
    · have h := ite_t h c_16
      refine lv_tableIn (off := 461) (tgt := 481) hx hb dX9_item_20 (by rw [c_16] <;> decide) (by rw [c_16] <;> decide) (by rw [c_16] <;> rfl) (by decide) ?_
      refine lv_iconst (v := (0 : Int32)) hx hb dX9_item_481 (by decide) ?_
      cases h
      exact ret _ _ _ _ dX9_item_482 (by decide) hG
    · have h := ite_f h c_16
      rcases Decidable.em (r_1 = (112 : Int32)) with c_17 | c_17
      · have h := ite_t h c_17
        refine lv_tableIn (off := 403) (tgt := 423) hx hb dX9_item_20 (by rw [c_17] <;> decide) (by rw [c_17] <;> decide) (by rw [c_17] <;> rfl) (by decide) ?_
        refine lv_aload_n hx hb dX9_item_423 rfl (lv_at hl 1 rfl) ?_
        refine lv_iconst (v := (2 : Int32)) hx hb dX9_item_424 (by decide) ?_
        obtain ⟨r_18, k_spot_19, k_told_20, hz_21, h⟩ := bd3_some h
        refine aft_i1 (run_V1 (rest := []) X hG hl.1 (mX9_figures l dC dI cI cJ a c_length c_text c_stands c_homeFar c_nets c_netAt c_netWide c_netFrom c_netTo c_priceX c_priceY c_many c_days c_aims c_speeds c_kinds c_keptMany c_undoMany c_undos (c_spot + (1 : Int32)) c_told c_to c_stood c_home c_lost c_out c_fewest c_ways c_next c_held (2 : Int32) hz_21) gi_V_X9_115 hd_V_yX9_figures ⟨rfl, rfl⟩ rfl ⟨Nat.le_of_ble_eq_true rfl, Nat.le_of_ble_eq_true rfl⟩ 0 rfl rfl rfl rfl (Nat.le_of_ble_eq_true rfl) ⟨Nat.le_of_ble_eq_true rfl, Nat.le_of_ble_eq_true rfl⟩ dX9_item_425) hG rfl (fun H locs hG => ?_)
        clear hz_21
        refine lv_if_eq (tgt := 453) hx hb dX9_item_428 (by decide) (fun c_22 => ?_) (fun c_22 => ?_)
        · have h := ite_t h c_22
          refine lv_iconst (v := (0 : Int32)) hx hb dX9_item_453 (by decide) ?_
          cases h
          exact ret _ _ _ _ dX9_item_454 (by decide) hG
        · have h := ite_f h c_22
          refine lv_aload_n hx hb dX9_item_431 rfl (lv_at hl 1 rfl) ?_
          refine r_get X hG in_X9 rfl 20 (by decide) w_651 0 rfl rfl dX9_item_432 ?_
          refine lv_iconst (v := (0 : Int32)) hx hb dX9_item_435 (by decide) ?_
          refine r_iald X hG 17 rfl (vpd (by decide)) dX9_item_436 ?_
          refine lv_bipush (v := (49 : Int32)) hx hb dX9_item_437 (by decide) ?_
          refine lv_icmp_gt (tgt := 453) hx hb dX9_item_439 (by decide) (fun c_23 => ?_) (fun c_23 => ?_)
          · have h := ite_t h c_23
            refine lv_iconst (v := (0 : Int32)) hx hb dX9_item_453 (by decide) ?_
            cases h
            exact ret _ _ _ _ dX9_item_454 (by decide) hG
          · have h := ite_f h c_23
            refine lv_aload_n hx hb dX9_item_442 rfl (lv_at hl 1 rfl) ?_
            refine r_get X hG in_X9 rfl 20 (by decide) w_651 0 rfl rfl dX9_item_443 ?_
            refine lv_iconst (v := (1 : Int32)) hx hb dX9_item_446 (by decide) ?_
            refine r_iald X hG 17 rfl (vpd (by decide)) dX9_item_447 ?_
            refine lv_bipush (v := (49 : Int32)) hx hb dX9_item_448 (by decide) ?_
            refine lv_icmp_le (tgt := 455) hx hb dX9_item_450 (by decide) (fun c_24 => ?_) (fun c_24 => ?_)
            · have h := ite_t h c_24
              refine lv_aload_n hx hb dX9_item_455 rfl (lv_at hl 1 rfl) ?_
              refine r_get X hG in_X9 rfl 9 (by decide) w_640 0 rfl rfl dX9_item_456 ?_
              refine lv_iconst (v := (1 : Int32)) hx hb dX9_item_459 (by decide) ?_
              refine lv_aload_n hx hb dX9_item_460 rfl (lv_at hl 1 rfl) ?_
              refine r_get X hG in_X9 rfl 20 (by decide) w_651 0 rfl rfl dX9_item_461 ?_
              refine lv_iconst (v := (0 : Int32)) hx hb dX9_item_464 (by decide) ?_
              refine r_iald X hG 17 rfl (vpd (by decide)) dX9_item_465 ?_
              refine r_iast X hG 9 (ws' := (W_X9 a cI cJ c_length c_text c_stands c_homeFar c_nets c_netAt c_netWide c_netFrom c_netTo (upd c_priceX (1 : Int32).toNatClampNeg (k_told_20 (0 : Int32).toNatClampNeg)) c_priceY c_many c_days c_aims c_speeds c_kinds c_keptMany c_undoMany c_undos k_spot_19 k_told_20 c_to c_stood c_home c_lost c_out c_fewest c_ways c_next c_held)) rfl (vpd (by decide)) rfl dX9_item_466 (fun H locs hG => ?_)
              refine lv_aload_n hx hb dX9_item_467 rfl (lv_at hl 1 rfl) ?_
              refine r_get X hG in_X9 rfl 10 (by decide) w_641 0 rfl rfl dX9_item_468 ?_
              refine lv_iconst (v := (1 : Int32)) hx hb dX9_item_471 (by decide) ?_
              refine lv_aload_n hx hb dX9_item_472 rfl (lv_at hl 1 rfl) ?_
              refine r_get X hG in_X9 rfl 20 (by decide) w_651 0 rfl rfl dX9_item_473 ?_
              refine lv_iconst (v := (1 : Int32)) hx hb dX9_item_476 (by decide) ?_
              refine r_iald X hG 17 rfl (vpd (by decide)) dX9_item_477 ?_
              refine r_iast X hG 10 (ws' := (W_X9 a cI cJ c_length c_text c_stands c_homeFar c_nets c_netAt c_netWide c_netFrom c_netTo (upd c_priceX (1 : Int32).toNatClampNeg (k_told_20 (0 : Int32).toNatClampNeg)) (upd c_priceY (1 : Int32).toNatClampNeg (k_told_20 (1 : Int32).toNatClampNeg)) c_many c_days c_aims c_speeds c_kinds c_keptMany c_undoMany c_undos k_spot_19 k_told_20 c_to c_stood c_home c_lost c_out c_fewest c_ways c_next c_held)) rfl (vpd (by decide)) rfl dX9_item_478 (fun H locs hG => ?_)
              refine lv_iconst (v := (1 : Int32)) hx hb dX9_item_479 (by decide) ?_
              cases h
              exact ret _ _ _ _ dX9_item_480 (by decide) hG
            · have h := ite_f h c_24
              refine lv_iconst (v := (0 : Int32)) hx hb dX9_item_453 (by decide) ?_
              cases h
              exact ret _ _ _ _ dX9_item_454 (by decide) hG
      · have h := ite_f h c_17
        rcases Decidable.em (r_1 = (113 : Int32)) with c_25 | c_25
        · have h := ite_t h c_25
          refine lv_tableIn (off := 461) (tgt := 481) hx hb dX9_item_20 (by rw [c_25] <;> decide) (by rw [c_25] <;> decide) (by rw [c_25] <;> rfl) (by decide) ?_
          refine lv_iconst (v := (0 : Int32)) hx hb dX9_item_481 (by decide) ?_
          cases h
          exact ret _ _ _ _ dX9_item_482 (by decide) hG
        · have h := ite_f h c_25
          rcases Decidable.em (r_1 = (114 : Int32)) with c_26 | c_26
          · have h := ite_t h c_26
            refine lv_tableIn (off := 44) (tgt := 64) hx hb dX9_item_20 (by rw [c_26] <;> decide) (by rw [c_26] <;> decide) (by rw [c_26] <;> rfl) (by decide) ?_
            refine lv_aload_n hx hb dX9_item_64 rfl (lv_at hl 1 rfl) ?_
            refine lv_iconst (v := (2 : Int32)) hx hb dX9_item_65 (by decide) ?_
            obtain ⟨r_27, k_spot_28, k_told_29, hz_30, h⟩ := bd3_some h
            refine aft_i1 (run_V1 (rest := []) X hG hl.1 (mX9_figures l dC dI cI cJ a c_length c_text c_stands c_homeFar c_nets c_netAt c_netWide c_netFrom c_netTo c_priceX c_priceY c_many c_days c_aims c_speeds c_kinds c_keptMany c_undoMany c_undos (c_spot + (1 : Int32)) c_told c_to c_stood c_home c_lost c_out c_fewest c_ways c_next c_held (2 : Int32) hz_30) gi_V_X9_115 hd_V_yX9_figures ⟨rfl, rfl⟩ rfl ⟨Nat.le_of_ble_eq_true rfl, Nat.le_of_ble_eq_true rfl⟩ 0 rfl rfl rfl rfl (Nat.le_of_ble_eq_true rfl) ⟨Nat.le_of_ble_eq_true rfl, Nat.le_of_ble_eq_true rfl⟩ dX9_item_66) hG rfl (fun H locs hG => ?_)
            clear hz_30
            refine lv_if_eq (tgt := 100) hx hb dX9_item_69 (by decide) (fun c_31 => ?_) (fun c_31 => ?_)
            · have h := ite_t h c_31
              refine lv_iconst (v := (0 : Int32)) hx hb dX9_item_100 (by decide) ?_
              cases h
              exact ret _ _ _ _ dX9_item_101 (by decide) hG
            · have h := ite_f h c_31
              refine lv_aload_n hx hb dX9_item_72 rfl (lv_at hl 1 rfl) ?_
              refine r_get X hG in_X9 rfl 20 (by decide) w_651 0 rfl rfl dX9_item_73 ?_
              refine lv_iconst (v := (0 : Int32)) hx hb dX9_item_76 (by decide) ?_
              refine r_iald X hG 17 rfl (vpd (by decide)) dX9_item_77 ?_
              refine lv_bipush (v := (23 : Int32)) hx hb dX9_item_78 (by decide) ?_
              refine lv_icmp_gt (tgt := 100) hx hb dX9_item_80 (by decide) (fun c_32 => ?_) (fun c_32 => ?_)
              · have h := ite_t h c_32
                refine lv_iconst (v := (0 : Int32)) hx hb dX9_item_100 (by decide) ?_
                cases h
                exact ret _ _ _ _ dX9_item_101 (by decide) hG
              · have h := ite_f h c_32
                refine lv_aload_n hx hb dX9_item_83 rfl (lv_at hl 1 rfl) ?_
                refine r_get X hG in_X9 rfl 20 (by decide) w_651 0 rfl rfl dX9_item_84 ?_
                refine lv_iconst (v := (1 : Int32)) hx hb dX9_item_87 (by decide) ?_
                refine r_iald X hG 17 rfl (vpd (by decide)) dX9_item_88 ?_
                refine lv_i2l (v := ((k_told_29 (1 : Int32).toNatClampNeg).toInt64)) hx hb dX9_item_89 rfl ?_
                refine lv_lconst (v := (1 : Int64)) hx hb dX9_item_90 (by decide) ?_
                refine lv_ldc2 (v := (60 : Int64)) hx hb X.1.2.2.2.1 (X.1.2.2.2.2 _ w_759) dX9_item_91 ?_
                obtain ⟨r_33, hz_34, h⟩ := bd1_some h
                refine aft_i (ws' := (W_X9 a cI cJ c_length c_text c_stands c_homeFar c_nets c_netAt c_netWide c_netFrom c_netTo c_priceX c_priceY c_many c_days c_aims c_speeds c_kinds c_keptMany c_undoMany c_undos k_spot_28 k_told_29 c_to c_stood c_home c_lost c_out c_fewest c_ways c_next c_held)) (run_S (rest := []) X hG hl.1 (mX9_in l dC dI cI cJ ((k_told_29 (1 : Int32).toNatClampNeg).toInt64) (1 : Int64) (60 : Int64) hz_34) gi_S_X9_92 hd_S_yX9_in ⟨rfl, rfl⟩ rfl ⟨Nat.le_of_ble_eq_true rfl, Nat.le_of_ble_eq_true rfl⟩ [] (by decide) rfl rfl (Nat.le_of_ble_eq_true rfl) ⟨Nat.le_of_ble_eq_true rfl, Nat.le_of_ble_eq_true rfl⟩ dX9_item_94) hG [] rfl rfl rfl (fun H locs hG => ?_)
                clear hz_34
                refine lv_if_ne (tgt := 102) hx hb dX9_item_97 (by decide) (fun c_35 => ?_) (fun c_35 => ?_)
                · have h := ite_f h c_35
                  refine lv_aload_n hx hb dX9_item_102 rfl (lv_at hl 1 rfl) ?_
                  refine r_get X hG in_X9 rfl 2 (by decide) w_633 0 rfl rfl dX9_item_103 ?_
                  refine lv_iconst (v := (1 : Int32)) hx hb dX9_item_106 (by decide) ?_
                  refine lv_aload_n hx hb dX9_item_107 rfl (lv_at hl 1 rfl) ?_
                  refine r_get X hG in_X9 rfl 20 (by decide) w_651 0 rfl rfl dX9_item_108 ?_
                  refine lv_iconst (v := (0 : Int32)) hx hb dX9_item_111 (by decide) ?_
                  refine r_iald X hG 17 rfl (vpd (by decide)) dX9_item_112 ?_
                  refine r_iast X hG 2 (ws' := (W_X9 a cI cJ c_length c_text (upd c_stands (1 : Int32).toNatClampNeg (k_told_29 (0 : Int32).toNatClampNeg)) c_homeFar c_nets c_netAt c_netWide c_netFrom c_netTo c_priceX c_priceY c_many c_days c_aims c_speeds c_kinds c_keptMany c_undoMany c_undos k_spot_28 k_told_29 c_to c_stood c_home c_lost c_out c_fewest c_ways c_next c_held)) rfl (vpd (by decide)) rfl dX9_item_113 (fun H locs hG => ?_)
                  refine lv_aload_n hx hb dX9_item_114 rfl (lv_at hl 1 rfl) ?_
                  refine r_get X hG in_X9 rfl 3 (by decide) w_634 0 rfl rfl dX9_item_115 ?_
                  refine lv_iconst (v := (1 : Int32)) hx hb dX9_item_118 (by decide) ?_
                  refine lv_aload_n hx hb dX9_item_119 rfl (lv_at hl 1 rfl) ?_
                  refine r_get X hG in_X9 rfl 20 (by decide) w_651 0 rfl rfl dX9_item_120 ?_
                  refine lv_iconst (v := (1 : Int32)) hx hb dX9_item_123 (by decide) ?_
                  refine r_iald X hG 17 rfl (vpd (by decide)) dX9_item_124 ?_
                  refine r_iast X hG 3 (ws' := (W_X9 a cI cJ c_length c_text (upd c_stands (1 : Int32).toNatClampNeg (k_told_29 (0 : Int32).toNatClampNeg)) (upd c_homeFar (1 : Int32).toNatClampNeg (k_told_29 (1 : Int32).toNatClampNeg)) c_nets c_netAt c_netWide c_netFrom c_netTo c_priceX c_priceY c_many c_days c_aims c_speeds c_kinds c_keptMany c_undoMany c_undos k_spot_28 k_told_29 c_to c_stood c_home c_lost c_out c_fewest c_ways c_next c_held)) rfl (vpd (by decide)) rfl dX9_item_125 (fun H locs hG => ?_)
                  refine lv_iconst (v := (1 : Int32)) hx hb dX9_item_126 (by decide) ?_
                  cases h
                  exact ret _ _ _ _ dX9_item_127 (by decide) hG
                · have h := ite_t h c_35
                  refine lv_iconst (v := (0 : Int32)) hx hb dX9_item_100 (by decide) ?_
                  cases h
                  exact ret _ _ _ _ dX9_item_101 (by decide) hG
          · have h := ite_f h c_26
            rcases Decidable.em (r_1 = (115 : Int32)) with c_36 | c_36
            · have h := ite_t h c_36
              refine lv_tableIn (off := 461) (tgt := 481) hx hb dX9_item_20 (by rw [c_36] <;> decide) (by rw [c_36] <;> decide) (by rw [c_36] <;> rfl) (by decide) ?_
              refine lv_iconst (v := (0 : Int32)) hx hb dX9_item_481 (by decide) ?_
              cases h
              exact ret _ _ _ _ dX9_item_482 (by decide) hG
            · have h := ite_f h c_36
              rcases Decidable.em (r_1 = (116 : Int32)) with c_37 | c_37
              · have h := ite_t h c_37
                refine lv_tableIn (off := 108) (tgt := 128) hx hb dX9_item_20 (by rw [c_37] <;> decide) (by rw [c_37] <;> decide) (by rw [c_37] <;> rfl) (by decide) ?_
                refine lv_aload_n hx hb dX9_item_128 rfl (lv_at hl 1 rfl) ?_
                refine lv_iconst (v := (4 : Int32)) hx hb dX9_item_129 (by decide) ?_
                obtain ⟨r_38, k_spot_39, k_told_40, hz_41, h⟩ := bd3_some h
                refine aft_i1 (run_V1 (rest := []) X hG hl.1 (mX9_figures l dC dI cI cJ a c_length c_text c_stands c_homeFar c_nets c_netAt c_netWide c_netFrom c_netTo c_priceX c_priceY c_many c_days c_aims c_speeds c_kinds c_keptMany c_undoMany c_undos (c_spot + (1 : Int32)) c_told c_to c_stood c_home c_lost c_out c_fewest c_ways c_next c_held (4 : Int32) hz_41) gi_V_X9_115 hd_V_yX9_figures ⟨rfl, rfl⟩ rfl ⟨Nat.le_of_ble_eq_true rfl, Nat.le_of_ble_eq_true rfl⟩ 0 rfl rfl rfl rfl (Nat.le_of_ble_eq_true rfl) ⟨Nat.le_of_ble_eq_true rfl, Nat.le_of_ble_eq_true rfl⟩ dX9_item_130) hG rfl (fun H locs hG => ?_)
                clear hz_41
                refine lv_if_eq (tgt := 196) hx hb dX9_item_133 (by decide) (fun c_42 => ?_) (fun c_42 => ?_)
                · have h := ite_t h c_42
                  refine lv_iconst (v := (0 : Int32)) hx hb dX9_item_196 (by decide) ?_
                  cases h
                  exact ret _ _ _ _ dX9_item_197 (by decide) hG
                · have h := ite_f h c_42
                  refine lv_aload_n hx hb dX9_item_136 rfl (lv_at hl 1 rfl) ?_
                  refine r_get X hG in_X9 rfl 11 (by decide) w_642 0 rfl rfl dX9_item_137 ?_
                  refine lv_iconst (v := (1 : Int32)) hx hb dX9_item_140 (by decide) ?_
                  refine r_iald X hG 11 rfl (vpd (by decide)) dX9_item_141 ?_
                  refine lv_bipush (v := (7 : Int32)) hx hb dX9_item_142 (by decide) ?_
                  refine lv_icmp_eq (tgt := 196) hx hb dX9_item_144 (by decide) (fun c_43 => ?_) (fun c_43 => ?_)
                  · have h := ite_t h c_43
                    refine lv_iconst (v := (0 : Int32)) hx hb dX9_item_196 (by decide) ?_
                    cases h
                    exact ret _ _ _ _ dX9_item_197 (by decide) hG
                  · have h := ite_f h c_43
                    refine lv_aload_n hx hb dX9_item_147 rfl (lv_at hl 1 rfl) ?_
                    refine r_get X hG in_X9 rfl 20 (by decide) w_651 0 rfl rfl dX9_item_148 ?_
                    refine lv_iconst (v := (0 : Int32)) hx hb dX9_item_151 (by decide) ?_
                    refine r_iald X hG 17 rfl (vpd (by decide)) dX9_item_152 ?_
                    refine lv_bipush (v := (40 : Int32)) hx hb dX9_item_153 (by decide) ?_
                    refine lv_icmp_gt (tgt := 196) hx hb dX9_item_155 (by decide) (fun c_44 => ?_) (fun c_44 => ?_)
                    · have h := ite_t h c_44
                      refine lv_iconst (v := (0 : Int32)) hx hb dX9_item_196 (by decide) ?_
                      cases h
                      exact ret _ _ _ _ dX9_item_197 (by decide) hG
                    · have h := ite_f h c_44
                      refine lv_aload_n hx hb dX9_item_158 rfl (lv_at hl 1 rfl) ?_
                      refine r_get X hG in_X9 rfl 20 (by decide) w_651 0 rfl rfl dX9_item_159 ?_
                      refine lv_iconst (v := (1 : Int32)) hx hb dX9_item_162 (by decide) ?_
                      refine r_iald X hG 17 rfl (vpd (by decide)) dX9_item_163 ?_
                      refine lv_bipush (v := (23 : Int32)) hx hb dX9_item_164 (by decide) ?_
                      refine lv_icmp_gt (tgt := 196) hx hb dX9_item_166 (by decide) (fun c_45 => ?_) (fun c_45 => ?_)
                      · have h := ite_t h c_45
                        refine lv_iconst (v := (0 : Int32)) hx hb dX9_item_196 (by decide) ?_
                        cases h
                        exact ret _ _ _ _ dX9_item_197 (by decide) hG
                      · have h := ite_f h c_45
                        refine lv_aload_n hx hb dX9_item_169 rfl (lv_at hl 1 rfl) ?_
                        refine r_get X hG in_X9 rfl 20 (by decide) w_651 0 rfl rfl dX9_item_170 ?_
                        refine lv_iconst (v := (2 : Int32)) hx hb dX9_item_173 (by decide) ?_
                        refine r_iald X hG 17 rfl (vpd (by decide)) dX9_item_174 ?_
                        refine lv_i2l (v := ((k_told_40 (2 : Int32).toNatClampNeg).toInt64)) hx hb dX9_item_175 rfl ?_
                        refine lv_lconst (v := (1 : Int64)) hx hb dX9_item_176 (by decide) ?_
                        refine lv_ldc2 (v := (6 : Int64)) hx hb X.1.2.2.2.1 (X.1.2.2.2.2 _ w_760) dX9_item_177 ?_
                        obtain ⟨r_46, hz_47, h⟩ := bd1_some h
                        refine aft_i (ws' := (W_X9 a cI cJ c_length c_text c_stands c_homeFar c_nets c_netAt c_netWide c_netFrom c_netTo c_priceX c_priceY c_many c_days c_aims c_speeds c_kinds c_keptMany c_undoMany c_undos k_spot_39 k_told_40 c_to c_stood c_home c_lost c_out c_fewest c_ways c_next c_held)) (run_S (rest := []) X hG hl.1 (mX9_in l dC dI cI cJ ((k_told_40 (2 : Int32).toNatClampNeg).toInt64) (1 : Int64) (6 : Int64) hz_47) gi_S_X9_92 hd_S_yX9_in ⟨rfl, rfl⟩ rfl ⟨Nat.le_of_ble_eq_true rfl, Nat.le_of_ble_eq_true rfl⟩ [] (by decide) rfl rfl (Nat.le_of_ble_eq_true rfl) ⟨Nat.le_of_ble_eq_true rfl, Nat.le_of_ble_eq_true rfl⟩ dX9_item_180) hG [] rfl rfl rfl (fun H locs hG => ?_)
                        clear hz_47
                        refine lv_if_eq (tgt := 196) hx hb dX9_item_183 (by decide) (fun c_48 => ?_) (fun c_48 => ?_)
                        · have h := ite_t h c_48
                          refine lv_iconst (v := (0 : Int32)) hx hb dX9_item_196 (by decide) ?_
                          cases h
                          exact ret _ _ _ _ dX9_item_197 (by decide) hG
                        · have h := ite_f h c_48
                          refine lv_aload_n hx hb dX9_item_186 rfl (lv_at hl 1 rfl) ?_
                          refine r_get X hG in_X9 rfl 20 (by decide) w_651 0 rfl rfl dX9_item_187 ?_
                          refine lv_iconst (v := (3 : Int32)) hx hb dX9_item_190 (by decide) ?_
                          refine r_iald X hG 17 rfl (vpd (by decide)) dX9_item_191 ?_
                          refine lv_iconst (v := (3 : Int32)) hx hb dX9_item_192 (by decide) ?_
                          refine lv_icmp_le (tgt := 198) hx hb dX9_item_193 (by decide) (fun c_49 => ?_) (fun c_49 => ?_)
                          · have h := ite_t h c_49
                            refine lv_aload_n hx hb dX9_item_198 rfl (lv_at hl 1 rfl) ?_
                            refine r_get X hG in_X9 rfl 12 (by decide) w_643 0 rfl rfl dX9_item_199 ?_
                            refine lv_bipush (v := (7 : Int32)) hx hb dX9_item_202 (by decide) ?_
                            refine lv_aload_n hx hb dX9_item_204 rfl (lv_at hl 1 rfl) ?_
                            refine r_get X hG in_X9 rfl 11 (by decide) w_642 0 rfl rfl dX9_item_205 ?_
                            refine lv_iconst (v := (1 : Int32)) hx hb dX9_item_208 (by decide) ?_
                            refine r_iald X hG 11 rfl (vpd (by decide)) dX9_item_209 ?_
                            refine lv_iadd hx hb dX9_item_210 ?_
                            refine lv_aload_n hx hb dX9_item_211 rfl (lv_at hl 1 rfl) ?_
                            refine r_get X hG in_X9 rfl 20 (by decide) w_651 0 rfl rfl dX9_item_212 ?_
                            refine lv_iconst (v := (0 : Int32)) hx hb dX9_item_215 (by decide) ?_
                            refine r_iald X hG 17 rfl (vpd (by decide)) dX9_item_216 ?_
                            obtain ⟨g_50, h⟩ := gd h
                            refine r_iast X hG 12 (ws' := (W_X9 a cI cJ c_length c_text c_stands c_homeFar c_nets c_netAt c_netWide c_netFrom c_netTo c_priceX c_priceY c_many (upd c_days ((7 : Int32) + (c_many (1 : Int32).toNatClampNeg)).toNatClampNeg (k_told_40 (0 : Int32).toNatClampNeg)) c_aims c_speeds c_kinds c_keptMany c_undoMany c_undos k_spot_39 k_told_40 c_to c_stood c_home c_lost c_out c_fewest c_ways c_next c_held)) rfl g_50 rfl dX9_item_217 (fun H locs hG => ?_)
                            refine lv_aload_n hx hb dX9_item_218 rfl (lv_at hl 1 rfl) ?_
                            refine r_get X hG in_X9 rfl 13 (by decide) w_644 0 rfl rfl dX9_item_219 ?_
                            refine lv_bipush (v := (7 : Int32)) hx hb dX9_item_222 (by decide) ?_
                            refine lv_aload_n hx hb dX9_item_224 rfl (lv_at hl 1 rfl) ?_
                            refine r_get X hG in_X9 rfl 11 (by decide) w_642 0 rfl rfl dX9_item_225 ?_
                            refine lv_iconst (v := (1 : Int32)) hx hb dX9_item_228 (by decide) ?_
                            refine r_iald X hG 11 rfl (vpd (by decide)) dX9_item_229 ?_
                            refine lv_iadd hx hb dX9_item_230 ?_
                            refine lv_aload_n hx hb dX9_item_231 rfl (lv_at hl 1 rfl) ?_
                            refine r_get X hG in_X9 rfl 20 (by decide) w_651 0 rfl rfl dX9_item_232 ?_
                            refine lv_iconst (v := (1 : Int32)) hx hb dX9_item_235 (by decide) ?_
                            refine r_iald X hG 17 rfl (vpd (by decide)) dX9_item_236 ?_
                            obtain ⟨g_51, h⟩ := gd h
                            refine r_iast X hG 13 (ws' := (W_X9 a cI cJ c_length c_text c_stands c_homeFar c_nets c_netAt c_netWide c_netFrom c_netTo c_priceX c_priceY c_many (upd c_days ((7 : Int32) + (c_many (1 : Int32).toNatClampNeg)).toNatClampNeg (k_told_40 (0 : Int32).toNatClampNeg)) (upd c_aims ((7 : Int32) + (c_many (1 : Int32).toNatClampNeg)).toNatClampNeg (k_told_40 (1 : Int32).toNatClampNeg)) c_speeds c_kinds c_keptMany c_undoMany c_undos k_spot_39 k_told_40 c_to c_stood c_home c_lost c_out c_fewest c_ways c_next c_held)) rfl g_51 rfl dX9_item_237 (fun H locs hG => ?_)
                            refine lv_aload_n hx hb dX9_item_238 rfl (lv_at hl 1 rfl) ?_
                            refine r_get X hG in_X9 rfl 14 (by decide) w_645 0 rfl rfl dX9_item_239 ?_
                            refine lv_bipush (v := (7 : Int32)) hx hb dX9_item_242 (by decide) ?_
                            refine lv_aload_n hx hb dX9_item_244 rfl (lv_at hl 1 rfl) ?_
                            refine r_get X hG in_X9 rfl 11 (by decide) w_642 0 rfl rfl dX9_item_245 ?_
                            refine lv_iconst (v := (1 : Int32)) hx hb dX9_item_248 (by decide) ?_
                            refine r_iald X hG 11 rfl (vpd (by decide)) dX9_item_249 ?_
                            refine lv_iadd hx hb dX9_item_250 ?_
                            refine lv_aload_n hx hb dX9_item_251 rfl (lv_at hl 1 rfl) ?_
                            refine r_get X hG in_X9 rfl 20 (by decide) w_651 0 rfl rfl dX9_item_252 ?_
                            refine lv_iconst (v := (2 : Int32)) hx hb dX9_item_255 (by decide) ?_
                            refine r_iald X hG 17 rfl (vpd (by decide)) dX9_item_256 ?_
                            obtain ⟨g_52, h⟩ := gd h
                            refine r_iast X hG 14 (ws' := (W_X9 a cI cJ c_length c_text c_stands c_homeFar c_nets c_netAt c_netWide c_netFrom c_netTo c_priceX c_priceY c_many (upd c_days ((7 : Int32) + (c_many (1 : Int32).toNatClampNeg)).toNatClampNeg (k_told_40 (0 : Int32).toNatClampNeg)) (upd c_aims ((7 : Int32) + (c_many (1 : Int32).toNatClampNeg)).toNatClampNeg (k_told_40 (1 : Int32).toNatClampNeg)) (upd c_speeds ((7 : Int32) + (c_many (1 : Int32).toNatClampNeg)).toNatClampNeg (k_told_40 (2 : Int32).toNatClampNeg)) c_kinds c_keptMany c_undoMany c_undos k_spot_39 k_told_40 c_to c_stood c_home c_lost c_out c_fewest c_ways c_next c_held)) rfl g_52 rfl dX9_item_257 (fun H locs hG => ?_)
                            refine lv_aload_n hx hb dX9_item_258 rfl (lv_at hl 1 rfl) ?_
                            refine r_get X hG in_X9 rfl 15 (by decide) w_646 0 rfl rfl dX9_item_259 ?_
                            refine lv_bipush (v := (7 : Int32)) hx hb dX9_item_262 (by decide) ?_
                            refine lv_aload_n hx hb dX9_item_264 rfl (lv_at hl 1 rfl) ?_
                            refine r_get X hG in_X9 rfl 11 (by decide) w_642 0 rfl rfl dX9_item_265 ?_
                            refine lv_iconst (v := (1 : Int32)) hx hb dX9_item_268 (by decide) ?_
                            refine r_iald X hG 11 rfl (vpd (by decide)) dX9_item_269 ?_
                            refine lv_iadd hx hb dX9_item_270 ?_
                            refine lv_aload_n hx hb dX9_item_271 rfl (lv_at hl 1 rfl) ?_
                            refine r_get X hG in_X9 rfl 20 (by decide) w_651 0 rfl rfl dX9_item_272 ?_
                            refine lv_iconst (v := (3 : Int32)) hx hb dX9_item_275 (by decide) ?_
                            refine r_iald X hG 17 rfl (vpd (by decide)) dX9_item_276 ?_
                            obtain ⟨g_53, h⟩ := gd h
                            refine r_iast X hG 15 (ws' := (W_X9 a cI cJ c_length c_text c_stands c_homeFar c_nets c_netAt c_netWide c_netFrom c_netTo c_priceX c_priceY c_many (upd c_days ((7 : Int32) + (c_many (1 : Int32).toNatClampNeg)).toNatClampNeg (k_told_40 (0 : Int32).toNatClampNeg)) (upd c_aims ((7 : Int32) + (c_many (1 : Int32).toNatClampNeg)).toNatClampNeg (k_told_40 (1 : Int32).toNatClampNeg)) (upd c_speeds ((7 : Int32) + (c_many (1 : Int32).toNatClampNeg)).toNatClampNeg (k_told_40 (2 : Int32).toNatClampNeg)) (upd c_kinds ((7 : Int32) + (c_many (1 : Int32).toNatClampNeg)).toNatClampNeg (k_told_40 (3 : Int32).toNatClampNeg)) c_keptMany c_undoMany c_undos k_spot_39 k_told_40 c_to c_stood c_home c_lost c_out c_fewest c_ways c_next c_held)) rfl g_53 rfl dX9_item_277 (fun H locs hG => ?_)
                            refine lv_aload_n hx hb dX9_item_278 rfl (lv_at hl 1 rfl) ?_
                            refine r_get X hG in_X9 rfl 11 (by decide) w_642 0 rfl rfl dX9_item_279 ?_
                            refine lv_iconst (v := (1 : Int32)) hx hb dX9_item_282 (by decide) ?_
                            refine lv_dup2_11 hx hb dX9_item_283 rfl rfl ?_
                            refine r_iald X hG 11 rfl (vpd (by decide)) dX9_item_284 ?_
                            refine lv_iconst (v := (1 : Int32)) hx hb dX9_item_285 (by decide) ?_
                            refine lv_iadd hx hb dX9_item_286 ?_
                            refine r_iast X hG 11 (ws' := (W_X9 a cI cJ c_length c_text c_stands c_homeFar c_nets c_netAt c_netWide c_netFrom c_netTo c_priceX c_priceY (upd c_many (1 : Int32).toNatClampNeg ((c_many (1 : Int32).toNatClampNeg) + (1 : Int32))) (upd c_days ((7 : Int32) + (c_many (1 : Int32).toNatClampNeg)).toNatClampNeg (k_told_40 (0 : Int32).toNatClampNeg)) (upd c_aims ((7 : Int32) + (c_many (1 : Int32).toNatClampNeg)).toNatClampNeg (k_told_40 (1 : Int32).toNatClampNeg)) (upd c_speeds ((7 : Int32) + (c_many (1 : Int32).toNatClampNeg)).toNatClampNeg (k_told_40 (2 : Int32).toNatClampNeg)) (upd c_kinds ((7 : Int32) + (c_many (1 : Int32).toNatClampNeg)).toNatClampNeg (k_told_40 (3 : Int32).toNatClampNeg)) c_keptMany c_undoMany c_undos k_spot_39 k_told_40 c_to c_stood c_home c_lost c_out c_fewest c_ways c_next c_held)) rfl (vpd (by decide)) rfl dX9_item_287 (fun H locs hG => ?_)
                            refine lv_iconst (v := (1 : Int32)) hx hb dX9_item_288 (by decide) ?_
                            cases h
                            exact ret _ _ _ _ dX9_item_289 (by decide) hG
                          · have h := ite_f h c_49
                            refine lv_iconst (v := (0 : Int32)) hx hb dX9_item_196 (by decide) ?_
                            cases h
                            exact ret _ _ _ _ dX9_item_197 (by decide) hG
              · have h := ite_f h c_37
                refine lv_tableOut (tgt := 481) hx hb dX9_item_20 (by have := lv_neT c_3 (a := 110) rfl; have := lv_neT c_16 (a := 111) rfl; have := lv_neT c_17 (a := 112) rfl; have := lv_neT c_25 (a := 113) rfl; have := lv_neT c_26 (a := 114) rfl; have := lv_neT c_36 (a := 115) rfl; have := lv_neT c_37 (a := 116) rfl; omega) (by decide) ?_
                refine lv_iconst (v := (0 : Int32)) hx hb dX9_item_481 (by decide) ?_
                cases h
                exact ret _ _ _ _ dX9_item_482 (by decide) hG
set_option maxRecDepth 100000 in
set_option maxHeartbeats 4000000 in
theorem mX9_readAll (l : Launch) (dC : Nat → ClassId) (dI : Nat → Nat → Nat) (cI cJ : ClassId) (a : Nat → Nat) (c_length : Int32) (c_text : Nat → Int32) (c_stands : Nat → Int32) (c_homeFar : Nat → Int32) (c_nets : Nat → Int32) (c_netAt : Nat → Int32) (c_netWide : Nat → Int32) (c_netFrom : Nat → Int32) (c_netTo : Nat → Int32) (c_priceX : Nat → Int32) (c_priceY : Nat → Int32) (c_many : Nat → Int32) (c_days : Nat → Int32) (c_aims : Nat → Int32) (c_speeds : Nat → Int32) (c_kinds : Nat → Int32) (c_keptMany : Int32) (c_undoMany : Int32) (c_undos : Nat → Int32) (c_spot : Int32) (c_told : Nat → Int32) (c_to : Nat → Int32) (c_stood : Nat → Int32) (c_home : Nat → Int32) (c_lost : Nat → Int32) (c_out : Int32) (c_fewest : Nat → Int32) (c_ways : Nat → Int64) (c_next : Nat → Int64) (c_held : Nat → Int32) {res : Int32} {n_stands : Nat → Int32} {n_homeFar : Nat → Int32} {n_nets : Nat → Int32} {n_netAt : Nat → Int32} {n_netWide : Nat → Int32} {n_netFrom : Nat → Int32} {n_netTo : Nat → Int32} {n_priceX : Nat → Int32} {n_priceY : Nat → Int32} {n_many : Nat → Int32} {n_days : Nat → Int32} {n_aims : Nat → Int32} {n_speeds : Nat → Int32} {n_kinds : Nat → Int32} {n_spot : Int32} {n_told : Nat → Int32} (hD : DX9_readAll c_length c_text c_stands c_homeFar c_nets c_netAt c_netWide c_netFrom c_netTo c_priceX c_priceY c_many c_days c_aims c_speeds c_kinds c_told = some (res, n_stands, n_homeFar, n_nets, n_netAt, n_netWide, n_netFrom, n_netTo, n_priceX, n_priceY, n_many, n_days, n_aims, n_speeds, n_kinds, n_spot, n_told)) : Met l yX9_readAll (WZ yX9_readAll cX9_readAll 2 (some .int)) (RM 3 70) (PC dC dI cI cJ [.ref (a 0)] (W_X9 a cI cJ c_length c_text c_stands c_homeFar c_nets c_netAt c_netWide c_netFrom c_netTo c_priceX c_priceY c_many c_days c_aims c_speeds c_kinds c_keptMany c_undoMany c_undos c_spot c_told c_to c_stood c_home c_lost c_out c_fewest c_ways c_next c_held)) (QI dC dI (W_X9 a cI cJ c_length c_text c_stands c_homeFar c_nets c_netAt c_netWide c_netFrom c_netTo c_priceX c_priceY c_many c_days c_aims c_speeds c_kinds c_keptMany c_undoMany c_undos c_spot c_told c_to c_stood c_home c_lost c_out c_fewest c_ways c_next c_held) (W_X9 a cI cJ c_length c_text n_stands n_homeFar n_nets n_netAt n_netWide n_netFrom n_netTo n_priceX n_priceY n_many n_days n_aims n_speeds n_kinds c_keptMany c_undoMany c_undos n_spot n_told c_to c_stood c_home c_lost c_out c_fewest c_ways c_next c_held) res) 0 0 (FA (W_X9 a cI cJ c_length c_text c_stands c_homeFar c_nets c_netAt c_netWide c_netFrom c_netTo c_priceX c_priceY c_many c_days c_aims c_speeds c_kinds c_keptMany c_undoMany c_undos c_spot c_told c_to c_stood c_home c_lost c_out c_fewest c_ways c_next c_held)) := by
  refine r_metI (by decide +kernel) (Nat.le_of_ble_eq_true rfl) ?_
  intro p e s m args below meth c A H0 QQ X ret ls hl hG
  have X : Cx p m c cX9_readAll 2 s args RX9 dC dI cI cJ meth (some .int) := X
  have hx := X.1.1
  have hb := X.1.2.1
  have hl : lv_has ls 2 [(0, .ref (a 0))] := hl
  have L10 : ∀ (n : Nat) (c_stands : Nat → Int32) (c_homeFar : Nat → Int32) (c_nets : Nat → Int32) (c_netAt : Nat → Int32) (c_netWide : Nat → Int32) (c_netFrom : Nat → Int32) (c_netTo : Nat → Int32) (c_priceX : Nat → Int32) (c_priceY : Nat → Int32) (c_many : Nat → Int32) (c_days : Nat → Int32) (c_aims : Nat → Int32) (c_speeds : Nat → Int32) (c_kinds : Nat → Int32) (c_spot : Int32) (c_told : Nat → Int32) (v : ((Nat → Int32) × (Nat → Int32) × (Nat → Int32) × (Nat → Int32) × (Nat → Int32) × (Nat → Int32) × (Nat → Int32) × (Nat → Int32) × (Nat → Int32) × (Nat → Int32) × (Nat → Int32) × (Nat → Int32) × (Nat → Int32) × (Nat → Int32) × Int32 × (Nat → Int32)) ⊕ (Int32 × (Nat → Int32) × (Nat → Int32) × (Nat → Int32) × (Nat → Int32) × (Nat → Int32) × (Nat → Int32) × (Nat → Int32) × (Nat → Int32) × (Nat → Int32) × (Nat → Int32) × (Nat → Int32) × (Nat → Int32) × (Nat → Int32) × (Nat → Int32) × Int32 × (Nat → Int32))), DX9_readAll_L10 c_length c_text n c_stands c_homeFar c_nets c_netAt c_netWide c_netFrom c_netTo c_priceX c_priceY c_many c_days c_aims c_speeds c_kinds c_spot c_told = some v → (∀ (ec_stands : Nat → Int32) (ec_homeFar : Nat → Int32) (ec_nets : Nat → Int32) (ec_netAt : Nat → Int32) (ec_netWide : Nat → Int32) (ec_netFrom : Nat → Int32) (ec_netTo : Nat → Int32) (ec_priceX : Nat → Int32) (ec_priceY : Nat → Int32) (ec_many : Nat → Int32) (ec_days : Nat → Int32) (ec_aims : Nat → Int32) (ec_speeds : Nat → Int32) (ec_kinds : Nat → Int32) (ec_spot : Int32) (ec_told : Nat → Int32), v = .inl (ec_stands, ec_homeFar, ec_nets, ec_netAt, ec_netWide, ec_netFrom, ec_netTo, ec_priceX, ec_priceY, ec_many, ec_days, ec_aims, ec_speeds, ec_kinds, ec_spot, ec_told) → ∀ (ls : Array Slot) (H : Heap) (locs : List Loc), lv_has ls 2 [] → G dC dI A H0 (W_X9 a cI cJ c_length c_text ec_stands ec_homeFar ec_nets ec_netAt ec_netWide ec_netFrom ec_netTo ec_priceX ec_priceY ec_many ec_days ec_aims ec_speeds ec_kinds c_keptMany c_undoMany c_undos ec_spot ec_told c_to c_stood c_home c_lost c_out c_fewest c_ways c_next c_held) H locs → W p l e (RM 3 70) s m args below meth c H locs 0 0 QQ (F0 m 38 ls [])) → (∀ (r : Int32 × (Nat → Int32) × (Nat → Int32) × (Nat → Int32) × (Nat → Int32) × (Nat → Int32) × (Nat → Int32) × (Nat → Int32) × (Nat → Int32) × (Nat → Int32) × (Nat → Int32) × (Nat → Int32) × (Nat → Int32) × (Nat → Int32) × (Nat → Int32) × Int32 × (Nat → Int32)), v = .inr r → r = (res, n_stands, n_homeFar, n_nets, n_netAt, n_netWide, n_netFrom, n_netTo, n_priceX, n_priceY, n_many, n_days, n_aims, n_speeds, n_kinds, n_spot, n_told)) → ∀ (ls : Array Slot) (H : Heap) (locs : List Loc), lv_has ls 2 [(0, .ref (a 0))] → G dC dI A H0 (W_X9 a cI cJ c_length c_text c_stands c_homeFar c_nets c_netAt c_netWide c_netFrom c_netTo c_priceX c_priceY c_many c_days c_aims c_speeds c_kinds c_keptMany c_undoMany c_undos c_spot c_told c_to c_stood c_home c_lost c_out c_fewest c_ways c_next c_held) H locs → W p l e (RM 3 70) s m args below meth c H locs 0 0 QQ (F0 m 10 ls []) := by
    intro  n
    induction n with
    | zero => intro c_stands c_homeFar c_nets c_netAt c_netWide c_netFrom c_netTo c_priceX c_priceY c_many c_days c_aims c_speeds c_kinds c_spot c_told v h; exact it_zero h
    | succ n ih =>
      intro c_stands c_homeFar c_nets c_netAt c_netWide c_netFrom c_netTo c_priceX c_priceY c_many c_days c_aims c_speeds c_kinds c_spot c_told v h0 K0 KR0 ls H locs hl hG
      obtain ⟨w, h, hi, hr⟩ := it_succ h0
      have h : DX9_readAll_L10s c_length c_text c_stands c_homeFar c_nets c_netAt c_netWide c_netFrom c_netTo c_priceX c_priceY c_many c_days c_aims c_speeds c_kinds c_spot c_told = some w := h
      have KC : ∀ (c_stands : Nat → Int32) (c_homeFar : Nat → Int32) (c_nets : Nat → Int32) (c_netAt : Nat → Int32) (c_netWide : Nat → Int32) (c_netFrom : Nat → Int32) (c_netTo : Nat → Int32) (c_priceX : Nat → Int32) (c_priceY : Nat → Int32) (c_many : Nat → Int32) (c_days : Nat → Int32) (c_aims : Nat → Int32) (c_speeds : Nat → Int32) (c_kinds : Nat → Int32) (c_spot : Int32) (c_told : Nat → Int32), w = .inl (c_stands, c_homeFar, c_nets, c_netAt, c_netWide, c_netFrom, c_netTo, c_priceX, c_priceY, c_many, c_days, c_aims, c_speeds, c_kinds, c_spot, c_told) → ∀ (ls : Array Slot) (H : Heap) (locs : List Loc), lv_has ls 2 [(0, .ref (a 0))] → G dC dI A H0 (W_X9 a cI cJ c_length c_text c_stands c_homeFar c_nets c_netAt c_netWide c_netFrom c_netTo c_priceX c_priceY c_many c_days c_aims c_speeds c_kinds c_keptMany c_undoMany c_undos c_spot c_told c_to c_stood c_home c_lost c_out c_fewest c_ways c_next c_held) H locs → W p l e (RM 3 70) s m args below meth c H locs 0 0 QQ (F0 m 10 ls []) := fun b0 b1 b2 b3 b4 b5 b6 b7 b8 b9 b10 b11 b12 b13 b14 b15 e ls H locs hl hG => ih b0 b1 b2 b3 b4 b5 b6 b7 b8 b9 b10 b11 b12 b13 b14 b15 v (hi _ e) K0 KR0 ls H locs hl hG
      have KX : ∀ (c_stands : Nat → Int32) (c_homeFar : Nat → Int32) (c_nets : Nat → Int32) (c_netAt : Nat → Int32) (c_netWide : Nat → Int32) (c_netFrom : Nat → Int32) (c_netTo : Nat → Int32) (c_priceX : Nat → Int32) (c_priceY : Nat → Int32) (c_many : Nat → Int32) (c_days : Nat → Int32) (c_aims : Nat → Int32) (c_speeds : Nat → Int32) (c_kinds : Nat → Int32) (c_spot : Int32) (c_told : Nat → Int32), w = .inr (.inl (c_stands, c_homeFar, c_nets, c_netAt, c_netWide, c_netFrom, c_netTo, c_priceX, c_priceY, c_many, c_days, c_aims, c_speeds, c_kinds, c_spot, c_told)) → ∀ (ls : Array Slot) (H : Heap) (locs : List Loc), lv_has ls 2 [] → G dC dI A H0 (W_X9 a cI cJ c_length c_text c_stands c_homeFar c_nets c_netAt c_netWide c_netFrom c_netTo c_priceX c_priceY c_many c_days c_aims c_speeds c_kinds c_keptMany c_undoMany c_undos c_spot c_told c_to c_stood c_home c_lost c_out c_fewest c_ways c_next c_held) H locs → W p l e (RM 3 70) s m args below meth c H locs 0 0 QQ (F0 m 38 ls []) := fun b0 b1 b2 b3 b4 b5 b6 b7 b8 b9 b10 b11 b12 b13 b14 b15 e ls H locs hl hG => K0 b0 b1 b2 b3 b4 b5 b6 b7 b8 b9 b10 b11 b12 b13 b14 b15 (hr _ e) ls H locs hl hG
      have KR : ∀ (r : Int32 × (Nat → Int32) × (Nat → Int32) × (Nat → Int32) × (Nat → Int32) × (Nat → Int32) × (Nat → Int32) × (Nat → Int32) × (Nat → Int32) × (Nat → Int32) × (Nat → Int32) × (Nat → Int32) × (Nat → Int32) × (Nat → Int32) × (Nat → Int32) × Int32 × (Nat → Int32)), w = .inr (.inr r) → r = (res, n_stands, n_homeFar, n_nets, n_netAt, n_netWide, n_netFrom, n_netTo, n_priceX, n_priceY, n_many, n_days, n_aims, n_speeds, n_kinds, n_spot, n_told) := fun r e => KR0 r (hr _ e)
      clear h0 hi hr K0 ih KR0
      unfold DX9_readAll_L10s at h
      refine lv_aload_n hx hb dX9_readAll_10 rfl (lv_at hl 0 rfl) ?_
      refine r_get X hG in_X9 rfl 19 (by decide) w_650 0 rfl rfl dX9_readAll_11 ?_
      refine lv_aload_n hx hb dX9_readAll_14 rfl (lv_at hl 0 rfl) ?_
      refine r_get X hG in_X9 rfl 0 (by decide) w_631 0 rfl rfl dX9_readAll_15 ?_
      refine lv_icmp_ge (tgt := 38) hx hb dX9_readAll_18 (by decide) (fun c_8 => ?_) (fun c_8 => ?_)
      · have h := ite_t h c_8
        exact KX _ _ _ _ _ _ _ _ _ _ _ _ _ _ _ _ (Option.some.inj h).symm _ _ _ (lv_sub hl [] rfl) hG
      · have h := ite_f h c_8
        refine lv_aload_n hx hb dX9_readAll_21 rfl (lv_at hl 0 rfl) ?_
        refine r_get X hG in_X9 rfl 19 (by decide) w_650 0 rfl rfl dX9_readAll_22 ?_
        refine lv_istore_n (lv' := [(1, .int c_spot), (0, .ref (a 0))]) hx hb dX9_readAll_25 rfl hl (by decide) rfl (fun ls hl => ?_)
        refine lv_aload_n hx hb dX9_readAll_26 rfl (lv_at hl 1 rfl) ?_
        obtain ⟨r_9, k_stands_10, k_homeFar_11, k_nets_12, k_netAt_13, k_netWide_14, k_netFrom_15, k_netTo_16, k_priceX_17, k_priceY_18, k_many_19, k_days_20, k_aims_21, k_speeds_22, k_kinds_23, k_spot_24, k_told_25, hz_26, h⟩ := bd17_some h
        refine aft_i1 (run_V1 (rest := []) X hG hl.1 (mX9_item l dC dI cI cJ a c_length c_text c_stands c_homeFar c_nets c_netAt c_netWide c_netFrom c_netTo c_priceX c_priceY c_many c_days c_aims c_speeds c_kinds c_keptMany c_undoMany c_undos c_spot c_told c_to c_stood c_home c_lost c_out c_fewest c_ways c_next c_held hz_26) gi_V_X9_123 hd_V_yX9_item ⟨rfl, rfl⟩ rfl ⟨Nat.le_of_ble_eq_true rfl, Nat.le_of_ble_eq_true rfl⟩ 0 rfl rfl rfl rfl (Nat.le_of_ble_eq_true rfl) ⟨Nat.le_of_ble_eq_true rfl, Nat.le_of_ble_eq_true rfl⟩ dX9_readAll_27) hG rfl (fun H locs hG => ?_)
        clear hz_26
        refine lv_if_ne (tgt := 35) hx hb dX9_readAll_30 (by decide) (fun c_27 => ?_) (fun c_27 => ?_)
        · have h := ite_f h c_27
          refine lv_goto (tgt := 10) hx hb dX9_readAll_35 (by decide) ?_
          exact KC _ _ _ _ _ _ _ _ _ _ _ _ _ _ _ _ (Option.some.inj h).symm _ _ _ (lv_sub hl [1] rfl) hG
        · have h := ite_t h c_27
          refine lv_iload_n hx hb dX9_readAll_33 rfl (lv_at hl 0 rfl) ?_
          cases KR _ (Option.some.inj h).symm
          exact ret _ _ _ _ dX9_readAll_34 hG
  have h := hD
  unfold DX9_readAll at h
  clear hD
  refine lv_aload_n hx hb dX9_readAll_0 rfl (lv_at hl 0 rfl) ?_
  refine lv_iconst (v := (1 : Int32)) hx hb dX9_readAll_1 (by decide) ?_
  obtain ⟨k_stands_1, k_homeFar_2, k_nets_3, k_priceX_4, k_priceY_5, k_many_6, hz_7, h⟩ := bd6_some h
  refine aft_v1 (run_V1 (rest := []) X hG hl.1 (mX9_noRock l dC dI cI cJ a c_length c_text c_stands c_homeFar c_nets c_netAt c_netWide c_netFrom c_netTo c_priceX c_priceY c_many c_days c_aims c_speeds c_kinds c_keptMany c_undoMany c_undos c_spot c_told c_to c_stood c_home c_lost c_out c_fewest c_ways c_next c_held (1 : Int32) hz_7) gi_V_X9_86 hd_V_yX9_noRock ⟨rfl, rfl⟩ rfl ⟨Nat.le_of_ble_eq_true rfl, Nat.le_of_ble_eq_true rfl⟩ 0 rfl rfl rfl rfl (Nat.le_of_ble_eq_true rfl) ⟨Nat.le_of_ble_eq_true rfl, Nat.le_of_ble_eq_true rfl⟩ dX9_readAll_2) hG rfl (fun H locs hG => ?_)
  clear hz_7
  refine lv_aload_n hx hb dX9_readAll_5 rfl (lv_at hl 0 rfl) ?_
  refine lv_iconst (v := (0 : Int32)) hx hb dX9_readAll_6 (by decide) ?_
  refine r_put X hG in_X9 rfl tyX9 tyX9_ok nmX9 19 (by decide) rfl (by decide +kernel) w_650 0 (ws' := (W_X9 a cI cJ c_length c_text k_stands_1 k_homeFar_2 k_nets_3 c_netAt c_netWide c_netFrom c_netTo k_priceX_4 k_priceY_5 k_many_6 c_days c_aims c_speeds c_kinds c_keptMany c_undoMany c_undos (0 : Int32) c_told c_to c_stood c_home c_lost c_out c_fewest c_ways c_next c_held)) rfl (Nat.le_of_ble_eq_true rfl) rfl dX9_readAll_7 (fun H locs hG => ?_)
  rcases el16_some h with ⟨k_stands_28, k_homeFar_29, k_nets_30, k_netAt_31, k_netWide_32, k_netFrom_33, k_netTo_34, k_priceX_35, k_priceY_36, k_many_37, k_days_38, k_aims_39, k_speeds_40, k_kinds_41, k_spot_42, k_told_43, hz, h⟩ | ⟨r, hz, h⟩
  · refine L10  FU k_stands_1 k_homeFar_2 k_nets_3 c_netAt c_netWide c_netFrom c_netTo k_priceX_4 k_priceY_5 k_many_6 c_days c_aims c_speeds c_kinds (0 : Int32) c_told _ hz ?_ (fun r e => by cases e) _ _ _ (lv_sub hl [0] rfl) hG
    rintro _ _ _ _ _ _ _ _ _ _ _ _ _ _ _ _ ⟨⟩ ls H locs hl hG
    clear hz
    refine lv_bipush (v := (-4 : Int32)) hx hb dX9_readAll_38 (by decide) ?_
    cases h
    exact ret _ _ _ _ dX9_readAll_40 hG
  · refine L10  FU k_stands_1 k_homeFar_2 k_nets_3 c_netAt c_netWide c_netFrom c_netTo k_priceX_4 k_priceY_5 k_many_6 c_days c_aims c_speeds c_kinds (0 : Int32) c_told _ hz (fun _ _ _ _ _ _ _ _ _ _ _ _ _ _ _ _ e => by cases e) (fun r2 e => ?_) _ _ _ (lv_sub hl [0] rfl) hG
    cases e; cases h; rfl
set_option maxRecDepth 100000 in
set_option maxHeartbeats 4000000 in
theorem mX9_fault (l : Launch) (dC : Nat → ClassId) (dI : Nat → Nat → Nat) (cI cJ : ClassId) (a : Nat → Nat) (c_length : Int32) (c_text : Nat → Int32) (c_stands : Nat → Int32) (c_homeFar : Nat → Int32) (c_nets : Nat → Int32) (c_netAt : Nat → Int32) (c_netWide : Nat → Int32) (c_netFrom : Nat → Int32) (c_netTo : Nat → Int32) (c_priceX : Nat → Int32) (c_priceY : Nat → Int32) (c_many : Nat → Int32) (c_days : Nat → Int32) (c_aims : Nat → Int32) (c_speeds : Nat → Int32) (c_kinds : Nat → Int32) (c_keptMany : Int32) (c_undoMany : Int32) (c_undos : Nat → Int32) (c_spot : Int32) (c_told : Nat → Int32) (c_to : Nat → Int32) (c_stood : Nat → Int32) (c_home : Nat → Int32) (c_lost : Nat → Int32) (c_out : Int32) (c_fewest : Nat → Int32) (c_ways : Nat → Int64) (c_next : Nat → Int64) (c_held : Nat → Int32) {res : Int32} {n_stands : Nat → Int32} {n_homeFar : Nat → Int32} {n_nets : Nat → Int32} {n_netAt : Nat → Int32} {n_netWide : Nat → Int32} {n_netFrom : Nat → Int32} {n_netTo : Nat → Int32} {n_priceX : Nat → Int32} {n_priceY : Nat → Int32} {n_many : Nat → Int32} {n_days : Nat → Int32} {n_aims : Nat → Int32} {n_speeds : Nat → Int32} {n_kinds : Nat → Int32} {n_spot : Int32} {n_told : Nat → Int32} (hD : DX9_fault c_length c_text c_stands c_homeFar c_nets c_netAt c_netWide c_netFrom c_netTo c_priceX c_priceY c_many c_days c_aims c_speeds c_kinds c_told = some (res, n_stands, n_homeFar, n_nets, n_netAt, n_netWide, n_netFrom, n_netTo, n_priceX, n_priceY, n_many, n_days, n_aims, n_speeds, n_kinds, n_spot, n_told)) : Met l yX9_fault (WZ yX9_fault cX9_fault 1 (some .int)) (RM 4 91) (PC dC dI cI cJ [.ref (a 0)] (W_X9 a cI cJ c_length c_text c_stands c_homeFar c_nets c_netAt c_netWide c_netFrom c_netTo c_priceX c_priceY c_many c_days c_aims c_speeds c_kinds c_keptMany c_undoMany c_undos c_spot c_told c_to c_stood c_home c_lost c_out c_fewest c_ways c_next c_held)) (QI dC dI (W_X9 a cI cJ c_length c_text c_stands c_homeFar c_nets c_netAt c_netWide c_netFrom c_netTo c_priceX c_priceY c_many c_days c_aims c_speeds c_kinds c_keptMany c_undoMany c_undos c_spot c_told c_to c_stood c_home c_lost c_out c_fewest c_ways c_next c_held) (W_X9 a cI cJ c_length c_text n_stands n_homeFar n_nets n_netAt n_netWide n_netFrom n_netTo n_priceX n_priceY n_many n_days n_aims n_speeds n_kinds c_keptMany c_undoMany c_undos n_spot n_told c_to c_stood c_home c_lost c_out c_fewest c_ways c_next c_held) res) 0 0 (FA (W_X9 a cI cJ c_length c_text c_stands c_homeFar c_nets c_netAt c_netWide c_netFrom c_netTo c_priceX c_priceY c_many c_days c_aims c_speeds c_kinds c_keptMany c_undoMany c_undos c_spot c_told c_to c_stood c_home c_lost c_out c_fewest c_ways c_next c_held)) := by
  refine r_metI (by decide +kernel) (Nat.le_of_ble_eq_true rfl) ?_
  intro p e s m args below meth c A H0 QQ X ret ls hl hG
  have X : Cx p m c cX9_fault 1 s args RX9 dC dI cI cJ meth (some .int) := X
  have hx := X.1.1
  have hb := X.1.2.1
  have hl : lv_has ls 1 [(0, .ref (a 0))] := hl
  have h := hD
  unfold DX9_fault at h
  clear hD
  refine lv_aload_n hx hb dX9_fault_0 rfl (lv_at hl 0 rfl) ?_
  obtain ⟨r_1, k_stands_2, k_homeFar_3, k_nets_4, k_netAt_5, k_netWide_6, k_netFrom_7, k_netTo_8, k_priceX_9, k_priceY_10, k_many_11, k_days_12, k_aims_13, k_speeds_14, k_kinds_15, k_spot_16, k_told_17, hz_18, h⟩ := bd17_some h
  refine aft_i1 (run_V1 (rest := []) X hG hl.1 (mX9_readAll l dC dI cI cJ a c_length c_text c_stands c_homeFar c_nets c_netAt c_netWide c_netFrom c_netTo c_priceX c_priceY c_many c_days c_aims c_speeds c_kinds c_keptMany c_undoMany c_undos c_spot c_told c_to c_stood c_home c_lost c_out c_fewest c_ways c_next c_held hz_18) gi_V_X9_127 hd_V_yX9_readAll ⟨rfl, rfl⟩ rfl ⟨Nat.le_of_ble_eq_true rfl, Nat.le_of_ble_eq_true rfl⟩ 0 rfl rfl rfl rfl (Nat.le_of_ble_eq_true rfl) ⟨Nat.le_of_ble_eq_true rfl, Nat.le_of_ble_eq_true rfl⟩ dX9_fault_1) hG rfl (fun H locs hG => ?_)
  clear hz_18
  cases h
  exact ret _ _ _ _ dX9_fault_4 hG
set_option maxRecDepth 100000 in
set_option maxHeartbeats 4000000 in
theorem mX9_copy (l : Launch) (dC : Nat → ClassId) (dI : Nat → Nat → Nat) (cI cJ : ClassId) (a : Nat → Nat) (c_length : Int32) (c_text : Nat → Int32) (c_stands : Nat → Int32) (c_homeFar : Nat → Int32) (c_nets : Nat → Int32) (c_netAt : Nat → Int32) (c_netWide : Nat → Int32) (c_netFrom : Nat → Int32) (c_netTo : Nat → Int32) (c_priceX : Nat → Int32) (c_priceY : Nat → Int32) (c_many : Nat → Int32) (c_days : Nat → Int32) (c_aims : Nat → Int32) (c_speeds : Nat → Int32) (c_kinds : Nat → Int32) (c_keptMany : Int32) (c_undoMany : Int32) (c_undos : Nat → Int32) (c_spot : Int32) (c_told : Nat → Int32) (c_to : Nat → Int32) (c_stood : Nat → Int32) (c_home : Nat → Int32) (c_lost : Nat → Int32) (c_out : Int32) (c_fewest : Nat → Int32) (c_ways : Nat → Int64) (c_next : Nat → Int64) (c_held : Nat → Int32) (x1 : Int32) (x2 : Int32) {n_many : Nat → Int32} {n_days : Nat → Int32} {n_aims : Nat → Int32} {n_speeds : Nat → Int32} {n_kinds : Nat → Int32} (hD : DX9_copy x1 x2 c_many c_days c_aims c_speeds c_kinds = some (n_many, n_days, n_aims, n_speeds, n_kinds)) : Met l yX9_copy (WZ yX9_copy cX9_copy 4 none) (RM 0 0) (PC dC dI cI cJ [.ref (a 0), .int x1, .int x2] (W_X9 a cI cJ c_length c_text c_stands c_homeFar c_nets c_netAt c_netWide c_netFrom c_netTo c_priceX c_priceY c_many c_days c_aims c_speeds c_kinds c_keptMany c_undoMany c_undos c_spot c_told c_to c_stood c_home c_lost c_out c_fewest c_ways c_next c_held)) (QV dC dI (W_X9 a cI cJ c_length c_text c_stands c_homeFar c_nets c_netAt c_netWide c_netFrom c_netTo c_priceX c_priceY c_many c_days c_aims c_speeds c_kinds c_keptMany c_undoMany c_undos c_spot c_told c_to c_stood c_home c_lost c_out c_fewest c_ways c_next c_held) (W_X9 a cI cJ c_length c_text c_stands c_homeFar c_nets c_netAt c_netWide c_netFrom c_netTo c_priceX c_priceY n_many n_days n_aims n_speeds n_kinds c_keptMany c_undoMany c_undos c_spot c_told c_to c_stood c_home c_lost c_out c_fewest c_ways c_next c_held)) 0 0 (FA (W_X9 a cI cJ c_length c_text c_stands c_homeFar c_nets c_netAt c_netWide c_netFrom c_netTo c_priceX c_priceY c_many c_days c_aims c_speeds c_kinds c_keptMany c_undoMany c_undos c_spot c_told c_to c_stood c_home c_lost c_out c_fewest c_ways c_next c_held)) := by
  refine r_metV (by decide +kernel) (Nat.le_of_ble_eq_true rfl) ?_
  intro p e s m args below meth c A H0 QQ X ret ls hl hG
  have X : Cx p m c cX9_copy 4 s args RX9 dC dI cI cJ meth none := X
  have hx := X.1.1
  have hb := X.1.2.1
  have hl : lv_has ls 4 [(0, .ref (a 0)), (1, .int x1), (2, .int x2)] := hl
  have L14 : ∀ (c_many : Nat → Int32), ∀ (n : Nat) (x3 : Int32) (c_days : Nat → Int32) (c_aims : Nat → Int32) (c_speeds : Nat → Int32) (c_kinds : Nat → Int32) (ec_days : Nat → Int32) (ec_aims : Nat → Int32) (ec_speeds : Nat → Int32) (ec_kinds : Nat → Int32), DX9_copy_L14 x1 x2 n x3 c_days c_aims c_speeds c_kinds = some (ec_days, ec_aims, ec_speeds, ec_kinds) → (∀ (ls : Array Slot) (H : Heap) (locs : List Loc), lv_has ls 4 [] → G dC dI A H0 (W_X9 a cI cJ c_length c_text c_stands c_homeFar c_nets c_netAt c_netWide c_netFrom c_netTo c_priceX c_priceY c_many ec_days ec_aims ec_speeds ec_kinds c_keptMany c_undoMany c_undos c_spot c_told c_to c_stood c_home c_lost c_out c_fewest c_ways c_next c_held) H locs → W p l e (RM 0 0) s m args below meth c H locs 0 0 QQ (F0 m 114 ls [])) → ∀ (ls : Array Slot) (H : Heap) (locs : List Loc), lv_has ls 4 [(0, .ref (a 0)), (1, .int x1), (2, .int x2), (3, .int x3)] → G dC dI A H0 (W_X9 a cI cJ c_length c_text c_stands c_homeFar c_nets c_netAt c_netWide c_netFrom c_netTo c_priceX c_priceY c_many c_days c_aims c_speeds c_kinds c_keptMany c_undoMany c_undos c_spot c_told c_to c_stood c_home c_lost c_out c_fewest c_ways c_next c_held) H locs → W p l e (RM 0 0) s m args below meth c H locs 0 0 QQ (F0 m 14 ls []) := by
    intro c_many n
    induction n with
    | zero => intro x3 c_days c_aims c_speeds c_kinds ec_days ec_aims ec_speeds ec_kinds h; exact it_zero h
    | succ n ih =>
      intro x3 c_days c_aims c_speeds c_kinds ec_days ec_aims ec_speeds ec_kinds h0 K0 ls H locs hl hG
      obtain ⟨w, h, hi, hr⟩ := it_succ h0
      have h : DX9_copy_L14s x1 x2 x3 c_days c_aims c_speeds c_kinds = some w := h
      have KC : ∀ (x3 : Int32) (c_days : Nat → Int32) (c_aims : Nat → Int32) (c_speeds : Nat → Int32) (c_kinds : Nat → Int32), w = .inl (x3, c_days, c_aims, c_speeds, c_kinds) → ∀ (ls : Array Slot) (H : Heap) (locs : List Loc), lv_has ls 4 [(0, .ref (a 0)), (1, .int x1), (2, .int x2), (3, .int x3)] → G dC dI A H0 (W_X9 a cI cJ c_length c_text c_stands c_homeFar c_nets c_netAt c_netWide c_netFrom c_netTo c_priceX c_priceY c_many c_days c_aims c_speeds c_kinds c_keptMany c_undoMany c_undos c_spot c_told c_to c_stood c_home c_lost c_out c_fewest c_ways c_next c_held) H locs → W p l e (RM 0 0) s m args below meth c H locs 0 0 QQ (F0 m 14 ls []) := fun b0 b1 b2 b3 b4 e ls H locs hl hG => ih b0 b1 b2 b3 b4 ec_days ec_aims ec_speeds ec_kinds (hi _ e) K0 ls H locs hl hG
      have KX : ∀ (c_days : Nat → Int32) (c_aims : Nat → Int32) (c_speeds : Nat → Int32) (c_kinds : Nat → Int32), w = .inr (c_days, c_aims, c_speeds, c_kinds) → ∀ (ls : Array Slot) (H : Heap) (locs : List Loc), lv_has ls 4 [] → G dC dI A H0 (W_X9 a cI cJ c_length c_text c_stands c_homeFar c_nets c_netAt c_netWide c_netFrom c_netTo c_priceX c_priceY c_many c_days c_aims c_speeds c_kinds c_keptMany c_undoMany c_undos c_spot c_told c_to c_stood c_home c_lost c_out c_fewest c_ways c_next c_held) H locs → W p l e (RM 0 0) s m args below meth c H locs 0 0 QQ (F0 m 114 ls []) := fun b0 b1 b2 b3 e ls H locs hl hG => by cases hr _ e; exact K0 ls H locs hl hG
      clear h0 hi hr K0 ih
      unfold DX9_copy_L14s at h
      refine lv_iload_n hx hb dX9_copy_14 rfl (lv_at hl 3 rfl) ?_
      refine lv_bipush (v := (7 : Int32)) hx hb dX9_copy_15 (by decide) ?_
      refine lv_icmp_ge (tgt := 114) hx hb dX9_copy_17 (by decide) (fun c_3 => ?_) (fun c_3 => ?_)
      · have h := ite_t h c_3
        exact KX _ _ _ _ (Option.some.inj h).symm _ _ _ (lv_sub hl [] rfl) hG
      · have h := ite_f h c_3
        refine lv_aload_n hx hb dX9_copy_20 rfl (lv_at hl 0 rfl) ?_
        refine r_get X hG in_X9 rfl 12 (by decide) w_643 0 rfl rfl dX9_copy_21 ?_
        refine lv_bipush (v := (7 : Int32)) hx hb dX9_copy_24 (by decide) ?_
        refine lv_iload_n hx hb dX9_copy_26 rfl (lv_at hl 2 rfl) ?_
        refine lv_imul hx hb dX9_copy_27 ?_
        refine lv_iload_n hx hb dX9_copy_28 rfl (lv_at hl 3 rfl) ?_
        refine lv_iadd hx hb dX9_copy_29 ?_
        refine lv_aload_n hx hb dX9_copy_30 rfl (lv_at hl 0 rfl) ?_
        refine r_get X hG in_X9 rfl 12 (by decide) w_643 0 rfl rfl dX9_copy_31 ?_
        refine lv_bipush (v := (7 : Int32)) hx hb dX9_copy_34 (by decide) ?_
        refine lv_iload_n hx hb dX9_copy_36 rfl (lv_at hl 1 rfl) ?_
        refine lv_imul hx hb dX9_copy_37 ?_
        refine lv_iload_n hx hb dX9_copy_38 rfl (lv_at hl 3 rfl) ?_
        refine lv_iadd hx hb dX9_copy_39 ?_
        obtain ⟨g_4, h⟩ := gd h
        refine r_iald X hG 12 rfl g_4 dX9_copy_40 ?_
        obtain ⟨g_5, h⟩ := gd h
        refine r_iast X hG 12 (ws' := (W_X9 a cI cJ c_length c_text c_stands c_homeFar c_nets c_netAt c_netWide c_netFrom c_netTo c_priceX c_priceY c_many (upd c_days (((7 : Int32) * x2) + x3).toNatClampNeg (c_days (((7 : Int32) * x1) + x3).toNatClampNeg)) c_aims c_speeds c_kinds c_keptMany c_undoMany c_undos c_spot c_told c_to c_stood c_home c_lost c_out c_fewest c_ways c_next c_held)) rfl g_5 rfl dX9_copy_41 (fun H locs hG => ?_)
        refine lv_aload_n hx hb dX9_copy_42 rfl (lv_at hl 0 rfl) ?_
        refine r_get X hG in_X9 rfl 13 (by decide) w_644 0 rfl rfl dX9_copy_43 ?_
        refine lv_bipush (v := (7 : Int32)) hx hb dX9_copy_46 (by decide) ?_
        refine lv_iload_n hx hb dX9_copy_48 rfl (lv_at hl 2 rfl) ?_
        refine lv_imul hx hb dX9_copy_49 ?_
        refine lv_iload_n hx hb dX9_copy_50 rfl (lv_at hl 3 rfl) ?_
        refine lv_iadd hx hb dX9_copy_51 ?_
        refine lv_aload_n hx hb dX9_copy_52 rfl (lv_at hl 0 rfl) ?_
        refine r_get X hG in_X9 rfl 13 (by decide) w_644 0 rfl rfl dX9_copy_53 ?_
        refine lv_bipush (v := (7 : Int32)) hx hb dX9_copy_56 (by decide) ?_
        refine lv_iload_n hx hb dX9_copy_58 rfl (lv_at hl 1 rfl) ?_
        refine lv_imul hx hb dX9_copy_59 ?_
        refine lv_iload_n hx hb dX9_copy_60 rfl (lv_at hl 3 rfl) ?_
        refine lv_iadd hx hb dX9_copy_61 ?_
        obtain ⟨g_6, h⟩ := gd h
        refine r_iald X hG 13 rfl g_6 dX9_copy_62 ?_
        obtain ⟨g_7, h⟩ := gd h
        refine r_iast X hG 13 (ws' := (W_X9 a cI cJ c_length c_text c_stands c_homeFar c_nets c_netAt c_netWide c_netFrom c_netTo c_priceX c_priceY c_many (upd c_days (((7 : Int32) * x2) + x3).toNatClampNeg (c_days (((7 : Int32) * x1) + x3).toNatClampNeg)) (upd c_aims (((7 : Int32) * x2) + x3).toNatClampNeg (c_aims (((7 : Int32) * x1) + x3).toNatClampNeg)) c_speeds c_kinds c_keptMany c_undoMany c_undos c_spot c_told c_to c_stood c_home c_lost c_out c_fewest c_ways c_next c_held)) rfl g_7 rfl dX9_copy_63 (fun H locs hG => ?_)
        refine lv_aload_n hx hb dX9_copy_64 rfl (lv_at hl 0 rfl) ?_
        refine r_get X hG in_X9 rfl 14 (by decide) w_645 0 rfl rfl dX9_copy_65 ?_
        refine lv_bipush (v := (7 : Int32)) hx hb dX9_copy_68 (by decide) ?_
        refine lv_iload_n hx hb dX9_copy_70 rfl (lv_at hl 2 rfl) ?_
        refine lv_imul hx hb dX9_copy_71 ?_
        refine lv_iload_n hx hb dX9_copy_72 rfl (lv_at hl 3 rfl) ?_
        refine lv_iadd hx hb dX9_copy_73 ?_
        refine lv_aload_n hx hb dX9_copy_74 rfl (lv_at hl 0 rfl) ?_
        refine r_get X hG in_X9 rfl 14 (by decide) w_645 0 rfl rfl dX9_copy_75 ?_
        refine lv_bipush (v := (7 : Int32)) hx hb dX9_copy_78 (by decide) ?_
        refine lv_iload_n hx hb dX9_copy_80 rfl (lv_at hl 1 rfl) ?_
        refine lv_imul hx hb dX9_copy_81 ?_
        refine lv_iload_n hx hb dX9_copy_82 rfl (lv_at hl 3 rfl) ?_
        refine lv_iadd hx hb dX9_copy_83 ?_
        obtain ⟨g_8, h⟩ := gd h
        refine r_iald X hG 14 rfl g_8 dX9_copy_84 ?_
        obtain ⟨g_9, h⟩ := gd h
        refine r_iast X hG 14 (ws' := (W_X9 a cI cJ c_length c_text c_stands c_homeFar c_nets c_netAt c_netWide c_netFrom c_netTo c_priceX c_priceY c_many (upd c_days (((7 : Int32) * x2) + x3).toNatClampNeg (c_days (((7 : Int32) * x1) + x3).toNatClampNeg)) (upd c_aims (((7 : Int32) * x2) + x3).toNatClampNeg (c_aims (((7 : Int32) * x1) + x3).toNatClampNeg)) (upd c_speeds (((7 : Int32) * x2) + x3).toNatClampNeg (c_speeds (((7 : Int32) * x1) + x3).toNatClampNeg)) c_kinds c_keptMany c_undoMany c_undos c_spot c_told c_to c_stood c_home c_lost c_out c_fewest c_ways c_next c_held)) rfl g_9 rfl dX9_copy_85 (fun H locs hG => ?_)
        refine lv_aload_n hx hb dX9_copy_86 rfl (lv_at hl 0 rfl) ?_
        refine r_get X hG in_X9 rfl 15 (by decide) w_646 0 rfl rfl dX9_copy_87 ?_
        refine lv_bipush (v := (7 : Int32)) hx hb dX9_copy_90 (by decide) ?_
        refine lv_iload_n hx hb dX9_copy_92 rfl (lv_at hl 2 rfl) ?_
        refine lv_imul hx hb dX9_copy_93 ?_
        refine lv_iload_n hx hb dX9_copy_94 rfl (lv_at hl 3 rfl) ?_
        refine lv_iadd hx hb dX9_copy_95 ?_
        refine lv_aload_n hx hb dX9_copy_96 rfl (lv_at hl 0 rfl) ?_
        refine r_get X hG in_X9 rfl 15 (by decide) w_646 0 rfl rfl dX9_copy_97 ?_
        refine lv_bipush (v := (7 : Int32)) hx hb dX9_copy_100 (by decide) ?_
        refine lv_iload_n hx hb dX9_copy_102 rfl (lv_at hl 1 rfl) ?_
        refine lv_imul hx hb dX9_copy_103 ?_
        refine lv_iload_n hx hb dX9_copy_104 rfl (lv_at hl 3 rfl) ?_
        refine lv_iadd hx hb dX9_copy_105 ?_
        obtain ⟨g_10, h⟩ := gd h
        refine r_iald X hG 15 rfl g_10 dX9_copy_106 ?_
        obtain ⟨g_11, h⟩ := gd h
        refine r_iast X hG 15 (ws' := (W_X9 a cI cJ c_length c_text c_stands c_homeFar c_nets c_netAt c_netWide c_netFrom c_netTo c_priceX c_priceY c_many (upd c_days (((7 : Int32) * x2) + x3).toNatClampNeg (c_days (((7 : Int32) * x1) + x3).toNatClampNeg)) (upd c_aims (((7 : Int32) * x2) + x3).toNatClampNeg (c_aims (((7 : Int32) * x1) + x3).toNatClampNeg)) (upd c_speeds (((7 : Int32) * x2) + x3).toNatClampNeg (c_speeds (((7 : Int32) * x1) + x3).toNatClampNeg)) (upd c_kinds (((7 : Int32) * x2) + x3).toNatClampNeg (c_kinds (((7 : Int32) * x1) + x3).toNatClampNeg)) c_keptMany c_undoMany c_undos c_spot c_told c_to c_stood c_home c_lost c_out c_fewest c_ways c_next c_held)) rfl g_11 rfl dX9_copy_107 (fun H locs hG => ?_)
        refine lv_iinc (v := (x3 + (1 : Int32))) (lv' := [(3, .int (x3 + (1 : Int32))), (0, .ref (a 0)), (1, .int x1), (2, .int x2)]) hx hb dX9_copy_108 hl (k := 3) rfl rfl (by decide) rfl (fun ls hl => ?_)
        refine lv_goto (tgt := 14) hx hb dX9_copy_111 (by decide) ?_
        exact KC _ _ _ _ _ (Option.some.inj h).symm _ _ _ (lv_sub hl [1, 2, 3, 0] rfl) hG
  have h := hD
  unfold DX9_copy at h
  clear hD
  refine lv_aload_n hx hb dX9_copy_0 rfl (lv_at hl 0 rfl) ?_
  refine r_get X hG in_X9 rfl 11 (by decide) w_642 0 rfl rfl dX9_copy_1 ?_
  refine lv_iload_n hx hb dX9_copy_4 rfl (lv_at hl 2 rfl) ?_
  refine lv_aload_n hx hb dX9_copy_5 rfl (lv_at hl 0 rfl) ?_
  refine r_get X hG in_X9 rfl 11 (by decide) w_642 0 rfl rfl dX9_copy_6 ?_
  refine lv_iload_n hx hb dX9_copy_9 rfl (lv_at hl 1 rfl) ?_
  obtain ⟨g_1, h⟩ := gd h
  refine r_iald X hG 11 rfl g_1 dX9_copy_10 ?_
  obtain ⟨g_2, h⟩ := gd h
  refine r_iast X hG 11 (ws' := (W_X9 a cI cJ c_length c_text c_stands c_homeFar c_nets c_netAt c_netWide c_netFrom c_netTo c_priceX c_priceY (upd c_many x2.toNatClampNeg (c_many x1.toNatClampNeg)) c_days c_aims c_speeds c_kinds c_keptMany c_undoMany c_undos c_spot c_told c_to c_stood c_home c_lost c_out c_fewest c_ways c_next c_held)) rfl g_2 rfl dX9_copy_11 (fun H locs hG => ?_)
  refine lv_iconst (v := (0 : Int32)) hx hb dX9_copy_12 (by decide) ?_
  refine lv_istore_n (lv' := [(3, .int (0 : Int32)), (0, .ref (a 0)), (1, .int x1), (2, .int x2)]) hx hb dX9_copy_13 rfl hl (by decide) rfl (fun ls hl => ?_)
  obtain ⟨k_days_12, k_aims_13, k_speeds_14, k_kinds_15, hz, h⟩ := bd4_some h
  refine L14 (upd c_many x2.toNatClampNeg (c_many x1.toNatClampNeg)) FU (0 : Int32) c_days c_aims c_speeds c_kinds _ _ _ _ hz (fun ls H locs hl hG => ?_) _ _ _ (lv_sub hl [1, 2, 3, 0] rfl) hG
  clear hz
  cases h
  exact ret _ _ _ _ dX9_copy_114 hG
