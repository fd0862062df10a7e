/-! PURE: stray -/
def orS (p : Nat → Bool) : Nat → Int32
  | 0 => 0
  | k + 1 => if p k = true then orS p k ||| ((1 : Int32) <<< (nI k &&& 31)) else orS p k
theorem s_stray : S_stray Inv0 := by
  intro c_text_bytes c_text_length c_reader_numbers c_reader_next c_laid_stand c_laid_home c_laid_priceStart c_laid_priceStep c_laid_thrown_cells c_laid_thrown_filled c_laid_nets_cells c_laid_nets_filled c_trial_stand c_trial_home c_trial_priceStart c_trial_priceStep c_trial_thrown_cells c_trial_thrown_filled c_trial_nets_cells c_trial_nets_filled c_flight_loads_cells c_flight_loads_filled c_flight_order c_flight_done c_flight_start c_flight_end c_changes_who c_changes_column c_changes_was c_changes_held c_kept_older_cells c_kept_older_filled c_kept_newer_cells c_kept_newer_filled c_kept_held c_turns_need m_length m_text m_stands m_homeFar m_nets m_netAt m_netWide m_netFrom m_netTo m_priceX m_priceY m_many m_days m_aims m_speeds m_kinds m_keptMany m_undoMany m_undos m_spot m_told m_to m_stood m_home m_lost m_out m_fewest m_ways m_next m_held hI x1 x2 x3
  have hI0 := hI
  obtain ⟨hT, n, ⟨S, D, px, py, nn, T, A, V, K, NP, NW, NF, NU, hn1, hp, hx, hm⟩, hU, hK⟩ := hI
  have hn7 := hp.2.2.2.1
  have hTT := hp.2.2.2.2.2.2.2.1
  have hlf := hx.2.2.2.2.1
  have hmm := hm.2.2.2.2.2.1
  have hmt := hm.2.2.2.2.2.2.1
  have ez : (0 : Int32).toNatClampNeg = 0 := rfl
  unfold DX8_stray DX9_stray
  rcases win_x x1 0 60 (a := 0) (b := 60) (l := 0) (h := 60) rfl rfl rfl rfl (by decide) (by decide) with ⟨fa, r0, r1, e1, r3, r4⟩ | ⟨r1, r3, r4⟩
  · rw [r3, r4]
    rcases win_x x2 0 23 (a := 0) (b := 23) (l := 0) (h := 23) rfl rfl rfl rfl (by decide) (by decide) with ⟨w, w0, w1, e2, w3, w4⟩ | ⟨w1, w3, w4⟩
    · rw [w3, w4]
      rcases day_x x3 with ⟨t, t1, e3, t3, t4⟩ | ⟨t3, t4⟩
      · rw [t3, t4]
        obtain ⟨f', o', f1, f2, f3, f4⟩ := fly_w (f := c_flight_loads_cells) (order := c_flight_order) (w := 0) hp hx (by decide)
        obtain ⟨to', st', ho', lo', g1, g2, g3⟩ := go_w (to := m_to) (stood := m_stood) (home := m_home) (lost := m_lost) (w := 0) hp hm (by decide)
        have f1 : DX1_fly (0 : Int32) _ _ _ _ _ _ _ _ _ _ = _ := f1
        have g1 : DX9_go (0 : Int32) _ _ _ _ _ _ _ _ _ _ _ = _ := g1
        obtain ⟨c0, c1, c2, c3, c4, c5⟩ := f3
        have hto : ∀ i, i < n → to' i = nI (toP A V K (ordL T (wout 0) n) S i) := fun i hi => g3.2.2.2.2.2.2.2.2.2.2.1 i hi (wout0 i)
        have hP24 : ∀ i, toP A V K (ordL T (wout 0) n) S i < 24 := fun i => Nat.mod_lt _ (by decide)
        generalize toP A V K (ordL T (wout 0) n) S = P at *
        have hwn : ∀ i, i < n → whnS P T V D (ordL T (wout 0) n) i ≤ 101 := fun i hi => whn_le hp hi
        have hhome : ∀ i, i < n → ho' i = nI (whnS P T V D (ordL T (wout 0) n) i) := fun i hi => home_whn g3 hi (wout0 i)
        have hwhen : ∀ i, i < n → f' (i * 10 + 7) = nI (whnS P T V D (ordL T (wout 0) n) i) := fun i hi => (f4 i (in_ordL hp hi (wout0 i))).2.1
        generalize whnS P T V D (ordL T (wout 0) n) = W at *
        have c4 : ∀ i, i < n → f' (i * 10 + 4) = nI (P i) := fun i hi => c4 i (in_ordL hp hi (wout0 i))
        have hfar : ∀ i, i < n → T i ≤ t → V i * (t - T i) ≤ 600 := fun i hi h => by
          have := (hTT i hi).2.2.2.1
          exact Nat.mul_le_mul this (show t - T i ≤ 100 by omega)
        generalize hp0 : (fun i => decide (T i ≤ t) && decide (t < W i) && decide (P i = w) && decide (V i * (t - T i) = fa)) = p
        have hX : DX8_stray_L50 (nI fa) (nI w) (nI t) c_laid_thrown_filled f' FU (0 : Int32) (0 : Int32) = some (orS p n) := by
          unfold DX8_stray_L50
          refine it_for (fun k => (orS p k, nI k)) n ?_ ?_ (by omega)
          · intro k hk
            show DX8_stray_L50s (nI fa) (nI w) (nI t) c_laid_thrown_filled f' (orS p k) (nI k) = some (.inl (orS p (k + 1), nI (k + 1)))
            unfold DX8_stray_L50s DX5_rows
            obtain ⟨h1, h2, h3, h4, h5⟩ := hTT k hk
            have hwk := hwn k hk
            have hfk := hfar k hk
            have hPk := hP24 k
            have hk1 : nI k + (1 : Int32) = nI (k + 1) := p_add k 1
            have hkn : DX1_known (nI k) (4 : Int32) f' = some (nI (P k)) := by
              have := D1_known_eq (f := f') (i := k) (by omega) (c := 4) (by decide)
              rw [c4 k hk] at this; exact this
            have hpk : p k = (decide (T k ≤ t) && decide (t < W k) && decide (P k = w) && decide (V k * (t - T k) = fa)) := by rw [← hp0]
            rw [bd1_eq, hlf, if_neg (by rw [p_le (by omega) (by omega)]; omega), D1_farOn_eq (by omega) (c0 k hk) (c2 k hk) (hwhen k hk) (by omega) (by omega) (by omega), bd1_eq, hk1]
            have hs : orS p (k + 1) = if p k = true then orS p k ||| ((1 : Int32) <<< (nI k &&& 31)) else orS p k := rfl
            by_cases q1 : T k ≤ t ∧ t < W k
            · rw [if_pos q1, Nat.mul_comm]
              by_cases q2 : V k * (t - T k) = fa
              · rw [if_pos (by rw [q2]), hkn, bd1_eq]
                by_cases q3 : P k = w
                · rw [if_pos (by rw [q3]), hs, if_pos (by rw [hpk]; simp [q1, q2, q3])]
                · rw [if_neg (by rw [p_eq (by omega) (by omega)]; exact q3), hs, if_neg (by rw [hpk]; simp [q3])]
              · rw [if_neg (by rw [p_eq (by have := hfk q1.1; omega) (by omega)]; exact q2), hs, if_neg (by rw [hpk]; simp [q2])]
            · rw [if_neg q1, if_neg, hs, if_neg]
              · rw [hpk]; intro h; simp only [Bool.and_eq_true, decide_eq_true_eq] at h; exact q1 h.1.1
              · intro h
                have h2 := congrArg Int32.toInt h
                rw [p_ti (by omega)] at h2
                have e4 : (-4 : Int32).toInt = -4 := rfl
                omega
          · show DX8_stray_L50s (nI fa) (nI w) (nI t) c_laid_thrown_filled f' (orS p n) (nI n) = _
            unfold DX8_stray_L50s DX5_rows
            rw [bd1_eq, hlf, if_pos (by rw [p_le (by omega) (by omega)]; omega)]
        have hM : DX9_stray_L44 (nI fa) (nI w) (nI t) m_many m_days m_speeds to' ho' FU (0 : Int32) (0 : Int32) = some (orS p n) := by
          unfold DX9_stray_L44
          refine it_for (fun k => (orS p k, nI k)) n ?_ ?_ (by omega)
          · intro k hk
            show DX9_stray_L44s (nI fa) (nI w) (nI t) m_many m_days m_speeds to' ho' (orS p k) (nI k) = some (.inl (orS p (k + 1), nI (k + 1)))
            unfold DX9_stray_L44s DX9_stray_J104
            obtain ⟨h1, h2, h3, h4, h5⟩ := hTT k hk
            obtain ⟨m0, m1, m2, m3⟩ := hmt k hk
            have hwk := hwn k hk
            have hfk := hfar k hk
            have hPk := hP24 k
            have hk1 : nI k + (1 : Int32) = nI (k + 1) := p_add k 1
            have hpk : p k = (decide (T k ≤ t) && decide (t < W k) && decide (P k = w) && decide (V k * (t - T k) = fa)) := by rw [← hp0]
            have hs : orS p (k + 1) = if p k = true then orS p k ||| ((1 : Int32) <<< (nI k &&& 31)) else orS p k := rfl
            have z0 : orS p k ||| (0 : Int32) = orS p k := Int32.or_zero
            have gd : ∀ {α : Type} (b : Option α), (if nI k < 0 ∨ 28 ≤ k then none else b) = b := fun b => p_h (by omega) (by omega)
            have gd7 : ∀ {α : Type} (b : Option α), (if nI k < 0 ∨ 7 ≤ k then none else b) = b := fun b => p_h (by omega) (by omega)
            rw [ez, hmm, if_neg (by rw [p_le (by omega) (by omega)]; omega), p_tn (by omega), gd, gd7, gd7, m0, hhome k hk, hto k hk, hk1, z0]
            by_cases q1 : t < T k
            · rw [if_pos (by rw [p_lt (by omega) (by omega)]; exact q1), if_pos rfl, hs, if_neg]
              rw [hpk]; intro h; simp only [Bool.and_eq_true, decide_eq_true_eq] at h; omega
            · rw [if_neg (by rw [p_lt (by omega) (by omega)]; exact q1)]
              by_cases q2 : W k ≤ t
              · rw [if_pos (by rw [p_le (by omega) (by omega)]; exact q2), if_pos rfl, hs, if_neg]
                rw [hpk]; intro h; simp only [Bool.and_eq_true, decide_eq_true_eq] at h; omega
              · rw [if_neg (by rw [p_le (by omega) (by omega)]; exact q2)]
                by_cases q3 : P k = w
                · rw [if_pos (by rw [q3]), D9_farOf_eq (by omega) m0 m2 (by omega), bd1_eq]
                  by_cases q4 : V k * (t - T k) = fa
                  · rw [if_pos (by rw [q4]), if_neg (by decide), hs, if_pos (by rw [hpk]; simp [q3, q4]; omega)]
                  · rw [if_neg (by rw [p_eq (by have := hfk (by omega); omega) (by omega)]; exact q4), if_pos rfl, hs, if_neg (by rw [hpk]; simp [q4])]
                · rw [if_neg (by rw [p_eq (by omega) (by omega)]; exact q3), if_pos rfl, hs, if_neg (by rw [hpk]; simp [q3])]
          · show DX9_stray_L44s (nI fa) (nI w) (nI t) m_many m_days m_speeds to' ho' (orS p n) (nI n) = _
            unfold DX9_stray_L44s
            rw [ez, hmm, if_pos (by rw [p_le (by omega) (by omega)]; omega)]
        rw [f1, g1, e1, e2, e3]
        simp only [bd1_eq, bd5_eq, if_neg (show ¬ ((1 : Int32) = 0) by decide), hX, hM]
        exact ⟨_, _, _, _, _, _, _, _, _, _, _, rfl, rfl, hI0⟩
      · rw [t3, t4]
        exact ⟨_, _, _, _, _, _, _, _, _, _, _, rfl, rfl, hI0⟩
    · rw [w3, w4]
      exact ⟨_, _, _, _, _, _, _, _, _, _, _, rfl, rfl, hI0⟩
  · rw [r3, r4]
    exact ⟨_, _, _, _, _, _, _, _, _, _, _, rfl, rfl, hI0⟩
