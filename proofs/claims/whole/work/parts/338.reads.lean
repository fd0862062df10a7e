/-! PURE: load, far, rock, all -/
theorem s_load : S_load Inv0 := by
  intro c_text_bytes c_text_length c_reader_numbers c_reader_next c_laid_stand c_laid_home c_laid_priceStart c_laid_priceStep c_laid_thrown_cells c_laid_thrown_filled c_laid_nets_cells c_laid_nets_filled c_trial_stand c_trial_home c_trial_priceStart c_trial_priceStep c_trial_thrown_cells c_trial_thrown_filled c_trial_nets_cells c_trial_nets_filled c_flight_loads_cells c_flight_loads_filled c_flight_order c_flight_done c_flight_start c_flight_end c_changes_who c_changes_column c_changes_was c_changes_held c_kept_older_cells c_kept_older_filled c_kept_newer_cells c_kept_newer_filled c_kept_held c_turns_need m_length m_text m_stands m_homeFar m_nets m_netAt m_netWide m_netFrom m_netTo m_priceX m_priceY m_many m_days m_aims m_speeds m_kinds m_keptMany m_undoMany m_undos m_spot m_told m_to m_stood m_home m_lost m_out m_fewest m_ways m_next m_held hI x1 x2
  have hI0 := hI
  obtain ⟨hT, n, ⟨S, D, px, py, nn, T, A, V, K, NP, NW, NF, NU, hn1, hp, hx, hm⟩, hU, hK⟩ := hI
  have hn7 := hp.2.2.2.1
  have hTT := hp.2.2.2.2.2.2.2.1
  have hlf := hx.2.2.2.2.1
  have hmm := hm.2.2.2.2.2.1
  have hmt := hm.2.2.2.2.2.2.1
  unfold DX8_load DX9_load
  rcases thr_x x1 hmm hn1 hn7 with ⟨i, hi, e1, q1, q2⟩ | ⟨q1, q2⟩
  · rw [← hlf] at q1
    rw [q1, q2]
    rcases win_x x2 0 8 (a := 0) (b := 8) (l := 0) (h := 8) rfl rfl rfl rfl (by decide) (by decide) with ⟨c, r0, r1, e2, r3, r4⟩ | ⟨r1, r3, r4⟩
    · rw [r3, r4]
      obtain ⟨f', o', f1, f2, f3, f4⟩ := fly_w (f := c_flight_loads_cells) (order := c_flight_order) (w := 0) hp hx (by decide)
      obtain ⟨to', st', ho', lo', g1, g2, g3⟩ := go_w (to := m_to) (stood := m_stood) (home := m_home) (lost := m_lost) (w := 0) hp hm (by decide)
      have f1 : DX1_fly (0 : Int32) _ _ _ _ _ _ _ _ _ _ = _ := f1
      have g1 : DX9_go (0 : Int32) _ _ _ _ _ _ _ _ _ _ _ = _ := g1
      have hil : i ∈ ordL T (wout 0) n := in_ordL hp hi (wout0 i)
      obtain ⟨z1, z2, z3, z4⟩ := f4 i hil
      have hk : ∀ c, c < 10 → DX1_known (nI i) (nI c) f' = some (f' (i * 10 + c)) := fun c hc => D1_known_eq (by omega) hc
      have hhow := D9_howOf_eq g3 hi (wout0 i)
      have hpad := D9_paidOf_eq g3 hi (wout0 i)
      have hhome := home_whn g3 hi (wout0 i)
      obtain ⟨c0, c1, c2, c3, c4, c5⟩ := f3
      obtain ⟨m0, m1, m2, m3⟩ := hmt i hi
      have hto : to' i = nI (toP A V K (ordL T (wout 0) n) S i) := g3.2.2.2.2.2.2.2.2.2.2.1 i hi (wout0 i)
      have hst := g2 i hi (wout0 i)
      rw [f1, g1, e1, e2]
      simp only [bd1_eq, bd5_eq, if_neg (show ¬ ((1 : Int32) = 0) by decide), hk c (by omega), p_tn (show i < 2147483648 by omega)]
      have hc9 : c = 0 ∨ c = 1 ∨ c = 2 ∨ c = 3 ∨ c = 4 ∨ c = 5 ∨ c = 6 ∨ c = 7 ∨ c = 8 := by omega
      have gd : ∀ {α : Type} (b : Option α), (if nI i < 0 ∨ 28 ≤ i then none else b) = b := fun b => p_h (by omega) (by omega)
      have gd7 : ∀ {α : Type} (b : Option α), (if nI i < 0 ∨ 7 ≤ i then none else b) = b := fun b => p_h (by omega) (by omega)
      rcases hc9 with h | h | h | h | h | h | h | h | h <;> subst h
      · exact ⟨_, _, _, _, _, _, _, _, _, _, _, rfl, by rw [if_pos (show nI 0 = 0 from rfl), gd, m0, c0 i hi], hI0⟩
      · exact ⟨_, _, _, _, _, _, _, _, _, _, _, rfl, by rw [if_neg (by decide), if_pos (show nI 1 = 1 from rfl), gd, m1, c1 i hi], hI0⟩
      · exact ⟨_, _, _, _, _, _, _, _, _, _, _, rfl, by rw [if_neg (by decide), if_neg (by decide), if_pos (show nI 2 = 2 from rfl), gd, m2, c2 i hi], hI0⟩
      · exact ⟨_, _, _, _, _, _, _, _, _, _, _, rfl, by rw [if_neg (by decide), if_neg (by decide), if_neg (by decide), if_pos (show nI 3 = 3 from rfl), gd, m3, c3 i hi], hI0⟩
      · exact ⟨_, _, _, _, _, _, _, _, _, _, _, rfl, by rw [if_neg (by decide), if_neg (by decide), if_neg (by decide), if_neg (by decide), if_pos (show nI 4 = 4 from rfl), gd7, hto, c4 i hil], hI0⟩
      · exact ⟨_, _, _, _, _, _, _, _, _, _, _, rfl, by rw [if_neg (by decide), if_neg (by decide), if_neg (by decide), if_neg (by decide), if_neg (by decide), if_pos (show nI 5 = 5 from rfl), gd7, hst, c5 i hil], hI0⟩
      · exact ⟨_, _, _, _, _, _, _, _, _, _, _, rfl, by rw [if_neg (by decide), if_neg (by decide), if_neg (by decide), if_neg (by decide), if_neg (by decide), if_neg (by decide), if_pos (show nI 6 = 6 from rfl), hhow, bd1_eq, z1], hI0⟩
      · exact ⟨_, _, _, _, _, _, _, _, _, _, _, rfl, by rw [if_neg (by decide), if_neg (by decide), if_neg (by decide), if_neg (by decide), if_neg (by decide), if_neg (by decide), if_neg (by decide), if_pos (show nI 7 = 7 from rfl), gd7, hhome, z2], hI0⟩
      · exact ⟨_, _, _, _, _, _, _, _, _, _, _, rfl, by rw [if_neg (by decide), if_neg (by decide), if_neg (by decide), if_neg (by decide), if_neg (by decide), if_neg (by decide), if_neg (by decide), if_neg (by decide), hpad, bd1_eq, z3], hI0⟩
    · rw [r3, r4]
      exact ⟨_, _, _, _, _, _, _, _, _, _, _, rfl, rfl, hI0⟩
  · rw [← hlf] at q1
    rw [q1, q2]
    exact ⟨_, _, _, _, _, _, _, _, _, _, _, rfl, rfl, hI0⟩
theorem s_far : S_far Inv0 := by
  intro c_text_bytes c_text_length c_reader_numbers c_reader_next c_laid_stand c_laid_home c_laid_priceStart c_laid_priceStep c_laid_thrown_cells c_laid_thrown_filled c_laid_nets_cells c_laid_nets_filled c_trial_stand c_trial_home c_trial_priceStart c_trial_priceStep c_trial_thrown_cells c_trial_thrown_filled c_trial_nets_cells c_trial_nets_filled c_flight_loads_cells c_flight_loads_filled c_flight_order c_flight_done c_flight_start c_flight_end c_changes_who c_changes_column c_changes_was c_changes_held c_kept_older_cells c_kept_older_filled c_kept_newer_cells c_kept_newer_filled c_kept_held c_turns_need m_length m_text m_stands m_homeFar m_nets m_netAt m_netWide m_netFrom m_netTo m_priceX m_priceY m_many m_days m_aims m_speeds m_kinds m_keptMany m_undoMany m_undos m_spot m_told m_to m_stood m_home m_lost m_out m_fewest m_ways m_next m_held hI x1 x2
  have hI0 := hI
  obtain ⟨hT, n, ⟨S, D, px, py, nn, T, A, V, K, NP, NW, NF, NU, hn1, hp, hx, hm⟩, hU, hK⟩ := hI
  have hn7 := hp.2.2.2.1
  have hTT := hp.2.2.2.2.2.2.2.1
  have hlf := hx.2.2.2.2.1
  have hmm := hm.2.2.2.2.2.1
  have hmt := hm.2.2.2.2.2.2.1
  unfold DX8_far DX9_far
  rcases thr_x x1 hmm hn1 hn7 with ⟨i, hi, e1, q1, q2⟩ | ⟨q1, q2⟩
  · rw [← hlf] at q1
    rw [q1, q2]
    rcases day_x x2 with ⟨t, r1, e2, r3, r4⟩ | ⟨r3, r4⟩
    · rw [r3, r4]
      obtain ⟨f', o', f1, f2, f3, f4⟩ := fly_w (f := c_flight_loads_cells) (order := c_flight_order) (w := 0) hp hx (by decide)
      obtain ⟨to', st', ho', lo', g1, g2, g3⟩ := go_w (to := m_to) (stood := m_stood) (home := m_home) (lost := m_lost) (w := 0) hp hm (by decide)
      have f1 : DX1_fly (0 : Int32) _ _ _ _ _ _ _ _ _ _ = _ := f1
      have g1 : DX9_go (0 : Int32) _ _ _ _ _ _ _ _ _ _ _ = _ := g1
      have hil : i ∈ ordL T (wout 0) n := in_ordL hp hi (wout0 i)
      obtain ⟨z1, z2, z3, z4⟩ := f4 i hil
      have hhome := home_whn g3 hi (wout0 i)
      obtain ⟨c0, c1, c2, c3, c4, c5⟩ := f3
      obtain ⟨m0, m1, m2, m3⟩ := hmt i hi
      have hTi := (hTT i hi).1
      have hw := whn_le hp (P := toP A V K (ordL T (wout 0) n) S) (l := ordL T (wout 0) n) hi
      have gd : ∀ {α : Type} (b : Option α), (if nI i < 0 ∨ 28 ≤ i then none else b) = b := fun b => p_h (by omega) (by omega)
      have gd7 : ∀ {α : Type} (b : Option α), (if nI i < 0 ∨ 7 ≤ i then none else b) = b := fun b => p_h (by omega) (by omega)
      rw [f1, g1, e1, e2]
      simp only [bd1_eq, bd5_eq, if_neg (show ¬ ((1 : Int32) = 0) by decide), p_tn (show i < 2147483648 by omega)]
      rw [D1_farOn_eq (by omega) (c0 i hi) (c2 i hi) z2 (by omega) (by omega) (by omega), bd1_eq, gd, gd7, m0, hhome]
      by_cases h1 : t < T i
      · rw [if_pos (show nI t < nI (T i) by rw [p_lt (by omega) (by omega)]; exact h1), if_neg (show ¬ (T i ≤ t ∧ t < whnS (toP A V K (ordL T (wout 0) n) S) T V D (ordL T (wout 0) n) i) by omega)]
        exact ⟨_, _, _, _, _, _, _, _, _, _, _, rfl, rfl, hI0⟩
      · rw [if_neg (show ¬ nI t < nI (T i) by rw [p_lt (by omega) (by omega)]; exact h1)]
        by_cases h2 : whnS (toP A V K (ordL T (wout 0) n) S) T V D (ordL T (wout 0) n) i ≤ t
        · rw [if_pos (show nI (whnS (toP A V K (ordL T (wout 0) n) S) T V D (ordL T (wout 0) n) i) ≤ nI t by rw [p_le (by omega) (by omega)]; exact h2), if_neg (show ¬ (T i ≤ t ∧ t < whnS (toP A V K (ordL T (wout 0) n) S) T V D (ordL T (wout 0) n) i) by omega)]
          exact ⟨_, _, _, _, _, _, _, _, _, _, _, rfl, rfl, hI0⟩
        · rw [if_neg (show ¬ nI (whnS (toP A V K (ordL T (wout 0) n) S) T V D (ordL T (wout 0) n) i) ≤ nI t by rw [p_le (by omega) (by omega)]; exact h2), D9_farOf_eq (by omega) m0 m2 (by omega), bd1_eq, if_pos (show T i ≤ t ∧ t < whnS (toP A V K (ordL T (wout 0) n) S) T V D (ordL T (wout 0) n) i by omega), Nat.mul_comm]
          exact ⟨_, _, _, _, _, _, _, _, _, _, _, rfl, rfl, hI0⟩
    · rw [r3, r4]
      exact ⟨_, _, _, _, _, _, _, _, _, _, _, rfl, rfl, hI0⟩
  · rw [← hlf] at q1
    rw [q1, q2]
    exact ⟨_, _, _, _, _, _, _, _, _, _, _, rfl, rfl, hI0⟩
theorem s_rock : S_rock Inv0 := by
  intro c_text_bytes c_text_length c_reader_numbers c_reader_next c_laid_stand c_laid_home c_laid_priceStart c_laid_priceStep c_laid_thrown_cells c_laid_thrown_filled c_laid_nets_cells c_laid_nets_filled c_trial_stand c_trial_home c_trial_priceStart c_trial_priceStep c_trial_thrown_cells c_trial_thrown_filled c_trial_nets_cells c_trial_nets_filled c_flight_loads_cells c_flight_loads_filled c_flight_order c_flight_done c_flight_start c_flight_end c_changes_who c_changes_column c_changes_was c_changes_held c_kept_older_cells c_kept_older_filled c_kept_newer_cells c_kept_newer_filled c_kept_held c_turns_need m_length m_text m_stands m_homeFar m_nets m_netAt m_netWide m_netFrom m_netTo m_priceX m_priceY m_many m_days m_aims m_speeds m_kinds m_keptMany m_undoMany m_undos m_spot m_told m_to m_stood m_home m_lost m_out m_fewest m_ways m_next m_held hI x1
  have hI0 := hI
  obtain ⟨hT, n, ⟨S, D, px, py, nn, T, A, V, K, NP, NW, NF, NU, hn1, hp, hx, hm⟩, hU, hK⟩ := hI
  have hn7 := hp.2.2.2.1
  have hTT := hp.2.2.2.2.2.2.2.1
  unfold DX8_rock DX9_rock
  rcases day_x x1 with ⟨t, r1, e2, r3, r4⟩ | ⟨r3, r4⟩
  · rw [r3, r4]
    obtain ⟨f', o', f1, f2, f3, f4⟩ := fly_w (f := c_flight_loads_cells) (order := c_flight_order) (w := 0) hp hx (by decide)
    have f1 : DX1_fly (0 : Int32) _ _ _ _ _ _ _ _ _ _ = _ := f1
    obtain ⟨to', st', g1, g2⟩ := D9_turnTo_eq (to := m_to) (stood := m_stood) (w := 0) (last := t) hn7 hp.1 (by decide) (by omega) hm.1 hm.2.2.2.2.2.1 hm.2.2.2.2.2.2.1 hTT
    have g1 : DX9_turnTo _ _ _ _ _ _ _ _ _ (0 : Int32) = _ := g1
    have hspl : ∃ q, ordL T (wout 0) n = ordM T (wout 0) n (min (t + 1) 41) ++ q ∧ ∀ i ∈ q, t < T i := by
      obtain ⟨q, w1, w2⟩ := ordM_later (T := T) (o := wout 0) (n := n) (m1 := min (t + 1) 41) (41 - min (t + 1) 41)
      rw [show min (t + 1) 41 + (41 - min (t + 1) 41) = 41 by omega] at w1
      refine ⟨q, w1, fun i hi => ?_⟩
      have h41 : T i < 41 := by
        have hio : i ∈ ordM T (wout 0) n 41 := by rw [w1]; exact List.mem_append_right _ hi
        exact (mem_ordM.mp hio).2.1
      have := w2 i hi
      omega
    have hm40 : ordM T (wout 0) n (t + 1) = ordM T (wout 0) n (min (t + 1) 41) := by
      by_cases h : t + 1 ≤ 41
      · rw [Nat.min_eq_left h]
      · rw [Nat.min_eq_right (by omega)]
        obtain ⟨q, w1, w2⟩ := ordM_later (T := T) (o := wout 0) (n := n) (m1 := 41) (t + 1 - 41)
        rw [show 41 + (t + 1 - 41) = t + 1 by omega] at w1
        have hq : q = [] := by
          rw [List.eq_nil_iff_forall_not_mem]
          intro i hi
          have h1 := w2 i hi
          have hio : i ∈ ordM T (wout 0) n (t + 1) := by rw [w1]; exact List.mem_append_right _ hi
          have := (hTT i (mem_ordM.mp hio).1).1
          omega
        rw [w1, hq, List.append_nil]
    obtain ⟨q, w1, w2⟩ := hspl
    rw [w1] at f1 f2 f3 f4
    rw [hm40] at g1
    have hl : ∀ i ∈ ordM T (wout 0) n (min (t + 1) 41) ++ q, i < n := fun i hi => by rw [← w1] at hi; exact (mem_ordM.mp hi).1
    have hlen : (ordM T (wout 0) n (min (t + 1) 41) ++ q).length ≤ 7 := by rw [← w1]; exact Nat.le_trans (ordM_len T (wout 0) n 41) hn7
    have hnd : (ordM T (wout 0) n (min (t + 1) 41) ++ q).Nodup := by rw [← w1]; exact ordM_nodup T (wout 0) n 41
    have hsb := D1_standBehind_eq (s := S) (day := t) hn7 hl hlen hnd f2 (by omega) (fun i hi => by have := hTT i hi; omega) f3.1 f3.2.2.2.2.2 (fun i hi => by have := (mem_ordM.mp hi).2.1; omega) w2
    rw [f1, e2, g1]
    simp only [bd1_eq, bd5_eq, bd3_eq, if_neg (show ¬ ((1 : Int32) = 0) by decide), hsb]
    exact ⟨_, _, _, _, _, _, _, _, _, rfl, rfl, hI0⟩
  · rw [r3, r4]
    exact ⟨_, _, _, _, _, _, _, _, _, rfl, rfl, hI0⟩
theorem s_all : S_all Inv0 := by
  intro c_text_bytes c_text_length c_reader_numbers c_reader_next c_laid_stand c_laid_home c_laid_priceStart c_laid_priceStep c_laid_thrown_cells c_laid_thrown_filled c_laid_nets_cells c_laid_nets_filled c_trial_stand c_trial_home c_trial_priceStart c_trial_priceStep c_trial_thrown_cells c_trial_thrown_filled c_trial_nets_cells c_trial_nets_filled c_flight_loads_cells c_flight_loads_filled c_flight_order c_flight_done c_flight_start c_flight_end c_changes_who c_changes_column c_changes_was c_changes_held c_kept_older_cells c_kept_older_filled c_kept_newer_cells c_kept_newer_filled c_kept_held c_turns_need m_length m_text m_stands m_homeFar m_nets m_netAt m_netWide m_netFrom m_netTo m_priceX m_priceY m_many m_days m_aims m_speeds m_kinds m_keptMany m_undoMany m_undos m_spot m_told m_to m_stood m_home m_lost m_out m_fewest m_ways m_next m_held hI x1
  have hI0 := hI
  obtain ⟨hT, n, ⟨S, D, px, py, nn, T, A, V, K, NP, NW, NF, NU, hn1, hp, hx, hm⟩, hU, hK⟩ := hI
  have hn7 := hp.2.2.2.1
  have hTT := hp.2.2.2.2.2.2.2.1
  unfold DX8_all DX9_all
  rcases win_x x1 0 3 (a := 0) (b := 3) (l := 0) (h := 3) rfl rfl rfl rfl (by decide) (by decide) with ⟨c, r0, r1, e2, r3, r4⟩ | ⟨r1, r3, r4⟩
  · rw [r3, r4]
    obtain ⟨f', o', f1, f2, f3, f4⟩ := fly_w (f := c_flight_loads_cells) (order := c_flight_order) (w := 0) hp hx (by decide)
    obtain ⟨to', st', ho', lo', g1, g2, g3⟩ := go_w (to := m_to) (stood := m_stood) (home := m_home) (lost := m_lost) (w := 0) hp hm (by decide)
    have f1 : DX1_fly (0 : Int32) _ _ _ _ _ _ _ _ _ _ = _ := f1
    have g1 : DX9_go (0 : Int32) _ _ _ _ _ _ _ _ _ _ _ = _ := g1
    have hl : ∀ i ∈ ordL T (wout 0) n, i < n := fun i hi => (mem_ordM.mp hi).1
    have hlen : (ordL T (wout 0) n).length ≤ 7 := Nat.le_trans (ordM_len T (wout 0) n 41) hn7
    have hperm := ordL_perm (T := T) (n := n) (fun i hi => (hTT i hi).1)
    rw [f1, g1, e2]
    simp only [bd1_eq, bd5_eq, if_neg (show ¬ ((1 : Int32) = 0) by decide)]
    by_cases h3 : c = 3
    · subst h3
      have hp1 := D1_paidInAll_eq hn7 hl hlen f2 (c := padS (toP A V K (ordL T (wout 0) n) S) T V K D (ordL T (wout 0) n) NP NW NF NU nn px py) (fun i hi => (f4 i hi).2.2.1)
      have hp2 := D9_paidAll_eq g3
      have hs : ((ordL T (wout 0) n).map (padS (toP A V K (ordL T (wout 0) n) S) T V K D (ordL T (wout 0) n) NP NW NF NU nn px py)).sum = sumS (toP A V K (ordL T (wout 0) n) S) T V K D (ordL T (wout 0) n) NP NW NF NU nn px py n := by
        unfold sumS
        exact List.Perm.sum_nat (hperm.map _)
      rw [if_pos (show nI 3 = 3 from rfl), if_pos (show (3 : Int32) ≤ nI 3 by decide), hp1, hp2, hs]
      exact ⟨_, _, _, _, _, _, _, _, _, _, _, rfl, rfl, hI0⟩
    · have hh : c ≤ 2 := by omega
      have hp1 := D1_howMany_eq hn7 hl hlen f2 (c := howS (toP A V K (ordL T (wout 0) n) S) T V K D (ordL T (wout 0) n) NP NW NF NU nn) (fun i hi => (f4 i hi).1) (fun i => howS_le i) hh
      have hp2 := D9_howMany_eq g3 hh
      have hs : (ordL T (wout 0) n).countP (fun i => decide (howS (toP A V K (ordL T (wout 0) n) S) T V K D (ordL T (wout 0) n) NP NW NF NU nn i = c)) = cntS (toP A V K (ordL T (wout 0) n) S) T V K D (ordL T (wout 0) n) NP NW NF NU nn n c := by
        unfold cntS
        exact hperm.countP_eq _
      have e3 : (3 : Int32) = nI 3 := rfl
      rw [if_neg (by rw [e3, p_eq (by omega) (by omega)]; exact h3), if_neg (by rw [e3, p_le (by omega) (by omega)]; omega), hp1, hp2, hs]
      exact ⟨_, _, _, _, _, _, _, _, _, _, _, rfl, rfl, hI0⟩
  · rw [r3, r4]
    exact ⟨_, _, _, _, _, _, _, _, _, _, _, rfl, rfl, hI0⟩
