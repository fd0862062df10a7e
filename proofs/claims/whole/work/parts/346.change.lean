/-! PURE: changes noted, taken back -/
def Ent (n : Nat) (ww wc wa us : Nat → Int32) (k : Nat) : Prop := ∃ i w v, i < n ∧ w < 3 ∧ okw w v ∧ ww k = nI i ∧ wc k = nI (colw w) ∧ wa k = nI v ∧ us (3 * k) = nI w ∧ us (3 * k + 1) = nI i ∧ us (3 * k + 2) = nI v
theorem colw_lt (w : Nat) : colw w < 3 := by
  unfold colw
  split
  · decide
  · split <;> decide
section CH
variable {n : Nat} {ww wc wa us : Nat → Int32}
theorem D0_drop_eq : ∃ ww' wc' wa', DX0_dropOldest ww wc wa (nI 8) = some (ww', wc', wa', nI 7) ∧ ∀ j, j < 7 → ww' j = ww (j + 1) ∧ wc' j = wc (j + 1) ∧ wa' j = wa (j + 1) := by
  have key := it_for2 (S := Int32 × (Nat → Int32) × (Nat → Int32) × (Nat → Int32)) (R := (Nat → Int32) × (Nat → Int32) × (Nat → Int32)) (f := fun st => DX0_dropOldest_L2s (nI 8) (st.1) (st.2.1) (st.2.2.1) (st.2.2.2))
    (fun k st => st.1 = nI (k + 1) ∧ (∀ j, j < k → st.2.1 j = ww (j + 1) ∧ st.2.2.1 j = wc (j + 1) ∧ st.2.2.2 j = wa (j + 1)) ∧ ∀ j, k ≤ j → st.2.1 j = ww j ∧ st.2.2.1 j = wc j ∧ st.2.2.2 j = wa j)
    (fun r => ∀ j, j < 7 → r.1 j = ww (j + 1) ∧ r.2.1 j = wc (j + 1) ∧ r.2.2 j = wa (j + 1)) 7 (s0 := ((1 : Int32), ww, wc, wa)) ⟨rfl, fun j h => absurd h (by omega), fun j _ => ⟨rfl, rfl, rfl⟩⟩ ?_ ?_ (by omega)
  · obtain ⟨⟨r1, r2, r3⟩, q1, q2⟩ := key
    refine ⟨r1, r2, r3, ?_, q2⟩
    unfold DX0_dropOldest DX0_dropOldest_L2
    have e : (nI 8 : Int32) - 1 = nI 7 := p_sub (a := 8) (b := 1) (by decide)
    rw [q1, bd3_eq, e]
  · rintro k ⟨x1, a1, a2, a3⟩ hk ⟨h1, h2, h3⟩
    simp only at h1 h2 h3
    subst h1
    left
    show ∃ s', DX0_dropOldest_L2s (nI 8) (nI (k + 1)) a1 a2 a3 = some (.inl s') ∧ _
    unfold DX0_dropOldest_L2s
    have hk1 : nI (k + 1) + (1 : Int32) = nI (k + 1 + 1) := p_add (k + 1) 1
    have hk0 : nI (k + 1) - (1 : Int32) = nI k := p_sub (a := k + 1) (b := 1) (by omega)
    obtain ⟨c1, c2, c3⟩ := h3 (k + 1) (by omega)
    rw [if_neg (by rw [p_le (by omega) (by omega)]; omega), D8_at_eq (by omega) (by decide), bd1_eq, hk0, D8_put_eq (by omega) (by decide), bd1_eq, D8_at_eq (by omega) (by decide), bd1_eq, D8_put_eq (by omega) (by decide), bd1_eq, D8_at_eq (by omega) (by decide), bd1_eq, D8_put_eq (by omega) (by decide), bd1_eq, hk1]
    refine ⟨_, rfl, rfl, fun j hj => ?_, fun j hj => ?_⟩
    · show upd a1 k _ j = _ ∧ upd a2 k _ j = _ ∧ upd a3 k _ j = _
      by_cases e : j = k
      · rw [e, upd_same, upd_same, upd_same]; exact ⟨c1, c2, c3⟩
      · rw [upd_ne _ _ e, upd_ne _ _ e, upd_ne _ _ e]; exact h2 j (by omega)
    · show upd a1 k _ j = _ ∧ upd a2 k _ j = _ ∧ upd a3 k _ j = _
      rw [upd_ne _ _ (by omega), upd_ne _ _ (by omega), upd_ne _ _ (by omega)]; exact h3 j (by omega)
  · rintro ⟨x1, a1, a2, a3⟩ ⟨h1, h2, h3⟩
    simp only at h1 h2 h3
    subst h1
    show ∃ r, DX0_dropOldest_L2s (nI 8) (nI 8) a1 a2 a3 = some (.inr r) ∧ _
    unfold DX0_dropOldest_L2s
    rw [if_pos (by decide)]
    exact ⟨_, rfl, h2⟩
theorem D9_drop_eq : ∃ us', DX9_note_L12 FU (0 : Int32) us = some us' ∧ ∀ j, j < 21 → us' j = us (j + 3) := by
  have key := it_for2 (S := Int32 × (Nat → Int32)) (R := Nat → Int32) (f := fun st => DX9_note_L12s (st.1) (st.2))
    (fun k st => st.1 = nI k ∧ (∀ j, j < k → st.2 j = us (j + 3)) ∧ ∀ j, k ≤ j → st.2 j = us j) (fun r => ∀ j, j < 21 → r j = us (j + 3)) 21 (s0 := ((0 : Int32), us)) ⟨rfl, fun j h => absurd h (by omega), fun j _ => rfl⟩ ?_ ?_ (by omega)
  · obtain ⟨r, q1, q2⟩ := key
    exact ⟨r, q1, q2⟩
  · rintro k ⟨x4, u1⟩ hk ⟨h1, h2, h3⟩
    simp only at h1 h2 h3
    subst h1
    left
    show ∃ s', DX9_note_L12s (nI k) u1 = some (.inl s') ∧ _
    unfold DX9_note_L12s
    have hk1 : nI k + (1 : Int32) = nI (k + 1) := p_add k 1
    have hk3 : nI k + (3 : Int32) = nI (k + 3) := p_add k 3
    have e21 : (21 : Int32) = nI 21 := rfl
    rw [e21, if_neg (by rw [p_le (by omega) (by omega)]; omega), hk3, p_g (by omega) (by decide), p_g (by omega) (by decide), p_tn (by omega), p_tn (by omega), hk1]
    refine ⟨_, rfl, rfl, fun j hj => ?_, fun j hj => ?_⟩
    · show upd u1 k _ j = _
      by_cases e : j = k
      · rw [e, upd_same]; exact h3 _ (by omega)
      · rw [upd_ne _ _ e]; exact h2 j (by omega)
    · show upd u1 k _ j = _
      rw [upd_ne _ _ (by omega)]; exact h3 j (by omega)
  · rintro ⟨x4, u1⟩ ⟨h1, h2, h3⟩
    simp only at h1 h2 h3
    subst h1
    show ∃ r, DX9_note_L12s (nI 21) u1 = some (.inr r) ∧ _
    unfold DX9_note_L12s
    rw [if_pos (by decide)]
    exact ⟨_, rfl, h2⟩
theorem note_end {u i w v : Nat} (hu : u < 8) (hi : i < n) (hw : w < 3) (ho : okw w v) (he : ∀ k, k < u → Ent n ww wc wa us k) :
    ∃ ww' wc' wa' us', DX0_note_J13 (nI i) (nI (colw w)) (nI v) ww wc wa (nI u) = some (ww', wc', wa', nI (u + 1)) ∧ DX9_note_J51 (nI w) (nI i) (nI v) (nI u) us = some (nI v, nI (u + 1), us') ∧ ∀ k, k < u + 1 → Ent n ww' wc' wa' us' k := by
  have hk1 : nI u + (1 : Int32) = nI (u + 1) := p_add u 1
  have h3 : (3 : Int32) * nI u = nI (3 * u) := p_mul 3 u
  have h31 : nI (3 * u) + (1 : Int32) = nI (3 * u + 1) := p_add _ 1
  have h32 : nI (3 * u) + (2 : Int32) = nI (3 * u + 2) := p_add _ 2
  refine ⟨upd ww u (nI i), upd wc u (nI (colw w)), upd wa u (nI v), upd (upd (upd us (3 * u) (nI w)) (3 * u + 1) (nI i)) (3 * u + 2) (nI v), ?_, ?_, ?_⟩
  · unfold DX0_note_J13
    rw [D8_put_eq hu (by decide), bd1_eq, D8_put_eq hu (by decide), bd1_eq, D8_put_eq hu (by decide), bd1_eq, hk1]
  · unfold DX9_note_J51
    rw [h3, h31, h32, p_g (by omega) (by decide), p_g (by omega) (by decide), p_g (by omega) (by decide), p_tn (by omega), p_tn (by omega), p_tn (by omega), hk1]
  · intro k hk
    by_cases e : k = u
    · subst e
      refine ⟨i, w, v, hi, hw, ho, upd_same _ _ _, upd_same _ _ _, upd_same _ _ _, ?_, ?_, upd_same _ _ _⟩
      · rw [upd_ne _ _ (by omega), upd_ne _ _ (by omega), upd_same]
      · rw [upd_ne _ _ (by omega), upd_same]
    · obtain ⟨i', w', v', q1, q2, q3, q4, q5, q6, q7, q8, q9⟩ := he k (by omega)
      refine ⟨i', w', v', q1, q2, q3, ?_, ?_, ?_, ?_, ?_, ?_⟩
      · rw [upd_ne _ _ e]; exact q4
      · rw [upd_ne _ _ e]; exact q5
      · rw [upd_ne _ _ e]; exact q6
      · rw [upd_ne _ _ (by omega), upd_ne _ _ (by omega), upd_ne _ _ (by omega)]; exact q7
      · rw [upd_ne _ _ (by omega), upd_ne _ _ (by omega), upd_ne _ _ (by omega)]; exact q8
      · rw [upd_ne _ _ (by omega), upd_ne _ _ (by omega), upd_ne _ _ (by omega)]; exact q9
theorem note_eq {wh um : Int32} {i w v : Nat} (hU : Und n ww wc wa wh um us) (hi : i < n) (hw : w < 3) (ho : okw w v) :
    ∃ ww' wc' wa' wh' um' us', DX0_note (nI i) (nI (colw w)) (nI v) ww wc wa wh = some (ww', wc', wa', wh') ∧ DX9_note (nI w) (nI i) (nI v) um us = some (nI v, um', us') ∧ Und n ww' wc' wa' wh' um' us' := by
  obtain ⟨u, u8, e1, e2, he⟩ := hU
  subst e1 e2
  unfold DX0_note DX9_note
  by_cases h : u = 8
  · subst h
    obtain ⟨ww1, wc1, wa1, d1, d2⟩ := D0_drop_eq (ww := ww) (wc := wc) (wa := wa)
    obtain ⟨us1, d3, d4⟩ := D9_drop_eq (us := us)
    have e : (nI 8 : Int32) - 1 = nI 7 := p_sub (a := 8) (b := 1) (by decide)
    obtain ⟨ww', wc', wa', us', r1, r2, r3⟩ := note_end (ww := ww1) (wc := wc1) (wa := wa1) (us := us1) (u := 7) (v := v) (by decide) hi hw ho (fun k hk => by
      obtain ⟨i', w', v', q1, q2, q3, q4, q5, q6, q7, q8, q9⟩ := he (k + 1) (by omega)
      obtain ⟨c1, c2, c3⟩ := d2 k hk
      exact ⟨i', w', v', q1, q2, q3, c1.trans q4, c2.trans q5, c3.trans q6, (d4 _ (by omega)).trans q7, (d4 _ (by omega)).trans (by rw [show 3 * k + 1 + 3 = 3 * (k + 1) + 1 by omega]; exact q8), (d4 _ (by omega)).trans (by rw [show 3 * k + 2 + 3 = 3 * (k + 1) + 2 by omega]; exact q9)⟩)
    rw [if_pos (show nI 8 = 8 from rfl), if_pos (show nI 8 = 8 from rfl), d1, bd4_eq, d3, bd1_eq, e]
    exact ⟨ww', wc', wa', _, _, us', r1, r2, 8, by decide, rfl, rfl, r3⟩
  · have e8 : (8 : Int32) = nI 8 := rfl
    rw [if_neg (by rw [e8, p_eq (by omega) (by omega)]; exact h), if_neg (by rw [e8, p_eq (by omega) (by omega)]; exact h)]
    obtain ⟨ww', wc', wa', us', r1, r2, r3⟩ := note_end (ww := ww) (wc := wc) (wa := wa) (us := us) (u := u) (v := v) (by omega) hi hw ho he
    exact ⟨ww', wc', wa', _, _, us', r1, r2, u + 1, by omega, rfl, rfl, r3⟩
theorem change_x {lc : Nat → Int32} {lf wh : Int32} {i c v : Nat} {x3 : Int32} {ww' wc' wa' : Nat → Int32} {wh' : Int32} (hn : n ≤ 7) (hi : i < n) (hc : c < 4) (hlf : lf = nI n) (hv : lc (i * 4 + c) = nI v) (hno : DX0_note (nI i) (nI c) (nI v) ww wc wa wh = some (ww', wc', wa', wh')) :
    DX8_change (nI i) (nI c) x3 (1 : Int32) lc lf ww wc wa wh = some (nI v, upd lc (i * 4 + c) x3, ww', wc', wa', wh') := by
  have hhas : DX5_has (nI i) lf = some 1 := by
    unfold DX5_has
    rw [hlf, if_neg (p_neg (by omega)), if_neg (by rw [p_le (by omega) (by omega)]; omega)]
  unfold DX8_change
  rw [hhas, bd1_eq, if_neg (by decide), if_neg (by decide), getT (by omega) hc, bd1_eq, hv, hno, bd4_eq, setT (by omega) hc, bd1_eq]
theorem change_no {lc : Nat → Int32} {lf wh x1 x2 x3 x4 : Int32} (h : DX5_has x1 lf = some 0 ∨ x4 = 0 ∧ (DX5_has x1 lf = some 1 ∨ DX5_has x1 lf = some 0)) : DX8_change x1 x2 x3 x4 lc lf ww wc wa wh = some (-1, lc, ww, wc, wa, wh) := by
  unfold DX8_change
  rcases h with h | ⟨e, h | h⟩
  · rw [h]; rfl
  · rw [h, e]; rfl
  · rw [h]; rfl
theorem Kep_upd {oc kc mm days aims speeds kinds days' aims' speeds' : Nat → Int32} {of kf kh km : Int32} (h : Kep oc of kc kf kh km mm days aims speeds kinds) (h1 : ∀ j, 7 ≤ j → days' j = days j) (h2 : ∀ j, 7 ≤ j → aims' j = aims j) (h3 : ∀ j, 7 ≤ j → speeds' j = speeds j) : Kep oc of kc kf kh km mm days' aims' speeds' kinds := by
  obtain ⟨k, k1, k2, k3, k4, k5⟩ := h
  have g : ∀ (f : Nat → Int32) (fl : Int32) (b : Nat), 1 ≤ b → KS f fl b mm days aims speeds kinds → KS f fl b mm days' aims' speeds' kinds := by
    rintro f fl b hb ⟨n, T, A, V, K, q1, q2, q3, q4, q5, q6, q7⟩
    refine ⟨n, T, A, V, K, q1, q2, q3, q4, q5, q6, fun i hi => ?_⟩
    obtain ⟨z1, z2, z3, z4⟩ := q7 i hi
    exact ⟨(h1 _ (by omega)).trans z1, (h2 _ (by omega)).trans z2, (h3 _ (by omega)).trans z3, z4⟩
  exact ⟨k, k1, k2, k3, fun h => g _ _ 2 (by decide) (k4 h), fun h => g _ _ 3 (by decide) (k5 h)⟩
end CH
theorem s_aim : S_aim Inv0 := by
  intro c_text_bytes c_text_length c_reader_numbers c_reader_next c_laid_stand c_laid_home c_laid_priceStart c_laid_priceStep c_laid_thrown_cells c_laid_thrown_filled c_laid_nets_cells c_laid_nets_filled c_trial_stand c_trial_home c_trial_priceStart c_trial_priceStep c_trial_thrown_cells c_trial_thrown_filled c_trial_nets_cells c_trial_nets_filled c_flight_loads_cells c_flight_loads_filled c_flight_order c_flight_done c_flight_start c_flight_end c_changes_who c_changes_column c_changes_was c_changes_held c_kept_older_cells c_kept_older_filled c_kept_newer_cells c_kept_newer_filled c_kept_held c_turns_need m_length m_text m_stands m_homeFar m_nets m_netAt m_netWide m_netFrom m_netTo m_priceX m_priceY m_many m_days m_aims m_speeds m_kinds m_keptMany m_undoMany m_undos m_spot m_told m_to m_stood m_home m_lost m_out m_fewest m_ways m_next m_held hI x1 x2
  have hI0 := hI
  obtain ⟨hT, n, ⟨S, D, px, py, nn, T, A, V, K, NP, NW, NF, NU, hn1, hp, hx, hm⟩, hU, hK⟩ := hI
  have hn7 := hp.2.2.2.1
  have hTT := hp.2.2.2.2.2.2.2.1
  have hlf := hx.2.2.2.2.1
  have hmm := hm.2.2.2.2.2.1
  unfold DX8_aim DX9_aim
  rcases thr_x x1 hmm hn1 hn7 with ⟨i, hi, e1, q1, q2⟩ | ⟨q1, q2⟩
  · rw [← hlf] at q1
    rw [q2]
    rcases win_x x2 0 23 (a := 0) (b := 23) (l := 0) (h := 23) rfl rfl rfl rfl (by decide) (by decide) with ⟨c, r0, r1, e2, r3, r4⟩ | ⟨r1, r3, r4⟩
    · rw [r3, r4]
      obtain ⟨a1, a2, a3, a4, a5, a6, a7, a8⟩ := hx
      obtain ⟨b1, b2, b3, b4, b5, b6, b7, b8⟩ := hm
      obtain ⟨z1, z2, z3, z4, z5⟩ := hTT i hi
      have ho : okw 0 (A i) := ⟨fun h => by omega, fun h => by omega, fun h => by omega⟩
      obtain ⟨ww', wc', wa', wh', um', us', n1, n2, n3⟩ := note_eq hU hi (w := 0) (by decide) ho
      have hch := change_x (x3 := x2) (c := 1) hn7 hi (by decide) hlf (a7 i hi).2.1 n1
      have hch : DX8_change (nI i) (1 : Int32) x2 (1 : Int32) c_laid_thrown_cells c_laid_thrown_filled c_changes_who c_changes_column c_changes_was c_changes_held = some (nI (A i), upd c_laid_thrown_cells (i * 4 + 1) x2, ww', wc', wa', wh') := hch
      have n2 : DX9_note (0 : Int32) (nI i) (nI (A i)) m_undoMany m_undos = some (nI (A i), um', us') := n2
      have gd : ∀ {α : Type} (b : Option α), (if nI i < 0 ∨ 28 ≤ i then none else b) = b := fun b => p_h (by omega) (by omega)
      rw [e1, bd1_eq, hch, bd6_eq, bd1_eq, if_neg (by decide), bd1_eq, if_neg (by decide), p_tn (by omega), gd, (b7 i hi).2.1, n2, bd3_eq, gd]
      refine ⟨_, _, _, _, _, _, _, _, _, rfl, rfl, hT, n, ⟨S, D, px, py, nn, T, setF A i c, V, K, NP, NW, NF, NU, hn1, Pok_setA hp (by omega), ⟨a1, a2, a3, a4, a5, a6, Thr_setA hn7 hi a7 (fun j _ hj => upd_ne _ _ hj) (by rw [upd_same, e2]), a8⟩, b1, b2, b3, b4, b5, b6, Mth_setA b7 (fun j hj => upd_ne _ _ hj) (by rw [upd_same, e2]), b8⟩, n3, Kep_upd hK (fun _ _ => rfl) (fun j hj => upd_ne _ _ (by omega)) (fun _ _ => rfl)⟩
    · rw [r3, r4, bd1_eq, change_no (Or.inr ⟨rfl, Or.inl q1⟩)]
      exact ⟨_, _, _, _, _, _, _, _, _, rfl, rfl, hI0⟩
  · rw [← hlf] at q1
    rw [q2]
    have hw : ∃ r, DX8_within x2 (0 : Int32) (23 : Int32) = some r := by
      rcases win_x x2 0 23 (a := 0) (b := 23) (l := 0) (h := 23) rfl rfl rfl rfl (by decide) (by decide) with ⟨c, r0, r1, e2, r3, r4⟩ | ⟨r1, r3, r4⟩
      · exact ⟨_, r3⟩
      · exact ⟨_, r3⟩
    obtain ⟨r, hr⟩ := hw
    rw [hr, bd1_eq, change_no (Or.inl q1)]
    exact ⟨_, _, _, _, _, _, _, _, _, rfl, rfl, hI0⟩
theorem s_move : S_move Inv0 := by
  intro c_text_bytes c_text_length c_reader_numbers c_reader_next c_laid_stand c_laid_home c_laid_priceStart c_laid_priceStep c_laid_thrown_cells c_laid_thrown_filled c_laid_nets_cells c_laid_nets_filled c_trial_stand c_trial_home c_trial_priceStart c_trial_priceStep c_trial_thrown_cells c_trial_thrown_filled c_trial_nets_cells c_trial_nets_filled c_flight_loads_cells c_flight_loads_filled c_flight_order c_flight_done c_flight_start c_flight_end c_changes_who c_changes_column c_changes_was c_changes_held c_kept_older_cells c_kept_older_filled c_kept_newer_cells c_kept_newer_filled c_kept_held c_turns_need m_length m_text m_stands m_homeFar m_nets m_netAt m_netWide m_netFrom m_netTo m_priceX m_priceY m_many m_days m_aims m_speeds m_kinds m_keptMany m_undoMany m_undos m_spot m_told m_to m_stood m_home m_lost m_out m_fewest m_ways m_next m_held hI x1 x2
  have hI0 := hI
  obtain ⟨hT, n, ⟨S, D, px, py, nn, T, A, V, K, NP, NW, NF, NU, hn1, hp, hx, hm⟩, hU, hK⟩ := hI
  have hn7 := hp.2.2.2.1
  have hTT := hp.2.2.2.2.2.2.2.1
  have hlf := hx.2.2.2.2.1
  have hmm := hm.2.2.2.2.2.1
  unfold DX8_move DX9_move
  rcases thr_x x1 hmm hn1 hn7 with ⟨i, hi, e1, q1, q2⟩ | ⟨q1, q2⟩
  · rw [← hlf] at q1
    rw [q2]
    rcases win_x x2 0 40 (a := 0) (b := 40) (l := 0) (h := 40) rfl rfl rfl rfl (by decide) (by decide) with ⟨c, r0, r1, e2, r3, r4⟩ | ⟨r1, r3, r4⟩
    · rw [r3, r4]
      obtain ⟨a1, a2, a3, a4, a5, a6, a7, a8⟩ := hx
      obtain ⟨b1, b2, b3, b4, b5, b6, b7, b8⟩ := hm
      obtain ⟨z1, z2, z3, z4, z5⟩ := hTT i hi
      have ho : okw 1 (T i) := ⟨fun h => by omega, fun h => by omega, fun h => by omega⟩
      obtain ⟨ww', wc', wa', wh', um', us', n1, n2, n3⟩ := note_eq hU hi (w := 1) (by decide) ho
      have hch := change_x (x3 := x2) (c := 0) hn7 hi (by decide) hlf (a7 i hi).1 n1
      have hch : DX8_change (nI i) (0 : Int32) x2 (1 : Int32) c_laid_thrown_cells c_laid_thrown_filled c_changes_who c_changes_column c_changes_was c_changes_held = some (nI (T i), upd c_laid_thrown_cells (i * 4 + 0) x2, ww', wc', wa', wh') := hch
      have n2 : DX9_note (1 : Int32) (nI i) (nI (T i)) m_undoMany m_undos = some (nI (T i), um', us') := n2
      have gd : ∀ {α : Type} (b : Option α), (if nI i < 0 ∨ 28 ≤ i then none else b) = b := fun b => p_h (by omega) (by omega)
      rw [e1, bd1_eq, hch, bd6_eq, bd1_eq, if_neg (by decide), bd1_eq, if_neg (by decide), p_tn (by omega), gd, (b7 i hi).1, n2, bd3_eq, gd]
      refine ⟨_, _, _, _, _, _, _, _, _, rfl, rfl, hT, n, ⟨S, D, px, py, nn, setF T i c, A, V, K, NP, NW, NF, NU, hn1, Pok_setT hp (by omega), ⟨a1, a2, a3, a4, a5, a6, Thr_setT hn7 hi a7 (fun j _ hj => upd_ne _ _ hj) (by rw [upd_same, e2]), a8⟩, b1, b2, b3, b4, b5, b6, Mth_setT b7 (fun j hj => upd_ne _ _ hj) (by rw [upd_same, e2]), b8⟩, n3, Kep_upd hK (fun j hj => upd_ne _ _ (by omega)) (fun _ _ => rfl) (fun _ _ => rfl)⟩
    · rw [r3, r4, bd1_eq, change_no (Or.inr ⟨rfl, Or.inl q1⟩)]
      exact ⟨_, _, _, _, _, _, _, _, _, rfl, rfl, hI0⟩
  · rw [← hlf] at q1
    rw [q2]
    have hw : ∃ r, DX8_within x2 (0 : Int32) (40 : Int32) = some r := by
      rcases win_x x2 0 40 (a := 0) (b := 40) (l := 0) (h := 40) rfl rfl rfl rfl (by decide) (by decide) with ⟨c, r0, r1, e2, r3, r4⟩ | ⟨r1, r3, r4⟩
      · exact ⟨_, r3⟩
      · exact ⟨_, r3⟩
    obtain ⟨r, hr⟩ := hw
    rw [hr, bd1_eq, change_no (Or.inl q1)]
    exact ⟨_, _, _, _, _, _, _, _, _, rfl, rfl, hI0⟩
theorem s_speed : S_speed Inv0 := by
  intro c_text_bytes c_text_length c_reader_numbers c_reader_next c_laid_stand c_laid_home c_laid_priceStart c_laid_priceStep c_laid_thrown_cells c_laid_thrown_filled c_laid_nets_cells c_laid_nets_filled c_trial_stand c_trial_home c_trial_priceStart c_trial_priceStep c_trial_thrown_cells c_trial_thrown_filled c_trial_nets_cells c_trial_nets_filled c_flight_loads_cells c_flight_loads_filled c_flight_order c_flight_done c_flight_start c_flight_end c_changes_who c_changes_column c_changes_was c_changes_held c_kept_older_cells c_kept_older_filled c_kept_newer_cells c_kept_newer_filled c_kept_held c_turns_need m_length m_text m_stands m_homeFar m_nets m_netAt m_netWide m_netFrom m_netTo m_priceX m_priceY m_many m_days m_aims m_speeds m_kinds m_keptMany m_undoMany m_undos m_spot m_told m_to m_stood m_home m_lost m_out m_fewest m_ways m_next m_held hI x1 x2
  have hI0 := hI
  obtain ⟨hT, n, ⟨S, D, px, py, nn, T, A, V, K, NP, NW, NF, NU, hn1, hp, hx, hm⟩, hU, hK⟩ := hI
  have hn7 := hp.2.2.2.1
  have hTT := hp.2.2.2.2.2.2.2.1
  have hlf := hx.2.2.2.2.1
  have hmm := hm.2.2.2.2.2.1
  unfold DX8_speed DX9_speed
  rcases thr_x x1 hmm hn1 hn7 with ⟨i, hi, e1, q1, q2⟩ | ⟨q1, q2⟩
  · rw [← hlf] at q1
    rw [q2]
    rcases win_x x2 1 6 (a := 1) (b := 6) (l := 1) (h := 6) rfl rfl rfl rfl (by decide) (by decide) with ⟨c, r0, r1, e2, r3, r4⟩ | ⟨r1, r3, r4⟩
    · rw [r3, r4]
      obtain ⟨a1, a2, a3, a4, a5, a6, a7, a8⟩ := hx
      obtain ⟨b1, b2, b3, b4, b5, b6, b7, b8⟩ := hm
      obtain ⟨z1, z2, z3, z4, z5⟩ := hTT i hi
      have ho : okw 2 (V i) := ⟨fun h => by omega, fun h => by omega, fun h => by omega⟩
      obtain ⟨ww', wc', wa', wh', um', us', n1, n2, n3⟩ := note_eq hU hi (w := 2) (by decide) ho
      have hch := change_x (x3 := x2) (c := 2) hn7 hi (by decide) hlf (a7 i hi).2.2.1 n1
      have hch : DX8_change (nI i) (2 : Int32) x2 (1 : Int32) c_laid_thrown_cells c_laid_thrown_filled c_changes_who c_changes_column c_changes_was c_changes_held = some (nI (V i), upd c_laid_thrown_cells (i * 4 + 2) x2, ww', wc', wa', wh') := hch
      have n2 : DX9_note (2 : Int32) (nI i) (nI (V i)) m_undoMany m_undos = some (nI (V i), um', us') := n2
      have gd : ∀ {α : Type} (b : Option α), (if nI i < 0 ∨ 28 ≤ i then none else b) = b := fun b => p_h (by omega) (by omega)
      rw [e1, bd1_eq, hch, bd6_eq, bd1_eq, if_neg (by decide), bd1_eq, if_neg (by decide), p_tn (by omega), gd, (b7 i hi).2.2.1, n2, bd3_eq, gd]
      refine ⟨_, _, _, _, _, _, _, _, _, rfl, rfl, hT, n, ⟨S, D, px, py, nn, T, A, setF V i c, K, NP, NW, NF, NU, hn1, Pok_setV hp (by omega), ⟨a1, a2, a3, a4, a5, a6, Thr_setV hn7 hi a7 (fun j _ hj => upd_ne _ _ hj) (by rw [upd_same, e2]), a8⟩, b1, b2, b3, b4, b5, b6, Mth_setV b7 (fun j hj => upd_ne _ _ hj) (by rw [upd_same, e2]), b8⟩, n3, Kep_upd hK (fun _ _ => rfl) (fun _ _ => rfl) (fun j hj => upd_ne _ _ (by omega))⟩
    · rw [r3, r4, bd1_eq, change_no (Or.inr ⟨rfl, Or.inl q1⟩)]
      exact ⟨_, _, _, _, _, _, _, _, _, rfl, rfl, hI0⟩
  · rw [← hlf] at q1
    rw [q2]
    have hw : ∃ r, DX8_within x2 (1 : Int32) (6 : Int32) = some r := by
      rcases win_x x2 1 6 (a := 1) (b := 6) (l := 1) (h := 6) rfl rfl rfl rfl (by decide) (by decide) with ⟨c, r0, r1, e2, r3, r4⟩ | ⟨r1, r3, r4⟩
      · exact ⟨_, r3⟩
      · exact ⟨_, r3⟩
    obtain ⟨r, hr⟩ := hw
    rw [hr, bd1_eq, change_no (Or.inl q1)]
    exact ⟨_, _, _, _, _, _, _, _, _, rfl, rfl, hI0⟩
