/-! PURE: undo, keep, back -/
theorem s_undo : S_undo Inv0 := by
  intro c_text_bytes c_text_length c_reader_numbers c_reader_next c_laid_stand c_laid_home c_laid_priceStart c_laid_priceStep c_laid_thrown_cells c_laid_thrown_filled c_laid_nets_cells c_laid_nets_filled c_trial_stand c_trial_home c_trial_priceStart c_trial_priceStep c_trial_thrown_cells c_trial_thrown_filled c_trial_nets_cells c_trial_nets_filled c_flight_loads_cells c_flight_loads_filled c_flight_order c_flight_done c_flight_start c_flight_end c_changes_who c_changes_column c_changes_was c_changes_held c_kept_older_cells c_kept_older_filled c_kept_newer_cells c_kept_newer_filled c_kept_held c_turns_need m_length m_text m_stands m_homeFar m_nets m_netAt m_netWide m_netFrom m_netTo m_priceX m_priceY m_many m_days m_aims m_speeds m_kinds m_keptMany m_undoMany m_undos m_spot m_told m_to m_stood m_home m_lost m_out m_fewest m_ways m_next m_held hI
  have hI0 := hI
  obtain ⟨hT, n, ⟨S, D, px, py, nn, T, A, V, K, NP, NW, NF, NU, hn1, hp, hx, hm⟩, ⟨u, u8, e1, e2, he⟩, hK⟩ := hI
  have hn7 := hp.2.2.2.1
  unfold DX8_undo DX9_undo DX0_takeBack
  by_cases h0 : u = 0
  · subst h0
    rw [if_pos (show c_changes_held = 0 from e1), if_pos (show m_undoMany = 0 from e2)]
    exact ⟨_, _, _, _, _, _, _, rfl, rfl, hI0⟩
  · have ez : (0 : Int32) = nI 0 := rfl
    have hu1 : nI u - (1 : Int32) = nI (u - 1) := p_sub (a := u) (b := 1) (by omega)
    obtain ⟨i, w, v, q1, q2, q3, q4, q5, q6, q7, q8, q9⟩ := he (u - 1) (by omega)
    have h3 : (3 : Int32) * nI (u - 1) = nI (3 * (u - 1)) := p_mul 3 _
    have h31 : nI (3 * (u - 1)) + (1 : Int32) = nI (3 * (u - 1) + 1) := p_add _ 1
    have h32 : nI (3 * (u - 1)) + (2 : Int32) = nI (3 * (u - 1) + 2) := p_add _ 2
    have hne : ¬ (nI u = 0) := by rw [ez, p_eq (by omega) (by omega)]; exact h0
    have hset : DX5_set (nI i) (nI (colw w)) (nI v) (7 : Int32) (4 : Int32) 28 c_laid_thrown_cells = some (upd c_laid_thrown_cells (i * 4 + colw w) (nI v)) := setT (by omega) (by have := colw_lt w; omega)
    have gd : ∀ {α : Type} (b : Option α), (if nI i < 0 ∨ 28 ≤ i then none else b) = b := fun b => p_h (by omega) (by omega)
    have hU' : Und n c_changes_who c_changes_column c_changes_was (nI (u - 1)) (nI (u - 1)) m_undos := ⟨u - 1, by omega, rfl, rfl, fun k hk => he k (by omega)⟩
    obtain ⟨a1, a2, a3, a4, a5, a6, a7, a8⟩ := hx
    obtain ⟨b1, b2, b3, b4, b5, b6, b7, b8⟩ := hm
    rw [e1, e2, if_neg hne, if_neg hne, hu1, h3, h31, h32, D8_at_eq (by omega) (by decide), bd1_eq, D8_at_eq (by omega) (by decide), bd1_eq, D8_at_eq (by omega) (by decide), bd1_eq, q4, q5, q6, hset, bd1_eq, bd3_eq, if_neg (by decide)]
    rw [p_g (by omega) (by decide), p_g (by omega) (by decide), p_g (by omega) (by decide), p_tn (by omega), p_tn (by omega), p_tn (by omega), q7, q8, q9, p_tn (show i < 2147483648 by omega), gd, gd, gd]
    have hw : w = 0 ∨ w = 1 ∨ w = 2 := by omega
    rcases hw with h | h | h <;> subst h
    · rw [if_pos (show nI 0 = 0 from rfl)]
      refine ⟨_, _, _, _, _, _, _, rfl, rfl, hT, n, ⟨S, D, px, py, nn, T, setF A i v, V, K, NP, NW, NF, NU, hn1, Pok_setA hp (q3.1 rfl), ⟨a1, a2, a3, a4, a5, a6, Thr_setA hn7 q1 a7 (fun j _ hj => upd_ne _ _ hj) (upd_same _ _ _), a8⟩, b1, b2, b3, b4, b5, b6, Mth_setA b7 (fun j hj => upd_ne _ _ hj) (upd_same _ _ _), b8⟩, hU', Kep_upd hK (fun _ _ => rfl) (fun j hj => upd_ne _ _ (by omega)) (fun _ _ => rfl)⟩
    · rw [if_neg (by decide), if_pos (show nI 1 = 1 from rfl)]
      refine ⟨_, _, _, _, _, _, _, rfl, rfl, hT, n, ⟨S, D, px, py, nn, setF T i v, A, V, K, NP, NW, NF, NU, hn1, Pok_setT hp (q3.2.1 rfl), ⟨a1, a2, a3, a4, a5, a6, Thr_setT hn7 q1 a7 (fun j _ hj => upd_ne _ _ hj) (upd_same _ _ _), a8⟩, b1, b2, b3, b4, b5, b6, Mth_setT b7 (fun j hj => upd_ne _ _ hj) (upd_same _ _ _), b8⟩, hU', Kep_upd hK (fun j hj => upd_ne _ _ (by omega)) (fun _ _ => rfl) (fun _ _ => rfl)⟩
    · rw [if_neg (by decide), if_neg (by decide)]
      refine ⟨_, _, _, _, _, _, _, rfl, rfl, hT, n, ⟨S, D, px, py, nn, T, A, setF V i v, K, NP, NW, NF, NU, hn1, Pok_setV hp (q3.2.2 rfl), ⟨a1, a2, a3, a4, a5, a6, Thr_setV hn7 q1 a7 (fun j _ hj => upd_ne _ _ hj) (upd_same _ _ _), a8⟩, b1, b2, b3, b4, b5, b6, Mth_setV b7 (fun j hj => upd_ne _ _ hj) (upd_same _ _ _), b8⟩, hU', Kep_upd hK (fun _ _ => rfl) (fun _ _ => rfl) (fun j hj => upd_ne _ _ (by omega))⟩
/-! the reference's copy -/
def Cpd (f f' : Nat → Int32) (a b k : Nat) : Prop := (∀ j, j < k → f' (7 * b + j) = f (7 * a + j)) ∧ ∀ j, (j < 7 * b ∨ 7 * b + k ≤ j) → f' j = f j
theorem Cpd_go {f f' : Nat → Int32} {a b k : Nat} (h : Cpd f f' a b k) (hk : k < 7) (hab : a ≠ b) : Cpd f (upd f' (7 * b + k) (f' (7 * a + k))) a b (k + 1) := by
  obtain ⟨h1, h2⟩ := h
  refine ⟨fun j hj => ?_, fun j hj => ?_⟩
  · by_cases e : j = k
    · rw [e, upd_same]; exact h2 _ (by omega)
    · rw [upd_ne _ _ (by omega)]; exact h1 j (by omega)
  · rw [upd_ne _ _ (by omega)]; exact h2 j (by omega)
theorem D9_copy_eq {mm days aims speeds kinds : Nat → Int32} {a b : Nat} (ha : a < 4) (hb : b < 4) (hab : a ≠ b) :
    ∃ d' a' s' k', DX9_copy (nI a) (nI b) mm days aims speeds kinds = some (upd mm b (mm a), d', a', s', k') ∧ Cpd days d' a b 7 ∧ Cpd aims a' a b 7 ∧ Cpd speeds s' a b 7 ∧ Cpd kinds k' a b 7 := by
  have key := it_for2 (S := Int32 × (Nat → Int32) × (Nat → Int32) × (Nat → Int32) × (Nat → Int32)) (R := (Nat → Int32) × (Nat → Int32) × (Nat → Int32) × (Nat → Int32)) (f := fun st => DX9_copy_L14s (nI a) (nI b) (st.1) (st.2.1) (st.2.2.1) (st.2.2.2.1) (st.2.2.2.2))
    (fun k st => st.1 = nI k ∧ Cpd days st.2.1 a b k ∧ Cpd aims st.2.2.1 a b k ∧ Cpd speeds st.2.2.2.1 a b k ∧ Cpd kinds st.2.2.2.2 a b k) (fun r => Cpd days r.1 a b 7 ∧ Cpd aims r.2.1 a b 7 ∧ Cpd speeds r.2.2.1 a b 7 ∧ Cpd kinds r.2.2.2 a b 7) 7 (s0 := ((0 : Int32), days, aims, speeds, kinds))
    ⟨rfl, ⟨fun j h => absurd h (by omega), fun j _ => rfl⟩, ⟨fun j h => absurd h (by omega), fun j _ => rfl⟩, ⟨fun j h => absurd h (by omega), fun j _ => rfl⟩, ⟨fun j h => absurd h (by omega), fun j _ => rfl⟩⟩ ?_ ?_ (by omega)
  · obtain ⟨⟨r1, r2, r3, r4⟩, q1, q2⟩ := key
    refine ⟨r1, r2, r3, r4, ?_, q2⟩
    unfold DX9_copy DX9_copy_L14
    rw [p_g (by omega) (by decide), p_g (by omega) (by decide), q1, bd4_eq, p_tn (by omega), p_tn (by omega)]
  · rintro k ⟨x3, d1, a1, s1, k1⟩ hk ⟨h1, h2, h3, h4, h5⟩
    simp only at h1 h2 h3 h4 h5
    subst h1
    left
    show ∃ s', DX9_copy_L14s (nI a) (nI b) (nI k) d1 a1 s1 k1 = some (.inl s') ∧ _
    unfold DX9_copy_L14s
    have e7 : (7 : Int32) = nI 7 := rfl
    have hk1 : nI k + (1 : Int32) = nI (k + 1) := p_add k 1
    rw [e7, if_neg (by rw [p_le (by omega) (by omega)]; omega), p_mul, p_mul, p_add, p_add, p_g (by omega) (by decide), p_g (by omega) (by decide), p_g (by omega) (by decide), p_g (by omega) (by decide), p_g (by omega) (by decide), p_g (by omega) (by decide), p_g (by omega) (by decide), p_g (by omega) (by decide), p_tn (by omega), p_tn (by omega), hk1]
    exact ⟨_, rfl, rfl, Cpd_go h2 hk hab, Cpd_go h3 hk hab, Cpd_go h4 hk hab, Cpd_go h5 hk hab⟩
  · rintro ⟨x3, d1, a1, s1, k1⟩ ⟨h1, h2⟩
    simp only at h1 h2
    subst h1
    show ∃ r, DX9_copy_L14s (nI a) (nI b) (nI 7) d1 a1 s1 k1 = some (.inr r) ∧ _
    unfold DX9_copy_L14s
    rw [if_pos (by decide)]
    exact ⟨_, rfl, h2⟩
theorem KS_move {f mm days aims speeds kinds mm' d' a' s' k' : Nat → Int32} {fl : Int32} {b : Nat} (h : KS f fl b mm days aims speeds kinds) (h0 : mm' b = mm b) (h1 : ∀ i, i < 7 → d' (7 * b + i) = days (7 * b + i) ∧ a' (7 * b + i) = aims (7 * b + i) ∧ s' (7 * b + i) = speeds (7 * b + i) ∧ k' (7 * b + i) = kinds (7 * b + i)) : KS f fl b mm' d' a' s' k' := by
  obtain ⟨n, T, A, V, K, q1, q2, q3, q4, q5, q6, q7⟩ := h
  refine ⟨n, T, A, V, K, q1, q2, q3, h0.trans q4, q5, q6, fun i hi => ?_⟩
  obtain ⟨z1, z2, z3, z4⟩ := q7 i hi
  obtain ⟨y1, y2, y3, y4⟩ := h1 i (by omega)
  exact ⟨y1.trans z1, y2.trans z2, y3.trans z3, y4.trans z4⟩
theorem s_keep : S_keep Inv0 := by
  intro c_text_bytes c_text_length c_reader_numbers c_reader_next c_laid_stand c_laid_home c_laid_priceStart c_laid_priceStep c_laid_thrown_cells c_laid_thrown_filled c_laid_nets_cells c_laid_nets_filled c_trial_stand c_trial_home c_trial_priceStart c_trial_priceStep c_trial_thrown_cells c_trial_thrown_filled c_trial_nets_cells c_trial_nets_filled c_flight_loads_cells c_flight_loads_filled c_flight_order c_flight_done c_flight_start c_flight_end c_changes_who c_changes_column c_changes_was c_changes_held c_kept_older_cells c_kept_older_filled c_kept_newer_cells c_kept_newer_filled c_kept_held c_turns_need m_length m_text m_stands m_homeFar m_nets m_netAt m_netWide m_netFrom m_netTo m_priceX m_priceY m_many m_days m_aims m_speeds m_kinds m_keptMany m_undoMany m_undos m_spot m_told m_to m_stood m_home m_lost m_out m_fewest m_ways m_next m_held hI
  have hI0 := hI
  obtain ⟨hT, n, ⟨S, D, px, py, nn, T, A, V, K, NP, NW, NF, NU, hn1, hp, hx, hm⟩, hU, ⟨h, k1, k2, k3, k4, k5⟩⟩ := hI
  have hn7 := hp.2.2.2.1
  have hTT := hp.2.2.2.2.2.2.2.1
  obtain ⟨a1, a2, a3, a4, a5, a6, a7, a8⟩ := hx
  obtain ⟨b1, b2, b3, b4, b5, b6, b7, b8⟩ := hm
  unfold DX8_keep DX9_keep DX2_take
  have hh : h = 0 ∨ h = 1 ∨ h = 2 := by omega
  rcases hh with e | e | e <;> subst e
  · obtain ⟨d', a', s', k', c1, c2, c3, c4, c5⟩ := D9_copy_eq (mm := m_many) (days := m_days) (aims := m_aims) (speeds := m_speeds) (kinds := m_kinds) (a := 0) (b := 2) (by decide) (by decide) (by decide)
    have c1 : DX9_copy (0 : Int32) ((1 : Int32) + (nI 0 + (1 : Int32))) m_many m_days m_aims m_speeds m_kinds = _ := c1
    rw [k2, k3, if_neg (by decide), if_pos (show nI 0 = 0 from rfl), if_neg (by decide), a5, takeT hn7, bd2_eq, bd6_eq, if_neg (by decide), c1, bd5_eq]
    refine ⟨_, _, _, _, _, _, _, _, _, _, _, _, rfl, rfl, hT, n, ⟨S, D, px, py, nn, T, A, V, K, NP, NW, NF, NU, hn1, hp, ⟨a1, a2, a3, a4, rfl, a6, a7, a8⟩, b1, b2, b3, b4, b5, ?_, fun i hi => ?_, b8⟩, hU, 1, by decide, rfl, rfl, fun _ => ⟨n, T, A, V, K, hn1, hn7, rfl, ?_, Thr_cpy hn7 a7, hTT, fun i hi => ?_⟩, fun q => absurd q (by decide)⟩
    · rw [upd_ne _ _ (by decide)]; exact b6
    · rw [c2.2 i (by omega), c3.2 i (by omega), c4.2 i (by omega), c5.2 i (by omega)]; exact b7 i hi
    · rw [upd_same]; exact b6
    · have z := b7 i hi
      have g1 := c2.1 i (by omega)
      have g2 := c3.1 i (by omega)
      have g3 := c4.1 i (by omega)
      have g4 := c5.1 i (by omega)
      rw [show 7 * 0 + i = i by omega] at g1 g2 g3 g4
      exact ⟨g1.trans z.1, g2.trans z.2.1, g3.trans z.2.2.1, g4.trans z.2.2.2⟩
  · obtain ⟨d', a', s', k', c1, c2, c3, c4, c5⟩ := D9_copy_eq (mm := m_many) (days := m_days) (aims := m_aims) (speeds := m_speeds) (kinds := m_kinds) (a := 0) (b := 3) (by decide) (by decide) (by decide)
    have c1 : DX9_copy (0 : Int32) ((1 : Int32) + (nI 1 + (1 : Int32))) m_many m_days m_aims m_speeds m_kinds = _ := c1
    rw [k2, k3, if_neg (by decide), if_neg (by decide), if_neg (by decide), a5, takeT hn7, bd2_eq, bd6_eq, if_neg (by decide), c1, bd5_eq]
    refine ⟨_, _, _, _, _, _, _, _, _, _, _, _, rfl, rfl, hT, n, ⟨S, D, px, py, nn, T, A, V, K, NP, NW, NF, NU, hn1, hp, ⟨a1, a2, a3, a4, rfl, a6, a7, a8⟩, b1, b2, b3, b4, b5, ?_, fun i hi => ?_, b8⟩, hU, 2, by decide, rfl, rfl, fun _ => ?_, fun _ => ⟨n, T, A, V, K, hn1, hn7, rfl, ?_, Thr_cpy hn7 a7, hTT, fun i hi => ?_⟩⟩
    · rw [upd_ne _ _ (by decide)]; exact b6
    · rw [c2.2 i (by omega), c3.2 i (by omega), c4.2 i (by omega), c5.2 i (by omega)]; exact b7 i hi
    · exact KS_move (k4 (by decide)) (upd_ne _ _ (by decide)) (fun i hi => ⟨c2.2 _ (by omega), c3.2 _ (by omega), c4.2 _ (by omega), c5.2 _ (by omega)⟩)
    · rw [upd_same]; exact b6
    · have z := b7 i hi
      have g1 := c2.1 i (by omega)
      have g2 := c3.1 i (by omega)
      have g3 := c4.1 i (by omega)
      have g4 := c5.1 i (by omega)
      rw [show 7 * 0 + i = i by omega] at g1 g2 g3 g4
      exact ⟨g1.trans z.1, g2.trans z.2.1, g3.trans z.2.2.1, g4.trans z.2.2.2⟩
  · rw [if_pos (show c_kept_held = 2 from k2), if_pos (show m_keptMany = 2 from k3)]
    exact ⟨_, _, _, _, _, _, _, _, _, _, _, _, rfl, rfl, hI0⟩
theorem s_back : S_back Inv0 := by
  intro c_text_bytes c_text_length c_reader_numbers c_reader_next c_laid_stand c_laid_home c_laid_priceStart c_laid_priceStep c_laid_thrown_cells c_laid_thrown_filled c_laid_nets_cells c_laid_nets_filled c_trial_stand c_trial_home c_trial_priceStart c_trial_priceStep c_trial_thrown_cells c_trial_thrown_filled c_trial_nets_cells c_trial_nets_filled c_flight_loads_cells c_flight_loads_filled c_flight_order c_flight_done c_flight_start c_flight_end c_changes_who c_changes_column c_changes_was c_changes_held c_kept_older_cells c_kept_older_filled c_kept_newer_cells c_kept_newer_filled c_kept_held c_turns_need m_length m_text m_stands m_homeFar m_nets m_netAt m_netWide m_netFrom m_netTo m_priceX m_priceY m_many m_days m_aims m_speeds m_kinds m_keptMany m_undoMany m_undos m_spot m_told m_to m_stood m_home m_lost m_out m_fewest m_ways m_next m_held hI
  have hI0 := hI
  obtain ⟨hT, n, ⟨S, D, px, py, nn, T, A, V, K, NP, NW, NF, NU, hn1, hp, hx, hm⟩, hU, ⟨h, k1, k2, k3, k4, k5⟩⟩ := hI
  obtain ⟨a1, a2, a3, a4, a5, a6, a7, a8⟩ := hx
  obtain ⟨b1, b2, b3, b4, b5, b6, b7, b8⟩ := hm
  obtain ⟨p1, p2, p3, p4, p5, p6, p7, p8, p9⟩ := hp
  unfold DX8_back DX9_back DX2_giveBack DX0_forget
  have hh : h = 0 ∨ h = 1 ∨ h = 2 := by omega
  rcases hh with e | e | e <;> subst e
  · rw [if_pos (show c_kept_held = 0 from k2), if_pos (show m_keptMany = 0 from k3)]
    exact ⟨_, _, _, _, _, _, _, _, _, _, _, _, rfl, rfl, hI0⟩
  · obtain ⟨d', a', s', k', c1, c2, c3, c4, c5⟩ := D9_copy_eq (mm := m_many) (days := m_days) (aims := m_aims) (speeds := m_speeds) (kinds := m_kinds) (a := 2) (b := 0) (by decide) (by decide) (by decide)
    have c1 : DX9_copy ((1 : Int32) + nI 1) (0 : Int32) m_many m_days m_aims m_speeds m_kinds = _ := c1
    obtain ⟨n', T', A', V', K', q1, q2, q3, q4, q5, q6, q7⟩ := k4 (by decide)
    rw [k2, k3, if_neg (by decide), if_pos (show nI 1 - (1 : Int32) = 0 from rfl), if_neg (by decide), q3, takeT q2, bd2_eq, bd4_eq, if_neg (by decide), c1, bd5_eq, bd1_eq]
    refine ⟨_, _, _, _, _, _, _, _, _, _, _, _, rfl, rfl, hT, n', ⟨S, D, px, py, nn, T', A', V', K', NP, NW, NF, NU, q1, ⟨p1, p2, p3, q2, p5, p6, p7, q6, p9⟩, ⟨a1, a2, a3, a4, rfl, a6, Thr_cpy q2 q5, a8⟩, b1, b2, b3, b4, b5, ?_, fun i hi => ?_, b8⟩, ⟨0, by decide, rfl, rfl, fun k hk => absurd hk (by omega)⟩, 0, by decide, rfl, rfl, fun q => absurd q (by decide), fun q => absurd q (by decide)⟩
    · rw [upd_same]; exact q4
    · have z := q7 i hi
      have g1 := c2.1 i (by omega)
      have g2 := c3.1 i (by omega)
      have g3 := c4.1 i (by omega)
      have g4 := c5.1 i (by omega)
      rw [show 7 * 0 + i = i by omega] at g1 g2 g3 g4
      exact ⟨g1.trans z.1, g2.trans z.2.1, g3.trans z.2.2.1, g4.trans z.2.2.2⟩
  · obtain ⟨d', a', s', k', c1, c2, c3, c4, c5⟩ := D9_copy_eq (mm := m_many) (days := m_days) (aims := m_aims) (speeds := m_speeds) (kinds := m_kinds) (a := 3) (b := 0) (by decide) (by decide) (by decide)
    have c1 : DX9_copy ((1 : Int32) + nI 2) (0 : Int32) m_many m_days m_aims m_speeds m_kinds = _ := c1
    obtain ⟨n', T', A', V', K', q1, q2, q3, q4, q5, q6, q7⟩ := k5 (by decide)
    rw [k2, k3, if_neg (by decide), if_neg (by decide), if_neg (by decide), q3, takeT q2, bd2_eq, bd4_eq, if_neg (by decide), c1, bd5_eq, bd1_eq]
    refine ⟨_, _, _, _, _, _, _, _, _, _, _, _, rfl, rfl, hT, n', ⟨S, D, px, py, nn, T', A', V', K', NP, NW, NF, NU, q1, ⟨p1, p2, p3, q2, p5, p6, p7, q6, p9⟩, ⟨a1, a2, a3, a4, rfl, a6, Thr_cpy q2 q5, a8⟩, b1, b2, b3, b4, b5, ?_, fun i hi => ?_, b8⟩, ⟨0, by decide, rfl, rfl, fun k hk => absurd hk (by omega)⟩, 1, by decide, rfl, rfl, fun q => ?_, fun q => absurd q (by decide)⟩
    · rw [upd_same]; exact q4
    · have z := q7 i hi
      have g1 := c2.1 i (by omega)
      have g2 := c3.1 i (by omega)
      have g3 := c4.1 i (by omega)
      have g4 := c5.1 i (by omega)
      rw [show 7 * 0 + i = i by omega] at g1 g2 g3 g4
      exact ⟨g1.trans z.1, g2.trans z.2.1, g3.trans z.2.2.1, g4.trans z.2.2.2⟩
    · exact KS_move (k4 (by decide)) (upd_ne _ _ (by decide)) (fun i hi => ⟨c2.2 _ (by omega), c3.2 _ (by omega), c4.2 _ (by omega), c5.2 _ (by omega)⟩)
