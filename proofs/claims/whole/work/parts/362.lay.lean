/-! PURE: fault, lay -/
theorem s_fault : S_fault Inv0 := by
  intro c_text_bytes c_text_length c_reader_numbers c_reader_next c_laid_stand c_laid_home c_laid_priceStart c_laid_priceStep c_laid_thrown_cells c_laid_thrown_filled c_laid_nets_cells c_laid_nets_filled c_trial_stand c_trial_home c_trial_priceStart c_trial_priceStep c_trial_thrown_cells c_trial_thrown_filled c_trial_nets_cells c_trial_nets_filled c_flight_loads_cells c_flight_loads_filled c_flight_order c_flight_done c_flight_start c_flight_end c_changes_who c_changes_column c_changes_was c_changes_held c_kept_older_cells c_kept_older_filled c_kept_newer_cells c_kept_newer_filled c_kept_held c_turns_need m_length m_text m_stands m_homeFar m_nets m_netAt m_netWide m_netFrom m_netTo m_priceX m_priceY m_many m_days m_aims m_speeds m_kinds m_keptMany m_undoMany m_undos m_spot m_told m_to m_stood m_home m_lost m_out m_fewest m_ways m_next m_held hI
  obtain ⟨hTx, n, hLai, hU, hK⟩ := hI
  obtain ⟨B, L, hT, e1, e2⟩ := Txt_Tx hTx
  subst e1 e2
  unfold DX8_fault DX9_fault
  rcases read_all hT (nu := c_reader_numbers) (lc := c_trial_thrown_cells) (nc := c_trial_nets_cells) (td := m_told) (ms := m_stands) (mf := m_homeFar) (mn := m_nets) (na := m_netAt) (nw := m_netWide) (ng := m_netFrom) (nt := m_netTo) (mx := m_priceX) (my := m_priceY) (mm := m_many) (days := m_days) (aims := m_aims) (speeds := m_speeds) (kinds := m_kinds) with ⟨nu2, ls2, lh2, lp2, lq2, lc2, lf2, nc2, nf2, ms2, mf2, mn2, na2, nw2, ng2, nt2, mx2, my2, mm2, days2, aims2, speeds2, kinds2, td2, r1, r2, r3, r4⟩ | ⟨b, nu2, nx2, ls2, lh2, lp2, lq2, lc2, lf2, nc2, nf2, ms2, mf2, mn2, na2, nw2, ng2, nt2, mx2, my2, mm2, days2, aims2, speeds2, kinds2, sp2, td2, r0, r1, r2, r4⟩
  · rw [r1, bd11_eq, r2, bd17_eq]
    exact ⟨_, _, _, _, _, _, _, _, _, _, _, _, _, _, _, _, _, _, _, _, _, _, _, _, _, _, _, rfl, rfl, hTx, n, Lai_frm hLai r4, hU, Kep_frm hK r4⟩
  · rw [r1, bd11_eq, r2, bd17_eq]
    exact ⟨_, _, _, _, _, _, _, _, _, _, _, _, _, _, _, _, _, _, _, _, _, _, _, _, _, _, _, rfl, rfl, hTx, n, Lai_frm hLai r4, hU, Kep_frm hK r4⟩
theorem D9_lay_nets {na nw ng nt : Nat → Int32} : ∃ na' nw' ng' nt', DX9_lay_L83 FU (0 : Int32) na nw ng nt = some (na', nw', ng', nt') ∧ ∀ i, i < 5 → na' i = na (6 + i) ∧ nw' i = nw (6 + i) ∧ ng' i = ng (6 + i) ∧ nt' i = nt (6 + i) := by
  have key := it_for2 (S := Int32 × (Nat → Int32) × (Nat → Int32) × (Nat → Int32) × (Nat → Int32)) (R := (Nat → Int32) × (Nat → Int32) × (Nat → Int32) × (Nat → Int32)) (f := fun st => DX9_lay_L83s (st.1) (st.2.1) (st.2.2.1) (st.2.2.2.1) (st.2.2.2.2))
    (fun k st => st.1 = nI k ∧ (∀ i, i < k → st.2.1 i = na (6 + i) ∧ st.2.2.1 i = nw (6 + i) ∧ st.2.2.2.1 i = ng (6 + i) ∧ st.2.2.2.2 i = nt (6 + i)) ∧ ∀ i, 5 ≤ i → st.2.1 i = na i ∧ st.2.2.1 i = nw i ∧ st.2.2.2.1 i = ng i ∧ st.2.2.2.2 i = nt i)
    (fun r => ∀ i, i < 5 → r.1 i = na (6 + i) ∧ r.2.1 i = nw (6 + i) ∧ r.2.2.1 i = ng (6 + i) ∧ r.2.2.2 i = nt (6 + i)) 5 (s0 := ((0 : Int32), na, nw, ng, nt)) ⟨rfl, fun i h => absurd h (by omega), fun i _ => ⟨rfl, rfl, rfl, rfl⟩⟩ ?_ ?_ (by omega)
  · obtain ⟨⟨r1, r2, r3, r4⟩, q1, q2⟩ := key
    exact ⟨r1, r2, r3, r4, q1, q2⟩
  · rintro k ⟨x1, a1, w1, g1, t1⟩ hk ⟨h1, h2, h3⟩
    simp only at h1 h2 h3
    subst h1
    left
    show ∃ s', DX9_lay_L83s (nI k) a1 w1 g1 t1 = some (.inl s') ∧ _
    unfold DX9_lay_L83s
    have hk1 : nI k + (1 : Int32) = nI (k + 1) := p_add k 1
    have e6 : (6 : Int32) + nI k = nI (6 + k) := p_add 6 k
    have e5 : (5 : Int32) = nI 5 := rfl
    have gk : ∀ {α : Type} (b : Option α), (if nI k < 0 ∨ 12 ≤ k then none else b) = b := fun b => p_h (by omega) (by omega)
    have g6 : ∀ {α : Type} (b : Option α), (if nI (6 + k) < 0 ∨ 12 ≤ 6 + k then none else b) = b := fun b => p_h (by omega) (by omega)
    rw [e5, if_neg (by rw [p_le (by omega) (by omega)]; omega), e6, p_tn (show 6 + k < 2147483648 by omega), p_tn (show k < 2147483648 by omega), g6, gk, g6, gk, g6, gk, g6, gk, hk1]
    refine ⟨_, rfl, rfl, fun i hi => ?_, fun i hi => ?_⟩
    · show upd a1 k _ i = _ ∧ upd w1 k _ i = _ ∧ upd g1 k _ i = _ ∧ upd t1 k _ i = _
      by_cases e : i = k
      · rw [e, upd_same, upd_same, upd_same, upd_same]; exact h3 (6 + k) (by omega)
      · rw [upd_ne _ _ e, upd_ne _ _ e, upd_ne _ _ e, upd_ne _ _ e]; exact h2 i (by omega)
    · show upd a1 k _ i = _ ∧ upd w1 k _ i = _ ∧ upd g1 k _ i = _ ∧ upd t1 k _ i = _
      rw [upd_ne _ _ (by omega), upd_ne _ _ (by omega), upd_ne _ _ (by omega), upd_ne _ _ (by omega)]; exact h3 i hi
  · rintro ⟨x1, a1, w1, g1, t1⟩ ⟨h1, h2, h3⟩
    simp only at h1 h2 h3
    subst h1
    show ∃ r, DX9_lay_L83s (nI 5) a1 w1 g1 t1 = some (.inr r) ∧ _
    unfold DX9_lay_L83s
    rw [if_pos (by decide)]
    exact ⟨_, rfl, h2⟩
theorem s_lay : S_lay Inv0 := by
  intro c_text_bytes c_text_length c_reader_numbers c_reader_next c_laid_stand c_laid_home c_laid_priceStart c_laid_priceStep c_laid_thrown_cells c_laid_thrown_filled c_laid_nets_cells c_laid_nets_filled c_trial_stand c_trial_home c_trial_priceStart c_trial_priceStep c_trial_thrown_cells c_trial_thrown_filled c_trial_nets_cells c_trial_nets_filled c_flight_loads_cells c_flight_loads_filled c_flight_order c_flight_done c_flight_start c_flight_end c_changes_who c_changes_column c_changes_was c_changes_held c_kept_older_cells c_kept_older_filled c_kept_newer_cells c_kept_newer_filled c_kept_held c_turns_need m_length m_text m_stands m_homeFar m_nets m_netAt m_netWide m_netFrom m_netTo m_priceX m_priceY m_many m_days m_aims m_speeds m_kinds m_keptMany m_undoMany m_undos m_spot m_told m_to m_stood m_home m_lost m_out m_fewest m_ways m_next m_held hI
  obtain ⟨hTx, n, hLai, hU, hK⟩ := hI
  obtain ⟨B, L, hT, e1, e2⟩ := Txt_Tx hTx
  subst e1 e2
  have hL := hT.1
  have z0 : (0 : Int32).toNatClampNeg = 0 := rfl
  have z1 : (1 : Int32).toNatClampNeg = 1 := rfl
  have ez : (0 : Int32) = nI 0 := rfl
  unfold DX8_lay DX9_lay
  rcases read_all hT (nu := c_reader_numbers) (lc := c_trial_thrown_cells) (nc := c_trial_nets_cells) (td := m_told) (ms := m_stands) (mf := m_homeFar) (mn := m_nets) (na := m_netAt) (nw := m_netWide) (ng := m_netFrom) (nt := m_netTo) (mx := m_priceX) (my := m_priceY) (mm := m_many) (days := m_days) (aims := m_aims) (speeds := m_speeds) (kinds := m_kinds) with ⟨nu2, ls2, lh2, lp2, lq2, lc2, lf2, nc2, nf2, ms2, mf2, mn2, na2, nw2, ng2, nt2, mx2, my2, mm2, days2, aims2, speeds2, kinds2, td2, r1, r2, ⟨S, D, n', px, py, nn, T, A, V, K, NP, NW, NF, NU, hp, hx, hm⟩, r4⟩ | ⟨b, nu2, nx2, ls2, lh2, lp2, lq2, lc2, lf2, nc2, nf2, ms2, mf2, mn2, na2, nw2, ng2, nt2, mx2, my2, mm2, days2, aims2, speeds2, kinds2, sp2, td2, r0, r1, r2, r4⟩
  · have hlf := hx.2.2.2.2.1
    have hmm := hm.2.2.2.2.2.1
    have hn7 := hp.2.2.2.1
    rw [r1, bd11_eq, r2, bd17_eq, if_pos (show (-4 : Int32) = -4 from rfl), if_pos (show (-4 : Int32) = -4 from rfl), z0, z1, hmm]
    unfold DX5_rows DX0_forget DX2_forget
    by_cases h0 : n' = 0
    · rw [bd1_eq, if_pos (show lf2 = 0 by rw [hlf, h0]; rfl), if_pos (show nI n' = 0 by rw [h0]; rfl)]
      exact ⟨_, _, _, _, _, _, _, _, _, _, _, _, _, _, _, _, _, _, _, _, _, _, _, _, _, _, _, _, _, _, _, _, _, _, _, _, _, _, _, rfl, rfl, hTx, n, Lai_frm hLai r4, hU, Kep_frm hK r4⟩
    · obtain ⟨w1, w2⟩ := take_plan (tc := c_laid_thrown_cells) (uc := c_laid_nets_cells) hp hx
      obtain ⟨na3, nw3, ng3, nt3, v1, v2⟩ := D9_lay_nets (na := na2) (nw := nw2) (ng := ng2) (nt := nt2)
      obtain ⟨d3, a3, s3, k3, c1, c2, c3, c4, c5⟩ := D9_copy_eq (mm := mm2) (days := days2) (aims := aims2) (speeds := speeds2) (kinds := kinds2) (a := 1) (b := 0) (by decide) (by decide) (by decide)
      have c1 : DX9_copy (1 : Int32) (0 : Int32) mm2 days2 aims2 speeds2 kinds2 = _ := c1
      rw [bd1_eq, if_neg (show ¬ lf2 = 0 by rw [hlf, ez, p_eq (by omega) (by omega)]; exact h0), if_neg (show ¬ nI n' = 0 by rw [ez, p_eq (by omega) (by omega)]; exact h0), w1, bd8_eq, bd1_eq, bd1_eq, bd1_eq, v1, bd4_eq, c1, bd5_eq, upd_same, hmm, hlf]
      obtain ⟨b1, b2, b3, b4, b5, b6, b7, b8⟩ := hm
      have hnn5 := hp.2.2.2.2.2.2.1
      rw [hlf] at w2
      refine ⟨_, _, _, _, _, _, _, _, _, _, _, _, _, _, _, _, _, _, _, _, _, _, _, _, _, _, _, _, _, _, _, _, _, _, _, _, _, _, _, rfl, rfl, hTx, n', ⟨S, D, px, py, nn, T, A, V, K, NP, NW, NF, NU, by omega, hp, w2, (upd_same _ _ _).trans b1, (upd_same _ _ _).trans b2, (upd_same _ _ _).trans b3, (upd_same _ _ _).trans b4, (upd_same _ _ _).trans b5, upd_same _ _ _, fun i hi => ?_, fun k hk => ?_⟩, ⟨0, by decide, rfl, rfl, fun k hk => absurd hk (by omega)⟩, 0, by decide, rfl, rfl, fun q => absurd q (by decide), fun q => absurd q (by decide)⟩
      · have z := b7 i hi
        have g1 := c2.1 i (by omega)
        have g2 := c3.1 i (by omega)
        have g3 := c4.1 i (by omega)
        have g4 := c5.1 i (by omega)
        rw [show 7 * 0 + i = i by omega] at g1 g2 g3 g4
        exact ⟨g1.trans z.1, g2.trans z.2.1, g3.trans z.2.2.1, g4.trans z.2.2.2⟩
      · obtain ⟨g1, g2, g3, g4⟩ := v2 k (by omega)
        obtain ⟨y1, y2, y3, y4⟩ := b8 k hk
        exact ⟨g1.trans y1, g2.trans y2, g3.trans y3, g4.trans y4⟩
  · have hb4 : ¬ nI b = (-4 : Int32) := fun h => by
      have h2 := congrArg Int32.toInt h
      rw [p_ti (by omega)] at h2
      have e4 : (-4 : Int32).toInt = -4 := rfl
      omega
    rw [r1, bd11_eq, r2, bd17_eq, if_neg hb4, if_neg hb4]
    exact ⟨_, _, _, _, _, _, _, _, _, _, _, _, _, _, _, _, _, _, _, _, _, _, _, _, _, _, _, _, _, _, _, _, _, _, _, _, _, _, _, rfl, rfl, hTx, n, Lai_frm hLai r4, hU, Kep_frm hK r4⟩
