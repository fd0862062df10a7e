/-! PURE: what holds between two calls -/
/-- a plan in the cells of the one side -/
def PX (S D n px py nn : Nat) (T A V K NP NW NF NU : Nat → Nat) (ls lh lp lq : Int32) (lc : Nat → Int32) (lf : Int32) (nc : Nat → Int32) (nf : Int32) : Prop :=
  ls = nI S ∧ lh = nI D ∧ lp = nI px ∧ lq = nI py ∧ lf = nI n ∧ nf = nI nn ∧ Thr lc n T A V K ∧ Net nc nn NP NW NF NU
/-- and in those of the other -/
def PM (S D n px py nn : Nat) (T A V K NP NW NF NU : Nat → Nat) (ms mf mn na nw ng nt mx my mm days aims speeds kinds : Nat → Int32) : Prop :=
  ms 0 = nI S ∧ mf 0 = nI D ∧ mn 0 = nI nn ∧ mx 0 = nI px ∧ my 0 = nI py ∧ mm 0 = nI n ∧ Mth days aims speeds kinds n T A V K ∧ Mnet na nw ng nt nn NP NW NF NU
def Lai (n : Nat) (ls lh lp lq : Int32) (lc : Nat → Int32) (lf : Int32) (nc : Nat → Int32) (nf : Int32) (ms mf mn na nw ng nt mx my mm days aims speeds kinds : Nat → Int32) : Prop :=
  ∃ (S D px py nn : Nat) (T A V K NP NW NF NU : Nat → Nat), 1 ≤ n ∧ Pok S D n px py nn T A V K NP NW NF NU ∧ PX S D n px py nn T A V K NP NW NF NU ls lh lp lq lc lf nc nf ∧ PM S D n px py nn T A V K NP NW NF NU ms mf mn na nw ng nt mx my mm days aims speeds kinds
/-- the text: the same bytes -/
def Txt (tb : Nat → Int32) (tl : Int32) (ml : Int32) (mt : Nat → Int32) : Prop := ∃ L, L ≤ 300 ∧ tl = nI L ∧ ml = nI L ∧ ∀ j, j < L → ∃ b, b < 256 ∧ tb j = nI b ∧ mt j = nI b
/-- a change: 0 an aim, 1 a day, 2 a speed -/
def colw (w : Nat) : Nat := if w = 0 then 1 else if w = 1 then 0 else 2
def okw (w v : Nat) : Prop := (w = 0 → v < 24) ∧ (w = 1 → v ≤ 40) ∧ (w = 2 → 1 ≤ v ∧ v ≤ 6)
def Und (n : Nat) (ww wc wa : Nat → Int32) (wh um : Int32) (us : Nat → Int32) : Prop := ∃ u, u ≤ 8 ∧ wh = nI u ∧ um = nI u ∧ ∀ k, k < u → ∃ i w v, i < n ∧ w < 3 ∧ okw w v ∧ ww k = nI i ∧ wc k = nI (colw w) ∧ wa k = nI v ∧ us (3 * k) = nI w ∧ us (3 * k + 1) = nI i ∧ us (3 * k + 2) = nI v
/-- throws kept at b -/
def KS (f : Nat → Int32) (filled : Int32) (b : Nat) (mm days aims speeds kinds : Nat → Int32) : Prop := ∃ (n : Nat) (T A V K : Nat → Nat), 1 ≤ n ∧ n ≤ 7 ∧ filled = nI n ∧ mm b = nI n ∧ Thr f n T A V K ∧
  (∀ i, i < n → T i ≤ 40 ∧ A i < 24 ∧ 1 ≤ V i ∧ V i ≤ 6 ∧ K i ≤ 3) ∧ Mth (fun i => days (7 * b + i)) (fun i => aims (7 * b + i)) (fun i => speeds (7 * b + i)) (fun i => kinds (7 * b + i)) n T A V K
def Kep (oc : Nat → Int32) (of : Int32) (kc : Nat → Int32) (kf kh km : Int32) (mm days aims speeds kinds : Nat → Int32) : Prop := ∃ h, h ≤ 2 ∧ kh = nI h ∧ km = nI h ∧ (1 ≤ h → KS oc of 2 mm days aims speeds kinds) ∧ (2 ≤ h → KS kc kf 3 mm days aims speeds kinds)
def Inv0 : InvT := fun tb tl ls lh lp lq lc lf nc nf ww wc wa wh oc of kc kf kh ml mt ms mf mn na nw ng nt mx my mm days aims speeds kinds km um us =>
  Txt tb tl ml mt ∧ ∃ n, Lai n ls lh lp lq lc lf nc nf ms mf mn na nw ng nt mx my mm days aims speeds kinds ∧ Und n ww wc wa wh um us ∧ Kep oc of kc kf kh km mm days aims speeds kinds
/-! the short calls -/
theorem s_wipe : S_wipe Inv0 := by
  intro c_text_bytes c_text_length c_reader_numbers c_reader_next c_laid_stand c_laid_home c_laid_priceStart c_laid_priceStep c_laid_thrown_cells c_laid_thrown_filled c_laid_nets_cells c_laid_nets_filled c_trial_stand c_trial_home c_trial_priceStart c_trial_priceStep c_trial_thrown_cells c_trial_thrown_filled c_trial_nets_cells c_trial_nets_filled c_flight_loads_cells c_flight_loads_filled c_flight_order c_flight_done c_flight_start c_flight_end c_changes_who c_changes_column c_changes_was c_changes_held c_kept_older_cells c_kept_older_filled c_kept_newer_cells c_kept_newer_filled c_kept_held c_turns_need m_length m_text m_stands m_homeFar m_nets m_netAt m_netWide m_netFrom m_netTo m_priceX m_priceY m_many m_days m_aims m_speeds m_kinds m_keptMany m_undoMany m_undos m_spot m_told m_to m_stood m_home m_lost m_out m_fewest m_ways m_next m_held hI
  obtain ⟨⟨L, t1, t2, t3, t4⟩, hR⟩ := hI
  refine ⟨c_text_length, 0, 0, rfl, ?_, ?_⟩
  · unfold DX9_wipe; rw [t2, t3]
  · exact ⟨⟨0, by decide, rfl, rfl, fun j hj => absurd hj (by omega)⟩, hR⟩
theorem s_count : S_count Inv0 := by
  intro c_text_bytes c_text_length c_reader_numbers c_reader_next c_laid_stand c_laid_home c_laid_priceStart c_laid_priceStep c_laid_thrown_cells c_laid_thrown_filled c_laid_nets_cells c_laid_nets_filled c_trial_stand c_trial_home c_trial_priceStart c_trial_priceStep c_trial_thrown_cells c_trial_thrown_filled c_trial_nets_cells c_trial_nets_filled c_flight_loads_cells c_flight_loads_filled c_flight_order c_flight_done c_flight_start c_flight_end c_changes_who c_changes_column c_changes_was c_changes_held c_kept_older_cells c_kept_older_filled c_kept_newer_cells c_kept_newer_filled c_kept_held c_turns_need m_length m_text m_stands m_homeFar m_nets m_netAt m_netWide m_netFrom m_netTo m_priceX m_priceY m_many m_days m_aims m_speeds m_kinds m_keptMany m_undoMany m_undos m_spot m_told m_to m_stood m_home m_lost m_out m_fewest m_ways m_next m_held hI x1
  have hI0 := hI
  obtain ⟨⟨L, t1, t2, t3, t4⟩, n, ⟨S, D, px, py, nn, T, A, V, K, NP, NW, NF, NU, hn1, hp, ⟨a1, a2, a3, a4, a5, a6, a7, a8⟩, ⟨b1, b2, b3, b4, b5, b6, b7, b8⟩⟩, ⟨u, u1, u2, u3, u4⟩, ⟨h, k1, k2, k3, k4, k5⟩⟩ := hI
  have ez : (0 : Int32).toNatClampNeg = 0 := rfl
  refine ⟨if x1 = 0 then nI n else if x1 = 1 then nI nn else if x1 = 2 then nI S else if x1 = 3 then nI D else if x1 = 4 then nI u else if x1 = 5 then nI h else if x1 = 6 then nI L else -1, ?_, ?_, hI0⟩
  · unfold DX8_count DX5_rows
    rw [a1, a2, a5, a6, u2, k2, t2, bd1_eq, bd1_eq]
    repeat (split; · rfl)
    rfl
  · unfold DX9_count
    rw [ez, b1, b2, b3, b6, u3, k3, t3]
    repeat (split; · rfl)
    rfl
theorem s_price : S_price Inv0 := by
  intro c_text_bytes c_text_length c_reader_numbers c_reader_next c_laid_stand c_laid_home c_laid_priceStart c_laid_priceStep c_laid_thrown_cells c_laid_thrown_filled c_laid_nets_cells c_laid_nets_filled c_trial_stand c_trial_home c_trial_priceStart c_trial_priceStep c_trial_thrown_cells c_trial_thrown_filled c_trial_nets_cells c_trial_nets_filled c_flight_loads_cells c_flight_loads_filled c_flight_order c_flight_done c_flight_start c_flight_end c_changes_who c_changes_column c_changes_was c_changes_held c_kept_older_cells c_kept_older_filled c_kept_newer_cells c_kept_newer_filled c_kept_held c_turns_need m_length m_text m_stands m_homeFar m_nets m_netAt m_netWide m_netFrom m_netTo m_priceX m_priceY m_many m_days m_aims m_speeds m_kinds m_keptMany m_undoMany m_undos m_spot m_told m_to m_stood m_home m_lost m_out m_fewest m_ways m_next m_held hI x1
  have hI0 := hI
  obtain ⟨hT, n, ⟨S, D, px, py, nn, T, A, V, K, NP, NW, NF, NU, hn1, hp, ⟨a1, a2, a3, a4, a5, a6, a7, a8⟩, ⟨b1, b2, b3, b4, b5, b6, b7, b8⟩⟩, hU, hK⟩ := hI
  have hx := hp.2.2.2.2.1
  have hy := hp.2.2.2.2.2.1
  unfold DX8_price DX9_price
  rcases day_x x1 with ⟨t, q1, q2, q3, q4⟩ | ⟨q3, q4⟩
  · refine ⟨nI (prc1 px py t), ?_, ?_, hI0⟩
    · rw [q3, bd1_eq, if_neg (by decide), q2, a3, a4, D3_price_eq hx hy (by omega), bd1_eq]
    · rw [q4, bd1_eq, if_neg (by decide), q2, D9_priceOf_eq b4 b5 hx hy (by omega), bd1_eq]
  · refine ⟨-1, ?_, ?_, hI0⟩
    · rw [q3, bd1_eq, if_pos rfl]
    · rw [q4, bd1_eq, if_pos rfl]
