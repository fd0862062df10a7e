/-! PURE: bestDay -/
def bsd (v : Nat → Nat) : Nat → Int32 × Nat
  | 0 => (-4, 0)
  | k + 1 => if v k ≤ (bsd v k).2 then bsd v k else (nI k, v k)
theorem bsd_succ (v : Nat → Nat) (k : Nat) : bsd v (k + 1) = if v k ≤ (bsd v k).2 then bsd v k else (nI k, v k) := rfl
theorem bsd_le {v : Nat → Nat} {m : Nat} (h : ∀ k, v k ≤ m) : ∀ k, (bsd v k).2 ≤ m ∧ ((bsd v k).1 = -4 ∨ ∃ j, j < k ∧ (bsd v k).1 = nI j)
  | 0 => ⟨Nat.zero_le _, Or.inl rfl⟩
  | k + 1 => by
    obtain ⟨h1, h2⟩ := bsd_le h k
    rw [bsd_succ]
    split
    · exact ⟨h1, h2.imp id (fun ⟨j, q1, q2⟩ => ⟨j, by omega, q2⟩)⟩
    · exact ⟨h _, Or.inr ⟨k, by omega, rfl⟩⟩
section BD
variable {S D n px py nn i : Nat} {T A V K NP NW NF NU : Nat → Nat}
def vD (S D n px py nn : Nat) (T A V K NP NW NF NU : Nat → Nat) (i : Nat) : Nat → Nat := fun t => PA S D n px py nn (setF T i t) A V K NP NW NF NU i
theorem D8_bestDay_L_eq {ls lh lp lq lf nf fd fs fe : Int32} {lc nc f order : Nat → Int32} (hp : Pok S D n px py nn T A V K NP NW NF NU) (hi : i < n) (hx : PX S D n px py nn T A V K NP NW NF NU ls lh lp lq lc lf nc nf) :
    ∃ c' f' o' d' s' e', DX8_bestDay_L45 (nI i) ls lh lp lq lf nc nf FU (-4 : Int32) (0 : Int32) (0 : Int32) lc f order fd fs fe = some ((bsd (vD S D n px py nn T A V K NP NW NF NU i) 41).1, nI (bsd (vD S D n px py nn T A V K NP NW NF NU i) 41).2, c', f', o', d', s', e') := by
  have hn7 := hp.2.2.2.1
  generalize hv : vD S D n px py nn T A V K NP NW NF NU i = v
  have hvl : ∀ k, v k ≤ 1000 := fun k => by rw [← hv]; have := PA_le (S := S) (D := D) (n := n) (px := px) (py := py) (nn := nn) (T := setF T i k) (A := A) (V := V) (K := K) (NP := NP) (NW := NW) (NF := NF) (NU := NU) i; unfold vD; omega
  have key := it_for2 (S := Int32 × Int32 × Int32 × (Nat → Int32) × (Nat → Int32) × (Nat → Int32) × Int32 × Int32 × Int32) (R := Int32 × Int32 × (Nat → Int32) × (Nat → Int32) × (Nat → Int32) × Int32 × Int32 × Int32)
    (f := fun st => DX8_bestDay_L45s (nI i) ls lh lp lq lf nc nf (st.1) (st.2.1) (st.2.2.1) (st.2.2.2.1) (st.2.2.2.2.1) (st.2.2.2.2.2.1) (st.2.2.2.2.2.2.1) (st.2.2.2.2.2.2.2.1) (st.2.2.2.2.2.2.2.2))
    (fun k st => st.2.2.1 = nI k ∧ (st.1 = (bsd v k).1 ∧ st.2.1 = nI (bsd v k).2) ∧ ∀ j, j < 28 → j ≠ i * 4 + 0 → st.2.2.2.1 j = lc j)
    (fun r => r.1 = (bsd v 41).1 ∧ r.2.1 = nI (bsd v 41).2) 41 (s0 := ((-4 : Int32), (0 : Int32), (0 : Int32), lc, f, order, fd, fs, fe)) ⟨rfl, ⟨rfl, rfl⟩, fun j _ _ => rfl⟩ ?_ ?_ (by omega)
  · obtain ⟨⟨r1, r2, c', f', o', d', s', e'⟩, q1, q2, q3⟩ := key
    simp only at q2 q3
    refine ⟨c', f', o', d', s', e', ?_⟩
    unfold DX8_bestDay_L45
    rw [q1, q2, q3]
  · rintro k ⟨x3, x4, x5, c1, f1, o1, d1, s1, e1⟩ hk ⟨h1, ⟨h2, h2'⟩, h3⟩
    simp only at h1 h2 h2' h3
    subst h1 h2 h2'
    left
    show ∃ s', DX8_bestDay_L45s (nI i) ls lh lp lq lf nc nf (bsd v k).1 (nI (bsd v k).2) (nI k) c1 f1 o1 d1 s1 e1 = some (.inl s') ∧ _
    unfold DX8_bestDay_L45s
    have e40 : (40 : Int32) = nI 40 := rfl
    have s1' : DX5_set (nI i) (0 : Int32) (nI k) (7 : Int32) (4 : Int32) 28 c1 = some (upd c1 (i * 4 + 0) (nI k)) := setT (c := 0) (by omega) (by decide)
    have hk1 : nI k + (1 : Int32) = nI (k + 1) := p_add k 1
    rw [e40, if_neg (by rw [p_lt (by omega) (by omega)]; omega), s1', bd1_eq]
    have hcell : ∀ j, j < 28 → j ≠ i * 4 + 0 → upd c1 (i * 4 + 0) (nI k) j = lc j := fun j hj hne => by rw [upd_ne _ _ hne]; exact h3 j hj hne
    have hthr : Thr (upd c1 (i * 4 + 0) (nI k)) n (setF T i k) A V K := Thr_setT hn7 hi hx.2.2.2.2.2.2.1 hcell (upd_same _ _ _)
    obtain ⟨a1, a2, a3, a4, a5, a6, a7, a8⟩ := hx
    obtain ⟨f2, o2, d2, g1, g2, g3, g4⟩ := fly_0 (f := f1) (order := o1) (Pok_setT (i := i) (a := k) hp (by omega)) (⟨a1, a2, a3, a4, a5, a6, hthr, a8⟩ : PX S D n px py nn (setF T i k) A V K NP NW NF NU ls lh lp lq (upd c1 (i * 4 + 0) (nI k)) lf nc nf)
    have g2 : DX1_known (nI i) (8 : Int32) f2 = some (nI (v k)) := by
      have h8 := D1_known_eq (f := f2) (i := i) (by omega) (c := 8) (by decide)
      rw [g4 i hi] at h8
      rw [← hv]; exact h8
    have hb := (bsd_le hvl k).1
    have hvk := hvl k
    rw [g1, bd5_eq, g2, bd1_eq, hk1]
    have hs := bsd_succ v k
    by_cases hc : v k ≤ (bsd v k).2
    · rw [if_pos hc] at hs
      rw [if_pos (by rw [p_le (by omega) (by omega)]; exact hc)]
      exact ⟨_, rfl, rfl, by rw [hs]; exact ⟨rfl, rfl⟩, hcell⟩
    · rw [if_neg hc] at hs
      rw [if_neg (by rw [p_le (by omega) (by omega)]; exact hc), bd1_eq]
      exact ⟨_, rfl, rfl, by rw [hs]; exact ⟨rfl, rfl⟩, hcell⟩
  · rintro ⟨x3, x4, x5, c1, f1, o1, d1, s1, e1⟩ ⟨h1, h2, h3⟩
    simp only at h1 h2 h3
    subst h1
    show ∃ r, DX8_bestDay_L45s (nI i) ls lh lp lq lf nc nf x3 x4 (nI 41) c1 f1 o1 d1 s1 e1 = some (.inr r) ∧ _
    unfold DX8_bestDay_L45s
    rw [if_pos (by decide)]
    exact ⟨_, rfl, h2⟩
theorem D9_bestDay_L_eq {ms mf mn na nw ng nt mx my mm days aims speeds kinds to stood home lost : Nat → Int32} {out : Int32} (hp : Pok S D n px py nn T A V K NP NW NF NU) (hi : i < n) (hm : PM S D n px py nn T A V K NP NW NF NU ms mf mn na nw ng nt mx my mm days aims speeds kinds) :
    ∃ a' to' st' ho' lo' ou', DX9_bestDay_L37 (nI i) ms mf mn na nw ng nt mx my mm aims speeds kinds FU (-4 : Int32) (0 : Int32) (0 : Int32) days to stood home lost out = some ((bsd (vD S D n px py nn T A V K NP NW NF NU i) 41).1, nI (bsd (vD S D n px py nn T A V K NP NW NF NU i) 41).2, a', to', st', ho', lo', ou') ∧ ∀ j, j ≠ i → a' j = days j := by
  have hn7 := hp.2.2.2.1
  generalize hv : vD S D n px py nn T A V K NP NW NF NU i = v
  have hvl : ∀ k, v k ≤ 1000 := fun k => by rw [← hv]; have := PA_le (S := S) (D := D) (n := n) (px := px) (py := py) (nn := nn) (T := setF T i k) (A := A) (V := V) (K := K) (NP := NP) (NW := NW) (NF := NF) (NU := NU) i; unfold vD; omega
  have key := it_for2 (S := Int32 × Int32 × Int32 × (Nat → Int32) × (Nat → Int32) × (Nat → Int32) × (Nat → Int32) × (Nat → Int32) × Int32) (R := Int32 × Int32 × (Nat → Int32) × (Nat → Int32) × (Nat → Int32) × (Nat → Int32) × (Nat → Int32) × Int32)
    (f := fun st => DX9_bestDay_L37s (nI i) ms mf mn na nw ng nt mx my mm aims speeds kinds (st.1) (st.2.1) (st.2.2.1) (st.2.2.2.1) (st.2.2.2.2.1) (st.2.2.2.2.2.1) (st.2.2.2.2.2.2.1) (st.2.2.2.2.2.2.2.1) (st.2.2.2.2.2.2.2.2))
    (fun k st => st.2.2.1 = nI k ∧ (st.1 = (bsd v k).1 ∧ st.2.1 = nI (bsd v k).2) ∧ ∀ j, j ≠ i → st.2.2.2.1 j = days j)
    (fun r => (r.1 = (bsd v 41).1 ∧ r.2.1 = nI (bsd v 41).2) ∧ ∀ j, j ≠ i → r.2.2.1 j = days j) 41 (s0 := ((-4 : Int32), (0 : Int32), (0 : Int32), days, to, stood, home, lost, out)) ⟨rfl, ⟨rfl, rfl⟩, fun j _ => rfl⟩ ?_ ?_ (by omega)
  · obtain ⟨⟨r1, r2, c', f', o', d', s', e'⟩, q1, ⟨q2, q3⟩, q4⟩ := key
    simp only at q2 q3 q4
    refine ⟨c', f', o', d', s', e', ?_, q4⟩
    unfold DX9_bestDay_L37
    rw [q1, q2, q3]
  · rintro k ⟨x4, x5, x6, a1, t1, s1, h1', l1, u1⟩ hk ⟨h1, ⟨h2, h2'⟩, h3⟩
    simp only at h1 h2 h2' h3
    subst h1 h2 h2'
    left
    show ∃ s', DX9_bestDay_L37s (nI i) ms mf mn na nw ng nt mx my mm aims speeds kinds (bsd v k).1 (nI (bsd v k).2) (nI k) a1 t1 s1 h1' l1 u1 = some (.inl s') ∧ _
    unfold DX9_bestDay_L37s DX9_bestDay_J78
    have e40 : (40 : Int32) = nI 40 := rfl
    have hk1 : nI k + (1 : Int32) = nI (k + 1) := p_add k 1
    have hcell : ∀ j, j ≠ i → upd a1 i (nI k) j = days j := fun j hne => by rw [upd_ne _ _ hne]; exact h3 j hne
    obtain ⟨b1, b2, b3, b4, b5, b6, b7, b8⟩ := hm
    have hmth : Mth (upd a1 i (nI k)) aims speeds kinds n (setF T i k) A V K := Mth_setT b7 hcell (upd_same _ _ _)
    obtain ⟨t2, s2, h2', l2, g1, g2, g3, g4⟩ := go_0 (to := t1) (stood := s1) (home := h1') (lost := l1) (Pok_setT (i := i) (a := k) hp (by omega)) (⟨b1, b2, b3, b4, b5, b6, hmth, b8⟩ : PM S D n px py nn (setF T i k) A V K NP NW NF NU ms mf mn na nw ng nt mx my mm (upd a1 i (nI k)) aims speeds kinds)
    have g4 : DX9_paidOf (nI i) mn na nw ng nt mx my (upd a1 i (nI k)) kinds t2 h2' l2 = some (nI (v k)) := by rw [← hv]; exact g4 i hi
    have hb := (bsd_le hvl k).1
    have hvk := hvl k
    have hs := bsd_succ v k
    rw [e40, if_neg (by rw [p_lt (by omega) (by omega)]; omega), p_g (by omega) (by decide), p_tn (by omega), g1, bd5_eq, g4, bd1_eq, hk1]
    by_cases hc : v k ≤ (bsd v k).2
    · rw [if_pos hc] at hs
      rw [if_pos (show nI (v k) ≤ nI (bsd v k).2 by rw [p_le (by omega) (by omega)]; exact hc), if_pos (show nI (v k) ≤ nI (bsd v k).2 by rw [p_le (by omega) (by omega)]; exact hc)]
      exact ⟨_, rfl, rfl, by rw [hs]; exact ⟨rfl, rfl⟩, hcell⟩
    · rw [if_neg hc] at hs
      rw [if_neg (show ¬ nI (v k) ≤ nI (bsd v k).2 by rw [p_le (by omega) (by omega)]; exact hc), if_neg (show ¬ nI (v k) ≤ nI (bsd v k).2 by rw [p_le (by omega) (by omega)]; exact hc)]
      exact ⟨_, rfl, rfl, by rw [hs]; exact ⟨rfl, rfl⟩, hcell⟩
  · rintro ⟨x4, x5, x6, a1, t1, s1, h1', l1, u1⟩ ⟨h1, h2, h3⟩
    simp only at h1 h2 h3
    subst h1
    show ∃ r, DX9_bestDay_L37s (nI i) ms mf mn na nw ng nt mx my mm aims speeds kinds x4 x5 (nI 41) a1 t1 s1 h1' l1 u1 = some (.inr r) ∧ _
    unfold DX9_bestDay_L37s
    rw [if_pos (by decide)]
    exact ⟨_, rfl, h2, h3⟩
end BD
theorem s_bestDay : S_bestDay Inv0 := by
  intro c_text_bytes c_text_length c_reader_numbers c_reader_next c_laid_stand c_laid_home c_laid_priceStart c_laid_priceStep c_laid_thrown_cells c_laid_thrown_filled c_laid_nets_cells c_laid_nets_filled c_trial_stand c_trial_home c_trial_priceStart c_trial_priceStep c_trial_thrown_cells c_trial_thrown_filled c_trial_nets_cells c_trial_nets_filled c_flight_loads_cells c_flight_loads_filled c_flight_order c_flight_done c_flight_start c_flight_end c_changes_who c_changes_column c_changes_was c_changes_held c_kept_older_cells c_kept_older_filled c_kept_newer_cells c_kept_newer_filled c_kept_held c_turns_need m_length m_text m_stands m_homeFar m_nets m_netAt m_netWide m_netFrom m_netTo m_priceX m_priceY m_many m_days m_aims m_speeds m_kinds m_keptMany m_undoMany m_undos m_spot m_told m_to m_stood m_home m_lost m_out m_fewest m_ways m_next m_held hI x1 x2
  have hI0 := hI
  obtain ⟨hT, n, ⟨S, D, px, py, nn, T, A, V, K, NP, NW, NF, NU, hn1, hp, hx, hm⟩, hU, hK⟩ := hI
  have hn7 := hp.2.2.2.1
  have hmm := hm.2.2.2.2.2.1
  have hlf := hx.2.2.2.2.1
  have hmt := hm.2.2.2.2.2.2.1
  unfold DX8_bestDay DX9_bestDay
  rcases thr_x x1 hmm hn1 hn7 with ⟨i, hi, e1, q1, q2⟩ | ⟨q1, q2⟩
  · rw [← hlf] at q1
    rw [q1, q2]
    rcases win_x x2 0 1 (a := 0) (b := 1) (l := 0) (h := 1) rfl rfl rfl rfl (by decide) (by decide) with ⟨c, r0, r1, e2, r3, r4⟩ | ⟨r1, r3, r4⟩
    · rw [r3, r4]
      obtain ⟨w1, w2⟩ := take_plan (tc := c_trial_thrown_cells) (uc := c_trial_nets_cells) hp hx
      obtain ⟨c', f', o', d', s', e', k1⟩ := D8_bestDay_L_eq (f := c_flight_loads_cells) (order := c_flight_order) (fd := c_flight_done) (fs := c_flight_start) (fe := c_flight_end) hp hi w2
      obtain ⟨a', to', st', ho', lo', ou', k2, k3⟩ := D9_bestDay_L_eq (to := m_to) (stood := m_stood) (home := m_home) (lost := m_lost) (out := m_out) hp hi hm
      have hvl : ∀ k, vD S D n px py nn T A V K NP NW NF NU i k ≤ 1000 := fun k => by have := PA_le (S := S) (D := D) (n := n) (px := px) (py := py) (nn := nn) (T := setF T i k) (A := A) (V := V) (K := K) (NP := NP) (NW := NW) (NF := NF) (NU := NU) i; unfold vD; omega
      have hbb := (bsd_le hvl 41).2
      have gd : ∀ {α : Type} (b : Option α), (if nI i < 0 ∨ 28 ≤ i then none else b) = b := fun b => p_h (by omega) (by omega)
      have hback : upd a' i (m_days i) = m_days := by
        funext j
        by_cases h : j = i
        · rw [h, upd_same]
        · rw [upd_ne _ _ h, k3 j h]
      rw [e1, w1, bd1_eq, bd1_eq, if_neg (by decide), if_neg (by decide)]
      rw [bd1_eq, bd1_eq, if_neg (by decide), if_neg (by decide), bd8_eq, k1, bd8_eq, p_tn (by omega), gd, k2, bd8_eq, gd, hback]
      rcases hbb with hb | ⟨j, hj, hb⟩
      · rw [hb, if_neg (show ¬ (0 : Int32) ≤ -4 by decide), if_pos (show (-4 : Int32) = -4 from rfl)]
        by_cases h0 : x2 = 0
        · rw [if_pos h0]
          exact ⟨_, _, _, _, _, _, _, _, _, _, _, _, _, _, _, _, _, _, _, _, rfl, rfl, hI0⟩
        · rw [if_neg h0]
          exact ⟨_, _, _, _, _, _, _, _, _, _, _, _, _, _, _, _, _, _, _, _, rfl, rfl, hI0⟩
      · have hj4 : ¬ nI j = (-4 : Int32) := fun h => by
          have h2 := congrArg Int32.toInt h
          rw [p_ti (by omega)] at h2
          have e4 : (-4 : Int32).toInt = -4 := rfl
          omega
        rw [hb, if_pos (show (0 : Int32) ≤ nI j by rw [show (0 : Int32) = nI 0 from rfl, p_le (by omega) (by omega)]; omega), if_neg hj4]
        by_cases h0 : x2 = 0
        · rw [if_pos h0, if_pos h0]
          exact ⟨_, _, _, _, _, _, _, _, _, _, _, _, _, _, _, _, _, _, _, _, rfl, rfl, hI0⟩
        · rw [if_neg h0, if_neg h0]
          exact ⟨_, _, _, _, _, _, _, _, _, _, _, _, _, _, _, _, _, _, _, _, rfl, rfl, hI0⟩
    · rw [r3, r4]
      exact ⟨_, _, _, _, _, _, _, _, _, _, _, _, _, _, _, _, _, _, _, _, rfl, rfl, hI0⟩
  · rw [← hlf] at q1
    rw [q1, q2]
    exact ⟨_, _, _, _, _, _, _, _, _, _, _, _, _, _, _, _, _, _, _, _, rfl, rfl, hI0⟩
