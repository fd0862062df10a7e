/-! PURE: bestAim -/
/-- the best of v 0 to v k, the first of them -/
def bst (v : Nat → Nat) : Nat → Nat × Nat
  | 0 => (0, v 0)
  | k + 1 => if v (k + 1) ≤ (bst v k).2 then bst v k else (k + 1, v (k + 1))
theorem bst_succ (v : Nat → Nat) (k : Nat) : bst v (k + 1) = if v (k + 1) ≤ (bst v k).2 then bst v k else (k + 1, v (k + 1)) := rfl
theorem bst_le {v : Nat → Nat} {m : Nat} (h : ∀ k, v k ≤ m) : ∀ k, (bst v k).1 ≤ k ∧ (bst v k).2 ≤ m
  | 0 => ⟨Nat.le_refl _, h 0⟩
  | k + 1 => by
    have := bst_le h k
    unfold bst
    split
    · exact ⟨by omega, this.2⟩
    · exact ⟨Nat.le_refl _, h _⟩
/-- the state of such a loop before the k-th -/
def Bst (v : Nat → Nat) (z : Int32) (k : Nat) (x y : Int32) : Prop := (k = 0 → x = 0 ∧ y = z) ∧ ∀ j, k = j + 1 → x = nI (bst v j).1 ∧ y = nI (bst v j).2
theorem Bst_go {v : Nat → Nat} {z : Int32} {k : Nat} {x y : Int32} (hz : z < 0) (hv : ∀ k, v k ≤ 1000) (h : Bst v z k x y) : Bst v z (k + 1) (if nI (v k) ≤ y then x else nI k) (if nI (v k) ≤ y then y else nI (v k)) := by
  refine ⟨fun h => absurd h (by omega), fun j hj => ?_⟩
  have hj : j = k := by omega
  subst hj
  have hvj := hv j
  cases j with
  | zero =>
    obtain ⟨e1, e2⟩ := h.1 rfl
    have hn : ¬ nI (v 0) ≤ y := by
      rw [e2, Int32.le_iff_toInt_le, p_ti (by omega)]
      rw [Int32.lt_iff_toInt_lt] at hz
      have e0 : (0 : Int32).toInt = 0 := rfl
      omega
    rw [if_neg hn, if_neg hn]
    exact ⟨rfl, rfl⟩
  | succ j =>
    obtain ⟨e1, e2⟩ := h.2 j rfl
    have hb := (bst_le hv j).2
    rw [e1, e2]
    by_cases hc : v (j + 1) ≤ (bst v j).2
    · rw [if_pos (by rw [p_le (by omega) (by omega)]; exact hc), if_pos (by rw [p_le (by omega) (by omega)]; exact hc)]
      rw [bst_succ, if_pos hc]; exact ⟨rfl, rfl⟩
    · rw [if_neg (by rw [p_le (by omega) (by omega)]; exact hc), if_neg (by rw [p_le (by omega) (by omega)]; exact hc)]
      rw [bst_succ, if_neg hc]; exact ⟨rfl, rfl⟩
section BA
variable {S D n px py nn i : Nat} {T A V K NP NW NF NU : Nat → Nat}
def vA (S D n nn : Nat) (T A V K NP NW NF NU : Nat → Nat) (i : Nat) : Nat → Nat := fun a => CT S D n nn T (setF A i a) V K NP NW NF NU 0
theorem D8_bestAim_L_eq {ls lh lp lq lf nf fd fs fe : Int32} {lc nc f order : Nat → Int32} (hp : Pok S D n px py nn T A V K NP NW NF NU) (hi : i < n) (hx : PX S D n px py nn T A V K NP NW NF NU ls lh lp lq lc lf nc nf) :
    ∃ c' f' o' d' s' e', DX8_bestAim_L44 (nI i) ls lh lp lq lf nc nf FU (0 : Int32) (-1 : Int32) (0 : Int32) lc f order fd fs fe = some (nI (bst (vA S D n nn T A V K NP NW NF NU i) 23).1, nI (bst (vA S D n nn T A V K NP NW NF NU i) 23).2, c', f', o', d', s', e') := by
  have hn7 := hp.2.2.2.1
  generalize hv : vA S D n nn T A V K NP NW NF NU i = v
  have hvl : ∀ k, v k ≤ 1000 := fun k => by rw [← hv]; have := CT_le (S := S) (D := D) (n := n) (nn := nn) (T := T) (A := setF A i k) (V := V) (K := K) (NP := NP) (NW := NW) (NF := NF) (NU := NU) 0; unfold vA; omega
  have key := it_for2 (S := Int32 × Int32 × Int32 × (Nat → Int32) × (Nat → Int32) × (Nat → Int32) × Int32 × Int32 × Int32) (R := Int32 × Int32 × (Nat → Int32) × (Nat → Int32) × (Nat → Int32) × Int32 × Int32 × Int32)
    (f := fun st => DX8_bestAim_L44s (nI i) ls lh lp lq lf nc nf (st.1) (st.2.1) (st.2.2.1) (st.2.2.2.1) (st.2.2.2.2.1) (st.2.2.2.2.2.1) (st.2.2.2.2.2.2.1) (st.2.2.2.2.2.2.2.1) (st.2.2.2.2.2.2.2.2))
    (fun k st => st.2.2.1 = nI k ∧ Bst v (-1) k st.1 st.2.1 ∧ ∀ j, j < 28 → j ≠ i * 4 + 1 → st.2.2.2.1 j = lc j)
    (fun r => r.1 = nI (bst v 23).1 ∧ r.2.1 = nI (bst v 23).2) 24 (s0 := ((0 : Int32), (-1 : Int32), (0 : Int32), lc, f, order, fd, fs, fe)) ⟨rfl, ⟨fun _ => ⟨rfl, rfl⟩, fun j hj => absurd hj (by omega)⟩, fun j _ _ => rfl⟩ ?_ ?_ (by omega)
  · obtain ⟨⟨r1, r2, c', f', o', d', s', e'⟩, q1, q2, q3⟩ := key
    simp only at q2 q3
    refine ⟨c', f', o', d', s', e', ?_⟩
    unfold DX8_bestAim_L44
    rw [q1, q2, q3]
  · rintro k ⟨x3, x4, x5, c1, f1, o1, d1, s1, e1⟩ hk ⟨h1, h2, h3⟩
    simp only at h1 h2 h3
    subst h1
    left
    show ∃ s', DX8_bestAim_L44s (nI i) ls lh lp lq lf nc nf x3 x4 (nI k) c1 f1 o1 d1 s1 e1 = some (.inl s') ∧ _
    unfold DX8_bestAim_L44s
    have e24 : (24 : Int32) = nI 24 := rfl
    have s1' : DX5_set (nI i) (1 : Int32) (nI k) (7 : Int32) (4 : Int32) 28 c1 = some (upd c1 (i * 4 + 1) (nI k)) := setT (c := 1) (by omega) (by decide)
    have hk1 : nI k + (1 : Int32) = nI (k + 1) := p_add k 1
    rw [e24, if_neg (by rw [p_le (by omega) (by omega)]; omega), s1', bd1_eq]
    have hcell : ∀ j, j < 28 → j ≠ i * 4 + 1 → upd c1 (i * 4 + 1) (nI k) j = lc j := fun j hj hne => by rw [upd_ne _ _ hne]; exact h3 j hj hne
    have hthr : Thr (upd c1 (i * 4 + 1) (nI k)) n T (setF A i k) V K := Thr_setA hn7 hi hx.2.2.2.2.2.2.1 hcell (upd_same _ _ _)
    obtain ⟨a1, a2, a3, a4, a5, a6, a7, a8⟩ := hx
    obtain ⟨f2, o2, d2, g1, g2, g3, g4⟩ := fly_0 (f := f1) (order := o1) (Pok_setA (i := i) (a := k) hp (by omega)) (⟨a1, a2, a3, a4, a5, a6, hthr, a8⟩ : PX S D n px py nn T (setF A i k) V K NP NW NF NU ls lh lp lq (upd c1 (i * 4 + 1) (nI k)) lf nc nf)
    have g2 : DX1_howMany (0 : Int32) f2 o2 d2 = some (nI (v k)) := by rw [← hv]; exact g2 0 (by decide)
    have hgo := Bst_go (z := -1) (by decide) hvl h2
    rw [g1, bd5_eq, g2, bd1_eq, hk1]
    by_cases hc : nI (v k) ≤ x4
    · rw [if_pos hc, if_pos hc] at hgo
      rw [if_pos hc]
      exact ⟨_, rfl, rfl, hgo, hcell⟩
    · rw [if_neg hc, if_neg hc] at hgo
      rw [if_neg hc, bd1_eq]
      exact ⟨_, rfl, rfl, hgo, hcell⟩
  · rintro ⟨x3, x4, x5, c1, f1, o1, d1, s1, e1⟩ ⟨h1, h2, h3⟩
    simp only at h1 h2 h3
    subst h1
    show ∃ r, DX8_bestAim_L44s (nI i) ls lh lp lq lf nc nf x3 x4 (nI 24) c1 f1 o1 d1 s1 e1 = some (.inr r) ∧ _
    unfold DX8_bestAim_L44s
    rw [if_pos (by decide)]
    exact ⟨_, rfl, h2.2 23 rfl⟩
theorem D9_bestAim_L_eq {ms mf mn na nw ng nt mx my mm days aims speeds kinds to stood home lost : Nat → Int32} {out : Int32} (hp : Pok S D n px py nn T A V K NP NW NF NU) (hi : i < n) (hm : PM S D n px py nn T A V K NP NW NF NU ms mf mn na nw ng nt mx my mm days aims speeds kinds) :
    ∃ a' to' st' ho' lo' ou', DX9_bestAim_L37 (nI i) ms mf mn na nw ng nt mm days speeds kinds FU (0 : Int32) (-4 : Int32) (0 : Int32) aims to stood home lost out = some (nI (bst (vA S D n nn T A V K NP NW NF NU i) 23).1, nI (bst (vA S D n nn T A V K NP NW NF NU i) 23).2, a', to', st', ho', lo', ou') ∧ ∀ j, j ≠ i → a' j = aims j := by
  have hn7 := hp.2.2.2.1
  generalize hv : vA S D n nn T A V K NP NW NF NU i = v
  have hvl : ∀ k, v k ≤ 1000 := fun k => by rw [← hv]; have := CT_le (S := S) (D := D) (n := n) (nn := nn) (T := T) (A := setF A i k) (V := V) (K := K) (NP := NP) (NW := NW) (NF := NF) (NU := NU) 0; unfold vA; omega
  have key := it_for2 (S := Int32 × Int32 × Int32 × (Nat → Int32) × (Nat → Int32) × (Nat → Int32) × (Nat → Int32) × (Nat → Int32) × Int32) (R := Int32 × Int32 × (Nat → Int32) × (Nat → Int32) × (Nat → Int32) × (Nat → Int32) × (Nat → Int32) × Int32)
    (f := fun st => DX9_bestAim_L37s (nI i) ms mf mn na nw ng nt mm days speeds kinds (st.1) (st.2.1) (st.2.2.1) (st.2.2.2.1) (st.2.2.2.2.1) (st.2.2.2.2.2.1) (st.2.2.2.2.2.2.1) (st.2.2.2.2.2.2.2.1) (st.2.2.2.2.2.2.2.2))
    (fun k st => st.2.2.1 = nI k ∧ Bst v (-4) k st.1 st.2.1 ∧ ∀ j, j ≠ i → st.2.2.2.1 j = aims j)
    (fun r => (r.1 = nI (bst v 23).1 ∧ r.2.1 = nI (bst v 23).2) ∧ ∀ j, j ≠ i → r.2.2.1 j = aims j) 24 (s0 := ((0 : Int32), (-4 : Int32), (0 : Int32), aims, to, stood, home, lost, out)) ⟨rfl, ⟨fun _ => ⟨rfl, rfl⟩, fun j hj => absurd hj (by omega)⟩, fun j _ => rfl⟩ ?_ ?_ (by omega)
  · obtain ⟨⟨r1, r2, c', f', o', d', s', e'⟩, q1, ⟨q2, q3⟩, q4⟩ := key
    simp only at q2 q3 q4
    refine ⟨c', f', o', d', s', e', ?_, q4⟩
    unfold DX9_bestAim_L37
    rw [q1, q2, q3]
  · rintro k ⟨x4, x5, x6, a1, t1, s1, h1', l1, u1⟩ hk ⟨h1, h2, h3⟩
    simp only at h1 h2 h3
    subst h1
    left
    show ∃ s', DX9_bestAim_L37s (nI i) ms mf mn na nw ng nt mm days speeds kinds x4 x5 (nI k) a1 t1 s1 h1' l1 u1 = some (.inl s') ∧ _
    unfold DX9_bestAim_L37s DX9_bestAim_J78
    have e24 : (24 : Int32) = nI 24 := rfl
    have hk1 : nI k + (1 : Int32) = nI (k + 1) := p_add k 1
    have hcell : ∀ j, j ≠ i → upd a1 i (nI k) j = aims j := fun j hne => by rw [upd_ne _ _ hne]; exact h3 j hne
    obtain ⟨b1, b2, b3, b4, b5, b6, b7, b8⟩ := hm
    have hmth : Mth days (upd a1 i (nI k)) speeds kinds n T (setF A i k) V K := Mth_setA b7 hcell (upd_same _ _ _)
    obtain ⟨t2, s2, h2', l2, g1, g2, g3, g4⟩ := go_0 (to := t1) (stood := s1) (home := h1') (lost := l1) (Pok_setA (i := i) (a := k) hp (by omega)) (⟨b1, b2, b3, b4, b5, b6, hmth, b8⟩ : PM S D n px py nn T (setF A i k) V K NP NW NF NU ms mf mn na nw ng nt mx my mm days (upd a1 i (nI k)) speeds kinds)
    have g2 : DX9_howMany (0 : Int32) mn na nw ng nt mm days kinds t2 h2' l2 = some (nI (v k)) := by rw [← hv]; exact g2 0 (by decide)
    have hgo := Bst_go (z := -4) (by decide) hvl h2
    rw [e24, if_neg (by rw [p_le (by omega) (by omega)]; omega), p_g (by omega) (by decide), p_tn (by omega), g1, bd5_eq, g2, bd1_eq, hk1]
    by_cases hc : nI (v k) ≤ x5
    · rw [if_pos hc, if_pos hc] at hgo
      rw [if_pos hc, if_pos hc]
      exact ⟨_, rfl, rfl, hgo, hcell⟩
    · rw [if_neg hc, if_neg hc] at hgo
      rw [if_neg hc, if_neg hc]
      exact ⟨_, rfl, rfl, hgo, hcell⟩
  · rintro ⟨x4, x5, x6, a1, t1, s1, h1', l1, u1⟩ ⟨h1, h2, h3⟩
    simp only at h1 h2 h3
    subst h1
    show ∃ r, DX9_bestAim_L37s (nI i) ms mf mn na nw ng nt mm days speeds kinds x4 x5 (nI 24) a1 t1 s1 h1' l1 u1 = some (.inr r) ∧ _
    unfold DX9_bestAim_L37s
    rw [if_pos (by decide)]
    exact ⟨_, rfl, h2.2 23 rfl, h3⟩
end BA
theorem take_plan {ls lh lp lq lf nf : Int32} {lc nc tc uc : Nat → Int32} {S D n px py nn : Nat} {T A V K NP NW NF NU : Nat → Nat} (hp : Pok S D n px py nn T A V K NP NW NF NU) (hx : PX S D n px py nn T A V K NP NW NF NU ls lh lp lq lc lf nc nf) :
    DX3_takeOver tc uc ls lh lp lq lc lf nc nf = some (ls, lh, lp, lq, va_cpy lc tc 0 0 28, lf, va_cpy nc uc 0 0 20, nf) ∧ PX S D n px py nn T A V K NP NW NF NU ls lh lp lq (va_cpy lc tc 0 0 28) lf (va_cpy nc uc 0 0 20) nf := by
  obtain ⟨a1, a2, a3, a4, a5, a6, a7, a8⟩ := hx
  have h7 := hp.2.2.2.1
  have h5 := hp.2.2.2.2.2.2.1
  refine ⟨?_, a1, a2, a3, a4, a5, a6, Thr_cpy h7 a7, Net_cpy h5 a8⟩
  unfold DX3_takeOver
  rw [a5, a6, takeT h7, bd2_eq, takeN h5, bd2_eq]
theorem s_bestAim : S_bestAim Inv0 := by
  intro c_text_bytes c_text_length c_reader_numbers c_reader_next c_laid_stand c_laid_home c_laid_priceStart c_laid_priceStep c_laid_thrown_cells c_laid_thrown_filled c_laid_nets_cells c_laid_nets_filled c_trial_stand c_trial_home c_trial_priceStart c_trial_priceStep c_trial_thrown_cells c_trial_thrown_filled c_trial_nets_cells c_trial_nets_filled c_flight_loads_cells c_flight_loads_filled c_flight_order c_flight_done c_flight_start c_flight_end c_changes_who c_changes_column c_changes_was c_changes_held c_kept_older_cells c_kept_older_filled c_kept_newer_cells c_kept_newer_filled c_kept_held c_turns_need m_length m_text m_stands m_homeFar m_nets m_netAt m_netWide m_netFrom m_netTo m_priceX m_priceY m_many m_days m_aims m_speeds m_kinds m_keptMany m_undoMany m_undos m_spot m_told m_to m_stood m_home m_lost m_out m_fewest m_ways m_next m_held hI x1 x2
  have hI0 := hI
  obtain ⟨hT, n, ⟨S, D, px, py, nn, T, A, V, K, NP, NW, NF, NU, hn1, hp, hx, hm⟩, hU, hK⟩ := hI
  have hn7 := hp.2.2.2.1
  have hmm := hm.2.2.2.2.2.1
  have hlf := hx.2.2.2.2.1
  have hmt := hm.2.2.2.2.2.2.1
  unfold DX8_bestAim DX9_bestAim
  rcases thr_x x1 hmm hn1 hn7 with ⟨i, hi, e1, q1, q2⟩ | ⟨q1, q2⟩
  · rw [← hlf] at q1
    rw [q1, q2]
    rcases win_x x2 0 1 (a := 0) (b := 1) (l := 0) (h := 1) rfl rfl rfl rfl (by decide) (by decide) with ⟨c, r0, r1, e2, r3, r4⟩ | ⟨r1, r3, r4⟩
    · rw [r3, r4]
      obtain ⟨w1, w2⟩ := take_plan (tc := c_trial_thrown_cells) (uc := c_trial_nets_cells) hp hx
      obtain ⟨c', f', o', d', s', e', k1⟩ := D8_bestAim_L_eq (f := c_flight_loads_cells) (order := c_flight_order) (fd := c_flight_done) (fs := c_flight_start) (fe := c_flight_end) hp hi w2
      obtain ⟨a', to', st', ho', lo', ou', k2, k3⟩ := D9_bestAim_L_eq (to := m_to) (stood := m_stood) (home := m_home) (lost := m_lost) (out := m_out) hp hi hm
      have gd : ∀ {α : Type} (b : Option α), (if nI i < 0 ∨ 28 ≤ i then none else b) = b := fun b => p_h (by omega) (by omega)
      have hback : upd a' i (m_aims i) = m_aims := by
        funext j
        by_cases h : j = i
        · rw [h, upd_same]
        · rw [upd_ne _ _ h, k3 j h]
      rw [e1, w1, bd1_eq, bd1_eq, if_neg (by decide), if_neg (by decide)]
      rw [bd1_eq, bd1_eq, if_neg (by decide), if_neg (by decide), bd8_eq, k1, bd8_eq, p_tn (by omega), gd, k2, bd8_eq, gd, hback]
      by_cases h0 : x2 = 0
      · rw [if_pos h0, if_pos h0]
        exact ⟨_, _, _, _, _, _, _, _, _, _, _, _, _, _, _, _, _, _, _, _, rfl, rfl, hI0⟩
      · rw [if_neg h0, if_neg h0]
        exact ⟨_, _, _, _, _, _, _, _, _, _, _, _, _, _, _, _, _, _, _, _, rfl, rfl, hI0⟩
    · rw [r3, r4]
      exact ⟨_, _, _, _, _, _, _, _, _, _, _, _, _, _, _, _, _, _, _, _, rfl, rfl, hI0⟩
  · rw [← hlf] at q1
    rw [q1, q2]
    exact ⟨_, _, _, _, _, _, _, _, _, _, _, _, _, _, _, _, _, _, _, _, rfl, rfl, hI0⟩
