/-! PURE: year -/
theorem L_add (a b : Nat) : Int64.ofNat a + Int64.ofNat b = Int64.ofNat (a + b) := (Int64.ofNat_add a b).symm
theorem L_mul (a b : Nat) : Int64.ofNat a * Int64.ofNat b = Int64.ofNat (a * b) := (Int64.ofNat_mul a b).symm
theorem L_sub {a b : Nat} (h : b ≤ a) : Int64.ofNat a - Int64.ofNat b = Int64.ofNat (a - b) := (Int64.ofNat_sub a b h).symm
theorem L_div {a b : Nat} (ha : a < 2 ^ 63) (hb : b < 2 ^ 63) : Int64.ofNat a / Int64.ofNat b = Int64.ofNat (a / b) := (Int64.ofNat_div ha hb).symm
theorem L_rem {a b : Nat} (ha : a < 2 ^ 63) (hb : b < 2 ^ 63) : Int64.ofNat a - Int64.ofNat a / Int64.ofNat b * Int64.ofNat b = Int64.ofNat (a % b) := by
  have h : a / b * b ≤ a := Nat.div_mul_le_self a b
  have e : a - a / b * b = a % b := by
    have := Nat.div_add_mod a b
    rw [Nat.mul_comm] at this; omega
  rw [L_div ha hb, L_mul, L_sub h, e]
theorem L_of {n : Nat} (h : n < 2147483648) : (nI n).toInt64 = Int64.ofNat n := Int32.toInt64_ofNat' (by have : Int32.maxValue.toInt = 2147483647 := rfl; omega)
def drw (z i : Nat) : Nat := (7919 * z + 6151 * i + 1) * (7919 * z + 6151 * i + 1) % 65521 % 24
theorem drw_lt (z i : Nat) : drw z i < 24 := Nat.mod_lt _ (by decide)
theorem drw_eq {z i : Nat} (hz : z < 10000) (hi : i < 7) : ((((((((7919 : Int64) * ((nI z).toInt64)) + ((6151 : Int64) * ((nI i).toInt64))) + (1 : Int64)) * ((((7919 : Int64) * ((nI z).toInt64)) + ((6151 : Int64) * ((nI i).toInt64))) + (1 : Int64))) - (((((7919 : Int64) * ((nI z).toInt64)) + ((6151 : Int64) * ((nI i).toInt64))) + (1 : Int64)) * ((((7919 : Int64) * ((nI z).toInt64)) + ((6151 : Int64) * ((nI i).toInt64))) + (1 : Int64))) / (65521 : Int64) * (65521 : Int64)) - ((((((7919 : Int64) * ((nI z).toInt64)) + ((6151 : Int64) * ((nI i).toInt64))) + (1 : Int64)) * ((((7919 : Int64) * ((nI z).toInt64)) + ((6151 : Int64) * ((nI i).toInt64))) + (1 : Int64))) - (((((7919 : Int64) * ((nI z).toInt64)) + ((6151 : Int64) * ((nI i).toInt64))) + (1 : Int64)) * ((((7919 : Int64) * ((nI z).toInt64)) + ((6151 : Int64) * ((nI i).toInt64))) + (1 : Int64))) / (65521 : Int64) * (65521 : Int64)) / (24 : Int64) * (24 : Int64)).toInt32) = nI (drw z i) := by
  have e1 : (7919 : Int64) = Int64.ofNat 7919 := rfl
  have e2 : (6151 : Int64) = Int64.ofNat 6151 := rfl
  have e3 : (1 : Int64) = Int64.ofNat 1 := rfl
  have e4 : (65521 : Int64) = Int64.ofNat 65521 := rfl
  have e5 : (24 : Int64) = Int64.ofNat 24 := rfl
  have hx : 7919 * z + 6151 * i + 1 < 80000000 := by omega
  have hxx : (7919 * z + 6151 * i + 1) * (7919 * z + 6151 * i + 1) < 2 ^ 63 := by
    have := Nat.mul_le_mul (Nat.le_of_lt hx) (Nat.le_of_lt hx)
    omega
  have hm := Nat.mod_lt ((7919 * z + 6151 * i + 1) * (7919 * z + 6151 * i + 1)) (show 65521 > 0 by decide)
  rw [L_of (show z < 2147483648 by omega), L_of (show i < 2147483648 by omega), e1, e2, e3, e4, e5, L_mul, L_mul, L_add, L_add, L_mul, L_rem hxx (by decide), L_rem (by omega) (by decide), Int64.toInt32_ofNat']
  rfl
section YR
variable {S D n px py nn z : Nat} {T A V K NP NW NF NU : Nat → Nat}
theorem D8_year_L_eq {lc : Nat → Int32} (hn : n ≤ 7) (hz : z < 10000) (hg : Thr lc n T A V K) : ∃ c', DX8_year_L35 (nI z) (nI n) FU (0 : Int32) lc = some c' ∧ Thr c' n T (drw z) V K := by
  have key := it_for2 (S := Int32 × (Nat → Int32)) (R := Nat → Int32) (f := fun st => DX8_year_L35s (nI z) (nI n) (st.1) (st.2))
    (fun k st => st.1 = nI k ∧ ∀ i, i < n → st.2 (i * 4 + 0) = nI (T i) ∧ (i < k → st.2 (i * 4 + 1) = nI (drw z i)) ∧ st.2 (i * 4 + 2) = nI (V i) ∧ st.2 (i * 4 + 3) = nI (K i)) (fun r => Thr r n T (drw z) V K) n (s0 := ((0 : Int32), lc))
    ⟨rfl, fun i hi => ⟨(hg i hi).1, fun h => absurd h (by omega), (hg i hi).2.2.1, (hg i hi).2.2.2⟩⟩ ?_ ?_ (by omega)
  · obtain ⟨r, q1, q2⟩ := key
    exact ⟨r, q1, q2⟩
  · rintro k ⟨x3, c1⟩ hk ⟨h1, h2⟩
    simp only at h1 h2
    subst h1
    left
    show ∃ s', DX8_year_L35s (nI z) (nI n) (nI k) c1 = some (.inl s') ∧ _
    unfold DX8_year_L35s DX5_rows
    have hk1 : nI k + (1 : Int32) = nI (k + 1) := p_add k 1
    have s1 : ∀ x, DX5_set (nI k) (1 : Int32) x (7 : Int32) (4 : Int32) 28 c1 = some (upd c1 (k * 4 + 1) x) := fun x => setT (c := 1) (by omega) (by decide)
    rw [bd1_eq, if_neg (by rw [p_le (by omega) (by omega)]; omega), s1, bd1_eq, drw_eq hz (by omega), hk1]
    refine ⟨_, rfl, rfl, fun i hi => ?_⟩
    obtain ⟨q0, q1, q2, q3⟩ := h2 i hi
    refine ⟨?_, fun h => ?_, ?_, ?_⟩
    · show upd c1 (k * 4 + 1) _ (i * 4 + 0) = _
      rw [upd_ne _ _ (by omega)]; exact q0
    · show upd c1 (k * 4 + 1) _ (i * 4 + 1) = _
      by_cases e : i = k
      · rw [e, upd_same]
      · rw [upd_ne _ _ (by omega)]; exact q1 (by omega)
    · show upd c1 (k * 4 + 1) _ (i * 4 + 2) = _
      rw [upd_ne _ _ (by omega)]; exact q2
    · show upd c1 (k * 4 + 1) _ (i * 4 + 3) = _
      rw [upd_ne _ _ (by omega)]; exact q3
  · rintro ⟨x3, c1⟩ ⟨h1, h2⟩
    simp only at h1 h2
    subst h1
    show ∃ r, DX8_year_L35s (nI z) (nI n) (nI n) c1 = some (.inr r) ∧ _
    unfold DX8_year_L35s DX5_rows
    rw [bd1_eq, if_pos (by rw [p_le (by omega) (by omega)]; omega)]
    exact ⟨_, rfl, fun i hi => ⟨(h2 i hi).1, (h2 i hi).2.1 hi, (h2 i hi).2.2.1, (h2 i hi).2.2.2⟩⟩
theorem D9_year_L_eq {mm aims held : Nat → Int32} (hn : n ≤ 7) (hz : z < 10000) (hmm : mm 0 = nI n) : ∃ a' h', DX9_year_L28 (nI z) mm FU (0 : Int32) aims held = some (a', h') ∧ (∀ i, i < n → a' i = nI (drw z i) ∧ h' i = aims i) ∧ ∀ i, n ≤ i → a' i = aims i := by
  have ez : (0 : Int32).toNatClampNeg = 0 := rfl
  have key := it_for2 (S := Int32 × (Nat → Int32) × (Nat → Int32)) (R := (Nat → Int32) × (Nat → Int32)) (f := fun st => DX9_year_L28s (nI z) mm (st.1) (st.2.1) (st.2.2))
    (fun k st => st.1 = nI k ∧ (∀ i, i < k → st.2.1 i = nI (drw z i) ∧ st.2.2 i = aims i) ∧ ∀ i, k ≤ i → st.2.1 i = aims i) (fun r => (∀ i, i < n → r.1 i = nI (drw z i) ∧ r.2 i = aims i) ∧ ∀ i, n ≤ i → r.1 i = aims i) n (s0 := ((0 : Int32), aims, held))
    ⟨rfl, fun i h => absurd h (by omega), fun i _ => rfl⟩ ?_ ?_ (by omega)
  · obtain ⟨⟨a', h'⟩, q1, q2, q3⟩ := key
    exact ⟨a', h', q1, q2, q3⟩
  · rintro k ⟨x3, a1, l1⟩ hk ⟨h1, h2, h3⟩
    simp only at h1 h2 h3
    subst h1
    left
    show ∃ s', DX9_year_L28s (nI z) mm (nI k) a1 l1 = some (.inl s') ∧ _
    unfold DX9_year_L28s
    have hk1 : nI k + (1 : Int32) = nI (k + 1) := p_add k 1
    have gd : ∀ {α : Type} (b : Option α), (if nI k < 0 ∨ 28 ≤ k then none else b) = b := fun b => p_h (by omega) (by omega)
    have gd7 : ∀ {α : Type} (b : Option α), (if nI k < 0 ∨ 7 ≤ k then none else b) = b := fun b => p_h (by omega) (by omega)
    rw [ez, hmm, if_neg (by rw [p_le (by omega) (by omega)]; omega), p_tn (show k < 2147483648 by omega), gd, gd7, gd, drw_eq hz (by omega), hk1]
    refine ⟨_, rfl, rfl, fun i hi => ⟨?_, ?_⟩, fun i hi => ?_⟩
    · show upd a1 k _ i = _
      by_cases e : i = k
      · rw [e, upd_same]
      · rw [upd_ne _ _ e]; exact (h2 i (by omega)).1
    · show upd l1 k _ i = _
      by_cases e : i = k
      · rw [e, upd_same]; exact h3 k (Nat.le_refl k)
      · rw [upd_ne _ _ e]; exact (h2 i (by omega)).2
    · show upd a1 k _ i = _
      rw [upd_ne _ _ (by omega)]; exact h3 i (by omega)
  · rintro ⟨x3, a1, l1⟩ ⟨h1, h2, h3⟩
    simp only at h1 h2 h3
    subst h1
    show ∃ r, DX9_year_L28s (nI z) mm (nI n) a1 l1 = some (.inr r) ∧ _
    unfold DX9_year_L28s
    rw [ez, hmm, if_pos (by rw [p_le (by omega) (by omega)]; omega)]
    exact ⟨_, rfl, h2, h3⟩
theorem D9_year_back {mm aims held a0 : Nat → Int32} (hn : n ≤ 7) (hmm : mm 0 = nI n) (hh : ∀ i, i < n → held i = a0 i) (ha : ∀ i, n ≤ i → aims i = a0 i) : DX9_year_L132 mm held FU (0 : Int32) aims = some a0 := by
  have ez : (0 : Int32).toNatClampNeg = 0 := rfl
  have key := it_for2 (S := Int32 × (Nat → Int32)) (R := Nat → Int32) (f := fun st => DX9_year_L132s mm held (st.1) (st.2))
    (fun k st => st.1 = nI k ∧ (∀ i, i < k → st.2 i = a0 i) ∧ ∀ i, n ≤ i → st.2 i = a0 i) (fun r => r = a0) n (s0 := ((0 : Int32), aims))
    ⟨rfl, fun i h => absurd h (by omega), ha⟩ ?_ ?_ (by omega)
  · obtain ⟨r, q1, q2⟩ := key
    unfold DX9_year_L132
    rw [q1, q2]
  · rintro k ⟨x3, a1⟩ hk ⟨h1, h2, h3⟩
    simp only at h1 h2 h3
    subst h1
    left
    show ∃ s', DX9_year_L132s mm held (nI k) a1 = some (.inl s') ∧ _
    unfold DX9_year_L132s
    have hk1 : nI k + (1 : Int32) = nI (k + 1) := p_add k 1
    have gd : ∀ {α : Type} (b : Option α), (if nI k < 0 ∨ 28 ≤ k then none else b) = b := fun b => p_h (by omega) (by omega)
    have gd7 : ∀ {α : Type} (b : Option α), (if nI k < 0 ∨ 7 ≤ k then none else b) = b := fun b => p_h (by omega) (by omega)
    rw [ez, hmm, if_neg (by rw [p_le (by omega) (by omega)]; omega), p_tn (show k < 2147483648 by omega), gd7, gd, hk1]
    refine ⟨_, rfl, rfl, fun i hi => ?_, fun i hi => ?_⟩
    · show upd a1 k _ i = _
      by_cases e : i = k
      · rw [e, upd_same]; exact hh k hk
      · rw [upd_ne _ _ e]; exact h2 i (by omega)
    · show upd a1 k _ i = _
      rw [upd_ne _ _ (by omega)]; exact h3 i hi
  · rintro ⟨x3, a1⟩ ⟨h1, h2, h3⟩
    simp only at h1 h2 h3
    subst h1
    show ∃ r, DX9_year_L132s mm held (nI n) a1 = some (.inr r) ∧ _
    unfold DX9_year_L132s
    rw [ez, hmm, if_pos (by rw [p_le (by omega) (by omega)]; omega)]
    refine ⟨_, rfl, funext fun i => ?_⟩
    by_cases h : i < n
    · exact h2 i h
    · exact h3 i (by omega)
end YR
theorem s_year : S_year Inv0 := by
  intro c_text_bytes c_text_length c_reader_numbers c_reader_next c_laid_stand c_laid_home c_laid_priceStart c_laid_priceStep c_laid_thrown_cells c_laid_thrown_filled c_laid_nets_cells c_laid_nets_filled c_trial_stand c_trial_home c_trial_priceStart c_trial_priceStep c_trial_thrown_cells c_trial_thrown_filled c_trial_nets_cells c_trial_nets_filled c_flight_loads_cells c_flight_loads_filled c_flight_order c_flight_done c_flight_start c_flight_end c_changes_who c_changes_column c_changes_was c_changes_held c_kept_older_cells c_kept_older_filled c_kept_newer_cells c_kept_newer_filled c_kept_held c_turns_need m_length m_text m_stands m_homeFar m_nets m_netAt m_netWide m_netFrom m_netTo m_priceX m_priceY m_many m_days m_aims m_speeds m_kinds m_keptMany m_undoMany m_undos m_spot m_told m_to m_stood m_home m_lost m_out m_fewest m_ways m_next m_held hI x1 x2
  have hI0 := hI
  obtain ⟨hT, n, ⟨S, D, px, py, nn, T, A, V, K, NP, NW, NF, NU, hn1, hp, hx, hm⟩, hU, hK⟩ := hI
  have hn7 := hp.2.2.2.1
  have hlf := hx.2.2.2.2.1
  have hmm := hm.2.2.2.2.2.1
  unfold DX8_year DX9_year
  rcases win_x x1 0 9999 (a := 0) (b := 9999) (l := 0) (h := 9999) rfl rfl rfl rfl (by decide) (by decide) with ⟨z, s0, s1, e1, s3, s4⟩ | ⟨s1, s3, s4⟩
  · rw [s3, s4]
    rcases win_x x2 0 2 (a := 0) (b := 2) (l := 0) (h := 2) rfl rfl rfl rfl (by decide) (by decide) with ⟨c, r0, r1, e2, r3, r4⟩ | ⟨r1, r3, r4⟩
    · rw [r3, r4]
      obtain ⟨w1, w2⟩ := take_plan (tc := c_trial_thrown_cells) (uc := c_trial_nets_cells) hp hx
      obtain ⟨v1, v2, v3, v4, v5, v6, v7, v8⟩ := w2
      obtain ⟨c', y1, y2⟩ := D8_year_L_eq (z := z) hn7 (by omega) v7
      have hp' : Pok S D n px py nn T (drw z) V K NP NW NF NU := by
        obtain ⟨h1, h2, h3, h4, h5, h6, h7, h8, h9⟩ := hp
        refine ⟨h1, h2, h3, h4, h5, h6, h7, fun i hi => ?_, h9⟩
        obtain ⟨r1, r2, r3, r4, r5⟩ := h8 i hi
        exact ⟨r1, drw_lt z i, r3, r4, r5⟩
      obtain ⟨f', o', dn, f1, f2, f3, f4⟩ := fly_0 (f := c_flight_loads_cells) (order := c_flight_order) hp' (⟨v1, v2, v3, v4, v5, v6, y2, v8⟩ : PX S D n px py nn T (drw z) V K NP NW NF NU c_laid_stand c_laid_home c_laid_priceStart c_laid_priceStep c' c_laid_thrown_filled (va_cpy c_laid_nets_cells c_trial_nets_cells 0 0 20) c_laid_nets_filled)
      obtain ⟨a', h', y3, y4, y5⟩ := D9_year_L_eq (z := z) (aims := m_aims) (held := m_held) hn7 (by omega) hmm
      obtain ⟨b1, b2, b3, b4, b5, b6, b7, b8⟩ := hm
      have hmth : Mth m_days a' m_speeds m_kinds n T (drw z) V K := fun i hi => ⟨(b7 i hi).1, (y4 i hi).1, (b7 i hi).2.2.1, (b7 i hi).2.2.2⟩
      obtain ⟨to', st', ho', lo', g1, g2, g3, g4⟩ := go_0 (to := m_to) (stood := m_stood) (home := m_home) (lost := m_lost) hp' (⟨b1, b2, b3, b4, b5, b6, hmth, b8⟩ : PM S D n px py nn T (drw z) V K NP NW NF NU m_stands m_homeFar m_nets m_netAt m_netWide m_netFrom m_netTo m_priceX m_priceY m_many m_days a' m_speeds m_kinds)
      have hback := D9_year_back (mm := m_many) (aims := a') (held := h') (a0 := m_aims) hn7 hmm (fun i hi => (y4 i hi).2) y5
      have f20 : DX1_howMany (0 : Int32) f' o' dn = _ := f2 0 (by decide)
      have g20 : DX9_howMany (0 : Int32) m_nets m_netAt m_netWide m_netFrom m_netTo m_many m_days m_kinds to' ho' lo' = _ := g2 0 (by decide)
      obtain ⟨to2, st2, t1, t2⟩ := D9_turnTo_eq (to := to') (stood := st') (w := 0) (last := 40) hn7 hp.1 (by decide) (by decide) b1 b6 hmth hp'.2.2.2.2.2.2.2.1
      have t1 : DX9_turnTo (40 : Int32) m_stands m_many m_days a' m_speeds m_kinds to' st' (0 : Int32) = some (nI (run V K (ordL T (wout 0) n) S), to2, st2) := t1
      rw [← hlf] at y1
      rw [w1, e1]
      rw [bd1_eq, bd1_eq, if_neg (by decide), if_neg (by decide)]
      rw [bd1_eq, bd1_eq, if_neg (by decide), if_neg (by decide), bd8_eq, y1, bd1_eq, f1, bd5_eq, y3, bd2_eq, g1, bd5_eq, e2]
      have hc : c = 0 ∨ c = 1 ∨ c = 2 := by omega
      rcases hc with h | h | h <;> subst h
      · rw [if_pos (show nI 0 = 0 from rfl), if_pos (show nI 0 = 0 from rfl), f20, bd1_eq, g20, bd1_eq, hback, bd1_eq]
        exact ⟨_, _, _, _, _, _, _, _, _, _, _, _, _, _, _, _, _, _, _, _, _, rfl, rfl, hI0⟩
      · rw [if_neg (by decide), if_pos (show nI 1 = 1 from rfl), if_neg (by decide), if_pos (show nI 1 = 1 from rfl), f3, bd1_eq, g3, bd1_eq, hback, bd1_eq]
        exact ⟨_, _, _, _, _, _, _, _, _, _, _, _, _, _, _, _, _, _, _, _, _, rfl, rfl, hI0⟩
      · rw [if_neg (by decide), if_neg (by decide), if_neg (by decide), if_neg (by decide), t1, bd3_eq, hback, bd1_eq]
        exact ⟨_, _, _, _, _, _, _, _, _, _, _, _, _, _, _, _, _, _, _, _, _, rfl, rfl, hI0⟩
    · rw [r3, r4]
      exact ⟨_, _, _, _, _, _, _, _, _, _, _, _, _, _, _, _, _, _, _, _, _, rfl, rfl, hI0⟩
  · rw [s3, s4]
    exact ⟨_, _, _, _, _, _, _, _, _, _, _, _, _, _, _, _, _, _, _, _, _, rfl, rfl, hI0⟩
