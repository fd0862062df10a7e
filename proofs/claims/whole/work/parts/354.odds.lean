/-! PURE: odds whole -/
theorem L_ti {a : Nat} (h : a < 2 ^ 63) : (Int64.ofNat a).toInt = (a : Int) := Int64.toInt_ofNat_of_lt h
theorem L_ne {a : Nat} (h : a < 2 ^ 63) (h0 : a ≠ 0) : ¬ Int64.ofNat a = 0 := by
  intro h2
  have h3 := congrArg Int64.toInt h2
  rw [L_ti h] at h3
  have e0 : (0 : Int64).toInt = 0 := rfl
  omega
theorem cmp_zero : lg_cmp (Int64.ofNat 0) (0 : Int64) = 0 := by decide +kernel
theorem cmp_pos {a : Nat} (h : a < 2 ^ 63) (h0 : a ≠ 0) : lg_cmp (Int64.ofNat a) (0 : Int64) = 1 := by
  unfold lg_cmp
  rw [if_pos]
  rw [gt_iff_lt, Int64.lt_iff_toInt_lt, L_ti h]
  have e0 : (0 : Int64).toInt = 0 := rfl
  omega
theorem eu_gcd {a b : Nat} : Nat.gcd a b = Nat.gcd b (a % b) := by
  rw [Nat.gcd_comm a b, Nat.gcd_rec b a, Nat.gcd_comm]
theorem euX : ∀ k a b c m, esB k a b = true → a < 2 ^ 63 → b < 2 ^ 63 → c + k < 64 → k < m → it (fun st : Int64 × Int64 × Int32 => DX8_commonDivisor_L9s (st.1) (st.2.1) (st.2.2)) m (Int64.ofNat a, Int64.ofNat b, nI c) = some (Int64.ofNat (Nat.gcd a b)) := by
  have stop : ∀ a c m, c < 64 → 0 < m → it (fun st : Int64 × Int64 × Int32 => DX8_commonDivisor_L9s (st.1) (st.2.1) (st.2.2)) m (Int64.ofNat a, Int64.ofNat 0, nI c) = some (Int64.ofNat (Nat.gcd a 0)) := by
    intro a c m hc hm
    obtain ⟨m', rfl⟩ : ∃ m', m = m' + 1 := ⟨m - 1, by omega⟩
    refine it_done ?_
    show DX8_commonDivisor_L9s (Int64.ofNat a) (Int64.ofNat 0) (nI c) = _
    unfold DX8_commonDivisor_L9s
    have e64 : (64 : Int32) = nI 64 := rfl
    rw [e64, if_neg (by rw [p_le (by omega) (by omega)]; omega), cmp_zero, if_pos rfl, Nat.gcd_zero_right]
  intro k
  induction k with
  | zero =>
    intro a b c m h ha hb hc hm
    have hb0 : b = 0 := by
      unfold esB at h
      exact eq_of_beq h
    subst hb0
    exact stop a c m (by omega) hm
  | succ k ih =>
    intro a b c m h ha hb hc hm
    by_cases hb0 : b = 0
    · subst hb0
      exact stop a c m (by omega) (by omega)
    · have h2 : esB k b (a % b) = true := by
        unfold esB at h
        rw [if_neg hb0] at h
        exact h
      obtain ⟨m', rfl⟩ : ∃ m', m = m' + 1 := ⟨m - 1, by omega⟩
      have hlt := Nat.mod_lt a (show b > 0 by omega)
      rw [it_next (s' := (Int64.ofNat b, Int64.ofNat (a % b), nI (c + 1))), ih b (a % b) (c + 1) m' h2 hb (by omega) (by omega) (by omega), ← eu_gcd]
      show DX8_commonDivisor_L9s (Int64.ofNat a) (Int64.ofNat b) (nI c) = _
      unfold DX8_commonDivisor_L9s
      have e64 : (64 : Int32) = nI 64 := rfl
      have hc1 : nI c + (1 : Int32) = nI (c + 1) := p_add c 1
      rw [e64, if_neg (by rw [p_le (by omega) (by omega)]; omega), cmp_pos hb hb0, if_neg (by decide), if_neg (L_ne hb hb0), L_rem ha hb, hc1]
theorem euM : ∀ k a b m, esB k a b = true → a < 2 ^ 63 → b < 2 ^ 63 → k < m → it (fun st : Int64 × Int64 => DX9_odds_L220s (st.1) (st.2)) m (Int64.ofNat a, Int64.ofNat b) = some (Int64.ofNat (Nat.gcd a b)) := by
  have stop : ∀ a m, 0 < m → it (fun st : Int64 × Int64 => DX9_odds_L220s (st.1) (st.2)) m (Int64.ofNat a, Int64.ofNat 0) = some (Int64.ofNat (Nat.gcd a 0)) := by
    intro a m hm
    obtain ⟨m', rfl⟩ : ∃ m', m = m' + 1 := ⟨m - 1, by omega⟩
    refine it_done ?_
    show DX9_odds_L220s (Int64.ofNat a) (Int64.ofNat 0) = _
    unfold DX9_odds_L220s
    rw [cmp_zero, if_pos rfl, Nat.gcd_zero_right]
  intro k
  induction k with
  | zero =>
    intro a b m h ha hb hm
    have hb0 : b = 0 := by
      unfold esB at h
      exact eq_of_beq h
    subst hb0
    exact stop a m hm
  | succ k ih =>
    intro a b m h ha hb hm
    by_cases hb0 : b = 0
    · subst hb0
      exact stop a m (by omega)
    · have h2 : esB k b (a % b) = true := by
        unfold esB at h
        rw [if_neg hb0] at h
        exact h
      obtain ⟨m', rfl⟩ : ∃ m', m = m' + 1 := ⟨m - 1, by omega⟩
      have hlt := Nat.mod_lt a (show b > 0 by omega)
      rw [it_next (s' := (Int64.ofNat b, Int64.ofNat (a % b))), ih b (a % b) m' h2 hb (by omega) (by omega), ← eu_gcd]
      show DX9_odds_L220s (Int64.ofNat a) (Int64.ofNat b) = _
      unfold DX9_odds_L220s
      rw [cmp_pos hb hb0, if_neg (by decide), if_neg (L_ne hb hb0), L_rem ha hb]
theorem D8_power_eq {b t : Nat} (ht : t < 1000) : DX8_power (Int64.ofNat b) (nI t) = some (Int64.ofNat (b ^ t)) := by
  unfold DX8_power DX8_power_L5
  have h0 : ((1 : Int64), (0 : Int32)) = (fun k => (Int64.ofNat (b ^ k), nI k)) 0 := by simp only [Nat.pow_zero]; rfl
  rw [h0, it_for (fun k => (Int64.ofNat (b ^ k), nI k)) (r := Int64.ofNat (b ^ t)) t ?_ ?_ (by omega), bd1_eq]
  · intro k hk
    show DX8_power_L5s (Int64.ofNat b) (nI t) (Int64.ofNat (b ^ k)) (nI k) = some (.inl (Int64.ofNat (b ^ (k + 1)), nI (k + 1)))
    unfold DX8_power_L5s
    have hk1 : nI k + (1 : Int32) = nI (k + 1) := p_add k 1
    rw [if_neg (by rw [p_le (by omega) (by omega)]; omega), L_mul, hk1, Nat.pow_succ]
  · show DX8_power_L5s (Int64.ofNat b) (nI t) (Int64.ofNat (b ^ t)) (nI t) = _
    unfold DX8_power_L5s
    rw [if_pos (by rw [p_le (by omega) (by omega)]; omega)]
theorem D8_odds_L48_eq {n x : Nat} (hn : n < 10) (hx : x < 11) : DX8_odds_L48 (nI n) (nI x) FU (0 : Int64) (0 : Int32) = some (Int64.ofNat (SXk n x (n + 1))) := by
  unfold DX8_odds_L48
  have h0 : ((0 : Int64), (0 : Int32)) = (fun k => (Int64.ofNat (SXk n x k), nI k)) 0 := rfl
  rw [h0, it_for (fun k => (Int64.ofNat (SXk n x k), nI k)) (r := Int64.ofNat (SXk n x (n + 1))) (n + 1) ?_ ?_ (by omega)]
  · intro k hk
    show DX8_odds_L48s (nI n) (nI x) (Int64.ofNat (SXk n x k)) (nI k) = some (.inl (Int64.ofNat (SXk n x (k + 1)), nI (k + 1)))
    unfold DX8_odds_L48s
    have hk1 : nI k + (1 : Int32) = nI (k + 1) := p_add k 1
    have h2 : (2 : Int32) * nI k = nI (2 * k) := p_mul 2 k
    have h10 : (10 : Int32) - nI x = nI (10 - x) := p_sub (a := 10) (b := x) (by omega)
    have hs : SXk n x (k + 1) = SXk n x k + (if 2 * k < n then 0 else chs n k * x ^ k * (10 - x) ^ (n - k)) := rfl
    rw [if_neg (by rw [p_lt (by omega) (by omega)]; omega), h2, hk1, hs]
    by_cases hc : 2 * k < n
    · rw [if_pos (by rw [p_lt (by omega) (by omega)]; exact hc), if_pos hc]; rfl
    · rw [if_neg (by rw [p_lt (by omega) (by omega)]; exact hc), if_neg hc, ways_eq n hn k (by omega) (by omega), bd1_eq, h10, L_of (by omega), L_of (by omega), D8_power_eq (by omega), bd1_eq, p_sub (show k ≤ n by omega), D8_power_eq (by omega), bd1_eq, L_mul, L_mul, L_add]
  · show DX8_odds_L48s (nI n) (nI x) (Int64.ofNat (SXk n x (n + 1))) (nI (n + 1)) = _
    unfold DX8_odds_L48s
    rw [if_pos (by rw [p_lt (by omega) (by omega)]; omega)]
theorem updL_same (f : Nat → Int64) (k : Nat) (x : Int64) : vp_updL f k x k = x := if_pos rfl
theorem updL_ne (f : Nat → Int64) {k j : Nat} (x : Int64) (h : j ≠ k) : vp_updL f k x j = f j := if_neg h
section OM
variable {x : Nat}
theorem D9_odds_L41_eq {wy : Nat → Int64} : ∃ w', DX9_odds_L41 FU (0 : Int32) wy = some w' ∧ ∀ j, j < 21 → w' j = Int64.ofNat (Wr x 0 j) := by
  have key := it_for2 (S := Int32 × (Nat → Int64)) (R := Nat → Int64) (f := fun st => DX9_odds_L41s (st.1) (st.2))
    (fun k st => st.1 = nI k ∧ ∀ j, j < k → st.2 j = Int64.ofNat (Wr x 0 j)) (fun r => ∀ j, j < 21 → r j = Int64.ofNat (Wr x 0 j)) 21 (s0 := ((0 : Int32), wy)) ⟨rfl, fun j h => absurd h (by omega)⟩ ?_ ?_ (by omega)
  · obtain ⟨r, q1, q2⟩ := key
    exact ⟨r, q1, q2⟩
  · rintro k ⟨x4, w1⟩ hk ⟨h1, h2⟩
    simp only at h1 h2
    subst h1
    left
    show ∃ s', DX9_odds_L41s (nI k) w1 = some (.inl s') ∧ _
    unfold DX9_odds_L41s
    have hk1 : nI k + (1 : Int32) = nI (k + 1) := p_add k 1
    have e21 : (21 : Int32) = nI 21 := rfl
    have e10 : (10 : Int32) = nI 10 := rfl
    have hw : ∀ j, Wr x 0 j = if j = 10 then 1 else 0 := fun j => rfl
    rw [e21, if_neg (by rw [p_le (by omega) (by omega)]; omega), p_g (by omega) (by decide), p_g (by omega) (by decide), p_tn (by omega), hk1]
    by_cases hc : k = 10
    · rw [if_pos (by rw [hc]; rfl)]
      refine ⟨_, rfl, rfl, fun j hj => ?_⟩
      show vp_updL w1 k _ j = _
      by_cases e : j = k
      · rw [e, updL_same, hw, if_pos hc]; rfl
      · rw [updL_ne _ _ e]; exact h2 j (by omega)
    · rw [if_neg (by rw [e10, p_eq (by omega) (by omega)]; exact hc)]
      refine ⟨_, rfl, rfl, fun j hj => ?_⟩
      show vp_updL w1 k _ j = _
      by_cases e : j = k
      · rw [e, updL_same, hw, if_neg hc]; rfl
      · rw [updL_ne _ _ e]; exact h2 j (by omega)
  · rintro ⟨x4, w1⟩ ⟨h1, h2⟩
    simp only at h1 h2
    subst h1
    show ∃ r, DX9_odds_L41s (nI 21) w1 = some (.inr r) ∧ _
    unfold DX9_odds_L41s
    rw [if_pos (by decide)]
    exact ⟨_, rfl, h2⟩
theorem Wr_in {t j : Nat} (h : 1 ≤ j ∧ j < 20) : Wr x (t + 1) j = Wr x t (j - 1) * x + Wr x t (j + 1) * (10 - x) := if_pos h
theorem Wr_out {t j : Nat} (h : ¬ (1 ≤ j ∧ j < 20)) : Wr x (t + 1) j = Wr x t j := if_neg h
theorem D9_odds_L88_eq {wy nx : Nat → Int64} {t : Nat} (hx : x < 11) (hw : ∀ j, j < 21 → wy j = Int64.ofNat (Wr x t j)) : ∃ n', DX9_odds_L88 (nI x) wy FU (1 : Int32) nx = some n' ∧ ∀ j, 1 ≤ j → j < 20 → n' j = Int64.ofNat (Wr x (t + 1) j) := by
  have key := it_for2 (S := Int32 × (Nat → Int64)) (R := Nat → Int64) (f := fun st => DX9_odds_L88s (nI x) wy (st.1) (st.2))
    (fun k st => st.1 = nI (k + 1) ∧ ∀ j, 1 ≤ j → j < k + 1 → st.2 j = Int64.ofNat (Wr x (t + 1) j)) (fun r => ∀ j, 1 ≤ j → j < 20 → r j = Int64.ofNat (Wr x (t + 1) j)) 19 (s0 := ((1 : Int32), nx)) ⟨rfl, fun j h1 h2 => absurd h2 (by omega)⟩ ?_ ?_ (by omega)
  · obtain ⟨r, q1, q2⟩ := key
    exact ⟨r, q1, q2⟩
  · rintro k ⟨x7, n1⟩ hk ⟨h1, h2⟩
    simp only at h1 h2
    subst h1
    left
    show ∃ s', DX9_odds_L88s (nI x) wy (nI (k + 1)) n1 = some (.inl s') ∧ _
    unfold DX9_odds_L88s
    have hk1 : nI (k + 1) + (1 : Int32) = nI (k + 1 + 1) := p_add (k + 1) 1
    have hk0 : nI (k + 1) - (1 : Int32) = nI k := p_sub (a := k + 1) (b := 1) (by omega)
    have h10 : (10 : Int32) - nI x = nI (10 - x) := p_sub (a := 10) (b := x) (by omega)
    have e20 : (20 : Int32) = nI 20 := rfl
    rw [e20, if_neg (by rw [p_le (by omega) (by omega)]; omega), hk0, hk1, h10, p_g (by omega) (by decide), p_g (by omega) (by decide), p_g (by omega) (by decide), p_tn (by omega), p_tn (by omega), p_tn (by omega), L_of (by omega), L_of (by omega), hw k (by omega), hw (k + 1 + 1) (by omega), L_mul, L_mul, L_add]
    refine ⟨_, rfl, rfl, fun j j1 j2 => ?_⟩
    show vp_updL n1 (k + 1) _ j = _
    by_cases e : j = k + 1
    · rw [e, updL_same, Wr_in (by omega), Nat.add_sub_cancel]
    · rw [updL_ne _ _ e]; exact h2 j j1 (by omega)
  · rintro ⟨x7, n1⟩ ⟨h1, h2⟩
    simp only at h1 h2
    subst h1
    show ∃ r, DX9_odds_L88s (nI x) wy (nI 20) n1 = some (.inr r) ∧ _
    unfold DX9_odds_L88s
    rw [if_pos (by decide)]
    exact ⟨_, rfl, h2⟩
theorem D9_odds_L139_eq {wy nx : Nat → Int64} {t : Nat} (hw : ∀ j, j < 21 → wy j = Int64.ofNat (Wr x t j)) (hn : ∀ j, 1 ≤ j → j < 20 → nx j = Int64.ofNat (Wr x (t + 1) j)) : ∃ w', DX9_odds_L139 nx FU (1 : Int32) wy = some w' ∧ ∀ j, j < 21 → w' j = Int64.ofNat (Wr x (t + 1) j) := by
  have key := it_for2 (S := Int32 × (Nat → Int64)) (R := Nat → Int64) (f := fun st => DX9_odds_L139s nx (st.1) (st.2))
    (fun k st => st.1 = nI (k + 1) ∧ ∀ j, j < 21 → (j < k + 1 ∨ 20 ≤ j) → st.2 j = Int64.ofNat (Wr x (t + 1) j)) (fun r => ∀ j, j < 21 → r j = Int64.ofNat (Wr x (t + 1) j)) 19 (s0 := ((1 : Int32), wy)) ⟨rfl, fun j h1 h2 => by
      show wy j = _
      rw [hw j h1, Wr_out (by omega)]⟩ ?_ ?_ (by omega)
  · obtain ⟨r, q1, q2⟩ := key
    exact ⟨r, q1, q2⟩
  · rintro k ⟨x7, n1⟩ hk ⟨h1, h2⟩
    simp only at h1 h2
    subst h1
    left
    show ∃ s', DX9_odds_L139s nx (nI (k + 1)) n1 = some (.inl s') ∧ _
    unfold DX9_odds_L139s
    have hk1 : nI (k + 1) + (1 : Int32) = nI (k + 1 + 1) := p_add (k + 1) 1
    have e20 : (20 : Int32) = nI 20 := rfl
    rw [e20, if_neg (by rw [p_le (by omega) (by omega)]; omega), hk1, p_g (by omega) (by decide), p_g (by omega) (by decide), p_tn (by omega), hn (k + 1) (by omega) (by omega)]
    refine ⟨_, rfl, rfl, fun j j1 j2 => ?_⟩
    show vp_updL n1 (k + 1) _ j = _
    by_cases e : j = k + 1
    · rw [e, updL_same]
    · rw [updL_ne _ _ e]; exact h2 j j1 (by omega)
  · rintro ⟨x7, n1⟩ ⟨h1, h2⟩
    simp only at h1 h2
    subst h1
    show ∃ r, DX9_odds_L139s nx (nI 20) n1 = some (.inr r) ∧ _
    unfold DX9_odds_L139s
    rw [if_pos (by decide)]
    exact ⟨_, rfl, fun j hj => h2 j hj (by omega)⟩
theorem D9_odds_L79_eq {wy nx : Nat → Int64} {n : Nat} (hx : x < 11) (hn : n < 10) (hw : ∀ j, j < 21 → wy j = Int64.ofNat (Wr x 0 j)) : ∃ w' n', DX9_odds_L79 (nI n) (nI x) FU (1 : Int64) (0 : Int32) wy nx = some (Int64.ofNat (10 ^ n), w', n') ∧ ∀ j, j < 21 → w' j = Int64.ofNat (Wr x n j) := by
  have key := it_for2 (S := Int64 × Int32 × (Nat → Int64) × (Nat → Int64)) (R := Int64 × (Nat → Int64) × (Nat → Int64)) (f := fun st => DX9_odds_L79s (nI n) (nI x) (st.1) (st.2.1) (st.2.2.1) (st.2.2.2))
    (fun k st => st.1 = Int64.ofNat (10 ^ k) ∧ st.2.1 = nI k ∧ ∀ j, j < 21 → st.2.2.1 j = Int64.ofNat (Wr x k j)) (fun r => r.1 = Int64.ofNat (10 ^ n) ∧ ∀ j, j < 21 → r.2.1 j = Int64.ofNat (Wr x n j)) n (s0 := ((1 : Int64), (0 : Int32), wy, nx)) ⟨rfl, rfl, hw⟩ ?_ ?_ (by omega)
  · obtain ⟨⟨r1, r2, r3⟩, q1, q2, q3⟩ := key
    simp only at q2 q3
    refine ⟨r2, r3, ?_, q3⟩
    unfold DX9_odds_L79
    rw [q1, q2]
  · rintro k ⟨x4, x6, w1, n1⟩ hk ⟨h0, h1, h2⟩
    simp only at h0 h1 h2
    subst h0 h1
    left
    show ∃ s', DX9_odds_L79s (nI n) (nI x) (Int64.ofNat (10 ^ k)) (nI k) w1 n1 = some (.inl s') ∧ _
    unfold DX9_odds_L79s
    have hk1 : nI k + (1 : Int32) = nI (k + 1) := p_add k 1
    have e10 : (10 : Int64) = Int64.ofNat 10 := rfl
    obtain ⟨n2, r1, r2⟩ := D9_odds_L88_eq (nx := n1) hx h2
    obtain ⟨w2, r3, r4⟩ := D9_odds_L139_eq h2 r2
    rw [if_neg (by rw [p_le (by omega) (by omega)]; omega), r1, bd1_eq, r3, bd1_eq, hk1, e10, L_mul, ← Nat.pow_succ]
    exact ⟨_, rfl, rfl, rfl, r4⟩
  · rintro ⟨x4, x6, w1, n1⟩ ⟨h0, h1, h2⟩
    simp only at h0 h1 h2
    subst h0 h1
    show ∃ r, DX9_odds_L79s (nI n) (nI x) (Int64.ofNat (10 ^ n)) (nI n) w1 n1 = some (.inr r) ∧ _
    unfold DX9_odds_L79s
    rw [if_pos (by rw [p_le (by omega) (by omega)]; omega)]
    exact ⟨_, rfl, rfl, h2⟩
theorem D9_odds_L187_eq {wy : Nat → Int64} {n : Nat} (hw : ∀ j, j < 21 → wy j = Int64.ofNat (Wr x n j)) : DX9_odds_L187 wy FU (0 : Int64) (10 : Int32) = some (Int64.ofNat (SMk n x 10)) := by
  unfold DX9_odds_L187
  have h0 : ((0 : Int64), (10 : Int32)) = (fun k => (Int64.ofNat (SMk n x k), nI (10 + k))) 0 := rfl
  rw [h0, it_for (fun k => (Int64.ofNat (SMk n x k), nI (10 + k))) (r := Int64.ofNat (SMk n x 10)) 10 ?_ ?_ (by omega)]
  · intro k hk
    show DX9_odds_L187s wy (Int64.ofNat (SMk n x k)) (nI (10 + k)) = some (.inl (Int64.ofNat (SMk n x (k + 1)), nI (10 + (k + 1))))
    unfold DX9_odds_L187s
    have hk1 : nI (10 + k) + (1 : Int32) = nI (10 + (k + 1)) := p_add (10 + k) 1
    have e20 : (20 : Int32) = nI 20 := rfl
    have hs : SMk n x (k + 1) = SMk n x k + Wr x n (10 + k) := rfl
    rw [e20, if_neg (by rw [p_le (by omega) (by omega)]; omega), p_g (by omega) (by decide), p_tn (by omega), hw _ (by omega), L_add, hk1, hs]
  · show DX9_odds_L187s wy (Int64.ofNat (SMk n x 10)) (nI (10 + 10)) = _
    unfold DX9_odds_L187s
    rw [if_pos (by decide)]
end OM
theorem s_odds : S_odds Inv0 := by
  intro c_text_bytes c_text_length c_reader_numbers c_reader_next c_laid_stand c_laid_home c_laid_priceStart c_laid_priceStep c_laid_thrown_cells c_laid_thrown_filled c_laid_nets_cells c_laid_nets_filled c_trial_stand c_trial_home c_trial_priceStart c_trial_priceStep c_trial_thrown_cells c_trial_thrown_filled c_trial_nets_cells c_trial_nets_filled c_flight_loads_cells c_flight_loads_filled c_flight_order c_flight_done c_flight_start c_flight_end c_changes_who c_changes_column c_changes_was c_changes_held c_kept_older_cells c_kept_older_filled c_kept_newer_cells c_kept_newer_filled c_kept_held c_turns_need m_length m_text m_stands m_homeFar m_nets m_netAt m_netWide m_netFrom m_netTo m_priceX m_priceY m_many m_days m_aims m_speeds m_kinds m_keptMany m_undoMany m_undos m_spot m_told m_to m_stood m_home m_lost m_out m_fewest m_ways m_next m_held hI x1 x2 x3
  unfold DX8_odds DX9_odds
  rcases win_x x1 0 9 (a := 0) (b := 9) (l := 0) (h := 9) rfl rfl rfl rfl (by decide) (by decide) with ⟨n, s0, s1, e1, s3, s4⟩ | ⟨s1, s3, s4⟩
  · rw [s3, s4]
    rcases win_x x2 0 10 (a := 0) (b := 10) (l := 0) (h := 10) rfl rfl rfl rfl (by decide) (by decide) with ⟨x, o0, o1, e2, o3, o4⟩ | ⟨o1, o3, o4⟩
    · rw [o3, o4]
      rcases win_x x3 0 1 (a := 0) (b := 1) (l := 0) (h := 1) rfl rfl rfl rfl (by decide) (by decide) with ⟨c, r0, r1, e3, r3, r4⟩ | ⟨r1, r3, r4⟩
      · rw [r3, r4]
        have hn : n < 10 := by omega
        have hx : x < 11 := by omega
        obtain ⟨q1, q2⟩ := sum_eq n hn x hx
        have q3 := es_ok n hn x hx
        have hpow : 10 ^ n ≤ 10 ^ 9 := Nat.pow_le_pow_right (by decide) (by omega)
        have hpos : 0 < 10 ^ n := Nat.pow_pos (by decide)
        have k1 : DX8_power (10 : Int64) (nI n) = some (Int64.ofNat (10 ^ n)) := D8_power_eq (b := 10) (by omega)
        have k2 := D8_odds_L48_eq hn hx
        obtain ⟨w1, k3, k4⟩ := D9_odds_L41_eq (x := x) (wy := m_ways)
        obtain ⟨w2, n2, k5, k6⟩ := D9_odds_L79_eq (nx := m_next) hx hn k4
        have k7 := D9_odds_L187_eq k6
        rw [q1] at k7
        generalize SXk n x (n + 1) = a at *
        generalize hb : 10 ^ n = b at *
        have hb63 : b < 2 ^ 63 := by omega
        have ha63 : a < 2 ^ 63 := by omega
        have k8 : DX8_commonDivisor_L9 FU (Int64.ofNat a) (Int64.ofNat b) (0 : Int32) = some (Int64.ofNat (Nat.gcd a b)) := euX 60 a b 0 FU q3 ha63 hb63 (by decide) (by decide)
        have k9 : DX9_odds_L220 FU (Int64.ofNat a) (Int64.ofNat b) = some (Int64.ofNat (Nat.gcd a b)) := euM 60 a b FU q3 ha63 hb63 (by decide)
        have hg0 : Nat.gcd a b ≠ 0 := fun h => by have := Nat.eq_zero_of_gcd_eq_zero_right h; omega
        have hgle : Nat.gcd a b ≤ b := Nat.gcd_le_right a hpos
        generalize Nat.gcd a b = g at *
        have hg63 : g < 2 ^ 63 := by omega
        unfold DX8_commonDivisor DX8_odds_J120
        rw [e1, e2]
        simp only [bd1_eq, bd3_eq, if_neg (show ¬ ((1 : Int32) = 0) by decide), k1, k2, k3, k5, k7, k8, k9, cmp_pos hg63 hg0, if_neg (show ¬ ((1 : Int32) ≤ 0) by decide), if_neg (L_ne hg63 hg0)]
        by_cases h0 : x3 = 0
        · rw [if_pos h0, if_pos h0]
          exact ⟨_, _, _, rfl, rfl, hI⟩
        · rw [if_neg h0, if_neg h0]
          exact ⟨_, _, _, rfl, rfl, hI⟩
      · rw [r3, r4]
        exact ⟨_, _, _, rfl, rfl, hI⟩
    · rw [o3, o4]
      exact ⟨_, _, _, rfl, rfl, hI⟩
  · rw [s3, s4]
    exact ⟨_, _, _, rfl, rfl, hI⟩
