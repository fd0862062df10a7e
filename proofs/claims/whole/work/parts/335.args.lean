/-! PURE: arguments within their bounds -/
theorem rngI (x : Int32) (n : Nat) (hn : n < 1000000) : (∃ i, i < n ∧ x = nI i) ∨ x < 0 ∨ nI n ≤ x := by
  by_cases h0 : x < 0
  · exact Or.inr (Or.inl h0)
  · by_cases h1 : nI n ≤ x
    · exact Or.inr (Or.inr h1)
    · left
      rw [Int32.lt_iff_toInt_lt] at h0
      rw [Int32.le_iff_toInt_le, p_ti (by omega)] at h1
      have e0 : (0 : Int32).toInt = 0 := rfl
      rw [e0] at h0
      exact ⟨x.toInt.toNat, by omega, z_nI (by omega) (by omega)⟩
theorem win_x (x : Int32) (lo hi : Nat) {a b : Int32} {l h : Int64} (ha : a = nI lo) (hb : b = nI hi) (hl : a.toInt64 = l) (hh : b.toInt64 = h) (h1 : lo < 1000000) (h2 : hi < 1000000) :
    (∃ i, lo ≤ i ∧ i ≤ hi ∧ x = nI i ∧ DX8_within x a b = some 1 ∧ DX9_in x.toInt64 l h = some 1) ∨ ((∀ i, lo ≤ i → i ≤ hi → x ≠ nI i) ∧ DX8_within x a b = some 0 ∧ DX9_in x.toInt64 l h = some 0) := by
  rw [D8_within_eq, D9_in_wide hl hh]
  by_cases hc : a ≤ x ∧ x ≤ b
  · left
    have hc' := hc
    rw [Int32.le_iff_toInt_le, Int32.le_iff_toInt_le, ha, hb, p_ti (by omega), p_ti (by omega)] at hc'
    exact ⟨x.toInt.toNat, by omega, by omega, z_nI (by omega) (by omega), by rw [if_pos hc], by rw [if_pos hc]⟩
  · right
    refine ⟨fun i q1 q2 e => hc ?_, by rw [if_neg hc], by rw [if_neg hc]⟩
    rw [e, ha, hb, p_le (by omega) (by omega), p_le (by omega) (by omega)]
    exact ⟨q1, q2⟩
theorem in_nI {x : Int32} {lo hi : Nat} {l h : Int64} (a b : Int32) (ha : a = nI lo) (hb : b = nI hi) (hl : a.toInt64 = l) (hh : b.toInt64 = h) (h1 : lo < 1000000) (h2 : hi < 1000000) {i : Nat} (hi2 : i < 1000000) (hx : x = nI i) :
    DX9_in x.toInt64 l h = some (if lo ≤ i ∧ i ≤ hi then 1 else 0) := by
  rw [D9_in_wide hl hh, ha, hb, hx]
  by_cases hc : lo ≤ i ∧ i ≤ hi
  · rw [if_pos hc, if_pos]; rw [p_le (by omega) (by omega), p_le (by omega) (by omega)]; exact hc
  · rw [if_neg hc, if_neg]; rw [p_le (by omega) (by omega), p_le (by omega) (by omega)]; exact hc
theorem thr_x (x : Int32) {n : Nat} {many : Nat → Int32} (hm : many 0 = nI n) (h1 : 1 ≤ n) (h7 : n ≤ 7) :
    (∃ i, i < n ∧ x = nI i ∧ DX5_has x (nI n) = some 1 ∧ DX9_isThrow x many = some 1) ∨ (DX5_has x (nI n) = some 0 ∧ DX9_isThrow x many = some 0) := by
  have ez : (0 : Int32).toNatClampNeg = 0 := rfl
  have e1 : nI n - (1 : Int32) = nI (n - 1) := p_sub (a := n) (b := 1) h1
  unfold DX9_isThrow
  rw [ez, hm, e1]
  rcases win_x x 0 (n - 1) (a := 0) (l := 0) rfl rfl rfl rfl (by decide) (by omega) with ⟨i, q0, q1, q2, q3, q4⟩ | ⟨q1, q2, q3⟩
  · left
    refine ⟨i, by omega, q2, ?_, ?_⟩
    · unfold DX5_has
      rw [q2, if_neg (p_neg (by omega)), if_neg (by rw [p_le (by omega) (by omega)]; omega)]
    · rw [q4, bd1_eq, if_neg (by simp)]
  · right
    refine ⟨?_, ?_⟩
    · unfold DX5_has
      rcases rngI x n (by omega) with ⟨i, r1, r2⟩ | r | r
      · exact absurd r2 (q1 i (by omega) (by omega))
      · rw [if_pos r]
      · by_cases r0 : x < 0
        · rw [if_pos r0]
        · rw [if_neg r0, if_pos r]
    · rw [q3, bd1_eq, if_neg (by simp)]
theorem day_x (x : Int32) : (∃ t, t ≤ 99 ∧ x = nI t ∧ DX8_within x (0 : Int32) (99 : Int32) = some 1 ∧ DX9_isDay x = some 1) ∨ (DX8_within x (0 : Int32) (99 : Int32) = some 0 ∧ DX9_isDay x = some 0) := by
  unfold DX9_isDay
  rcases win_x x 0 99 (a := 0) (b := 99) (l := 0) (h := 99) rfl rfl rfl rfl (by decide) (by decide) with ⟨i, q0, q1, q2, q3, q4⟩ | ⟨q1, q2, q3⟩
  · left
    exact ⟨i, q1, q2, q3, by rw [q4, bd1_eq, if_neg (by simp)]⟩
  · right
    exact ⟨q2, by rw [q3, bd1_eq, if_neg (by simp)]⟩
