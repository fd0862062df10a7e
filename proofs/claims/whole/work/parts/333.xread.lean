/-! PURE: the class's known, farOn -/
section XR
variable {f : Nat → Int32} {n i : Nat}
theorem D1_known_eq (hi : i < 7) {c : Nat} (hc : c < 10) : DX1_known (nI i) (nI c) f = some (f (i * 10 + c)) := by
  unfold DX1_known
  rw [getL hi hc, bd1_eq]
theorem D1_farOn_eq {t Ti Vi Wi : Nat} (hi : i < 7) (h0 : f (i * 10 + 0) = nI Ti) (h2 : f (i * 10 + 2) = nI Vi) (h7 : f (i * 10 + 7) = nI Wi) (hT : Ti < 1000) (ht : t < 1000) (hW : Wi < 100000) :
    DX1_farOn (nI i) (nI t) f = some (if Ti ≤ t ∧ t < Wi then nI ((t - Ti) * Vi) else -4) := by
  have g0 : DX5_get (nI i) (0 : Int32) (7 : Int32) (10 : Int32) 70 f = some (nI Ti) := by
    have := getL (f := f) (i := i) (c := 0) hi (by decide); rw [h0] at this; exact this
  have g2 : DX5_get (nI i) (2 : Int32) (7 : Int32) (10 : Int32) 70 f = some (nI Vi) := by
    have := getL (f := f) (i := i) (c := 2) hi (by decide); rw [h2] at this; exact this
  have g7 : DX5_get (nI i) (7 : Int32) (7 : Int32) (10 : Int32) 70 f = some (nI Wi) := by
    have := getL (f := f) (i := i) (c := 7) hi (by decide); rw [h7] at this; exact this
  unfold DX1_farOn
  rw [g0, bd1_eq]
  by_cases hc : t < Ti
  · rw [if_pos (pk_sneg (by omega) hc), if_neg (by omega)]
    unfold DX1_farOn_J35
    rw [if_pos rfl]
  · rw [p_sub (show Ti ≤ t by omega), if_neg (p_neg (by omega)), g7, bd1_eq]
    by_cases hw : Wi ≤ t
    · rw [if_pos (by rw [p_le (by omega) (by omega)]; exact hw), if_neg (by omega)]
      unfold DX1_farOn_J35
      rw [if_pos rfl]
    · rw [if_neg (by rw [p_le (by omega) (by omega)]; exact hw), if_pos ⟨by omega, by omega⟩]
      unfold DX1_farOn_J35
      rw [if_neg (by decide), g2, bd1_eq, p_mul]
end XR
