/-! PURE: the small methods at small numbers -/
theorem D8_at_eq {f : Nat → Int32} {i n : Nat} (h : i < n) (hn : n < 2147483648) : DX8_at (nI i) n f = some (f i) := by
  unfold DX8_at
  rw [if_neg (p_neg (by omega)), p_ofNat, if_neg (by rw [p_le (by omega) (by omega)]; omega), p_g h hn, p_tn (by omega)]
theorem D8_put_eq {f : Nat → Int32} {i n : Nat} {x : Int32} (h : i < n) (hn : n < 2147483648) : DX8_put (nI i) x n f = some (upd f i x) := by
  unfold DX8_put
  rw [if_neg (p_neg (by omega)), p_ofNat, if_neg (by rw [p_le (by omega) (by omega)]; omega), p_g h hn, p_tn (by omega)]
theorem p_cell {i c m w : Nat} (hi : i < m) (hc : c < w) : i * w + c < m * w := by
  have h1 : (i + 1) * w ≤ m * w := Nat.mul_le_mul_right w hi
  rw [Nat.add_mul] at h1
  omega
theorem D5_get_eq {f : Nat → Int32} {i c m w : Nat} (hi : i < m) (hc : c < w) (hmw : m * w < 1000000) (hm : m < 1000000) (hw : w < 1000000) : DX5_get (nI i) (nI c) (nI m) (nI w) (m * w) f = some (f (i * w + c)) := by
  have hlt := p_cell hi hc
  unfold DX5_get
  rw [if_neg (p_neg (by omega)), if_neg (by rw [p_le (by omega) (by omega)]; omega), if_neg (p_neg (by omega)), if_neg (by rw [p_le (by omega) (by omega)]; omega)]
  unfold DX5_get_J29
  rw [if_neg (by decide), p_mul, p_add, p_g hlt (by omega), p_tn (by omega)]
theorem D5_set_eq {f : Nat → Int32} {x : Int32} {i c m w : Nat} (hi : i < m) (hc : c < w) (hmw : m * w < 1000000) (hm : m < 1000000) (hw : w < 1000000) : DX5_set (nI i) (nI c) x (nI m) (nI w) (m * w) f = some (upd f (i * w + c) x) := by
  have hlt := p_cell hi hc
  unfold DX5_set
  rw [if_neg (p_neg (by omega)), if_neg (by rw [p_le (by omega) (by omega)]; omega), if_neg (p_neg (by omega)), if_neg (by rw [p_le (by omega) (by omega)]; omega)]
  rw [p_mul, p_add, p_g hlt (by omega), p_tn (by omega)]
/-- rows of the plan's throws, of its nets, of the flight's loads -/
theorem getT {f : Nat → Int32} {i c : Nat} (hi : i < 7) (hc : c < 4) : DX5_get (nI i) (nI c) (7 : Int32) (4 : Int32) 28 f = some (f (i * 4 + c)) := D5_get_eq (m := 7) (w := 4) hi hc (by decide) (by decide) (by decide)
theorem setT {f : Nat → Int32} {x : Int32} {i c : Nat} (hi : i < 7) (hc : c < 4) : DX5_set (nI i) (nI c) x (7 : Int32) (4 : Int32) 28 f = some (upd f (i * 4 + c) x) := D5_set_eq (m := 7) (w := 4) hi hc (by decide) (by decide) (by decide)
theorem getN {f : Nat → Int32} {i c : Nat} (hi : i < 5) (hc : c < 4) : DX5_get (nI i) (nI c) (5 : Int32) (4 : Int32) 20 f = some (f (i * 4 + c)) := D5_get_eq (m := 5) (w := 4) hi hc (by decide) (by decide) (by decide)
theorem getL {f : Nat → Int32} {i c : Nat} (hi : i < 7) (hc : c < 10) : DX5_get (nI i) (nI c) (7 : Int32) (10 : Int32) 70 f = some (f (i * 10 + c)) := D5_get_eq (m := 7) (w := 10) hi hc (by decide) (by decide) (by decide)
theorem setL {f : Nat → Int32} {x : Int32} {i c : Nat} (hi : i < 7) (hc : c < 10) : DX5_set (nI i) (nI c) x (7 : Int32) (10 : Int32) 70 f = some (upd f (i * 10 + c) x) := D5_set_eq (m := 7) (w := 10) hi hc (by decide) (by decide) (by decide)
theorem mod24_sub : ∀ a, a < 24 → ∀ b, b < 24 → DJ9_floorMod_7cf53 (nI a - nI b) (24 : Int32) = some (nI ((a + 24 - b) % 24)) := by decide +kernel
theorem around_nat : ∀ a, a < 64 → DX9_around (nI a) = some (nI (a % 24)) := by decide +kernel
theorem around_sub : ∀ a, a < 24 → ∀ b, b < 24 → DX9_around (nI a - nI b) = some (nI ((a + 24 - b) % 24)) := by decide +kernel
/-- how far two places are apart -/
def ap (a b : Nat) : Nat := min ((a + 24 - b) % 24) (24 - (a + 24 - b) % 24)
theorem apart_x : ∀ a, a < 24 → ∀ b, b < 24 → DX8_apart (nI a) (nI b) = some (nI (ap a b)) := by decide +kernel
theorem apart_m : ∀ a, a < 24 → ∀ b, b < 24 → DX9_apart (nI a) (nI b) = some (nI (ap a b)) := by decide +kernel
theorem has_eq : ∀ o, o < 128 → ∀ i, i < 7 → DX9_has (nI o) (nI i) = some (if o.testBit i then 1 else 0) := by decide +kernel
theorem has_eq6 : ∀ o, o < 64 → ∀ i, i < 6 → DX9_has (nI o) (nI i) = some (if o.testBit i then 1 else 0) := by decide +kernel
theorem isIn_eq : ∀ o, o < 64 → ∀ v, v < 7 → 0 < v → DX7_isIn (nI v) (nI o) = some (if o.testBit (v - 1) then 1 else 0) := by decide +kernel
theorem bits_x : ∀ o, o < 128 → ∃ b, b < 8 ∧ DJ6_bitCount_0f7a4 (nI o) = some (nI b) := by decide +kernel
