/-! PURE: the reference's howOf, paidOf, howMany, paidAll (no throw left out) -/
/-- all that the reference's readings stand on, behind go -/
def Mend (nets netAt netWide netFrom netTo priceX priceY many days kinds to home lost : Nat → Int32) (n D nn px py w : Nat) (P T V K NP NW NF NU : Nat → Nat) (l : List Nat) : Prop :=
  nets 0 = nI nn ∧ Mnet netAt netWide netFrom netTo nn NP NW NF NU ∧ Nok nn NP NW NF NU ∧ priceX 0 = nI px ∧ priceY 0 = nI py ∧ px < 50 ∧ py < 50 ∧ many 0 = nI n ∧ n ≤ 7 ∧
  (∀ i, i < n → days i = nI (T i) ∧ kinds i = nI (K i) ∧ T i ≤ 40 ∧ K i ≤ 3 ∧ dys V D i ≤ 60) ∧ (∀ i, i < n → wout w i = false → to i = nI (P i)) ∧ (∀ i, P i < 24) ∧ Mday home lost n w P T V D l 101
section MC
variable {nets netAt netWide netFrom netTo priceX priceY many days kinds to home lost : Nat → Int32} {n D nn px py w : Nat} {P T V K NP NW NF NU : Nat → Nat} {l : List Nat}
theorem lost_lt (t i : Nat) : lostS P T V D l t i = 10000 ∨ lostS P T V D l t i < t := lost_or t i
theorem D9_howOf_eq (h : Mend nets netAt netWide netFrom netTo priceX priceY many days kinds to home lost n D nn px py w P T V K NP NW NF NU l) {i : Nat} (hi : i < n) (ho : wout w i = false) :
    DX9_howOf (nI i) nets netAt netWide netFrom netTo days kinds to home lost = some (nI (howS P T V K D l NP NW NF NU nn i)) := by
  obtain ⟨h1, h2, h3, h4, h5, h6, h7, h8, h9, h10, h11, h12, h13⟩ := h
  obtain ⟨d1, d2, d3, d4, d5⟩ := h10 i hi
  obtain ⟨m1, m2⟩ := (h13 i hi).1 ho
  have e : (10000 : Int32) = nI 10000 := rfl
  have hlt := lost_or (P := P) (T := T) (V := V) (D := D) (l := l) 101 i
  unfold DX9_howOf howS
  rw [p_g (by omega) (by decide), p_tn (by omega), m1]
  by_cases ha : lostS P T V D l 101 i = 10000
  · rw [if_pos ha] at m2 ⊢
    rw [if_pos (by rw [ha]; decide), D9_isCaught_eq h9 hi h3.1 h1 h2 h3 d1 d2 (h11 i hi ho) m2 (h12 i) d3 d4 d5, bd1_eq]
    unfold ctB
    by_cases hc : caughtB NP NW NF NU nn (hplc P V K D i) (hday T V D i) = true
    · rw [if_pos hc, if_pos hc, if_neg (by decide)]; rfl
    · rw [if_neg hc, if_neg hc, if_pos rfl]; rfl
  · rw [if_neg ha, if_neg (by rw [e, p_le (by omega) (by omega)]; omega)]; rfl
theorem howS_le (i : Nat) : howS P T V K D l NP NW NF NU nn i ≤ 2 := by
  unfold howS
  split
  · split <;> omega
  · omega
theorem D9_paidOf_eq (h : Mend nets netAt netWide netFrom netTo priceX priceY many days kinds to home lost n D nn px py w P T V K NP NW NF NU l) {i : Nat} (hi : i < n) (ho : wout w i = false) :
    DX9_paidOf (nI i) nets netAt netWide netFrom netTo priceX priceY days kinds to home lost = some (nI (padS P T V K D l NP NW NF NU nn px py i)) := by
  have hh := D9_howOf_eq h hi ho
  obtain ⟨h1, h2, h3, h4, h5, h6, h7, h8, h9, h10, h11, h12, h13⟩ := h
  obtain ⟨d1, d2, d3, d4, d5⟩ := h10 i hi
  obtain ⟨m1, m2⟩ := (h13 i hi).1 ho
  have ez : (0 : Int32) = nI 0 := rfl
  have hday100 : hday T V D i ≤ 100 := by unfold hday; omega
  unfold DX9_paidOf
  rw [hh, bd1_eq]
  unfold howS padS
  by_cases ha : lostS P T V D l 101 i = 10000
  · rw [if_pos ha] at m2 ⊢
    rw [if_pos ha]
    by_cases hc : ctB P T V K D NP NW NF NU nn i = true
    · rw [if_pos hc, if_pos hc, if_pos (show nI 0 = 0 from rfl), p_g (by omega) (by decide), p_tn (by omega), m2, D9_priceOf_eq h4 h5 h6 h7 (by omega), bd1_eq]
    · rw [if_neg hc, if_neg hc, if_neg (by decide)]; rfl
  · rw [if_neg ha, if_neg ha, if_neg (by decide)]; rfl
theorem prc1_le (d : Nat) : prc1 px py d ≤ 50 := by
  unfold prc1
  have := Nat.mod_lt (px + py * d) (show 50 > 0 by decide)
  omega
theorem padS_le (i : Nat) : padS P T V K D l NP NW NF NU nn px py i ≤ 50 := by
  unfold padS
  split
  · split
    · exact prc1_le _
    · omega
  · omega
/-- how many of the first n, how much in all -/
def cntS (P T V K : Nat → Nat) (D : Nat) (l : List Nat) (NP NW NF NU : Nat → Nat) (nn n how : Nat) : Nat := (List.range n).countP (fun i => decide (howS P T V K D l NP NW NF NU nn i = how))
def sumS (P T V K : Nat → Nat) (D : Nat) (l : List Nat) (NP NW NF NU : Nat → Nat) (nn px py n : Nat) : Nat := ((List.range n).map (padS P T V K D l NP NW NF NU nn px py)).sum
theorem D9_howMany_eq (h : Mend nets netAt netWide netFrom netTo priceX priceY many days kinds to home lost n D nn px py 0 P T V K NP NW NF NU l) {how : Nat} (hh : how ≤ 2) :
    DX9_howMany (nI how) nets netAt netWide netFrom netTo many days kinds to home lost = some (nI (cntS P T V K D l NP NW NF NU nn n how)) := by
  have hm : many 0 = nI n := h.2.2.2.2.2.2.2.1
  have hn : n ≤ 7 := h.2.2.2.2.2.2.2.2.1
  have ez : (0 : Int32).toNatClampNeg = 0 := rfl
  have ho : ∀ i, wout 0 i = false := fun i => by unfold wout; exact Nat.zero_testBit i
  unfold DX9_howMany DX9_howMany_L4
  have h0 : ((0 : Int32), (0 : Int32)) = (fun k => (nI (cntS P T V K D l NP NW NF NU nn k how), nI k)) 0 := rfl
  rw [h0, it_for (fun k => (nI (cntS P T V K D l NP NW NF NU nn k how), nI k)) (r := nI (cntS P T V K D l NP NW NF NU nn n how)) n ?_ ?_ (by omega), bd1_eq]
  · intro k hk
    show DX9_howMany_L4s (nI how) nets netAt netWide netFrom netTo many days kinds to home lost (nI (cntS P T V K D l NP NW NF NU nn k how)) (nI k) = some (.inl (nI (cntS P T V K D l NP NW NF NU nn (k + 1) how), nI (k + 1)))
    unfold DX9_howMany_L4s
    have hk1 : nI k + (1 : Int32) = nI (k + 1) := p_add k 1
    have hle := howS_le (P := P) (T := T) (V := V) (K := K) (D := D) (l := l) (NP := NP) (NW := NW) (NF := NF) (NU := NU) (nn := nn) k
    have hc : cntS P T V K D l NP NW NF NU nn (k + 1) how = cntS P T V K D l NP NW NF NU nn k how + (if howS P T V K D l NP NW NF NU nn k = how then 1 else 0) := by
      unfold cntS
      rw [List.range_succ, List.countP_append]
      simp
    rw [ez, hm, if_neg (by rw [p_le (by omega) (by omega)]; omega), D9_howOf_eq h hk (ho k), bd1_eq, hk1, hc]
    by_cases he : howS P T V K D l NP NW NF NU nn k = how
    · rw [if_pos (by rw [he]), if_pos he]
      exact congrArg some (congrArg Sum.inl (Prod.ext (p_add _ 1) rfl))
    · rw [if_neg (by rw [p_eq (by omega) (by omega)]; exact he), if_neg he]
      exact congrArg some (congrArg Sum.inl (Prod.ext (p_add _ 0) rfl))
  · show DX9_howMany_L4s (nI how) nets netAt netWide netFrom netTo many days kinds to home lost (nI (cntS P T V K D l NP NW NF NU nn n how)) (nI n) = _
    unfold DX9_howMany_L4s
    rw [ez, hm, if_pos (by rw [p_le (by omega) (by omega)]; omega)]
theorem D9_paidAll_eq (h : Mend nets netAt netWide netFrom netTo priceX priceY many days kinds to home lost n D nn px py 0 P T V K NP NW NF NU l) :
    DX9_paidAll nets netAt netWide netFrom netTo priceX priceY many days kinds to home lost = some (nI (sumS P T V K D l NP NW NF NU nn px py n)) := by
  have hm : many 0 = nI n := h.2.2.2.2.2.2.2.1
  have hn : n ≤ 7 := h.2.2.2.2.2.2.2.2.1
  have ez : (0 : Int32).toNatClampNeg = 0 := rfl
  have ho : ∀ i, wout 0 i = false := fun i => by unfold wout; exact Nat.zero_testBit i
  unfold DX9_paidAll DX9_paidAll_L4
  have h0 : ((0 : Int32), (0 : Int32)) = (fun k => (nI (sumS P T V K D l NP NW NF NU nn px py k), nI k)) 0 := rfl
  rw [h0, it_for (fun k => (nI (sumS P T V K D l NP NW NF NU nn px py k), nI k)) (r := nI (sumS P T V K D l NP NW NF NU nn px py n)) n ?_ ?_ (by omega), bd1_eq]
  · intro k hk
    show DX9_paidAll_L4s nets netAt netWide netFrom netTo priceX priceY many days kinds to home lost (nI (sumS P T V K D l NP NW NF NU nn px py k)) (nI k) = some (.inl (nI (sumS P T V K D l NP NW NF NU nn px py (k + 1)), nI (k + 1)))
    unfold DX9_paidAll_L4s
    have hk1 : nI k + (1 : Int32) = nI (k + 1) := p_add k 1
    have hc : sumS P T V K D l NP NW NF NU nn px py (k + 1) = sumS P T V K D l NP NW NF NU nn px py k + padS P T V K D l NP NW NF NU nn px py k := by
      unfold sumS
      rw [List.range_succ, List.map_append, List.sum_append]
      simp
    rw [ez, hm, if_neg (by rw [p_le (by omega) (by omega)]; omega), D9_paidOf_eq h hk (ho k), bd1_eq, hk1, hc, p_add]
  · show DX9_paidAll_L4s nets netAt netWide netFrom netTo priceX priceY many days kinds to home lost (nI (sumS P T V K D l NP NW NF NU nn px py n)) (nI n) = _
    unfold DX9_paidAll_L4s
    rw [ez, hm, if_pos (by rw [p_le (by omega) (by omega)]; omega)]
end MC
