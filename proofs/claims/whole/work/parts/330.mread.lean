/-! PURE: the reference's readings of what go has worked out -/
def Mnet (netAt netWide netFrom netTo : Nat → Int32) (nn : Nat) (NP NW NF NU : Nat → Nat) : Prop := ∀ k, k < nn → netAt k = nI (NP k) ∧ netWide k = nI (NW k) ∧ netFrom k = nI (NF k) ∧ netTo k = nI (NU k)
theorem D9_placeOf_eq {days kinds to home : Nat → Int32} {n i D : Nat} {P T V K : Nat → Nat} (hn : n ≤ 7) (hi : i < n) (h0 : days i = nI (T i)) (h1 : kinds i = nI (K i)) (h2 : to i = nI (P i)) (h3 : home i = nI (hday T V D i)) (hP : P i < 24) (hT : T i ≤ 40) (hK : K i ≤ 3) (hd : dys V D i ≤ 60) :
    DX9_placeOf (nI i) days kinds to home = some (nI (hplc P V K D i)) := by
  unfold DX9_placeOf
  have e3 : (3 : Int32) = nI 3 := rfl
  have e4 : (4 : Int32) = nI 4 := rfl
  have e0 : (0 : Int32) = nI 0 := rfl
  rw [p_g (by omega) (by decide), p_g (by omega) (by decide), p_tn (by omega), h1]
  by_cases hk : K i = 3
  · have hs : nI (hday T V D i) - nI (T i) = nI (dys V D i) := by
      rw [p_sub (by unfold hday; omega)]; unfold hday; rw [Nat.add_sub_cancel_left]
    rw [if_pos (by rw [hk]; rfl), p_h (by omega) (by omega), p_h (by omega) (by omega), h2, h3, h0, hs, e4, p_div (by omega) (by decide) (by decide), p_add, around_nat _ (by omega), bd1_eq]
    unfold hplc; rw [if_pos hk]
  · rw [if_neg (by rw [e3, p_eq (by omega) (by omega)]; exact hk), h2, e0, p_add, around_nat _ (by omega), bd1_eq]
    unfold hplc; rw [if_neg hk]
theorem D9_isCaught_eq {nets netAt netWide netFrom netTo days kinds to home : Nat → Int32} {n nn i D : Nat} {P T V K NP NW NF NU : Nat → Nat} (hn : n ≤ 7) (hi : i < n) (hnn : nn ≤ 6) (hn0 : nets 0 = nI nn) (hm : Mnet netAt netWide netFrom netTo nn NP NW NF NU) (hok : Nok nn NP NW NF NU)
    (h0 : days i = nI (T i)) (h1 : kinds i = nI (K i)) (h2 : to i = nI (P i)) (h3 : home i = nI (hday T V D i)) (hP : P i < 24) (hT : T i ≤ 40) (hK : K i ≤ 3) (hd : dys V D i ≤ 60) :
    DX9_isCaught (nI i) nets netAt netWide netFrom netTo days kinds to home = some (if caughtB NP NW NF NU nn (hplc P V K D i) (hday T V D i) = true then 1 else 0) := by
  have ez : (0 : Int32).toNatClampNeg = 0 := rfl
  have hh : hday T V D i ≤ 100 := by unfold hday; omega
  have hp24 : hplc P V K D i < 24 := Nat.mod_lt _ (by decide)
  have key := it_for2 (S := Int32 × Int32) (R := Int32) (f := fun st => DX9_isCaught_L4s (nI i) nets netAt netWide netFrom netTo days kinds to home (st.1) (st.2))
    (fun k st => st.1 = (if caughtB NP NW NF NU k (hplc P V K D i) (hday T V D i) = true then 1 else 0) ∧ st.2 = nI k) (fun r => r = (if caughtB NP NW NF NU nn (hplc P V K D i) (hday T V D i) = true then 1 else 0)) nn (s0 := ((0 : Int32), (0 : Int32))) ⟨rfl, rfl⟩ ?_ ?_ (by omega)
  · obtain ⟨r, q1, q2⟩ := key
    unfold DX9_isCaught DX9_isCaught_L4
    rw [q1, bd1_eq, q2, if_neg]
    intro h
    apply h
    by_cases hc : caughtB NP NW NF NU nn (hplc P V K D i) (hday T V D i) = true
    · rw [if_pos hc]; exact Or.inr rfl
    · rw [if_neg hc]; exact Or.inl rfl
  · rintro k ⟨x2, x3⟩ hk ⟨e1, e2⟩
    simp only at e1 e2
    subst e2
    left
    show ∃ s', DX9_isCaught_L4s (nI i) nets netAt netWide netFrom netTo days kinds to home x2 (nI k) = some (.inl s') ∧ _
    unfold DX9_isCaught_L4s
    obtain ⟨m0, m1, m2, m3⟩ := hm k hk
    obtain ⟨o1, o2, o3, o4⟩ := hok.2 k hk
    have hk1 : nI k + (1 : Int32) = nI (k + 1) := p_add k 1
    have hs := caughtB_succ NP NW NF NU k (hplc P V K D i) (hday T V D i)
    rw [ez, hn0, if_neg (by rw [p_le (by omega) (by omega)]; omega), hk1]
    by_cases hc : caughtB NP NW NF NU k (hplc P V K D i) (hday T V D i) = true
    · rw [if_pos hc] at e1
      rw [hc, Bool.true_or] at hs
      subst e1
      rw [if_neg (by decide)]
      exact ⟨_, rfl, by simp only; rw [if_pos hs], rfl⟩
    · rw [if_neg hc] at e1
      have hc' : caughtB NP NW NF NU k (hplc P V K D i) (hday T V D i) = false := by simpa using hc
      rw [hc', Bool.false_or] at hs
      subst e1
      rw [if_pos rfl, p_g (by omega) (by decide), p_g (by omega) (by decide), p_g (by omega) (by decide), p_tn (by omega), p_tn (by omega), h3, m2, m3, D9_in_wide rfl rfl, bd1_eq]
      by_cases c1 : nI (NF k) ≤ nI (hday T V D i) ∧ nI (hday T V D i) ≤ nI (NU k)
      · have c1' : NF k ≤ hday T V D i ∧ hday T V D i ≤ NU k := by rw [p_le (by omega) (by omega), p_le (by omega) (by omega)] at c1; exact c1
        rw [if_pos c1, if_neg (by decide), D9_placeOf_eq hn hi h0 h1 h2 h3 hP hT hK hd, bd1_eq, p_h (by omega) (by omega), m0, apart_m _ hp24 _ o1, bd1_eq, p_h (by omega) (by omega), m1]
        have hap := ap_lt (hplc P V K D i) (NP k)
        by_cases c2 : NW k < ap (hplc P V K D i) (NP k)
        · rw [if_pos (by rw [p_lt (by omega) (by omega)]; exact c2)]
          refine ⟨_, rfl, ?_, rfl⟩
          simp only
          rw [hs, decide_eq_false (p := ap (hplc P V K D i) (NP k) ≤ NW k) (by omega)]
          simp
        · rw [if_neg (by rw [p_lt (by omega) (by omega)]; exact c2)]
          refine ⟨_, rfl, ?_, rfl⟩
          simp only
          rw [hs, decide_eq_true c1'.1, decide_eq_true c1'.2, decide_eq_true (p := ap (hplc P V K D i) (NP k) ≤ NW k) (by omega)]
          rfl
      · have c1' : ¬ (NF k ≤ hday T V D i ∧ hday T V D i ≤ NU k) := by rw [p_le (by omega) (by omega), p_le (by omega) (by omega)] at c1; exact c1
        rw [if_neg c1, if_pos rfl]
        refine ⟨_, rfl, ?_, rfl⟩
        simp only
        rw [hs, if_neg]
        intro h
        simp only [Bool.and_eq_true, decide_eq_true_eq] at h
        exact c1' h.1
  · rintro ⟨x2, x3⟩ ⟨e1, e2⟩
    simp only at e1 e2
    subst e2
    show ∃ r, DX9_isCaught_L4s (nI i) nets netAt netWide netFrom netTo days kinds to home x2 (nI nn) = some (.inr r) ∧ _
    unfold DX9_isCaught_L4s
    rw [ez, hn0, if_pos (by rw [p_le (by omega) (by omega)]; omega)]
    exact ⟨_, rfl, e1⟩
theorem D9_priceOf_eq {priceX priceY : Nat → Int32} {px py d : Nat} (h1 : priceX 0 = nI px) (h2 : priceY 0 = nI py) (hx : px < 50) (hy : py < 50) (hd : d < 1000) : DX9_priceOf (nI d) priceX priceY = some (nI (prc1 px py d)) := by
  unfold DX9_priceOf prc1
  have ez : (0 : Int32).toNatClampNeg = 0 := rfl
  have hm : py * d ≤ 50 * 1000 := Nat.mul_le_mul (by omega) (by omega)
  have e : (50 : Int32) = nI 50 := rfl
  rw [ez, h1, h2, p_mul, p_add, e, p_rem (by omega) (by decide) (by decide)]
  exact congrArg some (p_add _ 1)
