/-! PURE: a plan taken over; one number of it set anew -/
theorem takeT {lc tc : Nat → Int32} {n : Nat} (hn : n ≤ 7) : DX5_takeOver (7 : Int32) 28 28 tc lc (nI n) = some (va_cpy lc tc 0 0 28, nI n) := by
  unfold DX5_takeOver
  have e7 : (7 : Int32) = nI 7 := rfl
  rw [if_neg (by decide), if_neg (by decide), if_neg (by decide), if_neg (show ¬ (7 : Int32) < nI n by rw [e7, p_lt (by omega) (by omega)]; omega)]
  rfl
theorem takeN {lc tc : Nat → Int32} {n : Nat} (hn : n ≤ 5) : DX5_takeOver (5 : Int32) 20 20 tc lc (nI n) = some (va_cpy lc tc 0 0 20, nI n) := by
  unfold DX5_takeOver
  have e5 : (5 : Int32) = nI 5 := rfl
  rw [if_neg (by decide), if_neg (by decide), if_neg (by decide), if_neg (show ¬ (5 : Int32) < nI n by rw [e5, p_lt (by omega) (by omega)]; omega)]
  rfl
theorem cpy_at {f g : Nat → Int32} {n j : Nat} (h : j < n) : va_cpy f g 0 0 n j = f j := by
  unfold va_cpy
  rw [if_pos ⟨Nat.zero_le _, by omega⟩]
  congr 1; omega
def setF (A : Nat → Nat) (i a : Nat) : Nat → Nat := fun j => if j = i then a else A j
theorem setF_at (A : Nat → Nat) (i a : Nat) : setF A i a i = a := if_pos rfl
theorem setF_ne (A : Nat → Nat) {i a j : Nat} (h : j ≠ i) : setF A i a j = A j := if_neg h
section TS
variable {g g' : Nat → Int32} {S D n px py nn i a : Nat} {T A V K NP NW NF NU : Nat → Nat}
theorem Thr_cpy {tc : Nat → Int32} (hn : n ≤ 7) (h : Thr g n T A V K) : Thr (va_cpy g tc 0 0 28) n T A V K := fun x hx => by
  rw [cpy_at (by omega), cpy_at (by omega), cpy_at (by omega), cpy_at (by omega)]; exact h x hx
theorem Net_cpy {tc : Nat → Int32} (hn : nn ≤ 5) (h : Net g nn NP NW NF NU) : Net (va_cpy g tc 0 0 20) nn NP NW NF NU := fun x hx => by
  rw [cpy_at (by omega), cpy_at (by omega), cpy_at (by omega), cpy_at (by omega)]; exact h x hx
theorem Thr_setA (hn : n ≤ 7) (hi : i < n) (h : Thr g n T A V K) (hk : ∀ j, j < 28 → j ≠ i * 4 + 1 → g' j = g j) (ha : g' (i * 4 + 1) = nI a) : Thr g' n T (setF A i a) V K := fun x hx => by
  obtain ⟨h0, h1, h2, h3⟩ := h x hx
  rw [hk _ (by omega) (by omega), hk (x * 4 + 2) (by omega) (by omega), hk (x * 4 + 3) (by omega) (by omega)]
  refine ⟨h0, ?_, h2, h3⟩
  by_cases e : x = i
  · rw [e, setF_at]; exact ha
  · rw [setF_ne _ e, hk _ (by omega) (by omega)]; exact h1
theorem Thr_setT (hn : n ≤ 7) (hi : i < n) (h : Thr g n T A V K) (hk : ∀ j, j < 28 → j ≠ i * 4 + 0 → g' j = g j) (ha : g' (i * 4 + 0) = nI a) : Thr g' n (setF T i a) A V K := fun x hx => by
  obtain ⟨h0, h1, h2, h3⟩ := h x hx
  rw [hk (x * 4 + 1) (by omega) (by omega), hk (x * 4 + 2) (by omega) (by omega), hk (x * 4 + 3) (by omega) (by omega)]
  refine ⟨?_, h1, h2, h3⟩
  by_cases e : x = i
  · rw [e, setF_at]; exact ha
  · rw [setF_ne _ e, hk _ (by omega) (by omega)]; exact h0
theorem Thr_setV (hn : n ≤ 7) (hi : i < n) (h : Thr g n T A V K) (hk : ∀ j, j < 28 → j ≠ i * 4 + 2 → g' j = g j) (ha : g' (i * 4 + 2) = nI a) : Thr g' n T A (setF V i a) K := fun x hx => by
  obtain ⟨h0, h1, h2, h3⟩ := h x hx
  rw [hk (x * 4 + 0) (by omega) (by omega), hk (x * 4 + 1) (by omega) (by omega), hk (x * 4 + 3) (by omega) (by omega)]
  refine ⟨h0, h1, ?_, h3⟩
  by_cases e : x = i
  · rw [e, setF_at]; exact ha
  · rw [setF_ne _ e, hk _ (by omega) (by omega)]; exact h2
variable {days aims speeds kinds f' : Nat → Int32}
theorem Mth_setA (h : Mth days aims speeds kinds n T A V K) (hk : ∀ j, j ≠ i → f' j = aims j) (ha : f' i = nI a) : Mth days f' speeds kinds n T (setF A i a) V K := fun x hx => by
  obtain ⟨h0, h1, h2, h3⟩ := h x hx
  refine ⟨h0, ?_, h2, h3⟩
  by_cases e : x = i
  · rw [e, setF_at]; exact ha
  · rw [setF_ne _ e, hk _ e]; exact h1
theorem Mth_setT (h : Mth days aims speeds kinds n T A V K) (hk : ∀ j, j ≠ i → f' j = days j) (ha : f' i = nI a) : Mth f' aims speeds kinds n (setF T i a) A V K := fun x hx => by
  obtain ⟨h0, h1, h2, h3⟩ := h x hx
  refine ⟨?_, h1, h2, h3⟩
  by_cases e : x = i
  · rw [e, setF_at]; exact ha
  · rw [setF_ne _ e, hk _ e]; exact h0
theorem Mth_setV (h : Mth days aims speeds kinds n T A V K) (hk : ∀ j, j ≠ i → f' j = speeds j) (ha : f' i = nI a) : Mth days aims f' kinds n T A (setF V i a) K := fun x hx => by
  obtain ⟨h0, h1, h2, h3⟩ := h x hx
  refine ⟨h0, h1, ?_, h3⟩
  by_cases e : x = i
  · rw [e, setF_at]; exact ha
  · rw [setF_ne _ e, hk _ e]; exact h2
theorem Pok_setA (h : Pok S D n px py nn T A V K NP NW NF NU) (ha : a < 24) : Pok S D n px py nn T (setF A i a) V K NP NW NF NU := by
  obtain ⟨h1, h2, h3, h4, h5, h6, h7, h8, h9⟩ := h
  refine ⟨h1, h2, h3, h4, h5, h6, h7, fun x hx => ?_, h9⟩
  obtain ⟨r1, r2, r3, r4, r5⟩ := h8 x hx
  refine ⟨r1, ?_, r3, r4, r5⟩
  unfold setF; split <;> assumption
theorem Pok_setT (h : Pok S D n px py nn T A V K NP NW NF NU) (ha : a ≤ 40) : Pok S D n px py nn (setF T i a) A V K NP NW NF NU := by
  obtain ⟨h1, h2, h3, h4, h5, h6, h7, h8, h9⟩ := h
  refine ⟨h1, h2, h3, h4, h5, h6, h7, fun x hx => ?_, h9⟩
  obtain ⟨r1, r2, r3, r4, r5⟩ := h8 x hx
  refine ⟨?_, r2, r3, r4, r5⟩
  unfold setF; split <;> assumption
theorem Pok_setV (h : Pok S D n px py nn T A V K NP NW NF NU) (ha : 1 ≤ a ∧ a ≤ 6) : Pok S D n px py nn T A (setF V i a) K NP NW NF NU := by
  obtain ⟨h1, h2, h3, h4, h5, h6, h7, h8, h9⟩ := h
  refine ⟨h1, h2, h3, h4, h5, h6, h7, fun x hx => ?_, h9⟩
  obtain ⟨r1, r2, r3, r4, r5⟩ := h8 x hx
  refine ⟨r1, r2, ?_, ?_, r5⟩
  · unfold setF; split
    · exact ha.1
    · assumption
  · unfold setF; split
    · exact ha.2
    · assumption
end TS
/-! all throws done: what each side counts -/
def CT (S D n nn : Nat) (T A V K NP NW NF NU : Nat → Nat) (how : Nat) : Nat := cntS (toP A V K (ordL T (wout 0) n) S) T V K D (ordL T (wout 0) n) NP NW NF NU nn n how
def SM (S D n px py nn : Nat) (T A V K NP NW NF NU : Nat → Nat) : Nat := sumS (toP A V K (ordL T (wout 0) n) S) T V K D (ordL T (wout 0) n) NP NW NF NU nn px py n
def PA (S D n px py nn : Nat) (T A V K NP NW NF NU : Nat → Nat) (i : Nat) : Nat := padS (toP A V K (ordL T (wout 0) n) S) T V K D (ordL T (wout 0) n) NP NW NF NU nn px py i
section FG0
variable {S D n px py nn : Nat} {T A V K NP NW NF NU : Nat → Nat}
theorem CT_le (how : Nat) : CT S D n nn T A V K NP NW NF NU how ≤ n := by
  unfold CT cntS
  have := List.countP_le_length (p := fun i => decide (howS (toP A V K (ordL T (wout 0) n) S) T V K D (ordL T (wout 0) n) NP NW NF NU nn i = how)) (l := List.range n)
  rw [List.length_range] at this
  exact this
theorem PA_le (i : Nat) : PA S D n px py nn T A V K NP NW NF NU i ≤ 50 := padS_le i
theorem fly_0 {ls lh lp lq lf nf : Int32} {lc nc f order : Nat → Int32} (hp : Pok S D n px py nn T A V K NP NW NF NU) (hx : PX S D n px py nn T A V K NP NW NF NU ls lh lp lq lc lf nc nf) :
    ∃ f' order' dn, DX1_fly (0 : Int32) f order ls lh lp lq lc lf nc nf = some (f', order', dn, nI S, nI (run V K (ordL T (wout 0) n) S)) ∧
      (∀ how, how ≤ 2 → DX1_howMany (nI how) f' order' dn = some (nI (CT S D n nn T A V K NP NW NF NU how))) ∧
      DX1_paidInAll f' order' dn = some (nI (SM S D n px py nn T A V K NP NW NF NU)) ∧ (∀ i, i < n → f' (i * 10 + 8) = nI (PA S D n px py nn T A V K NP NW NF NU i)) := by
  have hn7 := hp.2.2.2.1
  have hTT := hp.2.2.2.2.2.2.2.1
  obtain ⟨f', o', f1, f2, f3, f4⟩ := fly_w (f := f) (order := order) (w := 0) hp hx (by decide)
  have hl : ∀ i ∈ ordL T (wout 0) n, i < n := fun i hi => (mem_ordM.mp hi).1
  have hlen : (ordL T (wout 0) n).length ≤ 7 := Nat.le_trans (ordM_len T (wout 0) n 41) hn7
  have hperm := ordL_perm (T := T) (n := n) (fun i hi => (hTT i hi).1)
  refine ⟨f', o', _, f1, fun how hh => ?_, ?_, fun i hi => (f4 i (in_ordL hp hi (wout0 i))).2.2.1⟩
  · rw [D1_howMany_eq hn7 hl hlen f2 (c := howS (toP A V K (ordL T (wout 0) n) S) T V K D (ordL T (wout 0) n) NP NW NF NU nn) (fun i hi => (f4 i hi).1) (fun i => howS_le i) hh]
    refine congrArg some (congrArg nI ?_)
    unfold CT cntS
    exact hperm.countP_eq _
  · rw [D1_paidInAll_eq hn7 hl hlen f2 (c := padS (toP A V K (ordL T (wout 0) n) S) T V K D (ordL T (wout 0) n) NP NW NF NU nn px py) (fun i hi => (f4 i hi).2.2.1)]
    refine congrArg some (congrArg nI ?_)
    unfold SM sumS
    exact List.Perm.sum_nat (hperm.map _)
theorem go_0 {ms mf mn na nw ng nt mx my mm days aims speeds kinds to stood home lost : Nat → Int32} (hp : Pok S D n px py nn T A V K NP NW NF NU) (hm : PM S D n px py nn T A V K NP NW NF NU ms mf mn na nw ng nt mx my mm days aims speeds kinds) :
    ∃ to' stood' home' lost', DX9_go (0 : Int32) ms mf mm days aims speeds kinds to stood home lost = some (to', stood', home', lost', 0) ∧
      (∀ how, how ≤ 2 → DX9_howMany (nI how) mn na nw ng nt mm days kinds to' home' lost' = some (nI (CT S D n nn T A V K NP NW NF NU how))) ∧
      DX9_paidAll mn na nw ng nt mx my mm days kinds to' home' lost' = some (nI (SM S D n px py nn T A V K NP NW NF NU)) ∧ (∀ i, i < n → DX9_paidOf (nI i) mn na nw ng nt mx my days kinds to' home' lost' = some (nI (PA S D n px py nn T A V K NP NW NF NU i))) := by
  obtain ⟨to', st', ho', lo', g1, g2, g3⟩ := go_w (to := to) (stood := stood) (home := home) (lost := lost) (w := 0) hp hm (by decide)
  exact ⟨to', st', ho', lo', g1, fun how hh => D9_howMany_eq g3 hh, D9_paidAll_eq g3, fun i hi => D9_paidOf_eq g3 hi (wout0 i)⟩
end FG0
