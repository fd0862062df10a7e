/-! PURE: reading numbers out of the text -/
def Tx (B : Nat → Nat) (L : Nat) (tb mt : Nat → Int32) : Prop := L ≤ 300 ∧ ∀ j, j < L → B j < 256 ∧ tb j = nI (B j) ∧ mt j = nI (B j)
def figB (B : Nat → Nat) (L j : Nat) : Bool := decide (j < L) && decide (48 ≤ B j) && decide (B j ≤ 57)
def numB (B : Nat → Nat) (L j : Nat) : Option (Nat × Nat) := if figB B L j = true then (if figB B L (j + 1) = true then some (10 * (B j - 48) + (B (j + 1) - 48), j + 2) else some (B j - 48, j + 1)) else none
def numT (B : Nat → Nat) (L j e : Nat) : Option (Nat × Nat) := match numB B L j with
  | none => none
  | some (v, k) => if k < L ∧ B k = e then some (v, k + 1) else none
section TX
variable {B : Nat → Nat} {L : Nat} {tb mt : Nat → Int32}
theorem figB_iff {j : Nat} : figB B L j = true ↔ j < L ∧ 48 ≤ B j ∧ B j ≤ 57 := by
  unfold figB
  simp only [Bool.and_eq_true, decide_eq_true_eq]
  exact ⟨fun h => ⟨h.1.1, h.1.2, h.2⟩, fun h => ⟨⟨h.1, h.2.1⟩, h.2.2⟩⟩
theorem numT_ok {j e v k : Nat} (h : numT B L j e = some (v, k)) : v ≤ 99 ∧ j + 2 ≤ k ∧ k ≤ L := by
  unfold numT numB at h
  by_cases h1 : figB B L j = true
  · rw [if_pos h1] at h
    have q1 := figB_iff.mp h1
    by_cases h2 : figB B L (j + 1) = true
    · rw [if_pos h2] at h
      have q2 := figB_iff.mp h2
      simp only at h
      by_cases h3 : j + 2 < L ∧ B (j + 2) = e
      · rw [if_pos h3] at h; cases h; omega
      · rw [if_neg h3] at h; cases h
    · rw [if_neg h2] at h
      simp only at h
      by_cases h3 : j + 1 < L ∧ B (j + 1) = e
      · rw [if_pos h3] at h; cases h; omega
      · rw [if_neg h3] at h; cases h
  · rw [if_neg h1] at h
    cases h
theorem D6_signAt_eq (hT : Tx B L tb mt) {j : Nat} (hj : j < 1000) : DX6_signAt (nI j) tb (nI L) = some (if j < L then nI (B j) else -1) := by
  have hL := hT.1
  unfold DX6_signAt
  rw [if_neg (p_neg (by omega))]
  by_cases h : j < L
  · rw [if_neg (by rw [p_le (by omega) (by omega)]; omega), D8_at_eq (by omega) (by decide), bd1_eq, (hT.2 j h).2.1, if_pos h]
  · rw [if_pos (by rw [p_le (by omega) (by omega)]; omega), if_neg h]
theorem D9_byteAt_eq (hT : Tx B L tb mt) {j : Nat} (hj : j < 1000) : DX9_byteAt (nI j) (nI L) mt = some (if j < L then nI (B j) else 0) := by
  have hL := hT.1
  unfold DX9_byteAt
  by_cases h : j < L
  · rw [if_neg (by rw [p_le (by omega) (by omega)]; omega), p_g (by omega) (by decide), p_tn (by omega), (hT.2 j h).2.2, if_pos h]
  · rw [if_pos (by rw [p_le (by omega) (by omega)]; omega), if_neg h]
theorem D4_isFigure_eq (hT : Tx B L tb mt) (j : Nat) : DX4_isFigure (if j < L then nI (B j) else -1) = some (if figB B L j = true then 1 else 0) := by
  unfold DX4_isFigure
  have e48 : (48 : Int32) = nI 48 := rfl
  have e57 : (57 : Int32) = nI 57 := rfl
  by_cases h : j < L
  · have hb := (hT.2 j h).1
    rw [if_pos h, e48, e57]
    by_cases h1 : B j < 48
    · rw [if_pos (by rw [p_lt (by omega) (by omega)]; exact h1), if_neg (fun q => by have := figB_iff.mp q; omega)]
    · rw [if_neg (by rw [p_lt (by omega) (by omega)]; exact h1)]
      by_cases h2 : 57 < B j
      · rw [if_pos (by rw [p_lt (by omega) (by omega)]; exact h2), if_neg (fun q => by have := figB_iff.mp q; omega)]
      · rw [if_neg (by rw [p_lt (by omega) (by omega)]; exact h2), if_pos (figB_iff.mpr ⟨h, by omega, by omega⟩)]
  · rw [if_neg h, if_pos (by decide), if_neg (fun q => h (figB_iff.mp q).1)]
theorem D9_isFig_eq (hT : Tx B L tb mt) (j : Nat) : DX9_in ((if j < L then nI (B j) else 0 : Int32).toInt64) (48 : Int64) (57 : Int64) = some (if figB B L j = true then 1 else 0) := by
  by_cases h : j < L
  · have hb := (hT.2 j h).1
    have hin := in_nI (x := nI (B j)) (lo := 48) (hi := 57) (l := 48) (h := 57) 48 57 rfl rfl rfl rfl (by decide) (by decide) (i := B j) (by omega) rfl
    rw [if_pos h, hin]
    by_cases h1 : 48 ≤ B j ∧ B j ≤ 57
    · rw [if_pos h1, if_pos (figB_iff.mpr ⟨h, h1⟩)]
    · rw [if_neg h1, if_neg (fun q => h1 (figB_iff.mp q).2)]
  · rw [if_neg h, if_neg (fun q => h (figB_iff.mp q).1)]
    have := in_nI (x := 0) (lo := 48) (hi := 57) (l := 48) (h := 57) 48 57 rfl rfl rfl rfl (by decide) (by decide) (i := 0) (by decide) rfl
    rw [this, if_neg (by decide)]
theorem sg_eq (hT : Tx B L tb mt) {k e : Nat} (he : e < 256) : (if k < L then nI (B k) else (-1 : Int32)) = nI e ↔ k < L ∧ B k = e := by
  by_cases h : k < L
  · have hb := (hT.2 k h).1
    rw [if_pos h, p_eq (by omega) (by omega)]
    exact ⟨fun q => ⟨h, q⟩, fun q => q.2⟩
  · rw [if_neg h]
    constructor
    · intro q
      have h2 := congrArg Int32.toInt q
      rw [p_ti (by omega)] at h2
      have em : (-1 : Int32).toInt = -1 := rfl
      omega
    · intro q; exact absurd q.1 h
theorem by_eq (hT : Tx B L tb mt) {k e : Nat} (he : e < 256) (h0 : 0 < e) : (if k < L then nI (B k) else (0 : Int32)) = nI e ↔ k < L ∧ B k = e := by
  by_cases h : k < L
  · have hb := (hT.2 k h).1
    rw [if_pos h, p_eq (by omega) (by omega)]
    exact ⟨fun q => ⟨h, q⟩, fun q => q.2⟩
  · have e0 : (0 : Int32) = nI 0 := rfl
    rw [if_neg h, e0, p_eq (by omega) (by omega)]
    constructor
    · intro q; omega
    · intro q; exact absurd q.1 h
theorem D4_readNumber_eq (hT : Tx B L tb mt) {nu : Nat → Int32} {j k : Nat} (hj : j < 900) (hk : k < 4) :
    DX4_readNumber (nI k) nu (nI j) tb (nI L) = (match numB B L j with | none => some (0, nu, nI j) | some (v, j') => some (1, upd nu k (nI v), nI j')) := by
  have e1 : nI j + (1 : Int32) = nI (j + 1) := p_add j 1
  have e2 : nI (j + 1) + (1 : Int32) = nI (j + 2) := p_add (j + 1) 1
  unfold DX4_readNumber numB
  rw [D6_signAt_eq hT (by omega), bd1_eq, D4_isFigure_eq hT, bd1_eq]
  by_cases h1 : figB B L j = true
  · have q1 := figB_iff.mp h1
    have hb := (hT.2 j q1.1).1
    have e48 : nI (B j) - (48 : Int32) = nI (B j - 48) := p_sub (a := B j) (b := 48) q1.2.1
    rw [if_pos h1, if_pos h1, if_neg (by decide), bd1_eq, e1, D6_signAt_eq hT (by omega), bd1_eq, D4_isFigure_eq hT, bd1_eq, if_pos q1.1, e48]
    by_cases h2 : figB B L (j + 1) = true
    · have q2 := figB_iff.mp h2
      have hb2 := (hT.2 (j + 1) q2.1).1
      have e3 : (10 : Int32) * nI (B j - 48) = nI (10 * (B j - 48)) := p_mul 10 _
      have e4 : nI (10 * (B j - 48) + B (j + 1)) - (48 : Int32) = nI (10 * (B j - 48) + (B (j + 1) - 48)) := by
        have := p_sub (a := 10 * (B j - 48) + B (j + 1)) (b := 48) (by omega)
        rw [show 10 * (B j - 48) + B (j + 1) - 48 = 10 * (B j - 48) + (B (j + 1) - 48) by omega] at this
        exact this
      rw [if_pos h2, if_pos h2, if_neg (by decide), bd1_eq, if_pos q2.1, e3, p_add, e4, D8_put_eq hk (by decide), bd1_eq, e2]
    · rw [if_neg h2, if_neg h2, if_pos rfl, D8_put_eq hk (by decide), bd1_eq]
  · rw [if_neg h1, if_neg h1, if_pos rfl]
theorem D9_figs_eq (hT : Tx B L tb mt) {j : Nat} (hj : j < 900) :
    ∃ f v j', DX9_figures_L12 (nI L) mt FU (0 : Int32) (0 : Int32) (nI j) = some (nI f, nI v, nI j') ∧ f ≤ 3 ∧ j' < 990 ∧ ((numB B L j = none ∧ f = 0) ∨ (numB B L j = some (v, j') ∧ 1 ≤ f ∧ f ≤ 2) ∨ (f = 3 ∧ ∃ v0, numB B L j = some (v0, j + 2) ∧ figB B L (j + 2) = true)) := by
  have step : ∀ f v j, j < 950 → figB B L j = true → f < 3 → DX9_figures_L12s (nI L) mt (nI f) (nI v) (nI j) = some (.inl (nI (f + 1), nI (10 * v + (B j - 48)), nI (j + 1))) := by
    intro f v j hj hf hf3
    have q := figB_iff.mp hf
    have hb := (hT.2 j q.1).1
    have e1 : nI j + (1 : Int32) = nI (j + 1) := p_add j 1
    have e2 : nI f + (1 : Int32) = nI (f + 1) := p_add f 1
    have e3 : (10 : Int32) * nI v = nI (10 * v) := p_mul 10 _
    have e33 : (3 : Int32) = nI 3 := rfl
    have e4 : nI (10 * v + B j) - (48 : Int32) = nI (10 * v + (B j - 48)) := by
      have := p_sub (a := 10 * v + B j) (b := 48) (by omega)
      rw [show 10 * v + B j - 48 = 10 * v + (B j - 48) by omega] at this
      exact this
    unfold DX9_figures_L12s
    rw [D9_byteAt_eq hT (by omega), bd1_eq, D9_isFig_eq hT, bd1_eq, if_pos hf, if_neg (by decide), e33, if_neg (by rw [p_le (by omega) (by omega)]; omega), bd1_eq, if_pos q.1, e3, p_add, e4, e1, e2]
  have stop : ∀ f v j, j < 950 → figB B L j = false → DX9_figures_L12s (nI L) mt (nI f) (nI v) (nI j) = some (.inr (nI f, nI v, nI j)) := by
    intro f v j hj hf
    unfold DX9_figures_L12s
    rw [D9_byteAt_eq hT (by omega), bd1_eq, D9_isFig_eq hT, bd1_eq, hf, if_pos (show (if false = true then (1 : Int32) else 0) = 0 from rfl)]
  have full : ∀ v j, j < 950 → DX9_figures_L12s (nI L) mt (nI 3) (nI v) (nI j) = some (.inr (nI 3, nI v, nI j)) := by
    intro v j hj
    unfold DX9_figures_L12s
    rw [D9_byteAt_eq hT (by omega), bd1_eq, D9_isFig_eq hT, bd1_eq]
    by_cases h : figB B L j = true
    · rw [if_pos h, if_neg (by decide), if_pos (by decide)]
    · rw [if_neg h, if_pos rfl]
  have go : ∀ (m : Nat) (f v j : Nat) (r : Int32 × Int32 × Int32), DX9_figures_L12s (nI L) mt (nI f) (nI v) (nI j) = some (.inr r) → it (fun st : Int32 × Int32 × Int32 => DX9_figures_L12s (nI L) mt (st.1) (st.2.1) (st.2.2)) (m + 1) (nI f, nI v, nI j) = some r := fun m f v j r h => it_done h
  have nx : ∀ (m : Nat) (f v j : Nat) (s : Int32 × Int32 × Int32), DX9_figures_L12s (nI L) mt (nI f) (nI v) (nI j) = some (.inl s) → it (fun st : Int32 × Int32 × Int32 => DX9_figures_L12s (nI L) mt (st.1) (st.2.1) (st.2.2)) (m + 1) (nI f, nI v, nI j) = it (fun st : Int32 × Int32 × Int32 => DX9_figures_L12s (nI L) mt (st.1) (st.2.1) (st.2.2)) m s := fun m f v j s h => it_next h
  unfold DX9_figures_L12
  show ∃ f v j', it (fun st : Int32 × Int32 × Int32 => DX9_figures_L12s (nI L) mt (st.1) (st.2.1) (st.2.2)) (2099 + 1) (nI 0, nI 0, nI j) = some (nI f, nI v, nI j') ∧ _
  unfold numB
  cases h1 : figB B L j
  · refine ⟨0, 0, j, go _ _ _ _ _ (stop 0 0 j (by omega) h1), by decide, by omega, Or.inl ⟨if_neg (by decide), rfl⟩⟩
  · rw [nx 2099 0 0 j _ (step 0 0 j (by omega) h1 (by decide))]
    show ∃ f v j', it (fun st : Int32 × Int32 × Int32 => DX9_figures_L12s (nI L) mt (st.1) (st.2.1) (st.2.2)) (2098 + 1) (nI 1, nI (10 * 0 + (B j - 48)), nI (j + 1)) = some (nI f, nI v, nI j') ∧ _
    cases h2 : figB B L (j + 1)
    · refine ⟨1, 10 * 0 + (B j - 48), j + 1, go _ _ _ _ _ (stop 1 _ (j + 1) (by omega) h2), by decide, by omega, Or.inr (Or.inl ⟨?_, by decide, by decide⟩)⟩
      rw [if_pos rfl, if_neg (by decide), Nat.mul_zero, Nat.zero_add]
    · rw [nx 2098 1 _ (j + 1) _ (step 1 _ (j + 1) (by omega) h2 (by decide))]
      show ∃ f v j', it (fun st : Int32 × Int32 × Int32 => DX9_figures_L12s (nI L) mt (st.1) (st.2.1) (st.2.2)) (2097 + 1) (nI 2, nI (10 * (10 * 0 + (B j - 48)) + (B (j + 1) - 48)), nI (j + 2)) = some (nI f, nI v, nI j') ∧ _
      cases h3 : figB B L (j + 2)
      · refine ⟨2, 10 * (10 * 0 + (B j - 48)) + (B (j + 1) - 48), j + 2, go _ _ _ _ _ (stop 2 _ (j + 2) (by omega) h3), by decide, by omega, Or.inr (Or.inl ⟨?_, by decide, by decide⟩)⟩
        rw [if_pos rfl, if_pos rfl, Nat.mul_zero, Nat.zero_add]
      · rw [nx 2097 2 _ (j + 2) _ (step 2 _ (j + 2) (by omega) h3 (by decide))]
        refine ⟨3, _, j + 3, go 2096 3 _ (j + 3) _ (full _ (j + 3) (by omega)), by decide, by omega, Or.inr (Or.inr ⟨rfl, 10 * (B j - 48) + (B (j + 1) - 48), ?_, rfl⟩)⟩
        rw [if_pos rfl, if_pos rfl]
end TX
