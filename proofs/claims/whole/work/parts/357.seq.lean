/-! PURE: the numbers of an item, one behind the other -/
def ndS (B : Nat → Nat) (L w j0 : Nat) : Nat → Option (Nat × (Nat → Nat))
  | 0 => some (j0, fun _ => 0)
  | k + 1 => match ndS B L w j0 k with
    | none => none
    | some (j, f) => match numT B L j (if k + 1 = w then 59 else 44) with
      | none => none
      | some (v, j') => some (j', setF f k v)
section ND
variable {B : Nat → Nat} {L : Nat} {tb mt : Nat → Int32}
theorem ndS_none {w j0 k : Nat} (h : ndS B L w j0 k = none) : ndS B L w j0 (k + 1) = none := by
  show (match ndS B L w j0 k with | none => none | some (j, f) => match numT B L j (if k + 1 = w then 59 else 44) with | none => none | some (v, j') => some (j', setF f k v)) = none
  rw [h]
theorem ndS_more {w j0 k : Nat} (h : ndS B L w j0 k = none) : ∀ d, ndS B L w j0 (k + d) = none
  | 0 => h
  | d + 1 => ndS_none (ndS_more h d)
theorem ndS_bad {w j0 k j : Nat} {f : Nat → Nat} (h : ndS B L w j0 k = some (j, f)) (hn : numT B L j (if k + 1 = w then 59 else 44) = none) : ndS B L w j0 (k + 1) = none := by
  show (match ndS B L w j0 k with | none => none | some (j, f) => match numT B L j (if k + 1 = w then 59 else 44) with | none => none | some (v, j') => some (j', setF f k v)) = none
  rw [h]
  show (match numT B L j (if k + 1 = w then 59 else 44) with | none => none | some (v, j') => some (j', setF f k v)) = none
  rw [hn]
theorem ndS_good {w j0 k j v j' : Nat} {f : Nat → Nat} (h : ndS B L w j0 k = some (j, f)) (hn : numT B L j (if k + 1 = w then 59 else 44) = some (v, j')) : ndS B L w j0 (k + 1) = some (j', setF f k v) := by
  show (match ndS B L w j0 k with | none => none | some (j, f) => match numT B L j (if k + 1 = w then 59 else 44) with | none => none | some (v, j') => some (j', setF f k v)) = some (j', setF f k v)
  rw [h]
  show (match numT B L j (if k + 1 = w then 59 else 44) with | none => none | some (v, j') => some (j', setF f k v)) = some (j', setF f k v)
  rw [hn]
theorem ndS_ok {w j0 : Nat} : ∀ {k j : Nat} {f : Nat → Nat}, ndS B L w j0 k = some (j, f) → j0 ≤ j ∧ (0 < k → j ≤ L) ∧ ∀ i, i < k → f i ≤ 99
  | 0, j, f, h => by
    have h : some (j0, fun _ => 0) = some (j, f) := h
    cases h
    exact ⟨Nat.le_refl _, fun q => absurd q (by omega), fun i q => absurd q (by omega)⟩
  | k + 1, j, f, h => by
    cases hk : ndS B L w j0 k with
    | none => rw [ndS_none hk] at h; cases h
    | some jf =>
      obtain ⟨j1, f1⟩ := jf
      cases hn : numT B L j1 (if k + 1 = w then 59 else 44) with
      | none => rw [ndS_bad hk hn] at h; cases h
      | some vj =>
        obtain ⟨v, j2⟩ := vj
        rw [ndS_good hk hn] at h
        cases h
        obtain ⟨q1, q2, q3⟩ := ndS_ok hk
        obtain ⟨r1, r2, r3⟩ := numT_ok hn
        refine ⟨by omega, fun _ => r3, fun i hi => ?_⟩
        by_cases e : i = k
        · rw [e, setF_at]; exact r1
        · rw [setF_ne _ e]; exact q3 i (by omega)
theorem ndS_lt {w j0 k j : Nat} {f : Nat → Nat} (h : ndS B L w j0 k = some (j, f)) (hL : L ≤ 300) (h0 : j0 ≤ 300) : j ≤ 300 := by
  rcases Nat.eq_zero_or_pos k with e | e
  · subst e
    have h : some (j0, fun _ => 0) = some (j, f) := h
    cases h; exact h0
  · have := (ndS_ok h).2.1 e; omega
theorem D4_numbers_eq (hT : Tx B L tb mt) {w j0 : Nat} {nu : Nat → Int32} {ls lh lp lq lf nf : Int32} {lc nc : Nat → Int32} (hw : w ≤ 4) (hj : j0 ≤ 300) :
    (ndS B L w j0 w = none ∧ ∃ nu' nx', DX4_readItem_L28 tb (nI L) ls lh lp lq lc lf nc nf (nI w) FU (0 : Int32) nu (nI j0) = some (.inr (0, nu', nx', ls, lh, lp, lq, lc, lf, nc, nf))) ∨
    (∃ j f nu', ndS B L w j0 w = some (j, f) ∧ DX4_readItem_L28 tb (nI L) ls lh lp lq lc lf nc nf (nI w) FU (0 : Int32) nu (nI j0) = some (.inl (nu', nI j)) ∧ ∀ i, i < w → nu' i = nI (f i)) := by
  have hL := hT.1
  have key := it_for2 (S := Int32 × (Nat → Int32) × Int32) (R := ((Nat → Int32) × Int32) ⊕ (Int32 × (Nat → Int32) × Int32 × Int32 × Int32 × Int32 × Int32 × (Nat → Int32) × Int32 × (Nat → Int32) × Int32))
    (f := fun st => DX4_readItem_L28s tb (nI L) ls lh lp lq lc lf nc nf (nI w) (st.1) (st.2.1) (st.2.2))
    (fun k st => st.1 = nI k ∧ ∃ j f, ndS B L w j0 k = some (j, f) ∧ st.2.2 = nI j ∧ ∀ i, i < k → st.2.1 i = nI (f i))
    (fun r => (ndS B L w j0 w = none ∧ ∃ nu' nx', r = .inr (0, nu', nx', ls, lh, lp, lq, lc, lf, nc, nf)) ∨ (∃ j f nu', ndS B L w j0 w = some (j, f) ∧ r = .inl (nu', nI j) ∧ ∀ i, i < w → nu' i = nI (f i))) w (s0 := ((0 : Int32), nu, nI j0)) ⟨rfl, j0, fun _ => 0, rfl, rfl, fun i h => absurd h (by omega)⟩ ?_ ?_ (by omega)
  · obtain ⟨r, q1, q2⟩ := key
    unfold DX4_readItem_L28
    rcases q2 with ⟨h1, nu', nx', h2⟩ | ⟨j, f, nu', h1, h2, h3⟩
    · left
      exact ⟨h1, nu', nx', by rw [q1, h2]⟩
    · right
      exact ⟨j, f, nu', h1, by rw [q1, h2], h3⟩
  · rintro k ⟨x5, n1, nx⟩ hk ⟨h1, j, f, h2, h3, h4⟩
    simp only at h1 h3 h4
    subst h1 h3
    show (∃ s', DX4_readItem_L28s tb (nI L) ls lh lp lq lc lf nc nf (nI w) (nI k) n1 (nI j) = some (.inl s') ∧ _) ∨ ∃ r, DX4_readItem_L28s tb (nI L) ls lh lp lq lc lf nc nf (nI w) (nI k) n1 (nI j) = some (.inr r) ∧ _
    have hjl := ndS_lt h2 hL hj
    have hk1 : nI k + (1 : Int32) = nI (k + 1) := p_add k 1
    have hw1 : nI w - (1 : Int32) = nI (w - 1) := p_sub (a := w) (b := 1) (by omega)
    have e59 : (59 : Int32) = nI 59 := rfl
    have e44 : (44 : Int32) = nI 44 := rfl
    have bad : ∀ r, ndS B L w j0 (k + 1) = none → (∃ nu' nx', r = (Sum.inr (0, nu', nx', ls, lh, lp, lq, lc, lf, nc, nf) : ((Nat → Int32) × Int32) ⊕ (Int32 × (Nat → Int32) × Int32 × Int32 × Int32 × Int32 × Int32 × (Nat → Int32) × Int32 × (Nat → Int32) × Int32))) → (ndS B L w j0 w = none ∧ ∃ nu' nx', r = .inr (0, nu', nx', ls, lh, lp, lq, lc, lf, nc, nf)) := by
      intro r hn hr
      have := ndS_more hn (w - (k + 1))
      rw [show k + 1 + (w - (k + 1)) = w by omega] at this
      exact ⟨this, hr⟩
    have main : ∀ e, e < 256 → (if k + 1 = w then 59 else 44) = e → (∃ s', DX4_readItem_J51 n1 (nI j) tb (nI L) ls lh lp lq lc lf nc nf (nI e) (nI k) = some (.inl s') ∧ s'.1 = nI (k + 1) ∧ ∃ j f, ndS B L w j0 (k + 1) = some (j, f) ∧ s'.2.2 = nI j ∧ ∀ i, i < k + 1 → s'.2.1 i = nI (f i)) ∨ ∃ r, DX4_readItem_J51 n1 (nI j) tb (nI L) ls lh lp lq lc lf nc nf (nI e) (nI k) = some (.inr r) ∧ ((ndS B L w j0 w = none ∧ ∃ nu' nx', r = .inr (0, nu', nx', ls, lh, lp, lq, lc, lf, nc, nf)) ∨ (∃ j f nu', ndS B L w j0 w = some (j, f) ∧ r = .inl (nu', nI j) ∧ ∀ i, i < w → nu' i = nI (f i))) := by
      intro e he hee
      unfold DX4_readItem_J51
      have hrn := D4_readNumber_eq hT (nu := n1) (j := j) (k := k) (by omega) (by omega)
      cases hnum : numB B L j with
      | none =>
        right
        rw [hnum] at hrn
        have hrn : DX4_readNumber (nI k) n1 (nI j) tb (nI L) = some (0, n1, nI j) := hrn
        rw [hrn, bd3_eq, if_pos rfl]
        refine ⟨_, rfl, Or.inl (bad _ (ndS_bad h2 ?_) ⟨_, _, rfl⟩)⟩
        unfold numT
        rw [hnum]
      | some vj =>
        obtain ⟨v, j'⟩ := vj
        have hj' : j' ≤ j + 2 := by
          unfold numB at hnum
          split at hnum
          · split at hnum
            · cases hnum; omega
            · cases hnum; omega
          · cases hnum
        have hj1 : nI j' + (1 : Int32) = nI (j' + 1) := p_add j' 1
        rw [hnum] at hrn
        have hrn : DX4_readNumber (nI k) n1 (nI j) tb (nI L) = some (1, upd n1 k (nI v), nI j') := hrn
        rw [hrn, bd3_eq, if_neg (by decide), D6_signAt_eq hT (by omega), bd1_eq]
        by_cases hc : j' < L ∧ B j' = e
        · left
          rw [if_pos ((sg_eq hT he).mpr hc), hk1, hj1]
          have hgood := ndS_good h2 (v := v) (j' := j' + 1) (by unfold numT; rw [hnum, hee]; exact if_pos hc)
          refine ⟨_, rfl, rfl, _, _, hgood, rfl, fun i hi => ?_⟩
          show upd n1 k (nI v) i = _
          by_cases ei : i = k
          · rw [ei, upd_same, setF_at]
          · rw [upd_ne _ _ ei, setF_ne _ ei]; exact h4 i (by omega)
        · right
          rw [if_neg (fun q => hc ((sg_eq hT he).mp q))]
          refine ⟨_, rfl, Or.inl (bad _ (ndS_bad h2 ?_) ⟨_, _, rfl⟩)⟩
          unfold numT
          rw [hnum, hee]
          exact if_neg hc
    unfold DX4_readItem_L28s
    rw [if_neg (by rw [p_le (by omega) (by omega)]; omega), hw1]
    by_cases hc : k = w - 1
    · rw [if_pos (by rw [hc]), e59]
      exact main 59 (by decide) (if_pos (by omega))
    · rw [if_neg (by rw [p_eq (by omega) (by omega)]; exact hc), e44]
      exact main 44 (by decide) (if_neg (by omega))
  · rintro ⟨x5, n1, nx⟩ ⟨h1, j, f, h2, h3, h4⟩
    simp only at h1 h3 h4
    subst h1 h3
    show ∃ r, DX4_readItem_L28s tb (nI L) ls lh lp lq lc lf nc nf (nI w) (nI w) n1 (nI j) = some (.inr r) ∧ _
    unfold DX4_readItem_L28s
    rw [if_pos (by rw [p_le (by omega) (by omega)]; omega)]
    exact ⟨_, rfl, Or.inr ⟨j, f, n1, h2, rfl, h4⟩⟩
theorem D9_figures_eq (hT : Tx B L tb mt) {w j0 : Nat} {td : Nat → Int32} (hw : w ≤ 4) (hj : j0 ≤ 300) :
    (ndS B L w j0 w = none ∧ ∃ sp' td', DX9_figures (nI w) (nI L) mt (nI j0) td = some (0, sp', td')) ∨
    (∃ j f td', ndS B L w j0 w = some (j, f) ∧ DX9_figures (nI w) (nI L) mt (nI j0) td = some (1, nI j, td') ∧ ∀ i, i < w → td' i = nI (f i)) := by
  have hL := hT.1
  have key := it_for2 (S := Int32 × Int32 × (Nat → Int32)) (R := (Int32 × (Nat → Int32)) ⊕ (Int32 × Int32 × (Nat → Int32)))
    (f := fun st => DX9_figures_L2s (nI w) (nI L) mt (st.1) (st.2.1) (st.2.2))
    (fun k st => st.1 = nI k ∧ ∃ j f, ndS B L w j0 k = some (j, f) ∧ st.2.1 = nI j ∧ ∀ i, i < k → st.2.2 i = nI (f i))
    (fun r => (ndS B L w j0 w = none ∧ ∃ sp' td', r = .inr (0, sp', td')) ∨ (∃ j f td', ndS B L w j0 w = some (j, f) ∧ r = .inl (nI j, td') ∧ ∀ i, i < w → td' i = nI (f i))) w (s0 := ((0 : Int32), nI j0, td)) ⟨rfl, j0, fun _ => 0, rfl, rfl, fun i h => absurd h (by omega)⟩ ?_ ?_ (by omega)
  · obtain ⟨r, q1, q2⟩ := key
    unfold DX9_figures DX9_figures_L2
    rcases q2 with ⟨h1, sp', td', h2⟩ | ⟨j, f, td', h1, h2, h3⟩
    · left
      exact ⟨h1, sp', td', by rw [q1, h2, el2_inr]⟩
    · right
      exact ⟨j, f, td', h1, by rw [q1, h2, el2_inl], h3⟩
  · rintro k ⟨x2, sp, t1⟩ hk ⟨h1, j, f, h2, h3, h4⟩
    simp only at h1 h3 h4
    subst h1 h3
    show (∃ s', DX9_figures_L2s (nI w) (nI L) mt (nI k) (nI j) t1 = some (.inl s') ∧ _) ∨ ∃ r, DX9_figures_L2s (nI w) (nI L) mt (nI k) (nI j) t1 = some (.inr r) ∧ _
    have hjl := ndS_lt h2 hL hj
    have hk1 : nI k + (1 : Int32) = nI (k + 1) := p_add k 1
    have hw1 : nI w - (1 : Int32) = nI (w - 1) := p_sub (a := w) (b := 1) (by omega)
    have e59 : (59 : Int32) = nI 59 := rfl
    have e44 : (44 : Int32) = nI 44 := rfl
    have bad : ∀ r, ndS B L w j0 (k + 1) = none → (∃ sp' td', r = (Sum.inr (0, sp', td') : (Int32 × (Nat → Int32)) ⊕ (Int32 × Int32 × (Nat → Int32)))) → (ndS B L w j0 w = none ∧ ∃ sp' td', r = .inr (0, sp', td')) := by
      intro r hn hr
      have := ndS_more hn (w - (k + 1))
      rw [show k + 1 + (w - (k + 1)) = w by omega] at this
      exact ⟨this, hr⟩
    obtain ⟨fc, v, j', g1, g2, g3, g4⟩ := D9_figs_eq hT (j := j) (by omega)
    unfold DX9_figures_L2s DX9_figures_J73 DX9_figures_J107
    have hin := in_nI (x := nI fc) (lo := 1) (hi := 2) (l := 1) (h := 2) 1 2 rfl rfl rfl rfl (by decide) (by decide) (i := fc) (by omega) rfl
    rw [if_neg (by rw [p_le (by omega) (by omega)]; omega), g1, bd3_eq, hin, bd1_eq, hw1]
    rcases g4 with ⟨n1, n2⟩ | ⟨n1, n2, n3⟩ | ⟨n1, v0, n2, n3⟩
    · right
      rw [if_neg (show ¬ (1 ≤ fc ∧ fc ≤ 2) by omega), if_pos rfl]
      refine ⟨_, rfl, Or.inl (bad _ (ndS_bad h2 ?_) ⟨_, _, rfl⟩)⟩
      unfold numT
      rw [n1]
    · have hj1 : nI j' + (1 : Int32) = nI (j' + 1) := p_add j' 1
      have gd : ∀ {α : Type} (b : Option α), (if nI k < 0 ∨ 4 ≤ k then none else b) = b := fun b => p_h (by omega) (by omega)
      rw [if_pos (show 1 ≤ fc ∧ fc ≤ 2 from ⟨n2, n3⟩), if_neg (by decide), D9_byteAt_eq hT (by omega), bd1_eq, p_tn (show k < 2147483648 by omega), gd, hk1, hj1, e59, e44]
      have main : ∀ e, e < 256 → 0 < e → (if k + 1 = w then 59 else 44) = e → (∃ s', (if (if j' < L then nI (B j') else (0 : Int32)) = nI e then some (Sum.inl (nI (k + 1), nI (j' + 1), upd t1 k (nI v))) else some (Sum.inr (Sum.inr ((0 : Int32), nI j', t1))) : Option ((Int32 × Int32 × (Nat → Int32)) ⊕ ((Int32 × (Nat → Int32)) ⊕ (Int32 × Int32 × (Nat → Int32))))) = some (.inl s') ∧ s'.1 = nI (k + 1) ∧ ∃ j f, ndS B L w j0 (k + 1) = some (j, f) ∧ s'.2.1 = nI j ∧ ∀ i, i < k + 1 → s'.2.2 i = nI (f i)) ∨
          ∃ r, (if (if j' < L then nI (B j') else (0 : Int32)) = nI e then some (Sum.inl (nI (k + 1), nI (j' + 1), upd t1 k (nI v))) else some (Sum.inr (Sum.inr ((0 : Int32), nI j', t1))) : Option ((Int32 × Int32 × (Nat → Int32)) ⊕ ((Int32 × (Nat → Int32)) ⊕ (Int32 × Int32 × (Nat → Int32))))) = some (.inr r) ∧ ((ndS B L w j0 w = none ∧ ∃ sp' td', r = .inr (0, sp', td')) ∨ (∃ j f td', ndS B L w j0 w = some (j, f) ∧ r = .inl (nI j, td') ∧ ∀ i, i < w → td' i = nI (f i))) := by
        intro e he he0 hee
        by_cases hc : j' < L ∧ B j' = e
        · left
          rw [if_pos ((by_eq hT he he0).mpr hc)]
          have hgood := ndS_good h2 (v := v) (j' := j' + 1) (by unfold numT; rw [n1, hee]; exact if_pos hc)
          refine ⟨_, rfl, rfl, _, _, hgood, rfl, fun i hi => ?_⟩
          show upd t1 k (nI v) i = _
          by_cases ei : i = k
          · rw [ei, upd_same, setF_at]
          · rw [upd_ne _ _ ei, setF_ne _ ei]; exact h4 i (by omega)
        · right
          rw [if_neg (fun q => hc ((by_eq hT he he0).mp q))]
          refine ⟨_, rfl, Or.inl (bad _ (ndS_bad h2 ?_) ⟨_, _, rfl⟩)⟩
          unfold numT
          rw [n1, hee]
          exact if_neg hc
      by_cases hc : w - 1 ≤ k
      · rw [if_pos (by rw [p_le (by omega) (by omega)]; exact hc)]
        exact main 59 (by decide) (by decide) (if_pos (by omega))
      · rw [if_neg (by rw [p_le (by omega) (by omega)]; exact hc)]
        exact main 44 (by decide) (by decide) (if_neg (by omega))
    · right
      rw [if_neg (show ¬ (1 ≤ fc ∧ fc ≤ 2) by omega), if_pos rfl]
      refine ⟨_, rfl, Or.inl (bad _ (ndS_bad h2 ?_) ⟨_, _, rfl⟩)⟩
      unfold numT
      rw [n2]
      have q := figB_iff.mp n3
      refine if_neg ?_
      rintro ⟨c1, c2⟩
      rw [c2] at q
      split at q <;> omega
  · rintro ⟨x2, sp, t1⟩ ⟨h1, j, f, h2, h3, h4⟩
    simp only at h1 h3 h4
    subst h1 h3
    show ∃ r, DX9_figures_L2s (nI w) (nI L) mt (nI w) (nI j) t1 = some (.inr r) ∧ _
    unfold DX9_figures_L2s
    rw [if_pos (by rw [p_le (by omega) (by omega)]; omega)]
    exact ⟨_, rfl, Or.inr ⟨j, f, t1, h2, rfl, h4⟩⟩
end ND
