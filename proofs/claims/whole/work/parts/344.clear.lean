/-! PURE: clear -/
def bc (o : Nat) : Nat := o % 2 + o / 2 % 2 + o / 4 % 2 + o / 8 % 2 + o / 16 % 2 + o / 32 % 2 + o / 64 % 2
theorem bc_le (o : Nat) : bc o ≤ 7 := by unfold bc; omega
theorem bc_x : ∀ o, o < 128 → DJ6_bitCount_0f7a4 (nI o) = some (nI (bc o)) := by decide +kernel
theorem bc_m : ∀ o, o < 128 → DX9_bits (nI o) = some (nI (bc o)) := by decide +kernel
theorem shl_n : ∀ n, n < 8 → (1 : Int32) <<< (nI n &&& 31) = nI (2 ^ n) := by decide +kernel
def clr (q : Nat → Bool) : Nat → Option Nat
  | 0 => none
  | k + 1 => match clr q k with
    | none => if q k = true then some k else none
    | some b => if bc k < bc b ∧ q k = true then some k else some b
theorem clr_none (q : Nat → Bool) (k : Nat) (h : clr q k = none) : clr q (k + 1) = if q k = true then some k else none := by
  show (match clr q k with | none => if q k = true then some k else none | some b => if bc k < bc b ∧ q k = true then some k else some b) = _
  rw [h]
theorem clr_some (q : Nat → Bool) (k b : Nat) (h : clr q k = some b) : clr q (k + 1) = if bc k < bc b ∧ q k = true then some k else some b := by
  show (match clr q k with | none => if q k = true then some k else none | some b => if bc k < bc b ∧ q k = true then some k else some b) = _
  rw [h]
theorem clr_lt {q : Nat → Bool} : ∀ {k b : Nat}, clr q k = some b → b < k
  | 0, b, h => by cases h
  | k + 1, b, h => by
    cases hc : clr q k with
    | none =>
      rw [clr_none q k hc] at h
      split at h
      · cases h; omega
      · cases h
    | some b' =>
      rw [clr_some q k b' hc] at h
      have := clr_lt hc
      split at h
      · cases h; omega
      · cases h; omega
/-- what both loops hold before the k-th set -/
def Cx8 (q : Nat → Bool) (k : Nat) (x y : Int32) : Prop := (clr q k = none → x = 0 ∧ y = 8) ∧ ∀ b, clr q k = some b → x = nI b ∧ y = nI (bc b)
def Cx9 (q : Nat → Bool) (k : Nat) (x : Int32) : Prop := (clr q k = none → x = -4) ∧ ∀ b, clr q k = some b → x = nI b
/-- nobody of those not left out is met -/
def clB (S D n : Nat) (T A V K : Nat → Nat) (w : Nat) : Bool := (ordL T (wout w) n).all (fun i => decide (lostS (toP A V K (ordL T (wout w) n) S) T V D (ordL T (wout w) n) 101 i = 10000))
theorem clB_full {S D n : Nat} {T A V K : Nat → Nat} : clB S D n T A V K (2 ^ n - 1) = true := by
  unfold clB
  rw [List.all_eq_true]
  intro i hi
  obtain ⟨h1, h2, h3⟩ := mem_ordM.mp hi
  unfold wout at h3
  rw [Nat.testBit_two_pow_sub_one, decide_eq_false_iff_not] at h3
  exact absurd h1 h3
section CL
variable {S D n px py nn : Nat} {T A V K NP NW NF NU : Nat → Nat}
theorem pow_le7 (hn : n ≤ 7) : 2 ^ n ≤ 128 := Nat.pow_le_pow_right (by decide) (show n ≤ 7 from hn)
theorem D8_clear_L_eq {ls lh lp lq lf nf fd fs fe : Int32} {lc nc f order : Nat → Int32} (hp : Pok S D n px py nn T A V K NP NW NF NU) (hx : PX S D n px py nn T A V K NP NW NF NU ls lh lp lq lc lf nc nf) :
    ∃ b f' o' d' s' e', clr (clB S D n T A V K) (2 ^ n) = some b ∧ DX8_clear_L26 ls lh lp lq lc lf nc nf (nI (2 ^ n)) FU (0 : Int32) (8 : Int32) (0 : Int32) f order fd fs fe = some (nI b, f', o', d', s', e') := by
  have hn7 := hp.2.2.2.1
  have hp7 := pow_le7 hn7
  have h0 : 0 < 2 ^ n := Nat.two_pow_pos n
  generalize hq : clB S D n T A V K = q
  have hfull : q (2 ^ n - 1) = true := by rw [← hq]; exact clB_full
  have hsome : ∃ b, clr q (2 ^ n) = some b := by
    have e : 2 ^ n = (2 ^ n - 1) + 1 := by omega
    rw [e]
    cases hc : clr q (2 ^ n - 1) with
    | none => exact ⟨_, by rw [clr_none q _ hc, if_pos hfull]⟩
    | some b =>
      rw [clr_some q _ b hc]
      split
      · exact ⟨_, rfl⟩
      · exact ⟨_, rfl⟩
  obtain ⟨b, hb⟩ := hsome
  have key := it_for2 (S := Int32 × Int32 × Int32 × (Nat → Int32) × (Nat → Int32) × Int32 × Int32 × Int32) (R := Int32 × (Nat → Int32) × (Nat → Int32) × Int32 × Int32 × Int32)
    (f := fun st => DX8_clear_L26s ls lh lp lq lc lf nc nf (nI (2 ^ n)) (st.1) (st.2.1) (st.2.2.1) (st.2.2.2.1) (st.2.2.2.2.1) (st.2.2.2.2.2.1) (st.2.2.2.2.2.2.1) (st.2.2.2.2.2.2.2))
    (fun k st => st.2.2.1 = nI k ∧ Cx8 q k st.1 st.2.1) (fun r => r.1 = nI b) (2 ^ n) (s0 := ((0 : Int32), (8 : Int32), (0 : Int32), f, order, fd, fs, fe)) ⟨rfl, fun _ => ⟨rfl, rfl⟩, fun b hb => by cases hb⟩ ?_ ?_ (by omega)
  · obtain ⟨⟨r1, f', o', d', s', e'⟩, q1, q2⟩ := key
    simp only at q2
    refine ⟨b, f', o', d', s', e', hb, ?_⟩
    unfold DX8_clear_L26
    rw [q1, q2]
  · rintro k ⟨x1, x2, x4, f1, o1, d1, s1, e1⟩ hk ⟨h1, h2⟩
    simp only at h1 h2
    subst h1
    left
    show ∃ s', DX8_clear_L26s ls lh lp lq lc lf nc nf (nI (2 ^ n)) x1 x2 (nI k) f1 o1 d1 s1 e1 = some (.inl s') ∧ _
    unfold DX8_clear_L26s
    have hk1 : nI k + (1 : Int32) = nI (k + 1) := p_add k 1
    have hbk := bc_le k
    obtain ⟨f2, o2, g1, g2, g3, g4⟩ := fly_w (f := f1) (order := o1) (w := k) hp hx (by omega)
    have hl : ∀ i ∈ ordL T (wout k) n, i < n := fun i hi => (mem_ordM.mp hi).1
    have hlen : (ordL T (wout k) n).length ≤ 7 := Nat.le_trans (ordM_len T (wout k) n 41) hn7
    have hmany := D1_howMany_eq hn7 hl hlen g2 (c := howS (toP A V K (ordL T (wout k) n) S) T V K D (ordL T (wout k) n) NP NW NF NU nn) (fun i hi => (g4 i hi).1) (fun i => howS_le i) (how := 2) (by decide)
    have hmany : DX1_howMany (2 : Int32) f2 o2 (nI (ordL T (wout k) n).length) = _ := hmany
    generalize hcnt : (ordL T (wout k) n).countP (fun i => decide (howS (toP A V K (ordL T (wout k) n) S) T V K D (ordL T (wout k) n) NP NW NF NU nn i = 2)) = cnt at hmany
    have hcl : cnt ≤ 7 := by rw [← hcnt]; exact Nat.le_trans List.countP_le_length hlen
    have hqk : cnt = 0 ↔ q k = true := by
      rw [← hcnt, ← hq, List.countP_eq_zero]
      unfold clB
      rw [List.all_eq_true]
      have hw : ∀ i, howS (toP A V K (ordL T (wout k) n) S) T V K D (ordL T (wout k) n) NP NW NF NU nn i = 2 ↔ ¬ lostS (toP A V K (ordL T (wout k) n) S) T V D (ordL T (wout k) n) 101 i = 10000 := by
        intro i
        unfold howS
        split
        · rename_i h; split <;> simp [h]
        · rename_i h; simp [h]
      constructor
      · intro h i hi
        have := h i hi
        rw [decide_eq_true_eq, hw i] at this
        exact decide_eq_true (Decidable.not_not.mp this)
      · intro h i hi hc
        rw [decide_eq_true_eq, hw i] at hc
        exact hc (of_decide_eq_true (h i hi))
    have e0 : (0 : Int32) = nI 0 := rfl
    have e8 : (8 : Int32) = nI 8 := rfl
    rw [if_neg (by rw [p_le (by omega) (by omega)]; omega), bc_x k (by omega), bd1_eq, hk1]
    have fin : ∀ b', clr q (k + 1) = some b' → Cx8 q (k + 1) (nI b') (nI (bc b')) := fun b' hb' => ⟨fun h => (by rw [hb'] at h; cases h), fun b2 h => (by rw [hb'] at h; cases h; exact ⟨rfl, rfl⟩)⟩
    cases hc : clr q k with
    | none =>
      obtain ⟨y1, y2⟩ := h2.1 hc
      have hs := clr_none q k hc
      rw [y1, y2, if_neg (by rw [e8, p_le (by omega) (by omega)]; omega), g1, bd5_eq, hmany, bd1_eq]
      by_cases h : cnt = 0
      · rw [if_pos (by rw [h]; rfl), bd1_eq]
        rw [if_pos (hqk.mp h)] at hs
        exact ⟨_, rfl, rfl, fin k hs⟩
      · rw [if_neg (by rw [e0, p_eq (by omega) (by omega)]; exact h)]
        rw [if_neg (fun hh => h (hqk.mpr hh))] at hs
        exact ⟨_, rfl, rfl, fun _ => ⟨rfl, rfl⟩, fun b' hb' => by rw [hs] at hb'; cases hb'⟩
    | some b' =>
      obtain ⟨y1, y2⟩ := h2.2 b' hc
      have hs := clr_some q k b' hc
      have hbb := bc_le b'
      rw [y1, y2]
      by_cases hlt : bc k < bc b'
      · rw [if_neg (by rw [p_le (by omega) (by omega)]; omega), g1, bd5_eq, hmany, bd1_eq]
        by_cases h : cnt = 0
        · rw [if_pos (by rw [h]; rfl), bd1_eq]
          rw [if_pos ⟨hlt, hqk.mp h⟩] at hs
          exact ⟨_, rfl, rfl, fin k hs⟩
        · rw [if_neg (by rw [e0, p_eq (by omega) (by omega)]; exact h)]
          rw [if_neg (fun hh => h (hqk.mpr hh.2))] at hs
          exact ⟨_, rfl, rfl, fin b' hs⟩
      · rw [if_pos (by rw [p_le (by omega) (by omega)]; omega)]
        rw [if_neg (fun hh => hlt hh.1)] at hs
        exact ⟨_, rfl, rfl, fin b' hs⟩
  · rintro ⟨x1, x2, x4, f1, o1, d1, s1, e1⟩ ⟨h1, h2⟩
    simp only at h1 h2
    subst h1
    show ∃ r, DX8_clear_L26s ls lh lp lq lc lf nc nf (nI (2 ^ n)) x1 x2 (nI (2 ^ n)) f1 o1 d1 s1 e1 = some (.inr r) ∧ _
    unfold DX8_clear_L26s
    rw [if_pos (by rw [p_le (by omega) (by omega)]; omega)]
    exact ⟨_, rfl, (h2.2 b hb).1⟩
theorem D9_clear_all {mm lost : Nat → Int32} (hn : n ≤ 7) (hm : mm 0 = nI n) : DX9_clear_L42 mm lost FU (1 : Int32) (0 : Int32) = some (if (List.range n).all (fun j => decide (lost j = 10000)) = true then 1 else 0) := by
  have ez : (0 : Int32).toNatClampNeg = 0 := rfl
  unfold DX9_clear_L42
  refine it_for (fun k => ((if (List.range k).all (fun j => decide (lost j = 10000)) = true then 1 else 0 : Int32), nI k)) n ?_ ?_ (by omega)
  · intro k hk
    show DX9_clear_L42s mm lost (if (List.range k).all (fun j => decide (lost j = 10000)) = true then 1 else 0 : Int32) (nI k) = some (.inl ((if (List.range (k + 1)).all (fun j => decide (lost j = 10000)) = true then 1 else 0 : Int32), nI (k + 1)))
    unfold DX9_clear_L42s
    have hk1 : nI k + (1 : Int32) = nI (k + 1) := p_add k 1
    have hs : (List.range (k + 1)).all (fun j => decide (lost j = 10000)) = ((List.range k).all (fun j => decide (lost j = 10000)) && decide (lost k = 10000)) := by
      rw [List.range_succ, List.all_append]; simp
    rw [ez, hm, if_neg (by rw [p_le (by omega) (by omega)]; omega), hk1, hs]
    cases (List.range k).all (fun j => decide (lost j = 10000))
    · rw [if_pos (show (if false = true then (1 : Int32) else 0) = 0 from rfl)]; rfl
    · rw [if_neg (show ¬ (if true = true then (1 : Int32) else 0) = 0 by decide), p_g (by omega) (by decide), p_tn (by omega)]
      by_cases h : lost k = 10000
      · rw [if_pos h, decide_eq_true h]; rfl
      · rw [if_neg h, decide_eq_false h]; rfl
  · show DX9_clear_L42s mm lost (if (List.range n).all (fun j => decide (lost j = 10000)) = true then 1 else 0 : Int32) (nI n) = _
    unfold DX9_clear_L42s
    rw [ez, hm, if_pos (by rw [p_le (by omega) (by omega)]; omega)]
theorem D9_clear_L_eq {ms mf mn na nw ng nt mx my mm days aims speeds kinds to stood home lost : Nat → Int32} {out : Int32} {b : Nat} (hp : Pok S D n px py nn T A V K NP NW NF NU) (hm : PM S D n px py nn T A V K NP NW NF NU ms mf mn na nw ng nt mx my mm days aims speeds kinds) (hb : clr (clB S D n T A V K) (2 ^ n) = some b) :
    ∃ to' st' ho' lo' ou', DX9_clear_L5 ms mf mm days aims speeds kinds FU (-4 : Int32) (0 : Int32) to stood home lost out = some (nI b, to', st', ho', lo', ou') := by
  have hn7 := hp.2.2.2.1
  have hp7 := pow_le7 hn7
  have ez : (0 : Int32).toNatClampNeg = 0 := rfl
  have hmm := hm.2.2.2.2.2.1
  have hsh := shl_n n (by omega)
  generalize hq : clB S D n T A V K = q at hb
  have key := it_for2 (S := Int32 × Int32 × (Nat → Int32) × (Nat → Int32) × (Nat → Int32) × (Nat → Int32) × Int32) (R := Int32 × (Nat → Int32) × (Nat → Int32) × (Nat → Int32) × (Nat → Int32) × Int32)
    (f := fun st => DX9_clear_L5s ms mf mm days aims speeds kinds (st.1) (st.2.1) (st.2.2.1) (st.2.2.2.1) (st.2.2.2.2.1) (st.2.2.2.2.2.1) (st.2.2.2.2.2.2))
    (fun k st => st.2.1 = nI k ∧ Cx9 q k st.1) (fun r => r.1 = nI b) (2 ^ n) (s0 := ((-4 : Int32), (0 : Int32), to, stood, home, lost, out)) ⟨rfl, fun _ => rfl, fun b hb => by cases hb⟩ ?_ ?_ (by omega)
  · obtain ⟨⟨r1, f', o', d', s', e'⟩, q1, q2⟩ := key
    simp only at q2
    refine ⟨f', o', d', s', e', ?_⟩
    unfold DX9_clear_L5
    rw [q1, q2]
  · rintro k ⟨x1, x2, t1, s1, h1', l1, u1⟩ hk ⟨h1, h2⟩
    simp only at h1 h2
    subst h1
    left
    show ∃ s', DX9_clear_L5s ms mf mm days aims speeds kinds x1 (nI k) t1 s1 h1' l1 u1 = some (.inl s') ∧ _
    unfold DX9_clear_L5s
    have hk1 : nI k + (1 : Int32) = nI (k + 1) := p_add k 1
    have hbk := bc_le k
    obtain ⟨t2, s2, h2', l2, g1, g2, g3⟩ := go_w (to := t1) (stood := s1) (home := h1') (lost := l1) (w := k) hp hm (by omega)
    have hday := g3.2.2.2.2.2.2.2.2.2.2.2.2
    have hall := D9_clear_all (lost := l2) hn7 hmm
    have hqk : (List.range n).all (fun j => decide (l2 j = 10000)) = q k := by
      rw [← hq, Bool.eq_iff_iff]
      unfold clB
      rw [List.all_eq_true, List.all_eq_true]
      have e : (10000 : Int32) = nI 10000 := rfl
      constructor
      · intro h i hi
        obtain ⟨i1, i2, i3⟩ := mem_ordM.mp hi
        have h1 := of_decide_eq_true (h i (List.mem_range.mpr i1))
        have hlt := lost_or (P := toP A V K (ordL T (wout k) n) S) (T := T) (V := V) (D := D) (l := ordL T (wout k) n) 101 i
        rw [((hday i i1).1 i3).1, e, p_eq (by omega) (by omega)] at h1
        exact decide_eq_true h1
      · intro h i hi
        have i1 := List.mem_range.mp hi
        refine decide_eq_true ?_
        cases ho : wout k i
        · have h1 := of_decide_eq_true (h i (in_ordL hp i1 ho))
          rw [((hday i i1).1 ho).1, h1]; rfl
        · rw [((hday i i1).2 ho).1]; rfl
    rw [hqk] at hall
    rw [ez, hmm, hsh, if_neg (by rw [p_le (by omega) (by omega)]; omega), hk1]
    have fin : ∀ b', clr q (k + 1) = some b' → Cx9 q (k + 1) (nI b') := fun b' hb' => ⟨fun h => (by rw [hb'] at h; cases h), fun b2 h => (by rw [hb'] at h; cases h; rfl)⟩
    cases hc : clr q k with
    | none =>
      have y1 := h2.1 hc
      have hs := clr_none q k hc
      rw [y1, if_pos (by decide), g1, bd5_eq, hall, bd1_eq]
      cases hv : q k
      · rw [if_pos (show (if false = true then (1 : Int32) else 0) = 0 from rfl)]
        rw [if_neg (by rw [hv]; decide)] at hs
        exact ⟨_, rfl, rfl, fun _ => rfl, fun b' hb' => by rw [hs] at hb'; cases hb'⟩
      · rw [if_neg (show ¬ (if true = true then (1 : Int32) else 0) = 0 by decide)]
        rw [if_pos hv] at hs
        exact ⟨_, rfl, rfl, fin k hs⟩
    | some b' =>
      have y1 := h2.2 b' hc
      have hs := clr_some q k b' hc
      have hbb := bc_le b'
      have hbl := clr_lt hc
      rw [y1, if_neg (p_neg (by omega)), bc_m k (by omega), bd1_eq, bc_m b' (by omega), bd1_eq]
      by_cases hlt : bc k < bc b'
      · rw [if_neg (by rw [p_le (by omega) (by omega)]; omega), g1, bd5_eq, hall, bd1_eq]
        cases hv : q k
        · rw [if_pos (show (if false = true then (1 : Int32) else 0) = 0 from rfl)]
          rw [if_neg (fun hh => by rw [hv] at hh; exact absurd hh.2 (by decide))] at hs
          exact ⟨_, rfl, rfl, fin b' hs⟩
        · rw [if_neg (show ¬ (if true = true then (1 : Int32) else 0) = 0 by decide)]
          rw [if_pos ⟨hlt, hv⟩] at hs
          exact ⟨_, rfl, rfl, fin k hs⟩
      · rw [if_pos (by rw [p_le (by omega) (by omega)]; omega)]
        rw [if_neg (fun hh => hlt hh.1)] at hs
        exact ⟨_, rfl, rfl, fin b' hs⟩
  · rintro ⟨x1, x2, t1, s1, h1', l1, u1⟩ ⟨h1, h2⟩
    simp only at h1 h2
    subst h1
    show ∃ r, DX9_clear_L5s ms mf mm days aims speeds kinds x1 (nI (2 ^ n)) t1 s1 h1' l1 u1 = some (.inr r) ∧ _
    unfold DX9_clear_L5s
    rw [ez, hmm, hsh, if_pos (by rw [p_le (by omega) (by omega)]; omega)]
    exact ⟨_, rfl, h2.2 b hb⟩
end CL
theorem s_clear : S_clear Inv0 := by
  intro c_text_bytes c_text_length c_reader_numbers c_reader_next c_laid_stand c_laid_home c_laid_priceStart c_laid_priceStep c_laid_thrown_cells c_laid_thrown_filled c_laid_nets_cells c_laid_nets_filled c_trial_stand c_trial_home c_trial_priceStart c_trial_priceStep c_trial_thrown_cells c_trial_thrown_filled c_trial_nets_cells c_trial_nets_filled c_flight_loads_cells c_flight_loads_filled c_flight_order c_flight_done c_flight_start c_flight_end c_changes_who c_changes_column c_changes_was c_changes_held c_kept_older_cells c_kept_older_filled c_kept_newer_cells c_kept_newer_filled c_kept_held c_turns_need m_length m_text m_stands m_homeFar m_nets m_netAt m_netWide m_netFrom m_netTo m_priceX m_priceY m_many m_days m_aims m_speeds m_kinds m_keptMany m_undoMany m_undos m_spot m_told m_to m_stood m_home m_lost m_out m_fewest m_ways m_next m_held hI
  have hI0 := hI
  obtain ⟨hT, n, ⟨S, D, px, py, nn, T, A, V, K, NP, NW, NF, NU, hn1, hp, hx, hm⟩, hU, hK⟩ := hI
  have hn7 := hp.2.2.2.1
  have hlf := hx.2.2.2.2.1
  have e7 : (7 : Int32) = nI 7 := rfl
  have hmin : (if (7 : Int32) < c_laid_thrown_filled then (7 : Int32) else c_laid_thrown_filled) = nI n := by
    rw [hlf, if_neg]
    rw [e7, p_lt (by omega) (by omega)]; omega
  unfold DX8_clear DX9_clear DX5_rows
  rw [bd1_eq, hmin, shl_n n (by omega)]
  obtain ⟨b, f', o', d', s', e', hb, k1⟩ := D8_clear_L_eq (f := c_flight_loads_cells) (order := c_flight_order) (fd := c_flight_done) (fs := c_flight_start) (fe := c_flight_end) hp hx
  obtain ⟨to', st', ho', lo', ou', k2⟩ := D9_clear_L_eq (to := m_to) (stood := m_stood) (home := m_home) (lost := m_lost) (out := m_out) hp hm hb
  rw [k1, k2]
  exact ⟨_, _, _, _, _, _, _, _, _, _, _, rfl, rfl, hI0⟩
