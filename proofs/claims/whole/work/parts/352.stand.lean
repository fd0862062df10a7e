/-! PURE: stand whole -/
/-- the first speed of the shortest way -/
def fsB (o e s v : Nat) : Prop := o.testBit (v - 1) = true ∧ dd o ((wp s e + 24 - v) % 24) + 1 = dd o (wp s e)
def fsR (o e s : Nat) (r : Option Nat) : Prop := (r = none ∧ ∀ v, 0 < v → v < 7 → ¬ fsB o e s v) ∨ ∃ v, r = some v ∧ 0 < v ∧ v < 7 ∧ fsB o e s v ∧ ∀ u, 0 < u → u < v → ¬ fsB o e s u
theorem fsR_one {o e s : Nat} {r r' : Option Nat} (h : fsR o e s r) (h' : fsR o e s r') : r = r' := by
  rcases h with ⟨h1, h2⟩ | ⟨v, h1, h2, h3, h4, h5⟩
  · rcases h' with ⟨g1, g2⟩ | ⟨u, g1, g2, g3, g4, g5⟩
    · rw [h1, g1]
    · exact absurd g4 (h2 u g2 g3)
  · rcases h' with ⟨g1, g2⟩ | ⟨u, g1, g2, g3, g4, g5⟩
    · exact absurd h4 (g2 v h2 h3)
    · rcases Nat.lt_trichotomy v u with q | q | q
      · exact absurd h4 (g5 v h2 q)
      · rw [h1, g1, q]
      · exact absurd g4 (h5 u g2 q)
section FS
variable {o e s : Nat}
theorem D7_first_eq {c : Nat → Int32} (ho : o < 64) (he : e < 24) (hs : s < 24) (hc : ∀ w, w < 24 → c w = nI (if dd o w = 10000 then 1000 else dd o w)) (hr : dd o (wp s e) ≠ 10000) :
    ∃ r, fsR o e s r ∧ DX7_firstSpeed_L19 (nI (wp s e)) (nI o) c FU (1 : Int32) = some (match r with | none => .inl () | some v => .inr (nI v)) := by
  have hwlt : wp s e < 24 := Nat.mod_lt _ (by decide)
  have key := it_for2 (S := Int32) (R := Unit ⊕ Int32) (f := fun st => DX7_firstSpeed_L19s (nI (wp s e)) (nI o) c st)
    (fun k st => st = nI (k + 1) ∧ ∀ v, 0 < v → v < k + 1 → ¬ fsB o e s v) (fun x => ∃ r, fsR o e s r ∧ x = (match r with | none => .inl () | some v => .inr (nI v))) 6 (s0 := (1 : Int32)) ⟨rfl, fun v h1 h2 => absurd h2 (by omega)⟩ ?_ ?_ (by omega)
  · obtain ⟨x, q1, r, q2, q3⟩ := key
    refine ⟨r, q2, ?_⟩
    unfold DX7_firstSpeed_L19
    rw [q1, q3]
  · rintro k x3 hk ⟨h1, h2⟩
    subst h1
    show (∃ s', DX7_firstSpeed_L19s (nI (wp s e)) (nI o) c (nI (k + 1)) = some (.inl s') ∧ _) ∨ ∃ r, DX7_firstSpeed_L19s (nI (wp s e)) (nI o) c (nI (k + 1)) = some (.inr r) ∧ _
    unfold DX7_firstSpeed_L19s
    have hk1 : nI (k + 1) + (1 : Int32) = nI (k + 1 + 1) := p_add (k + 1) 1
    have e6 : (6 : Int32) = nI 6 := rfl
    have hq24 := Nat.mod_lt (wp s e + 24 - (k + 1)) (show 24 > 0 by decide)
    rw [e6, if_neg (by rw [p_lt (by omega) (by omega)]; omega), mod24_sub _ hwlt (k + 1) (by omega), bd1_eq, isIn_eq o ho (k + 1) (by omega) (by omega), bd1_eq, hk1]
    have hnext : ¬ fsB o e s (k + 1) → ∀ v, 0 < v → v < k + 1 + 1 → ¬ fsB o e s v := by
      intro hn v v1 v2
      by_cases ev : v = k + 1
      · rw [ev]; exact hn
      · exact h2 v v1 (by omega)
    cases hb : o.testBit (k + 1 - 1)
    · left
      rw [if_pos (show (if false = true then (1 : Int32) else 0) = 0 from rfl)]
      exact ⟨_, rfl, rfl, hnext (fun q => by have := q.1; rw [hb] at this; cases this)⟩
    · rw [if_neg (show ¬ (if true = true then (1 : Int32) else 0) = 0 by decide), D8_at_eq hq24 (by decide), bd1_eq, D8_at_eq hwlt (by decide), bd1_eq, hc _ hq24, hc _ hwlt, if_neg hr]
      have h4 := dd_4 o ho (wp s e) hwlt
      have h4' := dd_4 o ho _ hq24
      have hiff : (nI (if dd o ((wp s e + 24 - (k + 1)) % 24) = 10000 then 1000 else dd o ((wp s e + 24 - (k + 1)) % 24)) = nI (dd o (wp s e)) - (1 : Int32)) ↔ dd o ((wp s e + 24 - (k + 1)) % 24) + 1 = dd o (wp s e) := by
        by_cases hz : dd o (wp s e) = 0
        · rw [hz]
          constructor
          · intro h
            have h2 := congrArg Int32.toInt h
            rw [p_ti (by split <;> omega)] at h2
            have em : (nI 0 - (1 : Int32)).toInt = -1 := rfl
            omega
          · intro h; omega
        · have hsub : nI (dd o (wp s e)) - (1 : Int32) = nI (dd o (wp s e) - 1) := p_sub (a := dd o (wp s e)) (b := 1) (by omega)
          rw [hsub]
          by_cases hx : dd o ((wp s e + 24 - (k + 1)) % 24) = 10000
          · rw [if_pos hx, p_eq (by omega) (by omega)]; omega
          · rw [if_neg hx, p_eq (by omega) (by omega)]; omega
      by_cases hq : dd o ((wp s e + 24 - (k + 1)) % 24) + 1 = dd o (wp s e)
      · right
        rw [if_pos (hiff.mpr hq)]
        exact ⟨_, rfl, some (k + 1), Or.inr ⟨k + 1, rfl, by omega, by omega, ⟨hb, hq⟩, fun u u1 u2 => h2 u u1 u2⟩, rfl⟩
      · left
        rw [if_neg (fun q => hq (hiff.mp q))]
        exact ⟨_, rfl, rfl, hnext (fun q => hq q.2)⟩
  · rintro x3 ⟨h1, h2⟩
    subst h1
    show ∃ r, DX7_firstSpeed_L19s (nI (wp s e)) (nI o) c (nI 7) = some (.inr r) ∧ _
    unfold DX7_firstSpeed_L19s
    rw [if_pos (by decide)]
    exact ⟨_, rfl, none, Or.inl ⟨rfl, h2⟩, rfl⟩
theorem D9_first_eq {f to st : Nat → Int32} {ou : Int32} (ho : o < 64) (he : e < 24) (hs : s < 24) (hf : ∀ q, q < 24 → f q = nI (dd o (wp s q))) (hr : dd o (wp s e) ≠ 10000) :
    ∃ r, fsR o e s r ∧ DX9_stand_L229 (nI o) to st ou f (nI e) FU (1 : Int32) = some (match r with | none => .inl () | some v => .inr (nI v, to, st, ou, f)) := by
  have hwlt : wp s e < 24 := Nat.mod_lt _ (by decide)
  have key := it_for2 (S := Int32) (R := Unit ⊕ (Int32 × (Nat → Int32) × (Nat → Int32) × Int32 × (Nat → Int32))) (f := fun x => DX9_stand_L229s (nI o) to st ou f (nI e) x)
    (fun k x => x = nI (k + 1) ∧ ∀ v, 0 < v → v < k + 1 → ¬ fsB o e s v) (fun x => ∃ r, fsR o e s r ∧ x = (match r with | none => .inl () | some v => .inr (nI v, to, st, ou, f))) 6 (s0 := (1 : Int32)) ⟨rfl, fun v h1 h2 => absurd h2 (by omega)⟩ ?_ ?_ (by omega)
  · obtain ⟨x, q1, r, q2, q3⟩ := key
    refine ⟨r, q2, ?_⟩
    unfold DX9_stand_L229
    rw [q1, q3]
  · rintro k x5 hk ⟨h1, h2⟩
    subst h1
    show (∃ s', DX9_stand_L229s (nI o) to st ou f (nI e) (nI (k + 1)) = some (.inl s') ∧ _) ∨ ∃ r, DX9_stand_L229s (nI o) to st ou f (nI e) (nI (k + 1)) = some (.inr r) ∧ _
    unfold DX9_stand_L229s
    have hk1 : nI (k + 1) + (1 : Int32) = nI (k + 1 + 1) := p_add (k + 1) 1
    have hk0 : nI (k + 1) - (1 : Int32) = nI k := p_sub (a := k + 1) (b := 1) (by omega)
    have e6 : (6 : Int32) = nI 6 := rfl
    have e0 : (0 : Int32) = nI 0 := rfl
    have hq24 := Nat.mod_lt (e + 24 - (k + 1)) (show 24 > 0 by decide)
    have hwq : wp s ((e + 24 - (k + 1)) % 24) = (wp s e + 24 - (k + 1)) % 24 := by unfold wp; omega
    rw [e6, if_neg (by rw [p_lt (by omega) (by omega)]; omega), hk0, has_eq6 o ho k (by omega), bd1_eq, hk1]
    have hnext : ¬ fsB o e s (k + 1) → ∀ v, 0 < v → v < k + 1 + 1 → ¬ fsB o e s v := by
      intro hn v v1 v2
      by_cases ev : v = k + 1
      · rw [ev]; exact hn
      · exact h2 v v1 (by omega)
    cases hb : o.testBit k
    · left
      rw [if_pos (show (if false = true then (1 : Int32) else 0) = 0 from rfl)]
      exact ⟨_, rfl, rfl, hnext (fun q => by have := q.1; rw [show k + 1 - 1 = k by omega, hb] at this; cases this)⟩
    · have h4 := dd_4 o ho (wp s e) hwlt
      have h4' := dd_4 o ho _ (Nat.mod_lt (wp s e + 24 - (k + 1)) (show 24 > 0 by decide))
      rw [if_neg (show ¬ (if true = true then (1 : Int32) else 0) = 0 by decide), p_g he (by decide), p_tn (by omega), hf e he]
      by_cases hz : dd o (wp s e) = 0
      · left
        rw [if_pos (by rw [e0, p_le (by omega) (by omega)]; omega)]
        exact ⟨_, rfl, rfl, hnext (fun q => by have := q.2; omega)⟩
      · have hsub : nI (dd o (wp s e)) - (1 : Int32) = nI (dd o (wp s e) - 1) := p_sub (a := dd o (wp s e)) (b := 1) (by omega)
        have gd : ∀ {α : Type} (b : Option α), (if nI e < 0 ∨ 24 ≤ e then none else b) = b := fun b => p_h (by omega) (by omega)
        rw [if_neg (by rw [e0, p_le (by omega) (by omega)]; omega), around_sub e he (k + 1) (by omega), bd1_eq, p_g hq24 (by decide), gd, p_tn (show (e + 24 - (k + 1)) % 24 < 2147483648 by omega), hf _ hq24, hwq, hsub]
        by_cases hq : dd o ((wp s e + 24 - (k + 1)) % 24) + 1 = dd o (wp s e)
        · right
          rw [if_pos (by rw [p_eq (by omega) (by omega)]; omega)]
          exact ⟨_, rfl, some (k + 1), Or.inr ⟨k + 1, rfl, by omega, by omega, ⟨by rw [show k + 1 - 1 = k by omega]; exact hb, hq⟩, fun u u1 u2 => h2 u u1 u2⟩, rfl⟩
        · left
          rw [if_neg (by rw [p_eq (by omega) (by omega)]; omega)]
          exact ⟨_, rfl, rfl, hnext (fun q => hq q.2)⟩
  · rintro x5 ⟨h1, h2⟩
    subst h1
    show ∃ r, DX9_stand_L229s (nI o) to st ou f (nI e) (nI 7) = some (.inr r) ∧ _
    unfold DX9_stand_L229s
    rw [if_pos (by decide)]
    exact ⟨_, rfl, none, Or.inl ⟨rfl, h2⟩, rfl⟩
end FS
theorem s_stand : S_stand Inv0 := by
  intro c_text_bytes c_text_length c_reader_numbers c_reader_next c_laid_stand c_laid_home c_laid_priceStart c_laid_priceStep c_laid_thrown_cells c_laid_thrown_filled c_laid_nets_cells c_laid_nets_filled c_trial_stand c_trial_home c_trial_priceStart c_trial_priceStep c_trial_thrown_cells c_trial_thrown_filled c_trial_nets_cells c_trial_nets_filled c_flight_loads_cells c_flight_loads_filled c_flight_order c_flight_done c_flight_start c_flight_end c_changes_who c_changes_column c_changes_was c_changes_held c_kept_older_cells c_kept_older_filled c_kept_newer_cells c_kept_newer_filled c_kept_held c_turns_need m_length m_text m_stands m_homeFar m_nets m_netAt m_netWide m_netFrom m_netTo m_priceX m_priceY m_many m_days m_aims m_speeds m_kinds m_keptMany m_undoMany m_undos m_spot m_told m_to m_stood m_home m_lost m_out m_fewest m_ways m_next m_held hI x1 x2 x3
  have hI0 := hI
  obtain ⟨hT, n, ⟨S, D, px, py, nn, T, A, V, K, NP, NW, NF, NU, hn1, hp, hx, hm⟩, hU, hK⟩ := hI
  have hn7 := hp.2.2.2.1
  have hTT := hp.2.2.2.2.2.2.2.1
  unfold DX8_stand DX9_stand
  rcases win_x x1 0 23 (a := 0) (b := 23) (l := 0) (h := 23) rfl rfl rfl rfl (by decide) (by decide) with ⟨s, s0, s1, e1, s3, s4⟩ | ⟨s1, s3, s4⟩
  · rw [s3, s4]
    rcases win_x x2 1 63 (a := 1) (b := 63) (l := 1) (h := 63) rfl rfl rfl rfl (by decide) (by decide) with ⟨o, o0, o1, e2, o3, o4⟩ | ⟨o1, o3, o4⟩
    · rw [o3, o4]
      rcases win_x x3 0 1 (a := 0) (b := 1) (l := 0) (h := 1) rfl rfl rfl rfl (by decide) (by decide) with ⟨c, r0, r1, e3, r3, r4⟩ | ⟨r1, r3, r4⟩
      · rw [r3, r4]
        have ho : o < 64 := by omega
        have hs : s < 24 := by omega
        obtain ⟨f', o', f1, f2, f3, f4⟩ := fly_w (f := c_flight_loads_cells) (order := c_flight_order) (w := 0) hp hx (by decide)
        have f1 : DX1_fly (0 : Int32) _ _ _ _ _ _ _ _ _ _ = _ := f1
        obtain ⟨to', st', g1, g2⟩ := D9_turnTo_eq (to := m_to) (stood := m_stood) (w := 0) (last := 40) hn7 hp.1 (by decide) (by decide) hm.1 hm.2.2.2.2.2.1 hm.2.2.2.2.2.2.1 hTT
        have g1 : DX9_turnTo (40 : Int32) m_stands m_many m_days m_aims m_speeds m_kinds m_to m_stood (0 : Int32) = some (nI (run V K (ordL T (wout 0) n) S), to', st') := g1
        have he : run V K (ordL T (wout 0) n) S < 24 := run_lt hp.1
        generalize run V K (ordL T (wout 0) n) S = e at *
        have hwlt : wp s e < 24 := Nat.mod_lt _ (by decide)
        obtain ⟨c', k1, k2⟩ := D7_reach_eq (c := c_turns_need) ho
        obtain ⟨b0, k3, k4⟩ := D9_bf0_eq (f := m_fewest) ho hs
        obtain ⟨b1, k5, k6⟩ := D9_bf_eq ho hs k4
        have hway : DJ9_floorMod_7cf53 (nI e - nI s) (24 : Int32) = some (nI (wp s e)) := mod24_sub e he s hs
        have gd : ∀ {α : Type} (b : Option α), (if nI e < 0 ∨ 24 ≤ e then none else b) = b := fun b => p_h (by omega) (by omega)
        have h4 := dd_4 o ho (wp s e) hwlt
        have e10 : (10000 : Int32) = nI 10000 := rfl
        have e1000 : (1000 : Int32) = nI 1000 := rfl
        rw [f1, e1, e2]
        simp only [bd1_eq, bd5_eq, if_neg (show ¬ ((1 : Int32) = 0) by decide), k1, hway, k3, k5, g1, bd3_eq, p_tn (show e < 2147483648 by omega)]
        rw [gd, gd, k6 e he]
        unfold DX7_fewest DX7_firstSpeed
        rw [D8_at_eq hwlt (by decide), bd1_eq, bd1_eq, bd1_eq, k2 _ hwlt]
        by_cases hd : dd o (wp s e) = 10000
        · rw [if_pos hd, hd, if_pos (show nI 1000 = (1000 : Int32) from rfl), if_pos (show nI 1000 = (1000 : Int32) from rfl), if_neg (show ¬ nI 10000 < (10000 : Int32) by decide), bd1_eq]
          by_cases h0 : x3 = 0
          · rw [if_pos h0]
            exact ⟨_, _, _, _, _, _, _, _, _, _, _, rfl, rfl, hI0⟩
          · rw [if_neg h0]
            exact ⟨_, _, _, _, _, _, _, _, _, _, _, rfl, rfl, hI0⟩
        · have hlt : dd o (wp s e) ≤ 23 := by omega
          rw [if_neg hd, if_neg (show ¬ nI (dd o (wp s e)) = (1000 : Int32) by rw [e1000, p_eq (by omega) (by omega)]; omega), if_pos (show nI (dd o (wp s e)) < (10000 : Int32) by rw [e10, p_lt (by omega) (by omega)]; omega)]
          by_cases h0 : x3 = 0
          · rw [if_pos h0, if_pos h0, bd1_eq]
            exact ⟨_, _, _, _, _, _, _, _, _, _, _, rfl, rfl, hI0⟩
          · obtain ⟨r, v1, v2⟩ := D7_first_eq ho he hs k2 hd
            obtain ⟨r', w1, w2⟩ := D9_first_eq (to := to') (st := st') (ou := 0) ho he hs k6 hd
            have hrr := fsR_one v1 w1
            subst hrr
            rw [if_neg h0, if_neg h0, if_neg (show ¬ nI (dd o (wp s e)) = (1000 : Int32) by rw [e1000, p_eq (by omega) (by omega)]; omega), v2, w2]
            cases r with
            | none => exact ⟨_, _, _, _, _, _, _, _, _, _, _, rfl, rfl, hI0⟩
            | some v => exact ⟨_, _, _, _, _, _, _, _, _, _, _, rfl, rfl, hI0⟩
      · rw [r3, r4]
        exact ⟨_, _, _, _, _, _, _, _, _, _, _, rfl, rfl, hI0⟩
    · rw [o3, o4]
      exact ⟨_, _, _, _, _, _, _, _, _, _, _, rfl, rfl, hI0⟩
  · rw [s3, s4]
    exact ⟨_, _, _, _, _, _, _, _, _, _, _, rfl, rfl, hI0⟩
