/-! PURE: net -/
theorem caughtB_congr {NP NW NF NU NP' NW' NF' NU' : Nat → Nat} {p d : Nat} : ∀ {nn : Nat}, (∀ k, k < nn → NP' k = NP k ∧ NW' k = NW k ∧ NF' k = NF k ∧ NU' k = NU k) → caughtB NP' NW' NF' NU' nn p d = caughtB NP NW NF NU nn p d
  | 0, _ => rfl
  | nn + 1, h => by
    rw [caughtB_succ, caughtB_succ, caughtB_congr (fun k hk => h k (by omega))]
    obtain ⟨h1, h2, h3, h4⟩ := h nn (by omega)
    rw [h1, h2, h3, h4]
section NT
variable {S D n px py nn w : Nat} {P T A V K NP NW NF NU : Nat → Nat} {l : List Nat}
/-- caught with a net more -/
def mwB (P T V K : Nat → Nat) (D : Nat) (l : List Nat) (NP NW NF NU : Nat → Nat) (nn p w i : Nat) : Bool := decide (howS P T V K D l NP NW NF NU nn i = 0) || (decide (howS P T V K D l NP NW NF NU nn i = 1) && decide (ap (hplc P V K D i) p ≤ w))
theorem howS_more {p i : Nat} (hd : hday T V D i ≤ 10000) : decide (howS P T V K D l (setF NP nn p) (setF NW nn w) (setF NF nn 0) (setF NU nn 10000) (nn + 1) i = 0) = mwB P T V K D l NP NW NF NU nn p w i := by
  have hc : ctB P T V K D (setF NP nn p) (setF NW nn w) (setF NF nn 0) (setF NU nn 10000) (nn + 1) i = (ctB P T V K D NP NW NF NU nn i || decide (ap (hplc P V K D i) p ≤ w)) := by
    unfold ctB
    rw [caughtB_succ, caughtB_congr (NP := NP) (NW := NW) (NF := NF) (NU := NU) (fun k hk => ⟨setF_ne _ (by omega), setF_ne _ (by omega), setF_ne _ (by omega), setF_ne _ (by omega)⟩), setF_at, setF_at, setF_at, setF_at]
    simp [hd]
  unfold mwB howS
  rw [hc]
  by_cases ha : lostS P T V D l 101 i = 10000
  · rw [if_pos ha, if_pos ha]
    cases ctB P T V K D NP NW NF NU nn i
    · by_cases h : ap (hplc P V K D i) p ≤ w <;> simp [h]
    · simp
  · rw [if_neg ha, if_neg ha]; rfl
theorem D1_caughtWith_eq {f order : Nat → Int32} {p : Nat} (hn : n ≤ 7) (hl : ∀ i ∈ l, i < n) (hlen : l.length ≤ 7) (hL : Lr order l) (hf : ∀ i, i ∈ l → Fin f P T V K D l NP NW NF NU nn px py i) (hp : p < 24) (hw : w ≤ 3) (hP : ∀ i, i < n → hplc P V K D i < 24) :
    DX1_caughtWith (nI p) (nI w) f order (nI l.length) = some (nI (l.countP (mwB P T V K D l NP NW NF NU nn p w))) := by
  unfold DX1_caughtWith DX1_caughtWith_L5
  generalize hM : mwB P T V K D l NP NW NF NU nn p w = M
  have h0 : ((0 : Int32), (0 : Int32)) = (fun k => (nI ((l.take k).countP M), nI k)) 0 := by simp only [List.take_zero]; rfl
  rw [h0, it_for (fun k => (nI ((l.take k).countP M), nI k)) (r := nI (l.countP M)) l.length ?_ ?_ (by omega), bd1_eq]
  · intro k hk
    show DX1_caughtWith_L5s (nI p) (nI w) f order (nI l.length) (nI ((l.take k).countP M)) (nI k) = some (.inl (nI ((l.take (k + 1)).countP M), nI (k + 1)))
    unfold DX1_caughtWith_L5s DX1_caughtWith_J64
    have hki := at0_some hk
    have hil := at0_mem hk
    generalize at0 l k = i at hki hil
    have hin := hl i hil
    have hk1 : nI k + (1 : Int32) = nI (k + 1) := p_add k 1
    have htake : l.take (k + 1) = l.take k ++ [i] := by rw [List.take_succ, hki]; rfl
    obtain ⟨z6, z7, z8, z9⟩ := hf i hil
    have hh := howS_le (P := P) (T := T) (V := V) (K := K) (D := D) (l := l) (NP := NP) (NW := NW) (NF := NF) (NU := NU) (nn := nn) i
    have hMi : M i = (decide (howS P T V K D l NP NW NF NU nn i = 0) || (decide (howS P T V K D l NP NW NF NU nn i = 1) && decide (ap (hplc P V K D i) p ≤ w))) := by rw [← hM]; rfl
    have g6 : DX5_get (nI i) (6 : Int32) (7 : Int32) (10 : Int32) 70 f = some (nI (howS P T V K D l NP NW NF NU nn i)) := by
      have := getL (f := f) (i := i) (c := 6) (by omega) (by decide)
      rw [z6] at this; exact this
    have hcnt : (l.take (k + 1)).countP M = (l.take k).countP M + (if M i = true then 1 else 0) := by
      rw [htake, List.countP_append, List.countP_singleton]
    have e1 : (1 : Int32) = nI 1 := rfl
    have e0 : (0 : Int32) = nI 0 := rfl
    have yes : M i = true → (some (.inl ((nI ((l.take k).countP M) + (1 : Int32)), nI (k + 1))) : Option ((Int32 × Int32) ⊕ Int32)) = some (.inl (nI ((l.take (k + 1)).countP M), nI (k + 1))) := fun h => by
      rw [hcnt, if_pos h]
      exact congrArg some (congrArg Sum.inl (Prod.ext (p_add _ 1) rfl))
    have no : M i = false → (some (.inl (nI ((l.take k).countP M), nI (k + 1))) : Option ((Int32 × Int32) ⊕ Int32)) = some (.inl (nI ((l.take (k + 1)).countP M), nI (k + 1))) := fun h => by
      rw [hcnt, if_neg (by rw [h]; decide)]; rfl
    rw [if_neg (by rw [p_le (by omega) (by omega)]; omega), D8_at_eq (by omega) (by decide), bd1_eq, hL k i hki, g6, bd1_eq, hk1]
    by_cases hb : howS P T V K D l NP NW NF NU nn i = 1
    · have ha : lostS P T V D l 101 i = 10000 := by
        unfold howS at hb
        by_cases ha : lostS P T V D l 101 i = 10000
        · exact ha
        · rw [if_neg ha] at hb; omega
      have g9 : DX5_get (nI i) (9 : Int32) (7 : Int32) (10 : Int32) 70 f = some (nI (hplc P V K D i)) := by
        have := getL (f := f) (i := i) (c := 9) (by omega) (by decide)
        rw [z9 ha] at this; exact this
      have hapl := ap_lt (hplc P V K D i) p
      rw [if_pos (by rw [hb]; rfl), g9, bd1_eq, apart_x _ (hP i hin) p hp, bd1_eq]
      by_cases hc : ap (hplc P V K D i) p ≤ w
      · rw [if_neg (by rw [p_lt (by omega) (by omega)]; omega), if_neg (by decide)]
        exact yes (by rw [hMi]; simp [hb, hc])
      · rw [if_pos (by rw [p_lt (by omega) (by omega)]; omega), if_pos rfl, bd1_eq, hb, if_neg (by decide)]
        exact no (by rw [hMi]; simp [hb, hc])
    · rw [if_neg (by rw [e1, p_eq (by omega) (by omega)]; exact hb), if_pos rfl, bd1_eq]
      by_cases hc : howS P T V K D l NP NW NF NU nn i = 0
      · rw [if_pos (by rw [hc]; rfl)]
        exact yes (by rw [hMi]; simp [hc])
      · rw [if_neg (by rw [e0, p_eq (by omega) (by omega)]; exact hc)]
        exact no (by rw [hMi]; simp [hb, hc])
  · show DX1_caughtWith_L5s (nI p) (nI w) f order (nI l.length) (nI ((l.take l.length).countP M)) (nI l.length) = _
    unfold DX1_caughtWith_L5s
    rw [if_pos (by rw [p_le (by omega) (by omega)]; omega), List.take_length]
theorem D8_net_L_eq {f order : Nat → Int32} {v : Nat → Nat} {dn : Int32} (hv : ∀ p, p < 24 → DX1_caughtWith (nI p) (nI w) f order dn = some (nI (v p))) (hvl : ∀ k, v k ≤ 1000) :
    DX8_net_L40 (nI w) f order dn FU (0 : Int32) (-1 : Int32) (0 : Int32) = some (nI (bst v 23).1, nI (bst v 23).2) := by
  have key := it_for2 (S := Int32 × Int32 × Int32) (R := Int32 × Int32) (f := fun st => DX8_net_L40s (nI w) f order dn (st.1) (st.2.1) (st.2.2))
    (fun k st => st.2.2 = nI k ∧ Bst v (-1) k st.1 st.2.1) (fun r => r.1 = nI (bst v 23).1 ∧ r.2 = nI (bst v 23).2) 24 (s0 := ((0 : Int32), (-1 : Int32), (0 : Int32))) ⟨rfl, ⟨fun _ => ⟨rfl, rfl⟩, fun j hj => absurd hj (by omega)⟩⟩ ?_ ?_ (by omega)
  · obtain ⟨⟨r1, r2⟩, q1, q2, q3⟩ := key
    simp only at q2 q3
    unfold DX8_net_L40
    rw [q1, q2, q3]
  · rintro k ⟨x3, x4, x5⟩ hk ⟨h1, h2⟩
    simp only at h1 h2
    subst h1
    left
    show ∃ s', DX8_net_L40s (nI w) f order dn x3 x4 (nI k) = some (.inl s') ∧ _
    unfold DX8_net_L40s
    have e24 : (24 : Int32) = nI 24 := rfl
    have hk1 : nI k + (1 : Int32) = nI (k + 1) := p_add k 1
    have hgo := Bst_go (z := -1) (by decide) hvl h2
    rw [e24, if_neg (by rw [p_le (by omega) (by omega)]; omega), hv k hk, bd1_eq, hk1]
    by_cases hc : nI (v k) ≤ x4
    · rw [if_pos hc, if_pos hc] at hgo
      rw [if_pos hc]
      exact ⟨_, rfl, rfl, hgo⟩
    · rw [if_neg hc, if_neg hc] at hgo
      rw [if_neg hc]
      exact ⟨_, rfl, rfl, hgo⟩
  · rintro ⟨x3, x4, x5⟩ ⟨h1, h2⟩
    simp only at h1 h2
    subst h1
    show ∃ r, DX8_net_L40s (nI w) f order dn x3 x4 (nI 24) = some (.inr r) ∧ _
    unfold DX8_net_L40s
    rw [if_pos (by decide)]
    exact ⟨_, rfl, h2.2 23 rfl⟩
theorem D9_net_L_eq {mn na nw ng nt mm days kinds to home lost : Nat → Int32} {v : Nat → Nat} (hnn : nn ≤ 5) (hv : ∀ p na', p < 24 → (∀ j, j ≠ nn → na' j = na j) → na' nn = nI p → DX9_howMany (0 : Int32) mn na' nw ng nt mm days kinds to home lost = some (nI (v p))) (hvl : ∀ k, v k ≤ 1000) :
    ∃ na', DX9_net_L79 mn nw ng nt mm days kinds to home lost (nI nn) FU (0 : Int32) (-4 : Int32) (0 : Int32) na = some (nI (bst v 23).1, nI (bst v 23).2, na') ∧ ∀ j, j ≠ nn → na' j = na j := by
  have key := it_for2 (S := Int32 × Int32 × Int32 × (Nat → Int32)) (R := Int32 × Int32 × (Nat → Int32)) (f := fun st => DX9_net_L79s mn nw ng nt mm days kinds to home lost (nI nn) (st.1) (st.2.1) (st.2.2.1) (st.2.2.2))
    (fun k st => st.2.2.1 = nI k ∧ Bst v (-4) k st.1 st.2.1 ∧ ∀ j, j ≠ nn → st.2.2.2 j = na j) (fun r => (r.1 = nI (bst v 23).1 ∧ r.2.1 = nI (bst v 23).2) ∧ ∀ j, j ≠ nn → r.2.2 j = na j) 24 (s0 := ((0 : Int32), (-4 : Int32), (0 : Int32), na)) ⟨rfl, ⟨fun _ => ⟨rfl, rfl⟩, fun j hj => absurd hj (by omega)⟩, fun j _ => rfl⟩ ?_ ?_ (by omega)
  · obtain ⟨⟨r1, r2, na'⟩, q1, ⟨q2, q3⟩, q4⟩ := key
    simp only at q2 q3 q4
    refine ⟨na', ?_, q4⟩
    unfold DX9_net_L79
    rw [q1, q2, q3]
  · rintro k ⟨x4, x5, x6, na1⟩ hk ⟨h1, h2, h3⟩
    simp only at h1 h2 h3
    subst h1
    left
    show ∃ s', DX9_net_L79s mn nw ng nt mm days kinds to home lost (nI nn) x4 x5 (nI k) na1 = some (.inl s') ∧ _
    unfold DX9_net_L79s DX9_net_J115
    have e24 : (24 : Int32) = nI 24 := rfl
    have hk1 : nI k + (1 : Int32) = nI (k + 1) := p_add k 1
    have hgo := Bst_go (z := -4) (by decide) hvl h2
    have hcell : ∀ j, j ≠ nn → upd na1 nn (nI k) j = na j := fun j hne => by rw [upd_ne _ _ hne]; exact h3 j hne
    rw [e24, if_neg (by rw [p_le (by omega) (by omega)]; omega), p_g (by omega) (by decide), p_tn (by omega), hv k _ hk hcell (upd_same _ _ _), bd1_eq, hk1]
    by_cases hc : nI (v k) ≤ x5
    · rw [if_pos hc, if_pos hc] at hgo
      rw [if_pos hc, if_pos hc]
      exact ⟨_, rfl, rfl, hgo, hcell⟩
    · rw [if_neg hc, if_neg hc] at hgo
      rw [if_neg hc, if_neg hc]
      exact ⟨_, rfl, rfl, hgo, hcell⟩
  · rintro ⟨x4, x5, x6, na1⟩ ⟨h1, h2, h3⟩
    simp only at h1 h2 h3
    subst h1
    show ∃ r, DX9_net_L79s mn nw ng nt mm days kinds to home lost (nI nn) x4 x5 (nI 24) na1 = some (.inr r) ∧ _
    unfold DX9_net_L79s
    rw [if_pos (by decide)]
    exact ⟨_, rfl, h2.2 23 rfl, h3⟩
theorem Mend_more {mn na nw ng nt mx my mm days kinds to home lost na' : Nat → Int32} {p : Nat} (h : Mend mn na nw ng nt mx my mm days kinds to home lost n D nn px py 0 P T V K NP NW NF NU l) (hnn : nn ≤ 5) (hp : p < 24) (hw : w ≤ 3) (hk : ∀ j, j ≠ nn → na' j = na j) (ha : na' nn = nI p) :
    Mend (upd mn 0 (nI (nn + 1))) na' (upd nw nn (nI w)) (upd ng nn (nI 0)) (upd nt nn (nI 10000)) mx my mm days kinds to home lost n D (nn + 1) px py 0 P T V K (setF NP nn p) (setF NW nn w) (setF NF nn 0) (setF NU nn 10000) l := by
  obtain ⟨h1, h2, h3, h4, h5, h6, h7, h8, h9, h10, h11, h12, h13⟩ := h
  refine ⟨upd_same _ _ _, fun k hkk => ?_, ⟨by omega, fun k hkk => ?_⟩, h4, h5, h6, h7, h8, h9, h10, h11, h12, h13⟩
  · by_cases e : k = nn
    · rw [e, setF_at, setF_at, setF_at, setF_at, upd_same, upd_same, upd_same]
      exact ⟨ha, rfl, rfl, rfl⟩
    · rw [setF_ne _ e, setF_ne _ e, setF_ne _ e, setF_ne _ e, upd_ne _ _ e, upd_ne _ _ e, upd_ne _ _ e, hk k e]
      exact h2 k (by omega)
  · by_cases e : k = nn
    · rw [e, setF_at, setF_at, setF_at, setF_at]
      exact ⟨hp, hw, by omega, by omega⟩
    · rw [setF_ne _ e, setF_ne _ e, setF_ne _ e, setF_ne _ e]
      exact h3.2 k (by omega)
end NT
theorem s_net : S_net Inv0 := by
  intro c_text_bytes c_text_length c_reader_numbers c_reader_next c_laid_stand c_laid_home c_laid_priceStart c_laid_priceStep c_laid_thrown_cells c_laid_thrown_filled c_laid_nets_cells c_laid_nets_filled c_trial_stand c_trial_home c_trial_priceStart c_trial_priceStep c_trial_thrown_cells c_trial_thrown_filled c_trial_nets_cells c_trial_nets_filled c_flight_loads_cells c_flight_loads_filled c_flight_order c_flight_done c_flight_start c_flight_end c_changes_who c_changes_column c_changes_was c_changes_held c_kept_older_cells c_kept_older_filled c_kept_newer_cells c_kept_newer_filled c_kept_held c_turns_need m_length m_text m_stands m_homeFar m_nets m_netAt m_netWide m_netFrom m_netTo m_priceX m_priceY m_many m_days m_aims m_speeds m_kinds m_keptMany m_undoMany m_undos m_spot m_told m_to m_stood m_home m_lost m_out m_fewest m_ways m_next m_held hI x1 x2
  have hI0 := hI
  obtain ⟨hT, n, ⟨S, D, px, py, nn, T, A, V, K, NP, NW, NF, NU, hn1, hp, hx, hm⟩, hU, hK⟩ := hI
  have hn7 := hp.2.2.2.1
  have hnn5 := hp.2.2.2.2.2.2.1
  have hTT := hp.2.2.2.2.2.2.2.1
  have ez : (0 : Int32).toNatClampNeg = 0 := rfl
  have hmn := hm.2.2.1
  unfold DX8_net DX9_net
  rcases win_x x1 0 3 (a := 0) (b := 3) (l := 0) (h := 3) rfl rfl rfl rfl (by decide) (by decide) with ⟨w, s0, s1, e1, s3, s4⟩ | ⟨s1, s3, s4⟩
  · rw [s3, s4]
    rcases win_x x2 0 1 (a := 0) (b := 1) (l := 0) (h := 1) rfl rfl rfl rfl (by decide) (by decide) with ⟨c, r0, r1, e2, r3, r4⟩ | ⟨r1, r3, r4⟩
    · rw [r3, r4]
      obtain ⟨f', o', f1, f2, f3, f4⟩ := fly_w (f := c_flight_loads_cells) (order := c_flight_order) (w := 0) hp hx (by decide)
      obtain ⟨to', st', ho', lo', g1, g2, g3⟩ := go_w (to := m_to) (stood := m_stood) (home := m_home) (lost := m_lost) (w := 0) hp hm (by decide)
      have f1 : DX1_fly (0 : Int32) _ _ _ _ _ _ _ _ _ _ = _ := f1
      have g1 : DX9_go (0 : Int32) _ _ _ _ _ _ _ _ _ _ _ = _ := g1
      have hl : ∀ i ∈ ordL T (wout 0) n, i < n := fun i hi => (mem_ordM.mp hi).1
      have hlen : (ordL T (wout 0) n).length ≤ 7 := Nat.le_trans (ordM_len T (wout 0) n 41) hn7
      have hperm := ordL_perm (T := T) (n := n) (fun i hi => (hTT i hi).1)
      generalize toP A V K (ordL T (wout 0) n) S = P at *
      generalize ordL T (wout 0) n = l at *
      have hpl : ∀ i, hplc P V K D i < 24 := fun i => Nat.mod_lt _ (by decide)
      have hday : ∀ i, i < n → hday T V D i ≤ 10000 := fun i hi => by
        obtain ⟨q1, q2, q3, q4, q5⟩ := hTT i hi
        have := dys_le (V := V) (D := D) q3 hp.2.2.1
        unfold hday; omega
      generalize hv : (fun p => l.countP (mwB P T V K D l NP NW NF NU nn p w)) = v
      have hvl : ∀ k, v k ≤ 1000 := fun k => by
        rw [← hv]
        have := List.countP_le_length (p := mwB P T V K D l NP NW NF NU nn k w) (l := l)
        show l.countP (mwB P T V K D l NP NW NF NU nn k w) ≤ 1000
        omega
      have hX := D8_net_L_eq (w := w) (f := f') (order := o') (v := v) (dn := nI l.length) (fun p hp24 => by rw [← hv]; exact D1_caughtWith_eq hn7 hl hlen f2 f4 hp24 (by omega) (fun i _ => hpl i)) hvl
      have hM := D9_net_L_eq (mn := upd m_nets 0 (nI (nn + 1))) (na := m_netAt) (nw := upd m_netWide nn (nI w)) (ng := upd m_netFrom nn (nI 0)) (nt := upd m_netTo nn (nI 10000)) (mm := m_many) (days := m_days) (kinds := m_kinds) (to := to') (home := ho') (lost := lo') (v := v) (nn := nn) hnn5 (fun p na' hp24 hk ha => by
        have hme := D9_howMany_eq (Mend_more g3 hnn5 hp24 (w := w) (by omega) hk ha) (how := 0) (by decide)
        have e : cntS P T V K D l (setF NP nn p) (setF NW nn w) (setF NF nn 0) (setF NU nn 10000) (nn + 1) n 0 = v p := by
          rw [← hv]
          unfold cntS
          show _ = l.countP (mwB P T V K D l NP NW NF NU nn p w)
          rw [hperm.countP_eq]
          refine List.countP_congr (fun i hi => ?_)
          rw [howS_more (hday i (List.mem_range.mp hi))]
        rw [e] at hme
        exact hme) hvl
      obtain ⟨na', hM1, hM2⟩ := hM
      have gd : ∀ {α : Type} (b : Option α), (if nI nn < 0 ∨ 12 ≤ nn then none else b) = b := fun b => p_h (by omega) (by omega)
      have hinc : nI nn + (1 : Int32) = nI (nn + 1) := p_add nn 1
      have hdec : nI (nn + 1) - (1 : Int32) = nI nn := p_sub (a := nn + 1) (b := 1) (by omega)
      have hM1 : DX9_net_L79 (upd m_nets 0 (nI (nn + 1))) (upd m_netWide nn (nI w)) (upd m_netFrom nn (0 : Int32)) (upd m_netTo nn (10000 : Int32)) m_many m_days m_kinds to' ho' lo' (nI nn) FU (0 : Int32) (-4 : Int32) (0 : Int32) m_netAt = _ := hM1
      rw [f1, g1, e1]
      rw [bd1_eq, bd1_eq, if_neg (by decide), if_neg (by decide)]
      rw [bd1_eq, bd1_eq, if_neg (by decide), if_neg (by decide), bd5_eq, bd5_eq, hX, bd2_eq, ez, hmn, p_tn (show nn < 2147483648 by omega), gd, gd, gd, hinc, hM1, bd3_eq, upd_same, hdec]
      have hI1 : Inv0 c_text_bytes c_text_length c_laid_stand c_laid_home c_laid_priceStart c_laid_priceStep c_laid_thrown_cells c_laid_thrown_filled c_laid_nets_cells c_laid_nets_filled c_changes_who c_changes_column c_changes_was c_changes_held c_kept_older_cells c_kept_older_filled c_kept_newer_cells c_kept_newer_filled c_kept_held m_length m_text m_stands m_homeFar (upd (upd m_nets 0 (nI (nn + 1))) 0 (nI nn)) na' (upd m_netWide nn (nI w)) (upd m_netFrom nn (0 : Int32)) (upd m_netTo nn (10000 : Int32)) m_priceX m_priceY m_many m_days m_aims m_speeds m_kinds m_keptMany m_undoMany m_undos := by
        obtain ⟨b1, b2, b3, b4, b5, b6, b7, b8⟩ := hm
        refine ⟨hT, n, ⟨S, D, px, py, nn, T, A, V, K, NP, NW, NF, NU, hn1, hp, hx, b1, b2, upd_same _ _ _, b4, b5, b6, b7, fun k hk => ?_⟩, hU, hK⟩
        rw [hM2 k (by omega), upd_ne _ _ (show k ≠ nn by omega), upd_ne _ _ (show k ≠ nn by omega), upd_ne _ _ (show k ≠ nn by omega)]
        exact b8 k hk
      by_cases h0 : x2 = 0
      · rw [if_pos h0, if_pos h0]
        exact ⟨_, _, _, _, _, _, _, _, _, _, _, _, _, _, _, _, rfl, rfl, hI1⟩
      · rw [if_neg h0, if_neg h0]
        exact ⟨_, _, _, _, _, _, _, _, _, _, _, _, _, _, _, _, rfl, rfl, hI1⟩
    · rw [r3, r4]
      exact ⟨_, _, _, _, _, _, _, _, _, _, _, _, _, _, _, _, rfl, rfl, hI0⟩
  · rw [s3, s4]
    exact ⟨_, _, _, _, _, _, _, _, _, _, _, _, _, _, _, _, rfl, rfl, hI0⟩
