/-! PURE: the reference's go -/
theorem lostS_succ_cases (P T V : Nat → Nat) (D : Nat) (l : List Nat) (t i : Nat) : lostS P T V D l (t + 1) i = t ∨ lostS P T V D l (t + 1) i = lostS P T V D l t i := by
  rw [lostS]
  split
  · exact Or.inl rfl
  · exact Or.inr rfl
theorem D9_homeDay_eq {homeFar : Nat → Int32} {a v D : Nat} (h0 : homeFar 0 = nI D) (hv : 1 ≤ v) (hv6 : v ≤ 6) (hD : D ≤ 60) (hD1 : 1 ≤ D) : DX9_homeDay (nI a) (nI v) homeFar = some (nI (a + (D + v - 1) / v)) := by
  unfold DX9_homeDay
  have e0 : (0 : Int32).toNatClampNeg = 0 := rfl
  have ez : (0 : Int32) = nI 0 := rfl
  have e : (nI D + nI v) - (1 : Int32) = nI (D + v - 1) := by
    rw [p_add]; exact p_sub (a := D + v) (b := 1) (by omega)
  rw [if_neg (by rw [ez, p_eq (by omega) (by omega)]; omega), e0, h0, e, p_div (by omega) (by omega) (by omega), p_add]
theorem D9_go_eq {stands homeFar many days aims speeds kinds to stood home lost : Nat → Int32} {S D n w : Nat} {T A V K : Nat → Nat} (hn : n ≤ 7) (hS : S < 24) (hw : w < 128) (hs0 : stands 0 = nI S) (hh0 : homeFar 0 = nI D) (hm0 : many 0 = nI n) (hm : Mth days aims speeds kinds n T A V K)
    (hB : ∀ i, i < n → T i ≤ 40 ∧ A i < 24 ∧ 1 ≤ V i ∧ V i ≤ 6 ∧ K i ≤ 3) (hD1 : 1 ≤ D) (hD : D ≤ 60) :
    ∃ to' stood' home' lost', DX9_go (nI w) stands homeFar many days aims speeds kinds to stood home lost = some (to', stood', home', lost', nI w) ∧
      (∀ i, i ∈ ordL T (wout w) n → to' i = nI (toP A V K (ordL T (wout w) n) S i) ∧ stood' i = nI (bhP V K (ordL T (wout w) n) S i)) ∧ Mday home' lost' n w (toP A V K (ordL T (wout w) n) S) T V D (ordL T (wout w) n) 101 := by
  have e0 : (0 : Int32).toNatClampNeg = 0 := rfl
  have hok : Tok n T V D := ⟨fun i hi => by have := hB i hi; omega, hD1, hD⟩
  have hP : ∀ i, toP A V K (ordL T (wout w) n) S i < 24 := fun i => Nat.mod_lt _ (by decide)
  obtain ⟨to1, st1, t1, t2⟩ := D9_turnTo_eq (to := to) (stood := stood) (last := 40) hn hS hw (by decide) hs0 hm0 hm hB
  have t2 : ∀ i, i ∈ ordL T (wout w) n → to1 i = nI (toP A V K (ordL T (wout w) n) S i) ∧ st1 i = nI (bhP V K (ordL T (wout w) n) S i) := t2
  have hto : ∀ i, i < n → wout w i = false → to1 i = nI (toP A V K (ordL T (wout w) n) S i) := fun i hi ho => (t2 i (mem_ordM.mpr ⟨hi, by have := (hB i hi).1; omega, ho⟩)).1
  have k1 := it_for2 (S := Int32 × (Nat → Int32) × (Nat → Int32)) (R := (Nat → Int32) × (Nat → Int32)) (f := fun st => DX9_go_L14s homeFar many days speeds (st.1) (st.2.1) (st.2.2))
    (fun k st => st.1 = nI k ∧ ∀ i, i < k → st.2.1 i = nI (hday T V D i) ∧ st.2.2 i = nI 10000) (fun r => ∀ i, i < n → r.1 i = nI (hday T V D i) ∧ r.2 i = nI 10000) n (s0 := ((0 : Int32), home, lost)) ⟨rfl, fun i h => by omega⟩ ?_ ?_ (by omega)
  · obtain ⟨⟨h1, l1⟩, q1, q2⟩ := k1
    simp only at q2
    have k2 := it_for2 (S := Int32 × (Nat → Int32) × (Nat → Int32)) (R := (Nat → Int32) × (Nat → Int32)) (f := fun st => DX9_go_L63s many days speeds to1 (nI w) (st.1) (st.2.1) (st.2.2))
      (fun t st => st.1 = nI t ∧ Mday st.2.1 st.2.2 n w (toP A V K (ordL T (wout w) n) S) T V D (ordL T (wout w) n) t) (fun r => Mday r.1 r.2 n w (toP A V K (ordL T (wout w) n) S) T V D (ordL T (wout w) n) 101) 101 (s0 := ((0 : Int32), h1, l1)) ⟨rfl, fun i hi => ⟨fun _ => ⟨(q2 i hi).2, (q2 i hi).1⟩, fun _ => ⟨(q2 i hi).2, (q2 i hi).1⟩⟩⟩ ?_ ?_ (by omega)
    · obtain ⟨⟨h2, l2⟩, p1, p2⟩ := k2
      refine ⟨to1, st1, h2, l2, ?_, t2, p2⟩
      unfold DX9_go DX9_go_L14 DX9_go_L63
      have e40 : (40 : Int32) = nI 40 := rfl
      rw [e40, t1, bd3_eq, q1, bd2_eq, p1, bd2_eq]
    · rintro t ⟨x2, h2, l2⟩ ht ⟨e1, md⟩
      simp only at e1 md
      subst e1
      left
      show ∃ s', DX9_go_L63s many days speeds to1 (nI w) (nI t) h2 l2 = some (.inl s') ∧ _
      unfold DX9_go_L63s
      obtain ⟨l3, g1, g2⟩ := D9_meetOn_eq hn hw (show t ≤ 100 by omega) hok hm0 (fun i hi => (hm i hi).1) (fun i hi => (hm i hi).2.2.1) hto hP md
      have e100 : (100 : Int32) = nI 100 := rfl
      have ht1 : nI t + (1 : Int32) = nI (t + 1) := p_add t 1
      have k3 := it_for2 (S := Int32 × (Nat → Int32)) (R := Nat → Int32) (f := fun st => DX9_go_L76s many l3 (nI t) (st.1) (st.2))
        (fun k st => st.1 = nI k ∧ (∀ i, i < k → st.2 i = if l3 i = nI t then nI t else h2 i) ∧ (∀ i, k ≤ i → st.2 i = h2 i)) (fun r => ∀ i, i < n → r i = if l3 i = nI t then nI t else h2 i) n (s0 := ((0 : Int32), h2)) ⟨rfl, fun i h => by omega, fun i _ => rfl⟩ ?_ ?_ (by omega)
      · obtain ⟨h3, r1, r2⟩ := k3
        rw [if_neg (by rw [e100, p_lt (by omega) (by omega)]; omega), g1, bd1_eq]
        unfold DX9_go_L76
        rw [r1, bd1_eq, ht1]
        refine ⟨_, rfl, rfl, fun i hi => ⟨fun ho => ?_, fun ho => ?_⟩⟩
        · simp only
          have z1 := (g2 i hi).1 ho
          refine ⟨z1, ?_⟩
          rw [r2 i hi, z1]
          have hlt : ∀ x, lostS (toP A V K (ordL T (wout w) n) S) T V D (ordL T (wout w) n) x i = 10000 ∨ lostS (toP A V K (ordL T (wout w) n) S) T V D (ordL T (wout w) n) x i < x := fun x => lost_or x i
          have ha := hlt (t + 1)
          by_cases hc : lostS (toP A V K (ordL T (wout w) n) S) T V D (ordL T (wout w) n) (t + 1) i = t
          · rw [if_pos (by rw [hc]), hc, if_neg (by omega)]
          · rw [if_neg (by rw [p_eq (by omega) (by omega)]; exact hc), ((md i hi).1 ho).2]
            rcases lostS_succ_cases (toP A V K (ordL T (wout w) n) S) T V D (ordL T (wout w) n) t i with q | q
            · exact absurd q hc
            · rw [q]
        · simp only
          have z1 := (g2 i hi).2 ho
          refine ⟨z1, ?_⟩
          rw [r2 i hi, z1, if_neg (by rw [p_eq (by omega) (by omega)]; omega), ((md i hi).2 ho).2]
      · rintro k ⟨x3, f1⟩ hk ⟨e1, e2, e3⟩
        simp only at e1 e2 e3
        subst e1
        left
        show ∃ s', DX9_go_L76s many l3 (nI t) (nI k) f1 = some (.inl s') ∧ _
        unfold DX9_go_L76s
        have hk1 : nI k + (1 : Int32) = nI (k + 1) := p_add k 1
        rw [e0, hm0, if_neg (by rw [p_le (by omega) (by omega)]; omega), p_g (by omega) (by decide), p_tn (by omega), hk1]
        by_cases hc : l3 k = nI t
        · rw [if_pos hc, p_h (by omega) (by omega)]
          refine ⟨_, rfl, rfl, fun i hi => ?_, fun i hi => ?_⟩
          · simp only; rw [upd_at]
            by_cases hik : i = k
            · subst hik; rw [if_pos rfl, if_pos hc]
            · rw [if_neg hik]; exact e2 i (by omega)
          · simp only; rw [upd_ne _ _ (by omega)]; exact e3 i (by omega)
        · rw [if_neg hc, p_h (by omega) (by omega), p_h (by omega) (by omega)]
          refine ⟨_, rfl, rfl, fun i hi => ?_, fun i hi => ?_⟩
          · simp only; rw [upd_at]
            by_cases hik : i = k
            · subst hik; rw [if_pos rfl, if_neg hc]; exact e3 i (Nat.le_refl _)
            · rw [if_neg hik]; exact e2 i (by omega)
          · simp only; rw [upd_ne _ _ (by omega)]; exact e3 i (by omega)
      · rintro ⟨x3, f1⟩ ⟨e1, e2, e3⟩
        simp only at e1 e2 e3
        subst e1
        show ∃ r, DX9_go_L76s many l3 (nI t) (nI n) f1 = some (.inr r) ∧ _
        unfold DX9_go_L76s
        rw [e0, hm0, if_pos (by rw [p_le (by omega) (by omega)]; omega)]
        exact ⟨_, rfl, e2⟩
    · rintro ⟨x2, h2, l2⟩ ⟨e1, md⟩
      simp only at e1 md
      subst e1
      show ∃ r, DX9_go_L63s many days speeds to1 (nI w) (nI 101) h2 l2 = some (.inr r) ∧ _
      unfold DX9_go_L63s
      rw [if_pos (by decide)]
      exact ⟨_, rfl, md⟩
  · rintro k ⟨x2, h1, l1⟩ hk ⟨e1, e2⟩
    simp only at e1 e2
    subst e1
    left
    show ∃ s', DX9_go_L14s homeFar many days speeds (nI k) h1 l1 = some (.inl s') ∧ _
    unfold DX9_go_L14s
    obtain ⟨m0, m1, m2, m3⟩ := hm k hk
    obtain ⟨b0, b1, b2, b3, b4⟩ := hB k hk
    have hk1 : nI k + (1 : Int32) = nI (k + 1) := p_add k 1
    rw [e0, hm0, if_neg (by rw [p_le (by omega) (by omega)]; omega), p_g (by omega) (by decide), p_g (by omega) (by decide), p_tn (by omega), m0, m2, D9_homeDay_eq hh0 b2 b3 hD hD1, bd1_eq, p_h (by omega) (by omega), p_h (by omega) (by omega), hk1]
    refine ⟨_, rfl, rfl, fun i hi => ?_⟩
    simp only
    by_cases hik : i = k
    · subst hik; rw [upd_same, upd_same]; exact ⟨rfl, rfl⟩
    · rw [upd_ne _ _ hik, upd_ne _ _ hik]; exact e2 i (by omega)
  · rintro ⟨x2, h1, l1⟩ ⟨e1, e2⟩
    simp only at e1 e2
    subst e1
    show ∃ r, DX9_go_L14s homeFar many days speeds (nI n) h1 l1 = some (.inr r) ∧ _
    unfold DX9_go_L14s
    rw [e0, hm0, if_pos (by rw [p_le (by omega) (by omega)]; omega)]
    exact ⟨_, rfl, e2⟩
