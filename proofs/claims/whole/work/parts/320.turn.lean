/-! PURE: the reference's turnTo -/
theorem p_h {α : Type} {a N : Nat} {b : Option α} (h : a < N) (ha : a < 2147483648) : (if nI a < 0 ∨ N ≤ a then none else b) = b := by
  rw [if_neg]
  rintro (h1 | h1)
  · exact p_neg ha h1
  · omega
theorem bkt_split {T : Nat → Nat} {o : Nat → Bool} {i t : Nat} (h1 : T i = t) (h2 : o i = false) : ∀ {n : Nat}, i < n → ∃ q, bkt T o n t = bkt T o i t ++ i :: q := by
  intro n
  induction n with
  | zero => intro h; omega
  | succ n ih =>
    intro h
    rw [bkt_succ]
    rcases Nat.lt_or_ge i n with hi | hi
    · obtain ⟨q, hq⟩ := ih hi
      exact ⟨q ++ (if T n = t ∧ o n = false then [n] else []), by rw [hq]; simp⟩
    · have : i = n := by omega
      subst this
      exact ⟨[], by rw [if_pos ⟨h1, h2⟩]⟩
theorem ordM_split {T : Nat → Nat} {o : Nat → Bool} {n t : Nat} : ∀ {m : Nat}, t < m → ∃ q, ordM T o n m = ordM T o n t ++ bkt T o n t ++ q := by
  intro m
  induction m with
  | zero => intro h; omega
  | succ m ih =>
    intro h
    rcases Nat.lt_or_ge t m with ht | ht
    · obtain ⟨q, hq⟩ := ih ht
      exact ⟨q ++ bkt T o n m, by rw [ordM_succ, hq]; simp⟩
    · have : t = m := by omega
      subst this
      exact ⟨[], by rw [ordM_succ, List.append_nil]⟩
theorem ordM_at {T : Nat → Nat} {o : Nat → Bool} {n m i t : Nat} (hi : i < n) (h1 : T i = t) (h2 : o i = false) (ht : t < m) : ∃ q, ordM T o n m = (ordM T o n t ++ bkt T o i t) ++ i :: q := by
  obtain ⟨q1, e1⟩ := ordM_split (T := T) (o := o) (n := n) ht
  obtain ⟨q2, e2⟩ := bkt_split h1 h2 hi
  exact ⟨q2 ++ q1, by rw [e1, e2]; simp⟩
/-- the reference's throws -/
def Mth (days aims speeds kinds : Nat → Int32) (n : Nat) (T A V K : Nat → Nat) : Prop := ∀ i, i < n → days i = nI (T i) ∧ aims i = nI (A i) ∧ speeds i = nI (V i) ∧ kinds i = nI (K i)
theorem D9_turnTo_eq {stands many days aims speeds kinds to stood : Nat → Int32} {S n w last : Nat} {T A V K : Nat → Nat} (hn : n ≤ 7) (hS : S < 24) (hw : w < 128) (hlast : last ≤ 100) (hs0 : stands 0 = nI S) (hm0 : many 0 = nI n) (hm : Mth days aims speeds kinds n T A V K)
    (hB : ∀ i, i < n → T i ≤ 40 ∧ A i < 24 ∧ 1 ≤ V i ∧ V i ≤ 6 ∧ K i ≤ 3) :
    ∃ to' stood', DX9_turnTo (nI last) stands many days aims speeds kinds to stood (nI w) = some (nI (run V K (ordM T (wout w) n (last + 1)) S), to', stood') ∧ ∀ i, i ∈ ordM T (wout w) n (last + 1) → to' i = nI (toP A V K (ordM T (wout w) n (last + 1)) S i) ∧ stood' i = nI (bhP V K (ordM T (wout w) n (last + 1)) S i) := by
  generalize hlF : ordM T (wout w) n (last + 1) = lF
  have inner : ∀ t (to stood : Nat → Int32), t ≤ last → (∀ i, i ∈ ordM T (wout w) n t → to i = nI (toP A V K lF S i) ∧ stood i = nI (bhP V K lF S i)) →
      ∃ to' stood', DX9_turnTo_L17 many days aims speeds kinds (nI w) (nI t) FU (nI (run V K (ordM T (wout w) n t) S)) (0 : Int32) to stood = some (nI (run V K (ordM T (wout w) n (t + 1)) S), to', stood') ∧ ∀ i, i ∈ ordM T (wout w) n (t + 1) → to' i = nI (toP A V K lF S i) ∧ stood' i = nI (bhP V K lF S i) := by
    intro t to stood htl h0
    have key := it_for2 (S := Int32 × Int32 × (Nat → Int32) × (Nat → Int32)) (R := Int32 × (Nat → Int32) × (Nat → Int32)) (f := fun st => DX9_turnTo_L17s many days aims speeds kinds (nI w) (nI t) (st.1) (st.2.1) (st.2.2.1) (st.2.2.2))
      (fun k st => st.1 = nI (run V K (ordM T (wout w) n t ++ bkt T (wout w) k t) S) ∧ st.2.1 = nI k ∧ ∀ i, i ∈ ordM T (wout w) n t ++ bkt T (wout w) k t → st.2.2.1 i = nI (toP A V K lF S i) ∧ st.2.2.2 i = nI (bhP V K lF S i))
      (fun r => r.1 = nI (run V K (ordM T (wout w) n (t + 1)) S) ∧ ∀ i, i ∈ ordM T (wout w) n (t + 1) → r.2.1 i = nI (toP A V K lF S i) ∧ r.2.2 i = nI (bhP V K lF S i)) n (s0 := (nI (run V K (ordM T (wout w) n t) S), (0 : Int32), to, stood)) ⟨by simp [bkt], rfl, fun i hi => h0 i (by simpa [bkt] using hi)⟩ ?_ ?_ (by omega)
    · obtain ⟨⟨r1, r2, r3⟩, q1, q2, q3⟩ := key
      simp only at q2 q3
      refine ⟨r2, r3, ?_, q3⟩
      unfold DX9_turnTo_L17
      rw [q1, q2]
    · rintro k ⟨x2, x4, to1, st1⟩ hk ⟨e1, e2, e3⟩
      simp only at e1 e2 e3
      subst e1 e2
      left
      show ∃ s', DX9_turnTo_L17s many days aims speeds kinds (nI w) (nI t) (nI (run V K (ordM T (wout w) n t ++ bkt T (wout w) k t) S)) (nI k) to1 st1 = some (.inl s') ∧ _
      unfold DX9_turnTo_L17s
      obtain ⟨m0, m1, m2, m3⟩ := hm k hk
      obtain ⟨b0, b1, b2, b3, b4⟩ := hB k hk
      have hk1 : nI k + (1 : Int32) = nI (k + 1) := p_add k 1
      have e0 : (0 : Int32).toNatClampNeg = 0 := rfl
      have hr24 : run V K (ordM T (wout w) n t ++ bkt T (wout w) k t) S < 24 := run_lt hS
      rw [e0, hm0, if_neg (by rw [p_le (by omega) (by omega)]; omega), p_g (by omega) (by decide), p_tn (by omega), m0, hk1]
      by_cases hT : T k = t
      · rw [if_pos (by rw [hT]), has_eq w hw k (by omega), bd1_eq]
        by_cases ho : w.testBit k = true
        · rw [if_pos ho, if_neg (by decide)]
          have hb : bkt T (wout w) (k + 1) t = bkt T (wout w) k t := by
            rw [bkt_succ, if_neg (by rintro ⟨-, q⟩; unfold wout at q; rw [ho] at q; cases q), List.append_nil]
          exact ⟨_, rfl, by rw [hb], rfl, by rw [hb]; exact e3⟩
        · have ho' : wout w k = false := by unfold wout; simpa using ho
          rw [if_neg ho, if_pos rfl, p_h (by omega) (by omega), m1, p_add, around_nat _ (by omega), bd1_eq, p_h (by omega) (by omega), p_h (by omega) (by omega), p_h (by omega) (by omega), m3, m2]
          have hb : bkt T (wout w) (k + 1) t = bkt T (wout w) k t ++ [k] := by rw [bkt_succ, if_pos ⟨hT, ho'⟩]
          obtain ⟨q, hq⟩ := ordM_at (m := last + 1) hk hT ho' (by omega)
          rw [hlF] at hq
          have hkn : k ∉ ordM T (wout w) n t ++ bkt T (wout w) k t := by
            intro h
            rcases List.mem_append.mp h with h | h
            · have := (mem_ordM.mp h).2.1; omega
            · have := (mem_bkt.mp h).1; omega
          have hst : stb V K lF S k = run V K (ordM T (wout w) n t ++ bkt T (wout w) k t) S := by rw [hq]; exact stb_at hkn
          have hto : (run V K (ordM T (wout w) n t ++ bkt T (wout w) k t) S + A k) % 24 = toP A V K lF S k := by unfold toP; rw [hst]
          rw [hto]
          -- what follows the kind
          have fin : ∀ y, y * V k = trn V K k ∨ V k * y = trn V K k → ∃ s', DX9_turnTo_J109 (upd to1 k (nI (toP A V K lF S k))) st1 (nI y) (nI (V k)) (nI (run V K (ordM T (wout w) n t ++ bkt T (wout w) k t) S)) (nI k) = some (.inl s') ∧ (s'.1 = nI (run V K (ordM T (wout w) n t ++ bkt T (wout w) (k + 1) t) S) ∧ s'.2.1 = nI (k + 1) ∧ ∀ i, i ∈ ordM T (wout w) n t ++ bkt T (wout w) (k + 1) t → s'.2.2.1 i = nI (toP A V K lF S i) ∧ s'.2.2.2 i = nI (bhP V K lF S i)) := by
            intro y hy
            have hy' : V k * y = trn V K k := by rcases hy with h | h; rw [Nat.mul_comm]; exact h; exact h
            have htr := trn_lt (V := V) (K := K) (i := k) b3
            have hbh : (run V K (ordM T (wout w) n t ++ bkt T (wout w) k t) S + 24 - trn V K k) % 24 = bhP V K lF S k := by unfold bhP nxt; rw [hst]
            unfold DX9_turnTo_J109
            rw [p_mul, hy', around_sub _ hr24 _ htr, bd1_eq, p_g (by omega) (by decide), p_tn (by omega), hk1, hbh]
            refine ⟨_, rfl, ?_, rfl, fun i hi => ?_⟩
            · simp only
              rw [hb, ← List.append_assoc, run_app]
              show nI (bhP V K lF S k) = nI (nxt V K (run V K (ordM T (wout w) n t ++ bkt T (wout w) k t) S) k)
              unfold bhP; rw [hst]
            · simp only
              rw [hb, ← List.append_assoc] at hi
              rcases List.mem_append.mp hi with h | h
              · have hik : i ≠ k := fun e => hkn (e ▸ h)
                rw [upd_ne _ _ hik, upd_ne _ _ hik]
                exact e3 i h
              · have : i = k := by simpa using h
                subst this
                rw [upd_same, upd_same]
                exact ⟨rfl, rfl⟩
          have d1 : (1 : Int32) = nI 1 := rfl
          have d2 : (2 : Int32) = nI 2 := rfl
          have d0 : (0 : Int32) = nI 0 := rfl
          by_cases k1 : K k = 1
          · rw [if_pos (by rw [k1]; rfl)]
            exact fin 2 (Or.inl (by unfold trn; rw [if_pos k1]))
          · rw [if_neg (by rw [d1, p_eq (by omega) (by omega)]; exact k1), p_h (by omega) (by omega)]
            by_cases k2 : K k = 2
            · rw [if_pos (by rw [k2]; rfl)]
              exact fin 0 (Or.inl (by unfold trn; rw [if_neg k1, if_pos k2, Nat.zero_mul]))
            · rw [if_neg (by rw [d2, p_eq (by omega) (by omega)]; exact k2)]
              exact fin 1 (Or.inl (by unfold trn; rw [if_neg k1, if_neg k2, Nat.one_mul]))
      · rw [if_neg (by rw [p_eq (by omega) (by omega)]; exact hT)]
        have hb : bkt T (wout w) (k + 1) t = bkt T (wout w) k t := by
          rw [bkt_succ, if_neg (by rintro ⟨q, -⟩; exact hT q), List.append_nil]
        exact ⟨_, rfl, by rw [hb], rfl, by rw [hb]; exact e3⟩
    · rintro ⟨x2, x4, to1, st1⟩ ⟨e1, e2, e3⟩
      simp only at e1 e2 e3
      subst e1 e2
      show ∃ r, DX9_turnTo_L17s many days aims speeds kinds (nI w) (nI t) _ (nI n) to1 st1 = some (.inr r) ∧ _
      unfold DX9_turnTo_L17s
      have e0 : (0 : Int32).toNatClampNeg = 0 := rfl
      rw [e0, hm0, if_pos (by rw [p_le (by omega) (by omega)]; omega)]
      exact ⟨_, rfl, by rw [ordM_succ], by rw [ordM_succ]; exact e3⟩
  have key := it_for2 (S := Int32 × Int32 × (Nat → Int32) × (Nat → Int32)) (R := Int32 × (Nat → Int32) × (Nat → Int32)) (f := fun st => DX9_turnTo_L9s (nI last) many days aims speeds kinds (nI w) (st.1) (st.2.1) (st.2.2.1) (st.2.2.2))
    (fun t st => st.1 = nI (run V K (ordM T (wout w) n t) S) ∧ st.2.1 = nI t ∧ ∀ i, i ∈ ordM T (wout w) n t → st.2.2.1 i = nI (toP A V K lF S i) ∧ st.2.2.2 i = nI (bhP V K lF S i))
    (fun r => r.1 = nI (run V K lF S) ∧ ∀ i, i ∈ lF → r.2.1 i = nI (toP A V K lF S i) ∧ r.2.2 i = nI (bhP V K lF S i)) (last + 1) (s0 := (nI S, (0 : Int32), to, stood)) ⟨rfl, rfl, fun i hi => by simp [ordM] at hi⟩ ?_ ?_ (by omega)
  · obtain ⟨⟨r1, r2, r3⟩, q1, q2, q3⟩ := key
    simp only at q2 q3
    refine ⟨r2, r3, ?_, q3⟩
    unfold DX9_turnTo DX9_turnTo_L9
    have e0 : (0 : Int32).toNatClampNeg = 0 := rfl
    rw [e0, hs0, q1, bd3_eq, q2]
  · rintro t ⟨x2, x3, to1, st1⟩ ht ⟨e1, e2, e3⟩
    simp only at e1 e2 e3
    subst e1 e2
    left
    show ∃ s', DX9_turnTo_L9s (nI last) many days aims speeds kinds (nI w) (nI (run V K (ordM T (wout w) n t) S)) (nI t) to1 st1 = some (.inl s') ∧ _
    unfold DX9_turnTo_L9s
    obtain ⟨to2, st2, i1, i2⟩ := inner t to1 st1 (by omega) e3
    have ht1 : nI t + (1 : Int32) = nI (t + 1) := p_add t 1
    rw [if_neg (by rw [p_lt (by omega) (by omega)]; omega), i1, bd3_eq, ht1]
    exact ⟨_, rfl, rfl, rfl, i2⟩
  · rintro ⟨x2, x3, to1, st1⟩ ⟨e1, e2, e3⟩
    simp only at e1 e2 e3
    subst e1 e2
    show ∃ r, DX9_turnTo_L9s (nI last) many days aims speeds kinds (nI w) _ (nI (last + 1)) to1 st1 = some (.inr r) ∧ _
    unfold DX9_turnTo_L9s
    rw [if_pos (by rw [p_lt (by omega) (by omega)]; omega)]
    rw [hlF] at e3 ⊢
    exact ⟨_, rfl, rfl, e3⟩
