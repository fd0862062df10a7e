/-! PURE: the reference's meetOn, its loops -/
/-- the bits of those that meet, of the pairs that the loops have been at -/
def Bits (P T V : Nat → Nat) (D : Nat) (l : List Nat) (w t i j m : Nat) : Prop := m < 128 ∧ ∀ x, x < 7 → (m.testBit x = true ↔ ∃ a b, b < a ∧ (a < i ∨ (a = i ∧ b < j)) ∧ MT P T V D l w t a b ∧ (x = a ∨ x = b))
theorem D9_meetOn_L17_eq {days speeds to home lost : Nat → Int32} {n w t D i : Nat} {T V P : Nat → Nat} {l : List Nat} (hn : n ≤ 7) (hw : w < 128) (ht : t ≤ 100) (hok : Tok n T V D) (hd : ∀ i, i < n → days i = nI (T i)) (hs : ∀ i, i < n → speeds i = nI (V i)) (hto : ∀ i, i < n → wout w i = false → to i = nI (P i)) (hP : ∀ i, P i < 24)
    (hm : Mday home lost n w P T V D l t) (hi : i < n) {m : Nat} (hb : Bits P T V D l w t i 0 m) : ∃ m', DX9_meetOn_L17 (nI t) days speeds to home lost (nI w) (nI i) FU (nI m) (0 : Int32) = some (nI m') ∧ Bits P T V D l w t (i + 1) 0 m' := by
  have key := it_for2 (S := Int32 × Int32) (R := Int32) (f := fun st => DX9_meetOn_L17s (nI t) days speeds to home lost (nI w) (nI i) (st.1) (st.2))
    (fun k st => ∃ m, st.1 = nI m ∧ st.2 = nI k ∧ Bits P T V D l w t i k m) (fun r => ∃ m, r = nI m ∧ Bits P T V D l w t (i + 1) 0 m) i (s0 := (nI m, (0 : Int32))) ⟨m, rfl, rfl, hb⟩ ?_ ?_ (by omega)
  · obtain ⟨r, q1, m', q2, q3⟩ := key
    refine ⟨m', ?_, q3⟩
    unfold DX9_meetOn_L17
    rw [q1, q2]
  · rintro k ⟨x2, x4⟩ hk ⟨m1, e1, e2, b1, b2⟩
    simp only at e1 e2
    subst e1 e2
    left
    show ∃ s', DX9_meetOn_L17s (nI t) days speeds to home lost (nI w) (nI i) (nI m1) (nI k) = some (.inl s') ∧ _
    obtain ⟨b, g1, g2⟩ := D9_meet_eq hn hw ht hok hd hs hto hP hm hi (show k < n by omega) (m := m1)
    have hk1 : nI k + (1 : Int32) = nI (k + 1) := p_add k 1
    have e0 : (0 : Int32) = nI 0 := rfl
    rw [g2, if_pos hk]
    unfold DX9_meetOn_J79
    cases b with
    | false =>
      rw [show (if false = true then (1 : Int32) else 0) = 0 from rfl, if_pos rfl, e0, or128 _ b1 0 (by decide), Nat.or_zero, hk1]
      refine ⟨_, rfl, m1, rfl, rfl, b1, fun x hx => (b2 x hx).trans ⟨?_, ?_⟩⟩
      · rintro ⟨a, c, h1, h2, h3, h4⟩; exact ⟨a, c, h1, by omega, h3, h4⟩
      · rintro ⟨a, c, h1, h2, h3, h4⟩
        refine ⟨a, c, h1, ?_, h3, h4⟩
        by_cases hq : a = i ∧ c = k
        · obtain ⟨hqa, hqc⟩ := hq
          subst hqa hqc
          exact absurd (g1.mpr h3) (by decide)
        · omega
    | true =>
      have hmt := g1.mp rfl
      have hbb : 2 ^ i ||| 2 ^ k < 128 := or_lt128 (bit_lt (by omega)) (bit_lt (by omega))
      rw [show (if true = true then (1 : Int32) else 0) = 1 from rfl, if_neg (by decide), bit2 i (by omega) k (by omega), or128 _ b1 _ hbb, hk1]
      refine ⟨_, rfl, _, rfl, rfl, or_lt128 b1 hbb, fun x hx => ?_⟩
      rw [Nat.testBit_or, Nat.testBit_or, Nat.testBit_two_pow, Nat.testBit_two_pow]
      simp only [Bool.or_eq_true, decide_eq_true_eq]
      rw [b2 x hx]
      constructor
      · rintro (⟨a, c, h1, h2, h3, h4⟩ | h | h)
        · exact ⟨a, c, h1, by omega, h3, h4⟩
        · exact ⟨i, k, hk, Or.inr ⟨rfl, by omega⟩, hmt, Or.inl h.symm⟩
        · exact ⟨i, k, hk, Or.inr ⟨rfl, by omega⟩, hmt, Or.inr h.symm⟩
      · rintro ⟨a, c, h1, h2, h3, h4⟩
        by_cases hq : a = i ∧ c = k
        · obtain ⟨hqa, hqc⟩ := hq
          subst hqa hqc
          rcases h4 with h | h
          · exact Or.inr (Or.inl h.symm)
          · exact Or.inr (Or.inr h.symm)
        · exact Or.inl ⟨a, c, h1, by omega, h3, h4⟩
  · rintro ⟨x2, x4⟩ ⟨m1, e1, e2, b1, b2⟩
    simp only at e1 e2
    subst e1 e2
    show ∃ r, DX9_meetOn_L17s (nI t) days speeds to home lost (nI w) (nI i) (nI m1) (nI i) = some (.inr r) ∧ _
    unfold DX9_meetOn_L17s
    rw [if_pos (by rw [p_le (by omega) (by omega)]; omega)]
    refine ⟨_, rfl, m1, rfl, b1, fun x hx => (b2 x hx).trans ⟨?_, ?_⟩⟩
    · rintro ⟨a, c, h1, h2, h3, h4⟩; exact ⟨a, c, h1, by omega, h3, h4⟩
    · rintro ⟨a, c, h1, h2, h3, h4⟩; exact ⟨a, c, h1, by omega, h3, h4⟩
theorem D9_meetOn_eq {many days speeds to home lost : Nat → Int32} {n w t D : Nat} {T V P : Nat → Nat} (hn : n ≤ 7) (hw : w < 128) (ht : t ≤ 100) (hok : Tok n T V D) (hm0 : many 0 = nI n) (hd : ∀ i, i < n → days i = nI (T i)) (hs : ∀ i, i < n → speeds i = nI (V i)) (hto : ∀ i, i < n → wout w i = false → to i = nI (P i)) (hP : ∀ i, P i < 24)
    (hm : Mday home lost n w P T V D (ordL T (wout w) n) t) : ∃ lost', DX9_meetOn (nI t) many days speeds to home lost (nI w) = some lost' ∧ ∀ i, i < n → (wout w i = false → lost' i = nI (lostS P T V D (ordL T (wout w) n) (t + 1) i)) ∧ (wout w i = true → lost' i = nI 10000) := by
  have e0 : (0 : Int32).toNatClampNeg = 0 := rfl
  have k1 := it_for2 (S := Int32 × Int32) (R := Int32) (f := fun st => DX9_meetOn_L4s (nI t) many days speeds to home lost (nI w) (st.1) (st.2))
    (fun k st => ∃ m, st.1 = nI m ∧ st.2 = nI k ∧ Bits P T V D (ordL T (wout w) n) w t k 0 m) (fun r => ∃ m, r = nI m ∧ Bits P T V D (ordL T (wout w) n) w t n 0 m) n (s0 := ((0 : Int32), (0 : Int32))) ⟨0, rfl, rfl, by decide, fun x hx => ⟨fun h => by simp at h, fun ⟨a, b, h1, h2, _⟩ => by omega⟩⟩ ?_ ?_ (by omega)
  · obtain ⟨r, q1, m, q2, b1, b2⟩ := k1
    have k2 := it_for2 (S := Int32 × (Nat → Int32)) (R := Nat → Int32) (f := fun st => DX9_meetOn_L115s (nI t) many (nI m) (st.1) (st.2))
      (fun k st => st.1 = nI k ∧ (∀ i, i < k → st.2 i = if m.testBit i = true then nI t else lost i) ∧ (∀ i, k ≤ i → st.2 i = lost i)) (fun r => ∀ i, i < n → r i = if m.testBit i = true then nI t else lost i) n (s0 := ((0 : Int32), lost)) ⟨rfl, fun i h => by omega, fun i _ => rfl⟩ ?_ ?_ (by omega)
    · obtain ⟨lost', p1, p2⟩ := k2
      refine ⟨lost', ?_, fun i hi => ⟨fun ho => ?_, fun ho => ?_⟩⟩
      · unfold DX9_meetOn DX9_meetOn_L4 DX9_meetOn_L115
        rw [q1, bd1_eq, q2, p1, bd1_eq]
      · rw [p2 i hi]
        have hil : ∀ x, x < n → wout w x = false → x ∈ ordL T (wout w) n := fun x hx hox => mem_ordM.mpr ⟨hx, by have := (hok.1 x hx).1; omega, hox⟩
        have hiff : m.testBit i = true ↔ (lostS P T V D (ordL T (wout w) n) t i = 10000 ∧ ∃ j, j ∈ ordL T (wout w) n ∧ j ≠ i ∧ lostS P T V D (ordL T (wout w) n) t j = 10000 ∧ P i = P j ∧ EE (T i) (V i) (T j) (V j) D t) := by
          rw [b2 i (by omega)]
          constructor
          · rintro ⟨a, b, h1, h2, ⟨z1, z2, z3, z4, z5, z6⟩, h4⟩
            rcases h4 with h | h
            · subst h
              exact ⟨z2, b, hil b (by omega) z3, by omega, z4, z5, z6⟩
            · subst h
              exact ⟨z4, a, hil a (by omega) z1, by omega, z2, z5.symm, EE_symm z6⟩
          · rintro ⟨z1, j, z2, z3, z4, z5, z6⟩
            have hj := mem_ordM.mp z2
            rcases Nat.lt_or_ge j i with h | h
            · exact ⟨i, j, h, by omega, ⟨ho, z1, hj.2.2, z4, z5, z6⟩, Or.inl rfl⟩
            · exact ⟨j, i, by omega, by omega, ⟨hj.2.2, z4, ho, z1, z5.symm, EE_symm z6⟩, Or.inr rfl⟩
        rw [lostS]
        by_cases hb : m.testBit i = true
        · have h := hiff.mp hb
          rw [if_pos hb, if_pos ⟨h.1, any_iff.mpr h.2⟩]
        · rw [if_neg hb, if_neg (fun q => hb (hiff.mpr ⟨q.1, any_iff.mp q.2⟩))]
          exact ((hm i hi).1 ho).1
      · rw [p2 i hi, if_neg, ((hm i hi).2 ho).1]
        intro hb
        obtain ⟨a, b, h1, h2, ⟨z1, z2, z3, z4, z5, z6⟩, h4⟩ := (b2 i (by omega)).mp hb
        rcases h4 with h | h
        · subst h; rw [z1] at ho; cases ho
        · subst h; rw [z3] at ho; cases ho
    · rintro k ⟨x3, f1⟩ hk ⟨e1, e2, e3⟩
      simp only at e1 e2 e3
      subst e1
      left
      show ∃ s', DX9_meetOn_L115s (nI t) many (nI m) (nI k) f1 = some (.inl s') ∧ _
      unfold DX9_meetOn_L115s
      have hk1 : nI k + (1 : Int32) = nI (k + 1) := p_add k 1
      rw [e0, hm0, if_neg (by rw [p_le (by omega) (by omega)]; omega), has_eq m b1 k (by omega), bd1_eq, hk1]
      by_cases hb : m.testBit k = true
      · rw [if_pos hb, if_neg (by decide), p_g (by omega) (by decide), p_tn (by omega)]
        refine ⟨_, rfl, rfl, fun i hi => ?_, fun i hi => ?_⟩
        · simp only; rw [upd_at]
          by_cases hik : i = k
          · subst hik; rw [if_pos rfl, if_pos hb]
          · rw [if_neg hik]; exact e2 i (by omega)
        · simp only; rw [upd_ne _ _ (by omega)]; exact e3 i (by omega)
      · rw [if_neg hb, if_pos rfl, p_g (by omega) (by decide), p_g (by omega) (by decide), p_tn (by omega)]
        refine ⟨_, rfl, rfl, fun i hi => ?_, fun i hi => ?_⟩
        · simp only; rw [upd_at]
          by_cases hik : i = k
          · subst hik; rw [if_pos rfl, if_neg hb]; exact e3 i (Nat.le_refl _)
          · rw [if_neg hik]; exact e2 i (by omega)
        · simp only; rw [upd_ne _ _ (by omega)]; exact e3 i (by omega)
    · rintro ⟨x3, f1⟩ ⟨e1, e2, e3⟩
      simp only at e1 e2 e3
      subst e1
      show ∃ r, DX9_meetOn_L115s (nI t) many (nI m) (nI n) f1 = some (.inr r) ∧ _
      unfold DX9_meetOn_L115s
      rw [e0, hm0, if_pos (by rw [p_le (by omega) (by omega)]; omega)]
      exact ⟨_, rfl, e2⟩
  · rintro k ⟨x2, x3⟩ hk ⟨m, e1, e2, hb⟩
    simp only at e1 e2
    subst e1 e2
    left
    show ∃ s', DX9_meetOn_L4s (nI t) many days speeds to home lost (nI w) (nI m) (nI k) = some (.inl s') ∧ _
    unfold DX9_meetOn_L4s
    obtain ⟨m', i1, i2⟩ := D9_meetOn_L17_eq hn hw ht hok hd hs hto hP hm hk hb
    have hk1 : nI k + (1 : Int32) = nI (k + 1) := p_add k 1
    rw [e0, hm0, if_neg (by rw [p_le (by omega) (by omega)]; omega), i1, bd1_eq, hk1]
    exact ⟨_, rfl, m', rfl, rfl, i2⟩
  · rintro ⟨x2, x3⟩ ⟨m, e1, e2, hb⟩
    simp only at e1 e2
    subst e1 e2
    show ∃ r, DX9_meetOn_L4s (nI t) many days speeds to home lost (nI w) (nI m) (nI n) = some (.inr r) ∧ _
    unfold DX9_meetOn_L4s
    rw [e0, hm0, if_pos (by rw [p_le (by omega) (by omega)]; omega)]
    exact ⟨_, rfl, m, rfl, hb⟩
