/-! PURE: stand, the other side -/
def wp (s q : Nat) : Nat := (q + 24 - s) % 24
def Bf (o s n p : Nat) (f : Nat → Int32) : Prop := ∀ q, q < 24 → ∃ x, f q = nI x ∧ dd o (wp s q) ≤ x ∧ x ≤ 10000 ∧ (dd o (wp s q) ≤ n ∨ (dd o (wp s q) ≤ n + 1 ∧ q < p) → x = dd o (wp s q))
section BF
variable {o s : Nat}
theorem D9_relax_eq {n p : Nat} {f : Nat → Int32} (ho : o < 64) (hs : s < 24) (hn : n ≤ 23) (hp : p < 24) (h : Bf o s n p f) : ∃ f', DX9_stand_L95 (nI o) (nI p) FU (1 : Int32) f = some f' ∧ Bf o s n (p + 1) f' := by
  have key := it_for2 (S := Int32 × (Nat → Int32)) (R := Nat → Int32) (f := fun st => DX9_stand_L95s (nI o) (nI p) (st.1) (st.2))
    (fun k st => st.1 = nI (k + 1) ∧ Bf o s n p st.2 ∧ ∃ x, st.2 p = nI x ∧ x ≤ 10000 ∧ ∀ v, 0 < v → v ≤ k → o.testBit (v - 1) = true → dd o ((wp s p + 24 - v) % 24) ≤ n → x ≤ dd o ((wp s p + 24 - v) % 24) + 1) (fun r => Bf o s n (p + 1) r) 6 (s0 := ((1 : Int32), f))
    ⟨rfl, h, by obtain ⟨x, x1, x2, x3, x4⟩ := h p hp; exact ⟨x, x1, x3, fun v h1 h2 => absurd h1 (by omega)⟩⟩ ?_ ?_ (by omega)
  · obtain ⟨r, q1, q2⟩ := key
    exact ⟨r, q1, q2⟩
  · rintro k ⟨x6, f1⟩ hk ⟨h1, h2, x, x1, x2, x3⟩
    simp only at h1 h2 x1
    subst h1
    left
    show ∃ s', DX9_stand_L95s (nI o) (nI p) (nI (k + 1)) f1 = some (.inl s') ∧ _
    unfold DX9_stand_L95s
    have hk1 : nI (k + 1) + (1 : Int32) = nI (k + 1 + 1) := p_add (k + 1) 1
    have hk0 : nI (k + 1) - (1 : Int32) = nI k := p_sub (a := k + 1) (b := 1) (by omega)
    have e6 : (6 : Int32) = nI 6 := rfl
    have e10 : (10000 : Int32) = nI 10000 := rfl
    have gd : ∀ {α : Type} (b : Option α), (if nI p < 0 ∨ 24 ≤ p then none else b) = b := fun b => p_h (by omega) (by omega)
    have hwlt : wp s p < 24 := Nat.mod_lt _ (by decide)
    have relax : ∀ y, (o.testBit k = true → ∃ z, dd o ((wp s p + 24 - (k + 1)) % 24) ≤ z ∧ y = z + 1 ∧ (dd o ((wp s p + 24 - (k + 1)) % 24) ≤ n → z = dd o ((wp s p + 24 - (k + 1)) % 24))) → (o.testBit k = false → y = 10000) → y < 100000 →
        ∃ s', DX9_stand_J134 f1 (nI y) (nI p) (nI (k + 1)) = some (.inl s') ∧ s'.1 = nI (k + 1 + 1) ∧ Bf o s n p s'.2 ∧ ∃ x, s'.2 p = nI x ∧ x ≤ 10000 ∧ ∀ v, 0 < v → v ≤ k + 1 → o.testBit (v - 1) = true → dd o ((wp s p + 24 - v) % 24) ≤ n → x ≤ dd o ((wp s p + 24 - v) % 24) + 1 := by
      intro y hy1 hy0 hyb
      unfold DX9_stand_J134
      rw [p_tn (show p < 2147483648 by omega), gd, gd, gd, hk1, x1]
      have lower : dd o (wp s p) ≤ y ∨ o.testBit k = false := by
        cases hb : o.testBit k
        · exact Or.inr rfl
        · left
          obtain ⟨z, z1, z2, z3⟩ := hy1 hb
          have h2' := dd_2 o ho ((wp s p + 24 - (k + 1)) % 24) (Nat.mod_lt _ (by decide)) (k + 1) (by omega) (by omega) (by rw [show k + 1 - 1 = k by omega]; exact hb)
          rw [show ((wp s p + 24 - (k + 1)) % 24 + (k + 1)) % 24 = wp s p by omega] at h2'
          omega
      by_cases hc : x ≤ y
      · rw [if_pos (by rw [p_le (by omega) (by omega)]; exact hc)]
        have hsame : upd f1 p (nI x) = f1 := by
          funext q
          by_cases e : q = p
          · rw [e, upd_same, x1]
          · rw [upd_ne _ _ e]
        rw [hsame]
        refine ⟨_, rfl, rfl, h2, x, x1, x2, fun v v1 v2 v3 v4 => ?_⟩
        by_cases e : v = k + 1
        · subst e
          obtain ⟨z, z1, z2, z3⟩ := hy1 (by rw [show k + 1 - 1 = k by omega] at v3; exact v3)
          have := z3 v4
          omega
        · exact x3 v v1 (by omega) v3 v4
      · rw [if_neg (by rw [p_le (by omega) (by omega)]; exact hc), gd]
        have hb : o.testBit k = true := by
          cases hb : o.testBit k
          · have := hy0 hb; omega
          · rfl
        have hlow : dd o (wp s p) ≤ y := by
          rcases lower with q | q
          · exact q
          · rw [hb] at q; cases q
        refine ⟨(nI (k + 1 + 1), upd f1 p (nI y)), rfl, rfl, fun q hq => ?_, y, (show upd f1 p (nI y) p = nI y from upd_same _ _ _), by omega, fun v v1 v2 v3 v4 => ?_⟩
        · show ∃ x, upd f1 p (nI y) q = nI x ∧ _
          by_cases e : q = p
          · subst e
            rw [upd_same]
            obtain ⟨x', y1, y2, y3, y4⟩ := h2 q hq
            rw [x1, p_eq (by omega) (by omega)] at y1
            refine ⟨y, rfl, hlow, by omega, fun hh => ?_⟩
            have := y4 hh
            omega
          · rw [upd_ne _ _ e]; exact h2 q hq
        · by_cases e : v = k + 1
          · subst e
            obtain ⟨z, z1, z2, z3⟩ := hy1 hb
            have := z3 v4
            omega
          · have := x3 v v1 (by omega) v3 v4
            omega
    rw [e6, if_neg (by rw [p_lt (by omega) (by omega)]; omega), hk0, has_eq6 o ho k (by omega), bd1_eq]
    cases hb : o.testBit k
    · rw [if_pos (show (if false = true then (1 : Int32) else 0) = 0 from rfl), e10]
      exact relax 10000 (fun q => by rw [hb] at q; cases q) (fun _ => rfl) (by decide)
    · rw [if_neg (show ¬ (if true = true then (1 : Int32) else 0) = 0 by decide), around_sub p hp (k + 1) (by omega), bd1_eq]
      have hq24 := Nat.mod_lt (p + 24 - (k + 1)) (show 24 > 0 by decide)
      have hwq : wp s ((p + 24 - (k + 1)) % 24) = (wp s p + 24 - (k + 1)) % 24 := by unfold wp; omega
      obtain ⟨z, z1, z2, z3, z4⟩ := h2 _ hq24
      rw [hwq] at z2 z4
      have hz1 : nI z + (1 : Int32) = nI (z + 1) := p_add z 1
      rw [p_g hq24 (by decide), p_tn (by omega), z1, hz1]
      exact relax (z + 1) (fun _ => ⟨z, z2, rfl, fun q => z4 (Or.inl q)⟩) (fun q => by rw [hb] at q; cases q) (by omega)
  · rintro ⟨x6, f1⟩ ⟨h1, h2, x, x1, x2, x3⟩
    simp only at h1 h2 x1
    subst h1
    show ∃ r, DX9_stand_L95s (nI o) (nI p) (nI 7) f1 = some (.inr r) ∧ _
    unfold DX9_stand_L95s
    rw [if_pos (by decide)]
    refine ⟨_, rfl, fun q hq => ?_⟩
    obtain ⟨x', y1, y2, y3, y4⟩ := h2 q hq
    refine ⟨x', y1, y2, y3, fun hh => ?_⟩
    by_cases e : q = p
    · subst e
      rw [x1, p_eq (by omega) (by omega)] at y1
      subst y1
      rcases Nat.lt_or_ge n (dd o (wp s q)) with g | g
      · have hwlt : wp s q < 24 := Nat.mod_lt _ (by decide)
        rcases dd_3 o ho (wp s q) hwlt (by omega) with z | ⟨v, v1, v2, v3, v4⟩
        · omega
        · have := x3 v v2 (by omega) v3 (by omega)
          omega
      · exact y4 (Or.inl g)
    · exact y4 (by omega)
theorem D9_bf_eq {f : Nat → Int32} (ho : o < 64) (hs : s < 24) (h : Bf o s 0 0 f) : ∃ f', DX9_stand_L75 (nI o) FU (0 : Int32) f = some f' ∧ ∀ q, q < 24 → f' q = nI (dd o (wp s q)) := by
  have inner : ∀ n (f : Nat → Int32), n ≤ 23 → Bf o s n 0 f → ∃ f', DX9_stand_L85 (nI o) FU (0 : Int32) f = some f' ∧ Bf o s (n + 1) 0 f' := by
    intro n f hn hf
    have key := it_for2 (S := Int32 × (Nat → Int32)) (R := Nat → Int32) (f := fun st => DX9_stand_L85s (nI o) (st.1) (st.2))
      (fun k st => st.1 = nI k ∧ Bf o s n k st.2) (fun r => Bf o s (n + 1) 0 r) 24 (s0 := ((0 : Int32), f)) ⟨rfl, hf⟩ ?_ ?_ (by omega)
    · obtain ⟨r, q1, q2⟩ := key
      exact ⟨r, q1, q2⟩
    · rintro k ⟨x5, f1⟩ hk ⟨h1, h2⟩
      simp only at h1 h2
      subst h1
      left
      show ∃ s', DX9_stand_L85s (nI o) (nI k) f1 = some (.inl s') ∧ _
      unfold DX9_stand_L85s
      have hk1 : nI k + (1 : Int32) = nI (k + 1) := p_add k 1
      have e24 : (24 : Int32) = nI 24 := rfl
      obtain ⟨f2, r1, r2⟩ := D9_relax_eq ho hs hn hk h2
      rw [e24, if_neg (by rw [p_le (by omega) (by omega)]; omega), r1, bd1_eq, hk1]
      exact ⟨_, rfl, rfl, r2⟩
    · rintro ⟨x5, f1⟩ ⟨h1, h2⟩
      simp only at h1 h2
      subst h1
      show ∃ r, DX9_stand_L85s (nI o) (nI 24) f1 = some (.inr r) ∧ _
      unfold DX9_stand_L85s
      rw [if_pos (by decide)]
      refine ⟨_, rfl, fun q hq => ?_⟩
      obtain ⟨x, y1, y2, y3, y4⟩ := h2 q hq
      exact ⟨x, y1, y2, y3, fun hh => y4 (by omega)⟩
  have key := it_for2 (S := Int32 × (Nat → Int32)) (R := Nat → Int32) (f := fun st => DX9_stand_L75s (nI o) (st.1) (st.2))
    (fun k st => st.1 = nI k ∧ Bf o s k 0 st.2) (fun r => Bf o s 24 0 r) 24 (s0 := ((0 : Int32), f)) ⟨rfl, h⟩ ?_ ?_ (by omega)
  · obtain ⟨r, q1, q2⟩ := key
    refine ⟨r, q1, fun q hq => ?_⟩
    obtain ⟨x, y1, y2, y3, y4⟩ := q2 q hq
    have hwlt : wp s q < 24 := Nat.mod_lt _ (by decide)
    rcases dd_4 o ho (wp s q) hwlt with g | g
    · rw [y1, y4 (Or.inl (by omega))]
    · rw [y1, g, show x = 10000 by omega]
  · rintro k ⟨x4, f1⟩ hk ⟨h1, h2⟩
    simp only at h1 h2
    subst h1
    left
    show ∃ s', DX9_stand_L75s (nI o) (nI k) f1 = some (.inl s') ∧ _
    unfold DX9_stand_L75s
    have hk1 : nI k + (1 : Int32) = nI (k + 1) := p_add k 1
    have e24 : (24 : Int32) = nI 24 := rfl
    obtain ⟨f2, r1, r2⟩ := inner k f1 (by omega) h2
    rw [e24, if_neg (by rw [p_le (by omega) (by omega)]; omega), r1, bd1_eq, hk1]
    exact ⟨_, rfl, rfl, r2⟩
  · rintro ⟨x4, f1⟩ ⟨h1, h2⟩
    simp only at h1 h2
    subst h1
    show ∃ r, DX9_stand_L75s (nI o) (nI 24) f1 = some (.inr r) ∧ _
    unfold DX9_stand_L75s
    rw [if_pos (by decide)]
    exact ⟨_, rfl, h2⟩
theorem D9_bf0_eq {f : Nat → Int32} (ho : o < 64) (hs : s < 24) : ∃ f', DX9_stand_L39 (nI s) FU (0 : Int32) f = some f' ∧ Bf o s 0 0 f' := by
  have key := it_for2 (S := Int32 × (Nat → Int32)) (R := Nat → Int32) (f := fun st => DX9_stand_L39s (nI s) (st.1) (st.2))
    (fun k st => st.1 = nI k ∧ ∀ q, q < k → st.2 q = nI (if q = s then 0 else 10000)) (fun r => ∀ q, q < 24 → r q = nI (if q = s then 0 else 10000)) 24 (s0 := ((0 : Int32), f)) ⟨rfl, fun w h => absurd h (by omega)⟩ ?_ ?_ (by omega)
  · obtain ⟨r, q1, q2⟩ := key
    refine ⟨r, q1, fun q hq => ⟨_, q2 q hq, ?_⟩⟩
    have hwlt : wp s q < 24 := Nat.mod_lt _ (by decide)
    have hz := dd_0 o ho (wp s q) hwlt
    have h4 := dd_4 o ho (wp s q) hwlt
    have hw0 : wp s q = 0 ↔ q = s := by unfold wp; omega
    by_cases e : q = s
    · rw [if_pos e]
      have := hz.mpr (hw0.mpr e)
      exact ⟨by omega, by omega, fun _ => this.symm⟩
    · rw [if_neg e]
      exact ⟨by omega, by omega, fun hh => absurd (hw0.mp (hz.mp (by omega))) e⟩
  · rintro k ⟨x4, f1⟩ hk ⟨h1, h2⟩
    simp only at h1 h2
    subst h1
    left
    show ∃ s', DX9_stand_L39s (nI s) (nI k) f1 = some (.inl s') ∧ _
    unfold DX9_stand_L39s
    have hk1 : nI k + (1 : Int32) = nI (k + 1) := p_add k 1
    have e24 : (24 : Int32) = nI 24 := rfl
    have gd : ∀ {α : Type} (b : Option α), (if nI k < 0 ∨ 24 ≤ k then none else b) = b := fun b => p_h (by omega) (by omega)
    rw [e24, if_neg (by rw [p_le (by omega) (by omega)]; omega), p_tn (show k < 2147483648 by omega), gd, gd, hk1]
    by_cases e0 : k = s
    · rw [if_pos (by rw [e0])]
      refine ⟨_, rfl, rfl, fun q hq => ?_⟩
      show upd f1 k _ q = _
      by_cases e : q = k
      · rw [e, upd_same, if_pos e0]; rfl
      · rw [upd_ne _ _ e]; exact h2 q (by omega)
    · rw [if_neg (by rw [p_eq (by omega) (by omega)]; exact e0)]
      refine ⟨_, rfl, rfl, fun q hq => ?_⟩
      show upd f1 k _ q = _
      by_cases e : q = k
      · rw [e, upd_same, if_neg e0]; rfl
      · rw [upd_ne _ _ e]; exact h2 q (by omega)
  · rintro ⟨x4, f1⟩ ⟨h1, h2⟩
    simp only at h1 h2
    subst h1
    show ∃ r, DX9_stand_L39s (nI s) (nI 24) f1 = some (.inr r) ∧ _
    unfold DX9_stand_L39s
    rw [if_pos (by decide)]
    exact ⟨_, rfl, h2⟩
end BF
