/-! PURE: stand, the one side: reach -/
def qv (o d j v0 w : Nat) : Prop := ∃ y v, y < 24 ∧ dd o y = d ∧ 0 < v ∧ v < 7 ∧ o.testBit (v - 1) = true ∧ (y + v) % 24 = w ∧ (y < j ∨ (y = j ∧ v < v0))
def Sq (o d j v0 : Nat) (c : Nat → Int32) : Prop := ∀ w, w < 24 → (dd o w ≤ d → c w = nI (dd o w)) ∧ (d < dd o w → qv o d j v0 w → c w = nI (d + 1)) ∧ (d < dd o w → ¬ qv o d j v0 w → c w = nI 1000)
section RE
variable {o : Nat}
theorem Sq_congr {o d j v0 j' v0' : Nat} {c : Nat → Int32} (h : Sq o d j v0 c) (hq : ∀ w, w < 24 → (qv o d j v0 w ↔ qv o d j' v0' w)) : Sq o d j' v0' c := fun w hw =>
  ⟨(h w hw).1, fun h1 h2 => (h w hw).2.1 h1 ((hq w hw).mpr h2), fun h1 h2 => (h w hw).2.2 h1 (fun h3 => h2 ((hq w hw).mp h3))⟩
theorem D7_goOn_eq {d j : Nat} {c : Nat → Int32} (ho : o < 64) (hd : d ≤ 23) (hj : j < 24) (hdj : dd o j = d) (h : Sq o d j 1 c) : ∃ c', DX7_goOn (nI j) (nI o) (nI (d + 1)) c = some c' ∧ Sq o d j 7 c' := by
  have key := it_for2 (S := Int32 × (Nat → Int32)) (R := Nat → Int32) (f := fun st => DX7_goOn_L3s (nI j) (nI o) (nI (d + 1)) (st.1) (st.2))
    (fun k st => st.1 = nI (k + 1) ∧ Sq o d j (k + 1) st.2) (fun r => Sq o d j 7 r) 6 (s0 := ((1 : Int32), c)) ⟨rfl, h⟩ ?_ ?_ (by omega)
  · obtain ⟨r, q1, q2⟩ := key
    refine ⟨r, ?_, q2⟩
    unfold DX7_goOn DX7_goOn_L3
    rw [q1, bd1_eq]
  · rintro k ⟨x4, c1⟩ hk ⟨h1, h2⟩
    simp only at h1 h2
    subst h1
    left
    show ∃ s', DX7_goOn_L3s (nI j) (nI o) (nI (d + 1)) (nI (k + 1)) c1 = some (.inl s') ∧ _
    unfold DX7_goOn_L3s
    have hk1 : nI (k + 1) + (1 : Int32) = nI (k + 1 + 1) := p_add (k + 1) 1
    have e6 : (6 : Int32) = nI 6 := rfl
    have e24 : (24 : Int32) = nI 24 := rfl
    have e1000 : (1000 : Int32) = nI 1000 := rfl
    have hmod : (nI j + nI (k + 1)) - (nI j + nI (k + 1)) / (24 : Int32) * (24 : Int32) = nI ((j + (k + 1)) % 24) := by
      rw [p_add, e24, p_rem (by omega) (by decide) (by decide)]
    have hw := Nat.mod_lt (j + (k + 1)) (show 24 > 0 by decide)
    rw [hmod, e6, if_neg (by rw [p_lt (by omega) (by omega)]; omega), isIn_eq o ho (k + 1) (by omega) (by omega), bd1_eq, hk1]
    rw [show k + 1 - 1 = k by omega]
    have skip : o.testBit k = false → ∀ w, w < 24 → (qv o d j (k + 1) w ↔ qv o d j (k + 1 + 1) w) := by
      intro hb w _
      constructor
      · rintro ⟨y, v, q1, q2, q3, q4, q5, q6, q7⟩
        exact ⟨y, v, q1, q2, q3, q4, q5, q6, by omega⟩
      · rintro ⟨y, v, q1, q2, q3, q4, q5, q6, q7⟩
        refine ⟨y, v, q1, q2, q3, q4, q5, q6, ?_⟩
        rcases q7 with q7 | ⟨q7, q8⟩
        · exact Or.inl q7
        · right
          refine ⟨q7, ?_⟩
          have : v ≠ k + 1 := fun e => by rw [e, show k + 1 - 1 = k by omega, hb] at q5; cases q5
          omega
    cases hb : o.testBit k
    · rw [if_pos (show (if false = true then (1 : Int32) else 0) = 0 from rfl)]
      exact ⟨_, rfl, rfl, Sq_congr h2 (skip hb)⟩
    · rw [if_pos rfl, if_neg (by decide), D8_at_eq hw (by decide), bd1_eq]
      have hnew : qv o d j (k + 1 + 1) ((j + (k + 1)) % 24) := ⟨j, k + 1, hj, hdj, by omega, by omega, by rw [show k + 1 - 1 = k by omega]; exact hb, rfl, Or.inr ⟨rfl, by omega⟩⟩
      have hother : ∀ w, w ≠ (j + (k + 1)) % 24 → (qv o d j (k + 1) w ↔ qv o d j (k + 1 + 1) w) := by
        intro w hne
        constructor
        · rintro ⟨y, v, q1, q2, q3, q4, q5, q6, q7⟩
          exact ⟨y, v, q1, q2, q3, q4, q5, q6, by omega⟩
        · rintro ⟨y, v, q1, q2, q3, q4, q5, q6, q7⟩
          refine ⟨y, v, q1, q2, q3, q4, q5, q6, ?_⟩
          rcases q7 with q7 | ⟨q7, q8⟩
          · exact Or.inl q7
          · right
            refine ⟨q7, ?_⟩
            have : v ≠ k + 1 := fun e => hne (by rw [← q6, q7, e])
            omega
      generalize (j + (k + 1)) % 24 = w0 at *
      obtain ⟨g1, g2, g3⟩ := h2 w0 hw
      by_cases hc : c1 w0 = 1000
      · rw [if_pos hc, D8_put_eq hw (by decide), bd1_eq]
        refine ⟨_, rfl, rfl, fun w hww => ?_⟩
        show (_ → upd c1 w0 _ w = _) ∧ (_ → _ → upd c1 w0 _ w = _) ∧ (_ → _ → upd c1 w0 _ w = _)
        by_cases e : w = w0
        · subst e
          rw [upd_same]
          have hbig : d < dd o w := by
            rcases Nat.lt_or_ge d (dd o w) with q | q
            · exact q
            · have := g1 q
              rw [this, e1000, p_eq (by omega) (by omega)] at hc
              omega
          exact ⟨fun q => absurd q (by omega), fun _ _ => rfl, fun _ q => absurd hnew q⟩
        · rw [upd_ne _ _ e]
          obtain ⟨i1, i2, i3⟩ := h2 w hww
          exact ⟨i1, fun q1 q2 => i2 q1 ((hother w e).mpr q2), fun q1 q2 => i3 q1 (fun q3 => q2 ((hother w e).mp q3))⟩
      · rw [if_neg hc]
        refine ⟨_, rfl, rfl, fun w hww => ?_⟩
        show (_ → c1 w = _) ∧ (_ → _ → c1 w = _) ∧ (_ → _ → c1 w = _)
        obtain ⟨i1, i2, i3⟩ := h2 w hww
        by_cases e : w = w0
        · subst e
          refine ⟨i1, fun q1 _ => ?_, fun _ q2 => absurd hnew q2⟩
          by_cases hq : qv o d j (k + 1) w
          · exact i2 q1 hq
          · exact absurd (i3 q1 hq) hc
        · exact ⟨i1, fun q1 q2 => i2 q1 ((hother w e).mpr q2), fun q1 q2 => i3 q1 (fun q3 => q2 ((hother w e).mp q3))⟩
  · rintro ⟨x4, c1⟩ ⟨h1, h2⟩
    simp only at h1 h2
    subst h1
    show ∃ r, DX7_goOn_L3s (nI j) (nI o) (nI (d + 1)) (nI 7) c1 = some (.inr r) ∧ _
    unfold DX7_goOn_L3s
    rw [if_pos (by decide)]
    exact ⟨_, rfl, h2⟩
theorem D7_round_eq {d : Nat} {c : Nat → Int32} (ho : o < 64) (hd : d ≤ 23) (h : Sq o d 0 1 c) : ∃ c', DX7_reach_L43 (nI o) (nI d) FU (0 : Int32) c = some c' ∧ Sq o d 24 1 c' := by
  have key := it_for2 (S := Int32 × (Nat → Int32)) (R := Nat → Int32) (f := fun st => DX7_reach_L43s (nI o) (nI d) (st.1) (st.2))
    (fun k st => st.1 = nI k ∧ Sq o d k 1 st.2) (fun r => Sq o d 24 1 r) 24 (s0 := ((0 : Int32), c)) ⟨rfl, h⟩ ?_ ?_ (by omega)
  · obtain ⟨r, q1, q2⟩ := key
    exact ⟨r, q1, q2⟩
  · rintro k ⟨x3, c1⟩ hk ⟨h1, h2⟩
    simp only at h1 h2
    subst h1
    left
    show ∃ s', DX7_reach_L43s (nI o) (nI d) (nI k) c1 = some (.inl s') ∧ _
    unfold DX7_reach_L43s
    have hk1 : nI k + (1 : Int32) = nI (k + 1) := p_add k 1
    have hd1 : nI d + (1 : Int32) = nI (d + 1) := p_add d 1
    have e24 : (24 : Int32) = nI 24 := rfl
    have hck : c1 k = nI d ↔ dd o k = d := by
      obtain ⟨g1, g2, g3⟩ := h2 k hk
      rcases Nat.lt_or_ge d (dd o k) with q | q
      · by_cases hq : qv o d k 1 k
        · rw [g2 q hq, p_eq (by omega) (by omega)]; omega
        · rw [g3 q hq, p_eq (by omega) (by omega)]; omega
      · rw [g1 q, p_eq (by omega) (by omega)]
    rw [e24, if_neg (by rw [p_le (by omega) (by omega)]; omega), D8_at_eq hk (by decide), bd1_eq, hk1, hd1]
    by_cases hc : dd o k = d
    · obtain ⟨c2, r1, r2⟩ := D7_goOn_eq ho hd hk hc h2
      rw [if_pos (hck.mpr hc), r1, bd1_eq]
      refine ⟨_, rfl, rfl, Sq_congr r2 (fun w _ => ?_)⟩
      constructor
      · rintro ⟨y, v, q1, q2, q3, q4, q5, q6, q7⟩
        exact ⟨y, v, q1, q2, q3, q4, q5, q6, by omega⟩
      · rintro ⟨y, v, q1, q2, q3, q4, q5, q6, q7⟩
        exact ⟨y, v, q1, q2, q3, q4, q5, q6, by omega⟩
    · rw [if_neg (fun q => hc (hck.mp q))]
      refine ⟨_, rfl, rfl, Sq_congr h2 (fun w _ => ?_)⟩
      constructor
      · rintro ⟨y, v, q1, q2, q3, q4, q5, q6, q7⟩
        exact ⟨y, v, q1, q2, q3, q4, q5, q6, by omega⟩
      · rintro ⟨y, v, q1, q2, q3, q4, q5, q6, q7⟩
        refine ⟨y, v, q1, q2, q3, q4, q5, q6, ?_⟩
        have : y ≠ k := fun e => hc (by rw [← e]; exact q2)
        omega
  · rintro ⟨x3, c1⟩ ⟨h1, h2⟩
    simp only at h1 h2
    subst h1
    show ∃ r, DX7_reach_L43s (nI o) (nI d) (nI 24) c1 = some (.inr r) ∧ _
    unfold DX7_reach_L43s
    rw [if_pos (by decide)]
    exact ⟨_, rfl, h2⟩
theorem Sq_round {d : Nat} {c : Nat → Int32} (ho : o < 64) (hd : d ≤ 23) (h : Sq o d 24 1 c) : Sq o (d + 1) 0 1 c := by
  intro w hw
  obtain ⟨g1, g2, g3⟩ := h w hw
  have hno : ∀ w, ¬ qv o (d + 1) 0 1 w := by
    rintro w ⟨y, v, q1, q2, q3, q4, q5, q6, q7⟩
    omega
  refine ⟨fun q => ?_, fun _ q => absurd q (hno w), fun q _ => ?_⟩
  · rcases Nat.lt_or_ge d (dd o w) with q2 | q2
    · have e : dd o w = d + 1 := by omega
      rw [e]
      refine g2 q2 ?_
      rcases dd_3 o ho w hw (by omega) with z | ⟨v, v1, v2, v3, v4⟩
      · omega
      · exact ⟨(w + 24 - v) % 24, v, Nat.mod_lt _ (by decide), by omega, v2, v1, v3, by omega, Or.inl (Nat.mod_lt _ (by decide))⟩
    · exact g1 q2
  · refine g3 (by omega) ?_
    rintro ⟨y, v, q1, q2, q3, q4, q5, q6, q7⟩
    have := dd_2 o ho y q1 v q4 q3 q5
    rw [q6] at this
    omega
theorem D7_reach_eq {c : Nat → Int32} (ho : o < 64) : ∃ c', DX7_reach (nI o) c = some c' ∧ ∀ w, w < 24 → c' w = nI (if dd o w = 10000 then 1000 else dd o w) := by
  have init : ∃ c1, DX7_reach_L2 FU (0 : Int32) c = some c1 ∧ ∀ w, w < 24 → c1 w = nI (if w = 0 then 0 else 1000) := by
    have key := it_for2 (S := Int32 × (Nat → Int32)) (R := Nat → Int32) (f := fun st => DX7_reach_L2s (st.1) (st.2))
      (fun k st => st.1 = nI k ∧ ∀ w, w < k → st.2 w = nI (if w = 0 then 0 else 1000)) (fun r => ∀ w, w < 24 → r w = nI (if w = 0 then 0 else 1000)) 24 (s0 := ((0 : Int32), c)) ⟨rfl, fun w h => absurd h (by omega)⟩ ?_ ?_ (by omega)
    · obtain ⟨r, q1, q2⟩ := key
      exact ⟨r, q1, q2⟩
    · rintro k ⟨x2, c1⟩ hk ⟨h1, h2⟩
      simp only at h1 h2
      subst h1
      left
      show ∃ s', DX7_reach_L2s (nI k) c1 = some (.inl s') ∧ _
      unfold DX7_reach_L2s
      have hk1 : nI k + (1 : Int32) = nI (k + 1) := p_add k 1
      have e24 : (24 : Int32) = nI 24 := rfl
      have e0 : (0 : Int32) = nI 0 := rfl
      rw [e24, if_neg (by rw [p_le (by omega) (by omega)]; omega), D8_put_eq hk (by decide), bd1_eq, D8_put_eq hk (by decide), bd1_eq, hk1]
      by_cases h0 : k = 0
      · rw [if_pos (by rw [h0]; rfl)]
        refine ⟨_, rfl, rfl, fun w hw => ?_⟩
        show upd c1 k _ w = _
        have : w = k := by omega
        rw [this, upd_same, if_pos h0]; rfl
      · rw [if_neg (by rw [e0, p_eq (by omega) (by omega)]; exact h0)]
        refine ⟨_, rfl, rfl, fun w hw => ?_⟩
        show upd c1 k _ w = _
        by_cases e : w = k
        · rw [e, upd_same, if_neg h0]; rfl
        · rw [upd_ne _ _ e]; exact h2 w (by omega)
    · rintro ⟨x2, c1⟩ ⟨h1, h2⟩
      simp only at h1 h2
      subst h1
      show ∃ r, DX7_reach_L2s (nI 24) c1 = some (.inr r) ∧ _
      unfold DX7_reach_L2s
      rw [if_pos (by decide)]
      exact ⟨_, rfl, h2⟩
  obtain ⟨c1, i1, i2⟩ := init
  have h0 : Sq o 0 0 1 c1 := by
    intro w hw
    have hz := dd_0 o ho w hw
    have hno : ¬ qv o 0 0 1 w := by
      rintro ⟨y, v, q1, q2, q3, q4, q5, q6, q7⟩
      omega
    refine ⟨fun q => ?_, fun _ q => absurd q hno, fun q _ => ?_⟩
    · have : dd o w = 0 := by omega
      rw [i2 w hw, if_pos (hz.mp this), this]
    · rw [i2 w hw, if_neg (fun e => by have := hz.mpr e; omega)]
  have key := it_for2 (S := Int32 × (Nat → Int32)) (R := Nat → Int32) (f := fun st => DX7_reach_L35s (nI o) (st.1) (st.2))
    (fun k st => st.1 = nI k ∧ Sq o k 0 1 st.2) (fun r => Sq o 24 0 1 r) 24 (s0 := ((0 : Int32), c1)) ⟨rfl, h0⟩ ?_ ?_ (by omega)
  · obtain ⟨r, q1, q2⟩ := key
    refine ⟨r, ?_, fun w hw => ?_⟩
    · unfold DX7_reach DX7_reach_L35
      rw [i1, bd1_eq, q1, bd1_eq]
    · obtain ⟨g1, g2, g3⟩ := q2 w hw
      have hno : ¬ qv o 24 0 1 w := by
        rintro ⟨y, v, q1, q2, q3, q4, q5, q6, q7⟩
        omega
      rcases dd_4 o ho w hw with h | h
      · rw [g1 (by omega), if_neg (by omega)]
      · rw [g3 (by omega) hno, if_pos h]
  · rintro k ⟨x2, c2⟩ hk ⟨h1, h2⟩
    simp only at h1 h2
    subst h1
    left
    show ∃ s', DX7_reach_L35s (nI o) (nI k) c2 = some (.inl s') ∧ _
    unfold DX7_reach_L35s
    have hk1 : nI k + (1 : Int32) = nI (k + 1) := p_add k 1
    have e24 : (24 : Int32) = nI 24 := rfl
    obtain ⟨c3, r1, r2⟩ := D7_round_eq ho (show k ≤ 23 by omega) h2
    rw [e24, if_neg (by rw [p_le (by omega) (by omega)]; omega), r1, bd1_eq, hk1]
    exact ⟨_, rfl, rfl, Sq_round ho (by omega) r2⟩
  · rintro ⟨x2, c2⟩ ⟨h1, h2⟩
    simp only at h1 h2
    subst h1
    show ∃ r, DX7_reach_L35s (nI o) (nI 24) c2 = some (.inr r) ∧ _
    unfold DX7_reach_L35s
    rw [if_pos (by decide)]
    exact ⟨_, rfl, h2⟩
end RE
