/-! PURE: standBehind -/
theorem ordM_later {T : Nat → Nat} {o : Nat → Bool} {n m1 : Nat} : ∀ d, ∃ q, ordM T o n (m1 + d) = ordM T o n m1 ++ q ∧ ∀ i ∈ q, m1 ≤ T i := by
  intro d
  induction d with
  | zero => exact ⟨[], by simp, fun i h => by cases h⟩
  | succ d ih =>
    obtain ⟨q, h1, h2⟩ := ih
    refine ⟨q ++ bkt T o n (m1 + d), ?_, ?_⟩
    · rw [show m1 + (d + 1) = m1 + d + 1 by omega, ordM_succ, h1, List.append_assoc]
    · intro i hi
      rcases List.mem_append.mp hi with h | h
      · exact h2 i h
      · have := (mem_bkt.mp h).2.1; omega
theorem D1_standBehind_eq {f order : Nat → Int32} {n s day : Nat} {T V K : Nat → Nat} {p q : List Nat} (hn : n ≤ 7) (hl : ∀ i ∈ p ++ q, i < n) (hlen : (p ++ q).length ≤ 7) (hnd : (p ++ q).Nodup) (hL : Lr order (p ++ q)) (hd : day < 1000) (hT : ∀ i, i < n → T i < 1000)
    (h0 : Col f 0 n T) (h5 : ColM f 5 (p ++ q) (bhP V K (p ++ q) s)) (hp : ∀ i ∈ p, T i ≤ day) (hq : ∀ i ∈ q, day < T i) :
    DX1_standBehind (nI day) f order (nI (p ++ q).length) (nI s) = some (nI (run V K p s)) := by
  unfold DX1_standBehind DX1_standBehind_L7
  have hs0 : (nI s, (0 : Int32)) = (fun k => (nI (run V K (p.take k) s), nI k)) 0 := by simp only [List.take_zero]; rfl
  rw [hs0, it_for (fun k => (nI (run V K (p.take k) s), nI k)) (r := nI (run V K p s)) (p ++ q).length ?_ ?_ (by omega), bd1_eq]
  · intro k hk
    show DX1_standBehind_L7s (nI day) f order (nI (p ++ q).length) (nI (run V K (p.take k) s)) (nI k) = some (.inl (nI (run V K (p.take (k + 1)) s), nI (k + 1)))
    unfold DX1_standBehind_L7s
    have hki := at0_some hk
    have hil := at0_mem hk
    generalize at0 (p ++ q) k = i at hki hil
    have hin := hl i hil
    have hTi := hT i hin
    have hk1 : nI k + (1 : Int32) = nI (k + 1) := p_add k 1
    have g0 : DX5_get (nI i) (0 : Int32) (7 : Int32) (10 : Int32) 70 f = some (nI (T i)) := by
      have := getL (f := f) (i := i) (c := 0) (by omega) (by decide)
      rw [h0 i hin] at this; exact this
    have g5 : DX5_get (nI i) (5 : Int32) (7 : Int32) (10 : Int32) 70 f = some (nI (bhP V K (p ++ q) s i)) := by
      have := getL (f := f) (i := i) (c := 5) (by omega) (by decide)
      rw [h5 i hil] at this; exact this
    rw [if_neg (by rw [p_le (by omega) (by omega)]; omega), D8_at_eq (by omega) (by decide), bd1_eq, hL k i hki, g0, bd1_eq, hk1]
    by_cases hkp : k < p.length
    · rw [List.getElem?_append_left hkp] at hki
      have hip : i ∈ p := List.mem_of_getElem? hki
      rw [if_neg (by rw [p_lt (by omega) (by omega)]; have := hp i hip; omega), g5, bd1_eq]
      have htake : p.take (k + 1) = p.take k ++ [i] := by rw [List.take_succ, hki]; rfl
      have hsp : p ++ q = p.take k ++ i :: (p.drop (k + 1) ++ q) := by
        have e : p[k] = i := by rw [List.getElem?_eq_getElem hkp] at hki; exact Option.some.inj hki
        conv => lhs; rw [← List.take_append_drop k p, ← List.getElem_cons_drop (h := hkp), e]
        simp
      have hni : i ∉ p.take k := by
        intro h
        rw [hsp, List.nodup_append] at hnd
        exact hnd.2.2 i h i List.mem_cons_self rfl
      have hst : stb V K (p ++ q) s i = run V K (p.take k) s := by rw [hsp]; exact stb_at hni
      refine congrArg some (congrArg Sum.inl (Prod.ext ?_ rfl))
      show nI (bhP V K (p ++ q) s i) = nI (run V K (p.take (k + 1)) s)
      rw [htake, run_app]
      show nI (bhP V K (p ++ q) s i) = nI (nxt V K (run V K (p.take k) s) i)
      unfold bhP; rw [hst]
    · rw [List.getElem?_append_right (by omega)] at hki
      have hiq : i ∈ q := List.mem_of_getElem? hki
      rw [if_pos (by rw [p_lt (by omega) (by omega)]; exact hq i hiq), List.take_of_length_le (by omega), List.take_of_length_le (by omega)]
  · show DX1_standBehind_L7s (nI day) f order (nI (p ++ q).length) (nI (run V K (p.take (p ++ q).length) s)) (nI (p ++ q).length) = _
    unfold DX1_standBehind_L7s
    rw [if_pos (by rw [p_le (by omega) (by omega)]; omega), List.take_of_length_le (by simp)]
