/-! PURE: the class's howMany, paidInAll over the order; counts over the order are counts over all throws -/
theorem wout0 (i : Nat) : wout 0 i = false := by unfold wout; exact Nat.zero_testBit i
theorem ordL_perm {T : Nat → Nat} {n : Nat} (hT : ∀ i, i < n → T i ≤ 40) : (ordL T (wout 0) n).Perm (List.range n) := by
  unfold ordL
  rw [List.perm_ext_iff_of_nodup (ordM_nodup T (wout 0) n 41) List.nodup_range]
  intro i
  rw [mem_ordM, List.mem_range]
  exact ⟨fun h => h.1, fun h => ⟨h, by have := hT i h; omega, wout0 i⟩⟩
section XC
variable {f order : Nat → Int32} {n : Nat} {l : List Nat} {c : Nat → Nat}
theorem D1_howMany_eq (hn : n ≤ 7) (hl : ∀ i ∈ l, i < n) (hlen : l.length ≤ 7) (hL : Lr order l) (h6 : ColM f 6 l c) (hc : ∀ i, c i ≤ 2) {how : Nat} (hh : how ≤ 2) :
    DX1_howMany (nI how) f order (nI l.length) = some (nI (l.countP (fun i => decide (c i = how)))) := by
  unfold DX1_howMany DX1_howMany_L4
  have h0 : ((0 : Int32), (0 : Int32)) = (fun k => (nI ((l.take k).countP (fun i => decide (c i = how))), nI k)) 0 := by simp only [List.take_zero]; rfl
  rw [h0, it_for (fun k => (nI ((l.take k).countP (fun i => decide (c i = how))), nI k)) (r := nI (l.countP (fun i => decide (c i = how)))) l.length ?_ ?_ (by omega), bd1_eq]
  · intro k hk
    show DX1_howMany_L4s (nI how) f order (nI l.length) (nI ((l.take k).countP (fun i => decide (c i = how)))) (nI k) = some (.inl (nI ((l.take (k + 1)).countP (fun i => decide (c i = how))), nI (k + 1)))
    unfold DX1_howMany_L4s
    have hki := at0_some hk
    have hil := at0_mem hk
    generalize at0 l k = i at hki hil
    have hin := hl i hil
    have hk1 : nI k + (1 : Int32) = nI (k + 1) := p_add k 1
    have htake : l.take (k + 1) = l.take k ++ [i] := by rw [List.take_succ, hki]; rfl
    have g6 : DX5_get (nI i) (6 : Int32) (7 : Int32) (10 : Int32) 70 f = some (nI (c i)) := by
      have := getL (f := f) (i := i) (c := 6) (by omega) (by decide)
      rw [h6 i hil] at this; exact this
    have hci := hc i
    rw [if_neg (by rw [p_le (by omega) (by omega)]; omega), D8_at_eq (by omega) (by decide), bd1_eq, hL k i hki, g6, bd1_eq, hk1, htake, List.countP_append]
    by_cases he : c i = how
    · rw [if_pos (by rw [he])]
      refine congrArg some (congrArg Sum.inl (Prod.ext ?_ rfl))
      simp only [List.countP_singleton, decide_eq_true he, if_true]
      exact p_add _ 1
    · rw [if_neg (by rw [p_eq (by omega) (by omega)]; exact he)]
      refine congrArg some (congrArg Sum.inl (Prod.ext ?_ rfl))
      simp [List.countP_singleton, he]
  · show DX1_howMany_L4s (nI how) f order (nI l.length) (nI ((l.take l.length).countP (fun i => decide (c i = how)))) (nI l.length) = _
    unfold DX1_howMany_L4s
    rw [if_pos (by rw [p_le (by omega) (by omega)]; omega), List.take_length]
theorem D1_paidInAll_eq (hn : n ≤ 7) (hl : ∀ i ∈ l, i < n) (hlen : l.length ≤ 7) (hL : Lr order l) (h8 : ColM f 8 l c) :
    DX1_paidInAll f order (nI l.length) = some (nI ((l.map c).sum)) := by
  unfold DX1_paidInAll DX1_paidInAll_L4
  have h0 : ((0 : Int32), (0 : Int32)) = (fun k => (nI (((l.take k).map c).sum), nI k)) 0 := by simp only [List.take_zero]; rfl
  rw [h0, it_for (fun k => (nI (((l.take k).map c).sum), nI k)) (r := nI ((l.map c).sum)) l.length ?_ ?_ (by omega), bd1_eq]
  · intro k hk
    show DX1_paidInAll_L4s f order (nI l.length) (nI (((l.take k).map c).sum)) (nI k) = some (.inl (nI (((l.take (k + 1)).map c).sum), nI (k + 1)))
    unfold DX1_paidInAll_L4s
    have hki := at0_some hk
    have hil := at0_mem hk
    generalize at0 l k = i at hki hil
    have hin := hl i hil
    have hk1 : nI k + (1 : Int32) = nI (k + 1) := p_add k 1
    have htake : l.take (k + 1) = l.take k ++ [i] := by rw [List.take_succ, hki]; rfl
    have g8 : DX5_get (nI i) (8 : Int32) (7 : Int32) (10 : Int32) 70 f = some (nI (c i)) := by
      have := getL (f := f) (i := i) (c := 8) (by omega) (by decide)
      rw [h8 i hil] at this; exact this
    rw [if_neg (by rw [p_le (by omega) (by omega)]; omega), D8_at_eq (by omega) (by decide), bd1_eq, hL k i hki, g8, bd1_eq, hk1, htake, List.map_append, List.sum_append, p_add]
    simp
  · show DX1_paidInAll_L4s f order (nI l.length) (nI (((l.take l.length).map c).sum)) (nI l.length) = _
    unfold DX1_paidInAll_L4s
    rw [if_pos (by rw [p_le (by omega) (by omega)]; omega), List.take_length]
end XC
