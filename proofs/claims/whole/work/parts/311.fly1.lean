/-! PURE: fly's first loop: the plan's columns, the order -/
def Thr (g : Nat → Int32) (n : Nat) (T A V K : Nat → Nat) : Prop := ∀ i, i < n → g (i * 4 + 0) = nI (T i) ∧ g (i * 4 + 1) = nI (A i) ∧ g (i * 4 + 2) = nI (V i) ∧ g (i * 4 + 3) = nI (K i)
theorem out_bit : ∀ w, w < 128 → ∀ i, i < 7 → ((((nI w) >>> (nI i &&& 31)) &&& (1 : Int32)) = 0 ↔ w.testBit i = false) := by decide +kernel
def wout (w : Nat) : Nat → Bool := fun i => w.testBit i
def rowOf (g f : Nat → Int32) (i c : Nat) : Nat → Int32 := fun j => if i * 10 ≤ j ∧ j < i * 10 + c then g (i * 4 + (j - i * 10)) else f j
theorem D1_row_eq {g f : Nat → Int32} {i : Nat} (hi : i < 7) : DX1_fly_L21 g (nI i) FU (0 : Int32) f = some (rowOf g f i 4) := by
  unfold DX1_fly_L21
  have h0 : ((0 : Int32), f) = (fun c => (nI c, rowOf g f i c)) 0 := by
    refine Prod.ext rfl ?_
    funext j
    show f j = rowOf g f i 0 j
    unfold rowOf
    rw [if_neg (by omega)]
  rw [h0]
  refine it_for (fun c => (nI c, rowOf g f i c)) 4 ?_ ?_ (by omega)
  · intro c hc
    show DX1_fly_L21s g (nI i) (nI c) (rowOf g f i c) = some (.inl (nI (c + 1), rowOf g f i (c + 1)))
    unfold DX1_fly_L21s
    have e4 : (4 : Int32) = nI 4 := rfl
    rw [if_neg (by rw [e4, p_le (by omega) (by omega)]; omega)]
    rw [getT hi hc, bd1_eq, setL hi (by omega), bd1_eq]
    refine congrArg some (congrArg Sum.inl (Prod.ext (p_add c 1) ?_))
    funext j
    show upd (rowOf g f i c) (i * 10 + c) (g (i * 4 + c)) j = rowOf g f i (c + 1) j
    rw [upd_at]
    unfold rowOf
    by_cases hj : j = i * 10 + c
    · rw [if_pos hj, if_pos (by omega), hj, Nat.add_sub_cancel_left]
    · rw [if_neg hj]
      by_cases hj2 : i * 10 ≤ j ∧ j < i * 10 + c
      · rw [if_pos hj2, if_pos (by omega)]
      · rw [if_neg hj2, if_neg (by omega)]
  · show DX1_fly_L21s g (nI i) (nI 4) (rowOf g f i 4) = _
    unfold DX1_fly_L21s
    rw [if_pos (by decide)]
theorem rowOf_at {g f : Nat → Int32} {i c : Nat} (hc : c < 4) : rowOf g f i 4 (i * 10 + c) = g (i * 4 + c) := by
  unfold rowOf
  rw [if_pos (by omega), Nat.add_sub_cancel_left]
theorem rowOf_ne {g f : Nat → Int32} {i j c : Nat} (hj : j ≠ i) (hc : c < 10) : rowOf g f i 4 (j * 10 + c) = f (j * 10 + c) := by
  unfold rowOf
  rw [if_neg (by omega)]
theorem D1_fly_L7_eq {g f order : Nat → Int32} {n w : Nat} {T A V K : Nat → Nat} (hn : n ≤ 7) (hw : w < 128) (hg : Thr g n T A V K) (hT : ∀ i, i < n → T i < 41) :
    ∃ f' order', DX1_fly_L7 (nI w) g (nI n) FU (0 : Int32) f order (0 : Int32) = some (f', order', nI (ordL T (wout w) n).length) ∧ Col f' 0 n T ∧ Col f' 1 n A ∧ Col f' 2 n V ∧ Col f' 3 n K ∧ Lr order' (ordL T (wout w) n) := by
  have key := it_for2 (S := Int32 × (Nat → Int32) × (Nat → Int32) × Int32) (R := (Nat → Int32) × (Nat → Int32) × Int32)
    (f := fun st => DX1_fly_L7s (nI w) g (nI n) (st.1) (st.2.1) (st.2.2.1) (st.2.2.2))
    (fun i st => st.1 = nI i ∧ Col st.2.1 0 i T ∧ Col st.2.1 1 i A ∧ Col st.2.1 2 i V ∧ Col st.2.1 3 i K ∧ Lr st.2.2.1 (ordL T (wout w) i) ∧ st.2.2.2 = nI (ordL T (wout w) i).length)
    (fun r => Col r.1 0 n T ∧ Col r.1 1 n A ∧ Col r.1 2 n V ∧ Col r.1 3 n K ∧ Lr r.2.1 (ordL T (wout w) n) ∧ r.2.2 = nI (ordL T (wout w) n).length)
    n (s0 := ((0 : Int32), f, order, (0 : Int32))) ?_ ?_ ?_ (by omega)
  · obtain ⟨⟨f', order', dn⟩, h1, h2, h3, h4, h5, h6, h7⟩ := key
    refine ⟨f', order', ?_, h2, h3, h4, h5, h6⟩
    unfold DX1_fly_L7
    rw [h1]
    simp only at h7
    rw [h7]
  · have hnil : ordL T (wout w) 0 = [] := by
      apply List.eq_nil_iff_forall_not_mem.mpr
      intro x hx
      have := (mem_ordM.mp hx).1
      omega
    refine ⟨rfl, fun i h => by omega, fun i h => by omega, fun i h => by omega, fun i h => by omega, ?_, ?_⟩
    · rw [hnil]; intro j x h; cases h
    · rw [hnil]; rfl
  · rintro i ⟨x3, f1, o1, d1⟩ hi ⟨h1, h2, h3, h4, h5, h6, h7⟩
    simp only at h1 h2 h3 h4 h5 h6 h7
    subst h1 h7
    left
    show ∃ s', DX1_fly_L7s (nI w) g (nI n) (nI i) f1 o1 (nI (ordL T (wout w) i).length) = some (.inl s') ∧ _
    unfold DX1_fly_L7s DX5_rows
    rw [bd1_eq, if_neg (by rw [p_le (by omega) (by omega)]; omega), D1_row_eq (by omega), bd1_eq]
    obtain ⟨g0, g1, g2, g3⟩ := hg i hi
    have c0 : Col (rowOf g f1 i 4) 0 (i + 1) T := fun j hj => by
      by_cases hji : j = i
      · subst hji; rw [rowOf_at (by decide)]; exact g0
      · rw [rowOf_ne hji (by decide)]; exact h2 j (by omega)
    have c1 : Col (rowOf g f1 i 4) 1 (i + 1) A := fun j hj => by
      by_cases hji : j = i
      · subst hji; rw [rowOf_at (by decide)]; exact g1
      · rw [rowOf_ne hji (by decide)]; exact h3 j (by omega)
    have c2 : Col (rowOf g f1 i 4) 2 (i + 1) V := fun j hj => by
      by_cases hji : j = i
      · subst hji; rw [rowOf_at (by decide)]; exact g2
      · rw [rowOf_ne hji (by decide)]; exact h4 j (by omega)
    have c3 : Col (rowOf g f1 i 4) 3 (i + 1) K := fun j hj => by
      by_cases hji : j = i
      · subst hji; rw [rowOf_at (by decide)]; exact g3
      · rw [rowOf_ne hji (by decide)]; exact h5 j (by omega)
    by_cases hb : (((nI w) >>> (nI i &&& 31)) &&& (1 : Int32)) = 0
    · rw [if_pos hb]
      have ho : wout w i = false := (out_bit w hw i (by omega)).mp hb
      obtain ⟨P, Q, q1, q2, q3, q4⟩ := ordM_ins (T := T) (o := wout w) (k := i) ho (m := 41) (hT i hi)
      have q1 : ordL T (wout w) i = P ++ Q := q1
      have q2 : ordL T (wout w) (i + 1) = P ++ i :: Q := q2
      have hmem : ∀ x ∈ P ++ Q, x < i := fun x hx => by rw [← q1] at hx; exact (mem_ordM.mp hx).1
      have hlen : (P ++ Q).length ≤ i := by rw [← q1]; exact ordM_len T (wout w) i 41
      obtain ⟨o2, r1, r2⟩ := D1_lineUp_eq (T := T) (f := rowOf g f1 i 4) (order := o1) (P := P) (Q := Q) (k := i) (n := i + 1) (by omega) (by omega)
        (fun x hx => ⟨by have := hmem x (List.mem_append_left _ hx); omega, q3 x hx⟩) (fun x hx => ⟨by have := hmem x (List.mem_append_right _ hx); omega, q4 x hx⟩) (by omega) c0 (fun x hx => by have := hT x (by omega); omega) (by rw [← q1]; exact h6)
      rw [q1, r1, bd2_eq]
      refine ⟨_, rfl, p_add i 1, c0, c1, c2, c3, ?_, ?_⟩
      · show Lr o2 (ordL T (wout w) (i + 1))
        rw [q2]; exact r2
      · show nI ((P ++ Q).length + 1) = nI (ordL T (wout w) (i + 1)).length
        rw [q2]; simp; congr 1
    · rw [if_neg hb]
      have ho : ¬ wout w i = false := fun q => hb ((out_bit w hw i (by omega)).mpr q)
      have hs : ordL T (wout w) (i + 1) = ordL T (wout w) i := ordM_same (fun q => ho q.2)
      refine ⟨_, rfl, p_add i 1, c0, c1, c2, c3, ?_, ?_⟩
      · show Lr o1 (ordL T (wout w) (i + 1))
        rw [hs]; exact h6
      · show nI (ordL T (wout w) i).length = nI (ordL T (wout w) (i + 1)).length
        rw [hs]
  · rintro ⟨x3, f1, o1, d1⟩ ⟨h1, h2, h3, h4, h5, h6, h7⟩
    simp only at h1 h2 h3 h4 h5 h6 h7
    subst h1
    show ∃ r, DX1_fly_L7s (nI w) g (nI n) (nI n) f1 o1 d1 = some (.inr r) ∧ _
    unfold DX1_fly_L7s DX5_rows
    rw [bd1_eq, if_pos (by rw [p_le (by omega) (by omega)]; omega)]
    exact ⟨_, rfl, h2, h3, h4, h5, h6, h7⟩
