/-! PURE: the order of the throws -/
def bkt (T : Nat → Nat) (o : Nat → Bool) (k t : Nat) : List Nat := (List.range k).filter (fun i => decide (T i = t) && !o i)
/-- the throws of the first k that are not left out, on days under m, in their order -/
def ordM (T : Nat → Nat) (o : Nat → Bool) (k m : Nat) : List Nat := (List.range m).flatMap (bkt T o k)
def ordL (T : Nat → Nat) (o : Nat → Bool) (k : Nat) : List Nat := ordM T o k 41
theorem bkt_succ (T : Nat → Nat) (o : Nat → Bool) (k t : Nat) : bkt T o (k + 1) t = bkt T o k t ++ (if T k = t ∧ o k = false then [k] else []) := by
  unfold bkt
  rw [List.range_succ, List.filter_append]
  by_cases h : T k = t ∧ o k = false
  · rw [if_pos h]; simp [h.1, h.2]
  · rw [if_neg h]
    congr 1
    by_cases h1 : T k = t
    · have h2 : o k = true := by cases ho : o k with
        | false => exact absurd ⟨h1, ho⟩ h
        | true => rfl
      simp [h1, h2]
    · simp [h1]
theorem mem_bkt {T : Nat → Nat} {o : Nat → Bool} {k t i : Nat} : i ∈ bkt T o k t ↔ i < k ∧ T i = t ∧ o i = false := by
  simp [bkt]
theorem ordM_succ (T : Nat → Nat) (o : Nat → Bool) (k m : Nat) : ordM T o k (m + 1) = ordM T o k m ++ bkt T o k m := by
  unfold ordM
  rw [List.range_succ, List.flatMap_append]
  simp
theorem mem_ordM {T : Nat → Nat} {o : Nat → Bool} {k m i : Nat} : i ∈ ordM T o k m ↔ i < k ∧ T i < m ∧ o i = false := by
  unfold ordM
  rw [List.mem_flatMap]
  constructor
  · rintro ⟨t, h1, h2⟩
    rw [mem_bkt] at h2
    exact ⟨h2.1, by rw [h2.2.1]; exact List.mem_range.mp h1, h2.2.2⟩
  · rintro ⟨h1, h2, h3⟩
    exact ⟨T i, List.mem_range.mpr h2, mem_bkt.mpr ⟨h1, rfl, h3⟩⟩
theorem bkt_nodup (T : Nat → Nat) (o : Nat → Bool) (k t : Nat) : (bkt T o k t).Nodup := List.Nodup.sublist List.filter_sublist List.nodup_range
theorem ordM_nodup (T : Nat → Nat) (o : Nat → Bool) (k : Nat) : ∀ m, (ordM T o k m).Nodup := by
  intro m
  induction m with
  | zero => exact List.nodup_nil
  | succ m ih =>
    rw [ordM_succ, List.nodup_append]
    refine ⟨ih, bkt_nodup T o k m, fun a ha b hb hab => ?_⟩
    subst hab
    rw [mem_ordM] at ha
    rw [mem_bkt] at hb
    omega
theorem nodup_len : ∀ {n : Nat} {l : List Nat}, l.Nodup → (∀ i ∈ l, i < n) → l.length ≤ n := by
  intro n
  induction n with
  | zero =>
    intro l hn hl
    cases l with
    | nil => exact Nat.le_refl _
    | cons a l => exact absurd (hl a List.mem_cons_self) (by omega)
  | succ n ih =>
    intro l hn hl
    by_cases h : n ∈ l
    · have h1 := List.length_erase_of_mem h
      have h2 : (l.erase n).length ≤ n := ih (hn.erase n) (fun i hi => by
        have h3 := (List.Nodup.mem_erase_iff hn).mp hi
        have h4 := hl i h3.2
        omega)
      omega
    · have : l.length ≤ n := ih hn (fun i hi => by
        have h4 := hl i hi
        rcases Nat.lt_or_ge i n with q | q
        · exact q
        · exact absurd (by rw [show n = i by omega]; exact hi) h)
      omega
theorem ordM_len (T : Nat → Nat) (o : Nat → Bool) (k m : Nat) : (ordM T o k m).length ≤ k := nodup_len (ordM_nodup T o k m) (fun _ h => (mem_ordM.mp h).1)
theorem ordM_same {T : Nat → Nat} {o : Nat → Bool} {k : Nat} : ∀ {m : Nat}, ¬ (T k < m ∧ o k = false) → ordM T o (k + 1) m = ordM T o k m := by
  intro m
  induction m with
  | zero => intro _; rfl
  | succ m ih =>
    intro h
    rw [ordM_succ, ordM_succ, ih (fun q => h ⟨by omega, q.2⟩), bkt_succ, if_neg (fun q => h ⟨by omega, q.2⟩), List.append_nil]
theorem ordM_ins {T : Nat → Nat} {o : Nat → Bool} {k : Nat} (ho : o k = false) : ∀ {m : Nat}, T k < m → ∃ P Q, ordM T o k m = P ++ Q ∧ ordM T o (k + 1) m = P ++ k :: Q ∧ (∀ i ∈ P, T i ≤ T k) ∧ (∀ i ∈ Q, T k < T i) := by
  intro m
  induction m with
  | zero => intro h; omega
  | succ m ih =>
    intro h
    by_cases hm : T k < m
    · obtain ⟨P, Q, h1, h2, h3, h4⟩ := ih hm
      refine ⟨P, Q ++ bkt T o k m, ?_, ?_, h3, ?_⟩
      · rw [ordM_succ, h1, List.append_assoc]
      · rw [ordM_succ, h2, bkt_succ, if_neg (by omega), List.append_nil]; simp
      · intro i hi
        rcases List.mem_append.mp hi with q | q
        · exact h4 i q
        · rw [mem_bkt] at q; omega
    · have hk : T k = m := by omega
      refine ⟨ordM T o k m ++ bkt T o k m, [], ?_, ?_, ?_, ?_⟩
      · rw [ordM_succ, List.append_nil]
      · rw [ordM_succ, ordM_same (by omega), bkt_succ, if_pos ⟨hk, ho⟩, List.append_assoc]
      · intro i hi
        rcases List.mem_append.mp hi with q | q
        · rw [mem_ordM] at q; omega
        · rw [mem_bkt] at q; omega
      · intro i hi; cases hi
/-- an array that begins with a list -/
def Lr (f : Nat → Int32) (l : List Nat) : Prop := ∀ (j x : Nat), l[j]? = some x → f j = nI x
/-- the columns of the loads that the plan tells -/
def Col (f : Nat → Int32) (c : Nat) (n : Nat) (V : Nat → Nat) : Prop := ∀ i, i < n → f (i * 10 + c) = nI (V i)
theorem D1_lineUp_eq {T : Nat → Nat} {f order : Nat → Int32} {P Q : List Nat} {k n : Nat} (hn : n ≤ 7) (hk : k < n) (hP : ∀ i ∈ P, i < n ∧ T i ≤ T k) (hQ : ∀ i ∈ Q, i < n ∧ T k < T i) (hlen : (P ++ Q).length < 7) (hf : Col f 0 n T) (hT : ∀ i, i < n → T i < 1000) (hL : Lr order (P ++ Q)) :
    ∃ order', DX1_lineUp (nI k) f order (nI (P ++ Q).length) = some (order', nI ((P ++ Q).length + 1)) ∧ Lr order' (P ++ k :: Q) := by
  have hlen' : P.length + Q.length < 7 := by simpa using hlen
  let σ : Nat → Int32 × (Nat → Int32) := fun d => (nI (P.length + Q.length - d), fun j => if P.length + Q.length - d < j ∧ j ≤ P.length + Q.length then order (j - 1) else order j)
  have hval : ∀ j, j < P.length + Q.length → ∃ x, (P ++ Q)[j]? = some x ∧ order j = nI x ∧ x < n := by
    intro j hj
    have h1 : j < (P ++ Q).length := by simpa using hj
    refine ⟨(P ++ Q)[j], List.getElem?_eq_getElem h1, hL j _ (List.getElem?_eq_getElem h1), ?_⟩
    have h2 := List.getElem_mem h1
    rcases List.mem_append.mp h2 with q | q
    · exact (hP _ q).1
    · exact (hQ _ q).1
  have hget0 : ∀ x, x < n → DX5_get (nI x) (0 : Int32) (7 : Int32) (10 : Int32) 70 f = some (nI (T x)) := by
    intro x hx
    have h1 := getL (f := f) (i := x) (c := 0) (by omega) (by decide)
    rw [hf x hx] at h1
    exact h1
  have hloop : DX1_lineUp_L5 (nI k) f FU (nI (P.length + Q.length)) order = some (nI P.length, (σ Q.length).2) := by
    have h0 : (nI (P.length + Q.length), order) = σ 0 := by
      simp only [σ, Nat.sub_zero]
      congr 1
      funext j
      rw [if_neg (by omega)]
    unfold DX1_lineUp_L5
    rw [h0]
    refine it_for σ Q.length ?_ ?_ (by omega)
    · intro d hd
      show DX1_lineUp_L5s (nI k) f (σ d).1 (σ d).2 = _
      simp only [σ]
      unfold DX1_lineUp_L5s
      have e0 : (0 : Int32) = nI 0 := rfl
      rw [if_neg (by rw [e0, p_le (by omega) (by omega)]; omega)]
      have e1 : nI (P.length + Q.length - d) - (1 : Int32) = nI (P.length + Q.length - d - 1) := p_sub (a := P.length + Q.length - d) (b := 1) (by omega)
      rw [e1, D8_at_eq (by omega) (by decide), bd1_eq]
      rw [if_neg (by omega)]
      obtain ⟨x, hx1, hx2, hx3⟩ := hval (P.length + Q.length - d - 1) (by omega)
      rw [hx2, hget0 x hx3, bd1_eq, hget0 k hk, bd1_eq]
      have hxQ : x ∈ Q := by
        rw [List.getElem?_append_right (by omega)] at hx1
        exact List.mem_of_getElem? hx1
      rw [if_neg (by rw [p_le (by have := hT x hx3; omega) (by have := hT k hk; omega)]; have := (hQ x hxQ).2; omega)]
      rw [bd1_eq, D8_put_eq (by omega) (by decide), bd1_eq]
      refine congrArg some (congrArg Sum.inl (Prod.ext ?_ ?_))
      rotate_left
      · funext j
        show upd (fun j => if P.length + Q.length - d < j ∧ j ≤ P.length + Q.length then order (j - 1) else order j) (P.length + Q.length - d) (nI x) j = if P.length + Q.length - (d + 1) < j ∧ j ≤ P.length + Q.length then order (j - 1) else order j
        rw [upd_at]
        by_cases hj : j = P.length + Q.length - d
        · rw [if_pos hj, if_pos (by omega), ← hx2, hj]
        · rw [if_neg hj]
          by_cases hj2 : P.length + Q.length - d < j ∧ j ≤ P.length + Q.length
          · rw [if_pos hj2, if_pos (by omega)]
          · rw [if_neg hj2, if_neg (by omega)]
      have e2 : nI (P.length + Q.length - d) + (-1 : Int32) = nI (P.length + Q.length - (d + 1)) := by
        have := p_m1 (P.length + Q.length - (d + 1))
        rw [show P.length + Q.length - (d + 1) + 1 = P.length + Q.length - d by omega] at this
        exact this
      exact e2
    · show DX1_lineUp_L5s (nI k) f (σ Q.length).1 (σ Q.length).2 = _
      have hs1 : (σ Q.length).1 = nI P.length := by simp [σ]
      rw [hs1]
      unfold DX1_lineUp_L5s
      have e0 : (0 : Int32) = nI 0 := rfl
      by_cases hP0 : P.length = 0
      · rw [if_pos (by rw [e0, p_le (by omega) (by omega)]; omega)]
      · rw [if_neg (by rw [e0, p_le (by omega) (by omega)]; omega)]
        have e1 : nI P.length - (1 : Int32) = nI (P.length - 1) := p_sub (a := P.length) (b := 1) (by omega)
        rw [e1, D8_at_eq (by omega) (by decide), bd1_eq]
        obtain ⟨x, hx1, hx2, hx3⟩ := hval (P.length - 1) (by omega)
        have hs2 : (σ Q.length).2 (P.length - 1) = nI x := by
          simp only [σ]
          rw [if_neg (by omega), hx2]
        rw [hs2, hget0 x hx3, bd1_eq, hget0 k hk, bd1_eq]
        have hxP : x ∈ P := by
          rw [List.getElem?_append_left (by omega)] at hx1
          exact List.mem_of_getElem? hx1
        rw [if_pos (by rw [p_le (by have := hT x hx3; omega) (by have := hT k hk; omega)]; exact (hP x hxP).2)]
  refine ⟨upd (σ Q.length).2 P.length (nI k), ?_, ?_⟩
  · unfold DX1_lineUp
    rw [List.length_append, hloop, bd2_eq]
    unfold DX1_lineUp_J63
    rw [D8_put_eq (by omega) (by decide), bd1_eq]
    have : nI (P.length + Q.length) + (1 : Int32) = nI (P.length + Q.length + 1) := p_add _ 1
    rw [this]
  · intro j x hx
    rw [upd_at]
    by_cases hj : j = P.length
    · subst hj
      rw [if_pos rfl]
      rw [List.getElem?_append_right (Nat.le_refl _), Nat.sub_self] at hx
      cases hx; rfl
    · rw [if_neg hj]
      simp only [σ]
      by_cases hj2 : j < P.length
      · rw [if_neg (by omega)]
        rw [List.getElem?_append_left hj2] at hx
        exact hL j x (by rw [List.getElem?_append_left hj2]; exact hx)
      · rw [List.getElem?_append_right (by omega)] at hx
        obtain ⟨q, hq⟩ : ∃ q, j - P.length = q + 1 := ⟨j - P.length - 1, by omega⟩
        rw [hq, List.getElem?_cons_succ] at hx
        have hql : q < Q.length := (List.getElem?_eq_some_iff.mp hx).1
        rw [if_pos (by omega)]
        refine hL (j - 1) x ?_
        rw [List.getElem?_append_right (by omega)]
        rw [show j - 1 - P.length = q by omega]
        exact hx
