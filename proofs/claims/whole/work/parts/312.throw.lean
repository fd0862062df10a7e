/-! PURE: throwAll: where loads are thrown, where the rock stands behind -/
def trn (V K : Nat → Nat) (i : Nat) : Nat := if K i = 1 then 2 * V i else if K i = 2 then 0 else V i
def nxt (V K : Nat → Nat) (s i : Nat) : Nat := (s + 24 - trn V K i) % 24
def run (V K : Nat → Nat) (l : List Nat) (s : Nat) : Nat := l.foldl (nxt V K) s
/-- where the rock stands before throw i -/
def stb (V K : Nat → Nat) (l : List Nat) (s i : Nat) : Nat := run V K (l.takeWhile (fun j => decide (j ≠ i))) s
def toP (A V K : Nat → Nat) (l : List Nat) (s i : Nat) : Nat := (stb V K l s i + A i) % 24
def bhP (V K : Nat → Nat) (l : List Nat) (s i : Nat) : Nat := nxt V K (stb V K l s i) i
theorem nxt_lt (V K : Nat → Nat) (s i : Nat) : nxt V K s i < 24 := Nat.mod_lt _ (by decide)
theorem run_lt {V K : Nat → Nat} : ∀ {l : List Nat} {s : Nat}, s < 24 → run V K l s < 24 := by
  intro l
  induction l with
  | nil => intro s h; exact h
  | cons i l ih => intro s _; exact ih (nxt_lt V K s i)
theorem run_app (V K : Nat → Nat) (p q : List Nat) (s : Nat) : run V K (p ++ q) s = run V K q (run V K p s) := List.foldl_append
theorem take_not {p q : List Nat} {i : Nat} (h : i ∉ p) : (p ++ i :: q).takeWhile (fun j => decide (j ≠ i)) = p := by
  induction p with
  | nil => simp
  | cons a p ih =>
    have h1 : a ≠ i := fun e => h (by rw [e]; exact List.mem_cons_self)
    have h2 : i ∉ p := fun e => h (List.mem_cons_of_mem _ e)
    rw [List.cons_append, List.takeWhile_cons_of_pos (by simpa using h1), ih h2]
theorem stb_at {V K : Nat → Nat} {p q : List Nat} {i s : Nat} (h : i ∉ p) : stb V K (p ++ i :: q) s i = run V K p s := by
  unfold stb
  rw [take_not h]
theorem stb_lt {V K : Nat → Nat} {l : List Nat} {i s : Nat} (h : s < 24) : stb V K l s i < 24 := run_lt h
theorem trn_lt {V K : Nat → Nat} {i : Nat} (h : V i ≤ 6) : trn V K i < 24 := by
  unfold trn
  split
  · omega
  · split <;> omega
theorem D1_turnBy_eq {f : Nat → Int32} {i n : Nat} {V K : Nat → Nat} (hn : n ≤ 7) (hi : i < n) (h2 : Col f 2 n V) (h3 : Col f 3 n K) (hK : K i ≤ 3) : DX1_turnBy (nI i) f = some (nI (trn V K i)) := by
  have g3 := getL (f := f) (i := i) (c := 3) (by omega) (by decide)
  have g2 := getL (f := f) (i := i) (c := 2) (by omega) (by decide)
  rw [h3 i hi] at g3
  rw [h2 i hi] at g2
  have g3 : DX5_get (nI i) (3 : Int32) (7 : Int32) (10 : Int32) 70 f = some (nI (K i)) := g3
  have g2 : DX5_get (nI i) (2 : Int32) (7 : Int32) (10 : Int32) 70 f = some (nI (V i)) := g2
  unfold DX1_turnBy trn
  rw [g3, bd1_eq]
  have e1 : (1 : Int32) = nI 1 := rfl
  have e2 : (2 : Int32) = nI 2 := rfl
  by_cases k1 : K i = 1
  · rw [if_pos (by rw [k1]; rfl), if_pos k1, g2, bd1_eq, e2, p_mul]
  · rw [if_neg (by rw [e1, p_eq (by omega) (by omega)]; exact k1), if_neg k1]
    by_cases k2 : K i = 2
    · rw [if_pos (by rw [k2]; rfl), if_pos k2]; rfl
    · rw [if_neg (by rw [e2, p_eq (by omega) (by omega)]; exact k2), if_neg k2, g2, bd1_eq]
def ColM (f : Nat → Int32) (c : Nat) (l : List Nat) (V : Nat → Nat) : Prop := ∀ i, i ∈ l → f (i * 10 + c) = nI (V i)
theorem D1_throwAll_eq {f order : Nat → Int32} {n s : Nat} {T A V K : Nat → Nat} {l : List Nat} (hn : n ≤ 7) (hs : s < 24) (hl : ∀ i ∈ l, i < n) (hnd : l.Nodup) (hlen : l.length ≤ 7) (hL : Lr order l)
    (h0 : Col f 0 n T) (h1 : Col f 1 n A) (h2 : Col f 2 n V) (h3 : Col f 3 n K) (hA : ∀ i, i < n → A i < 24) (hV : ∀ i, i < n → V i ≤ 6) (hK : ∀ i, i < n → K i ≤ 3) :
    ∃ f', DX1_throwAll (nI s) f order (nI l.length) = some (f', nI s, nI (run V K l s)) ∧ Col f' 0 n T ∧ Col f' 1 n A ∧ Col f' 2 n V ∧ Col f' 3 n K ∧ ColM f' 4 l (toP A V K l s) ∧ ColM f' 5 l (bhP V K l s) ∧ ColM f' 7 l (fun _ => 1000) := by
  have key := it_for2 (S := Int32 × (Nat → Int32) × Int32) (R := (Nat → Int32) × Int32)
    (f := fun st => DX1_throwAll_L12s order (nI l.length) (st.1) (st.2.1) (st.2.2))
    (fun k st => st.1 = nI k ∧ Col st.2.1 0 n T ∧ Col st.2.1 1 n A ∧ Col st.2.1 2 n V ∧ Col st.2.1 3 n K ∧ ColM st.2.1 4 (l.take k) (toP A V K l s) ∧ ColM st.2.1 5 (l.take k) (bhP V K l s) ∧ ColM st.2.1 7 (l.take k) (fun _ => 1000) ∧ st.2.2 = nI (run V K (l.take k) s))
    (fun r => Col r.1 0 n T ∧ Col r.1 1 n A ∧ Col r.1 2 n V ∧ Col r.1 3 n K ∧ ColM r.1 4 l (toP A V K l s) ∧ ColM r.1 5 l (bhP V K l s) ∧ ColM r.1 7 l (fun _ => 1000) ∧ r.2 = nI (run V K l s))
    l.length (s0 := ((0 : Int32), f, nI s)) ?_ ?_ ?_ (by omega)
  · obtain ⟨⟨f', en⟩, q1, q2, q3, q4, q5, q6, q7, q8, q9⟩ := key
    refine ⟨f', ?_, q2, q3, q4, q5, q6, q7, q8⟩
    unfold DX1_throwAll DX1_throwAll_L12
    rw [q1, bd2_eq]
    simp only at q9
    rw [q9]
  · exact ⟨rfl, h0, h1, h2, h3, fun i h => by simp at h, fun i h => by simp at h, fun i h => by simp at h, by simp [run]⟩
  · rintro k ⟨x2, f1, en⟩ hk ⟨q1, q2, q3, q4, q5, q6, q7, q8, q9⟩
    simp only at q1 q2 q3 q4 q5 q6 q7 q8 q9
    subst q1 q9
    left
    show ∃ s', DX1_throwAll_L12s order (nI l.length) (nI k) f1 (nI (run V K (l.take k) s)) = some (.inl s') ∧ _
    unfold DX1_throwAll_L12s
    have hki : l[k]? = some l[k] := List.getElem?_eq_getElem hk
    generalize hi0 : l[k] = i at hki
    have hil : i ∈ l := List.mem_of_getElem? hki
    have hin := hl i hil
    have hsp : l = l.take k ++ i :: l.drop (k + 1) := by
      rw [← hi0, List.getElem_cons_drop, List.take_append_drop]
    have hni : i ∉ l.take k := by
      intro h
      rw [hsp, List.nodup_append] at hnd
      exact hnd.2.2 i h i List.mem_cons_self rfl
    have hstb : stb V K l s i = run V K (l.take k) s := by
      conv => lhs; rw [hsp]
      exact stb_at hni
    have htake : l.take (k + 1) = l.take k ++ [i] := by
      rw [List.take_succ, hki]; rfl
    have hr : run V K (l.take k) s < 24 := run_lt hs
    have e4 : (4 : Int32) = nI 4 := rfl
    have e5 : (5 : Int32) = nI 5 := rfl
    have e7 : (7 : Int32) = nI 7 := rfl
    have gA : DX5_get (nI i) (1 : Int32) (7 : Int32) (10 : Int32) 70 f1 = some (nI (A i)) := by
      have := getL (f := f1) (i := i) (c := 1) (by omega) (by decide)
      rw [q3 i hin] at this; exact this
    rw [if_neg (by rw [p_le (by omega) (by omega)]; omega), D8_at_eq (by omega) (by decide), bd1_eq, hL k i hki, gA, bd1_eq]
    have hA1 := hA i hin
    have hto : (nI (run V K (l.take k) s) + nI (A i)) - (nI (run V K (l.take k) s) + nI (A i)) / (24 : Int32) * (24 : Int32) = nI (toP A V K l s i) := by
      rw [p_add]
      have := p_rem (a := run V K (l.take k) s + A i) (d := 24) (by omega) (by decide) (by decide)
      unfold toP
      rw [hstb]; exact this
    rw [hto]
    have s4 : DX5_set (nI i) (4 : Int32) (nI (toP A V K l s i)) (7 : Int32) (10 : Int32) 70 f1 = some (upd f1 (i * 10 + 4) (nI (toP A V K l s i))) := setL (c := 4) (by omega) (by decide)
    rw [s4, bd1_eq]
    have d2 : Col (upd f1 (i * 10 + 4) (nI (toP A V K l s i))) 2 n V := fun j hj => by rw [upd_ne _ _ (by omega)]; exact q4 j hj
    have d3 : Col (upd f1 (i * 10 + 4) (nI (toP A V K l s i))) 3 n K := fun j hj => by rw [upd_ne _ _ (by omega)]; exact q5 j hj
    rw [D1_turnBy_eq hn hin d2 d3 (hK i hin), bd1_eq, mod24_sub _ hr _ (trn_lt (hV i hin)), bd1_eq]
    have hbh : (run V K (l.take k) s + 24 - trn V K i) % 24 = bhP V K l s i := by unfold bhP nxt; rw [hstb]
    rw [hbh]
    have s5 : ∀ g : Nat → Int32, DX5_set (nI i) (5 : Int32) (nI (bhP V K l s i)) (7 : Int32) (10 : Int32) 70 g = some (upd g (i * 10 + 5) (nI (bhP V K l s i))) := fun g => setL (c := 5) (by omega) (by decide)
    have s7 : ∀ g : Nat → Int32, DX5_set (nI i) (7 : Int32) (1000 : Int32) (7 : Int32) (10 : Int32) 70 g = some (upd g (i * 10 + 7) (nI 1000)) := fun g => setL (c := 7) (by omega) (by decide)
    rw [s5, bd1_eq, s7, bd1_eq]
    refine ⟨_, rfl, p_add k 1, ?_, ?_, ?_, ?_, ?_, ?_, ?_, ?_⟩
    · intro j hj; simp only; rw [upd_ne _ _ (by omega), upd_ne _ _ (by omega), upd_ne _ _ (by omega)]; exact q2 j hj
    · intro j hj; simp only; rw [upd_ne _ _ (by omega), upd_ne _ _ (by omega), upd_ne _ _ (by omega)]; exact q3 j hj
    · intro j hj; simp only; rw [upd_ne _ _ (by omega), upd_ne _ _ (by omega), upd_ne _ _ (by omega)]; exact q4 j hj
    · intro j hj; simp only; rw [upd_ne _ _ (by omega), upd_ne _ _ (by omega), upd_ne _ _ (by omega)]; exact q5 j hj
    · intro j hj
      simp only
      rw [htake] at hj
      rcases List.mem_append.mp hj with h | h
      · have : j ≠ i := fun e => hni (e ▸ h)
        rw [upd_ne _ _ (by omega), upd_ne _ _ (by omega), upd_ne _ _ (by omega)]; exact q6 j h
      · have : j = i := by simpa using h
        subst this
        rw [upd_ne _ _ (by omega), upd_ne _ _ (by omega), upd_same]
    · intro j hj
      simp only
      rw [htake] at hj
      rcases List.mem_append.mp hj with h | h
      · have : j ≠ i := fun e => hni (e ▸ h)
        rw [upd_ne _ _ (by omega), upd_ne _ _ (by omega), upd_ne _ _ (by omega)]; exact q7 j h
      · have : j = i := by simpa using h
        subst this
        rw [upd_ne _ _ (by omega), upd_same]
    · intro j hj
      simp only
      rw [htake] at hj
      rcases List.mem_append.mp hj with h | h
      · have : j ≠ i := fun e => hni (e ▸ h)
        rw [upd_ne _ _ (by omega), upd_ne _ _ (by omega), upd_ne _ _ (by omega)]; exact q8 j h
      · have : j = i := by simpa using h
        subst this
        rw [upd_same]
    · simp only
      rw [htake, run_app]
      show nI (bhP V K l s i) = nI (nxt V K (run V K (l.take k) s) i)
      unfold bhP; rw [hstb]
  · rintro ⟨x2, f1, en⟩ ⟨q1, q2, q3, q4, q5, q6, q7, q8, q9⟩
    simp only at q1 q2 q3 q4 q5 q6 q7 q8 q9
    subst q1
    show ∃ r, DX1_throwAll_L12s order (nI l.length) (nI l.length) f1 en = some (.inr r) ∧ _
    unfold DX1_throwAll_L12s
    rw [if_pos (by rw [p_le (by omega) (by omega)]; omega)]
    rw [List.take_length] at q6 q7 q8 q9
    exact ⟨_, rfl, q2, q3, q4, q5, q6, q7, q8, q9⟩
