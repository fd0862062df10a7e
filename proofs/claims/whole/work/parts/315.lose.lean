/-! PURE: loseOn -/
/-- the columns of the loads but the day of what becomes of them -/
def Cols (f : Nat → Int32) (n : Nat) (l : List Nat) (T A V K P B : Nat → Nat) : Prop := Col f 0 n T ∧ Col f 1 n A ∧ Col f 2 n V ∧ Col f 3 n K ∧ ColM f 4 l P ∧ ColM f 5 l B
theorem Cols.upd7 {f : Nat → Int32} {n i : Nat} {l : List Nat} {T A V K P B : Nat → Nat} {x : Int32} (h : Cols f n l T A V K P B) : Cols (upd f (i * 10 + 7) x) n l T A V K P B := by
  obtain ⟨h0, h1, h2, h3, h4, h5⟩ := h
  refine ⟨fun j hj => ?_, fun j hj => ?_, fun j hj => ?_, fun j hj => ?_, fun j hj => ?_, fun j hj => ?_⟩
  · rw [upd_ne _ _ (by omega)]; exact h0 j hj
  · rw [upd_ne _ _ (by omega)]; exact h1 j hj
  · rw [upd_ne _ _ (by omega)]; exact h2 j hj
  · rw [upd_ne _ _ (by omega)]; exact h3 j hj
  · rw [upd_ne _ _ (by omega)]; exact h4 j hj
  · rw [upd_ne _ _ (by omega)]; exact h5 j hj
/-- two alive that meet on day d -/
def hitP (l : List Nat) (P T V W : Nat → Nat) (D d a b : Nat) : Prop := W (at0 l a) = 1000 ∧ W (at0 l b) = 1000 ∧ md2 P T V D (at0 l a) (at0 l b) = d
/-- one of such a pair, of the pairs told by R -/
def hit (l : List Nat) (P T V W : Nat → Nat) (D d : Nat) (R : Nat → Nat → Prop) (i : Nat) : Prop := ∃ a b, R a b ∧ hitP l P T V W D d a b ∧ (i = at0 l a ∨ i = at0 l b)
def W7 (f : Nat → Int32) (l : List Nat) (P T V W : Nat → Nat) (D d : Nat) (R : Nat → Nat → Prop) : Prop := ∀ i, i ∈ l → (hit l P T V W D d R i → f (i * 10 + 7) = nI d) ∧ (¬ hit l P T V W D d R i → f (i * 10 + 7) = nI (W i))
theorem hit_mono {l : List Nat} {P T V W : Nat → Nat} {D d : Nat} {R R' : Nat → Nat → Prop} (h : ∀ a b, R a b ↔ R' a b) (i : Nat) : hit l P T V W D d R i ↔ hit l P T V W D d R' i :=
  ⟨fun ⟨a, b, h1, h2⟩ => ⟨a, b, (h a b).mp h1, h2⟩, fun ⟨a, b, h1, h2⟩ => ⟨a, b, (h a b).mpr h1, h2⟩⟩
theorem W7.congr {f : Nat → Int32} {l : List Nat} {P T V W : Nat → Nat} {D d : Nat} {R R' : Nat → Nat → Prop} (h : ∀ a b, R a b ↔ R' a b) (hw : W7 f l P T V W D d R) : W7 f l P T V W D d R' := fun i hi =>
  ⟨fun q => (hw i hi).1 ((hit_mono h i).mpr q), fun q => (hw i hi).2 (fun z => q ((hit_mono h i).mp z))⟩
theorem D1_lose_eq {f order : Nat → Int32} {n D d : Nat} {l : List Nat} {P T A V K B W : Nat → Nat} (hn : n ≤ 7) (hl : ∀ i ∈ l, i < n) (hlen : l.length ≤ 7) (ht : Tok n T V D) (hL : Lr order l)
    (hc : Cols f n l T A V K P B) (h7 : ColM f 7 l W) (hP : ∀ i, P i < 24) (hd : d < 1000) (hW : ∀ i ∈ l, W i = 1000 ∨ W i < d) :
    ∃ f', DX1_loseOn (nI d) (nI D) f order (nI l.length) = some f' ∧ Cols f' n l T A V K P B ∧ W7 f' l P T V W D d (fun a b => a < b ∧ b < l.length) := by
  have hget : ∀ k, k < l.length → DX8_at (nI k) 7 order = some (nI (at0 l k)) := fun k hk => by
    rw [D8_at_eq (by omega) (by decide), hL k _ (at0_some hk)]
  have val : ∀ (g : Nat → Int32) (R : Nat → Nat → Prop), W7 g l P T V W D d R → ∀ i, i ∈ l → ∃ v, g (i * 10 + 7) = nI v ∧ v ≤ 1000 ∧ (v < d ↔ ¬ W i = 1000) := by
    intro g R hw i hi
    rcases Classical.em (hit l P T V W D d R i) with h | h
    · refine ⟨d, (hw i hi).1 h, by omega, ?_⟩
      obtain ⟨a, b, -, h2, h3⟩ := h
      have : W i = 1000 := by rcases h3 with e | e <;> rw [e]; exact h2.1; exact h2.2.1
      constructor
      · intro h; omega
      · intro h; exact absurd this h
    · refine ⟨W i, (hw i hi).2 h, by rcases hW i hi with q | q <;> omega, ?_⟩
      rcases hW i hi with q | q
      · constructor
        · intro z; omega
        · intro z; exact absurd q z
      · constructor
        · intro z; omega
        · intro z; exact q
  have inner : ∀ a g, a < l.length → Cols g n l T A V K P B → W7 g l P T V W D d (prc l.length a (a + 1)) → ∃ g', DX1_loseOn_L15 (nI d) (nI D) order (nI l.length) (nI a) FU (nI (a + 1)) g = some g' ∧ Cols g' n l T A V K P B ∧ W7 g' l P T V W D d (prc l.length (a + 1) 0) := by
    intro a g ha hcg hwg
    have key := it_for2 (S := Int32 × (Nat → Int32)) (R := Nat → Int32) (f := fun st => DX1_loseOn_L15s (nI d) (nI D) order (nI l.length) (nI a) (st.1) (st.2))
      (fun k st => st.1 = nI (a + 1 + k) ∧ Cols st.2 n l T A V K P B ∧ W7 st.2 l P T V W D d (prc l.length a (a + 1 + k))) (fun r => Cols r n l T A V K P B ∧ W7 r l P T V W D d (prc l.length a l.length)) (l.length - (a + 1)) (s0 := (nI (a + 1), g)) ⟨rfl, hcg, hwg⟩ ?_ ?_ (by omega)
    · obtain ⟨r, q1, q2, q3⟩ := key
      refine ⟨r, q1, q2, q3.congr (fun a' b' => ?_)⟩
      unfold prc
      constructor
      · rintro ⟨h1, h2, h3⟩; exact ⟨h1, h2, by omega⟩
      · rintro ⟨h1, h2, h3⟩; exact ⟨h1, h2, by omega⟩
    · rintro k ⟨x4, g1⟩ hk ⟨hx, c1, w1⟩
      simp only at hx c1 w1
      subst hx
      left
      have hb : a + 1 + k < l.length := by omega
      show ∃ s', DX1_loseOn_L15s (nI d) (nI D) order (nI l.length) (nI a) (nI (a + 1 + k)) g1 = some (.inl s') ∧ _
      unfold DX1_loseOn_L15s
      have hx4 : nI (a + 1 + k) + (1 : Int32) = nI (a + 1 + (k + 1)) := p_add (a + 1 + k) 1
      have hia := at0_mem ha
      have hib := at0_mem hb
      generalize hi : at0 l a = i at hia
      generalize hj : at0 l (a + 1 + k) = j at hib
      have hin := hl i hia
      have hjn := hl j hib
      obtain ⟨vi, ei, bi, ci⟩ := val g1 _ w1 i hia
      obtain ⟨vj, ej, bj, cj⟩ := val g1 _ w1 j hib
      have gi : DX5_get (nI i) (7 : Int32) (7 : Int32) (10 : Int32) 70 g1 = some (nI vi) := by
        have := getL (f := g1) (i := i) (c := 7) (by omega) (by decide)
        rw [ei] at this; exact this
      have gj : DX5_get (nI j) (7 : Int32) (7 : Int32) (10 : Int32) 70 g1 = some (nI vj) := by
        have := getL (f := g1) (i := j) (c := 7) (by omega) (by decide)
        rw [ej] at this; exact this
      -- the pairs grow by this one
      have hpr : ∀ a' b', prc l.length a (a + 1 + (k + 1)) a' b' ↔ (prc l.length a (a + 1 + k) a' b' ∨ (a' = a ∧ b' = a + 1 + k)) := by
        intro a' b'
        unfold prc
        constructor
        · rintro ⟨h1, h2, h3⟩
          by_cases hq : a' = a ∧ b' = a + 1 + k
          · exact Or.inr hq
          · exact Or.inl ⟨h1, h2, by omega⟩
        · rintro (⟨h1, h2, h3⟩ | ⟨h1, h2⟩)
          · exact ⟨h1, h2, by omega⟩
          · exact ⟨by omega, by omega, by omega⟩
      have hno : ¬ hitP l P T V W D d a (a + 1 + k) → W7 g1 l P T V W D d (prc l.length a (a + 1 + (k + 1))) := by
        intro hq x hx
        have : hit l P T V W D d (prc l.length a (a + 1 + (k + 1))) x ↔ hit l P T V W D d (prc l.length a (a + 1 + k)) x := by
          constructor
          · rintro ⟨a', b', h1, h2, h3⟩
            rcases (hpr a' b').mp h1 with h | ⟨h, h'⟩
            · exact ⟨a', b', h, h2, h3⟩
            · subst h h'; exact absurd h2 hq
          · rintro ⟨a', b', h1, h2, h3⟩
            exact ⟨a', b', (hpr a' b').mpr (Or.inl h1), h2, h3⟩
        exact ⟨fun z => (w1 x hx).1 (this.mp z), fun z => (w1 x hx).2 (fun y => z (this.mpr y))⟩
      rw [if_neg (by rw [p_le (by omega) (by omega)]; omega), hget a ha, bd1_eq, hget _ hb, bd1_eq, hi, hj, gi, bd1_eq]
      by_cases hvi : vi < d
      · rw [if_pos (by rw [p_lt (by omega) (by omega)]; exact hvi)]
        unfold DX1_loseOn_J80
        rw [if_pos rfl, hx4]
        refine ⟨_, rfl, rfl, c1, hno (fun q => ?_)⟩
        exact (ci.mp hvi) (by rw [← hi]; exact q.1)
      · rw [if_neg (by rw [p_lt (by omega) (by omega)]; exact hvi), gj, bd1_eq]
        by_cases hvj : vj < d
        · rw [if_pos (by rw [p_lt (by omega) (by omega)]; exact hvj)]
          unfold DX1_loseOn_J80
          rw [if_pos rfl, hx4]
          refine ⟨_, rfl, rfl, c1, hno (fun q => ?_)⟩
          exact (cj.mp hvj) (by rw [← hj]; exact q.2.1)
        · rw [if_neg (by rw [p_lt (by omega) (by omega)]; exact hvj)]
          have ai : W i = 1000 := by rcases Nat.decEq (W i) 1000 with h | h; exact absurd (ci.mpr h) hvi; exact h
          have aj : W j = 1000 := by rcases Nat.decEq (W j) 1000 with h | h; exact absurd (cj.mpr h) hvj; exact h
          unfold DX1_loseOn_J80
          rw [if_neg (by decide), D1_meetingOf_eq hn hl ht c1.1 c1.2.2.1 c1.2.2.2.2.1 hP hia hib, bd1_eq]
          have hmd : md2 P T V D i j ≤ 1000 := by rcases md2_le (P := P) ht hin hjn with h | h <;> omega
          by_cases hm : md2 P T V D i j = d
          · have s7 : ∀ (g : Nat → Int32) x, x < n → DX5_set (nI x) (7 : Int32) (nI d) (7 : Int32) (10 : Int32) 70 g = some (upd g (x * 10 + 7) (nI d)) := fun g x hx => setL (c := 7) (by omega) (by decide)
            rw [if_pos (by rw [hm]), s7 _ i hin, bd1_eq, s7 _ j hjn, bd1_eq, hx4]
            refine ⟨_, rfl, rfl, c1.upd7.upd7, fun x hx => ?_⟩
            simp only
            by_cases hxj : x = j
            · subst hxj
              have : hit l P T V W D d (prc l.length a (a + 1 + (k + 1))) x := ⟨a, a + 1 + k, (hpr _ _).mpr (Or.inr ⟨rfl, rfl⟩), ⟨by rw [hi]; exact ai, by rw [hj]; exact aj, by rw [hi, hj]; exact hm⟩, Or.inr hj.symm⟩
              exact ⟨fun _ => upd_same _ _ _, fun z => absurd this z⟩
            · rw [upd_ne _ _ (by omega)]
              by_cases hxi : x = i
              · subst hxi
                have : hit l P T V W D d (prc l.length a (a + 1 + (k + 1))) x := ⟨a, a + 1 + k, (hpr _ _).mpr (Or.inr ⟨rfl, rfl⟩), ⟨by rw [hi]; exact ai, by rw [hj]; exact aj, by rw [hi, hj]; exact hm⟩, Or.inl hi.symm⟩
                exact ⟨fun _ => upd_same _ _ _, fun z => absurd this z⟩
              · rw [upd_ne _ _ (by omega)]
                have : hit l P T V W D d (prc l.length a (a + 1 + (k + 1))) x ↔ hit l P T V W D d (prc l.length a (a + 1 + k)) x := by
                  constructor
                  · rintro ⟨a', b', h1, h2, h3⟩
                    rcases (hpr a' b').mp h1 with h | ⟨h, h'⟩
                    · exact ⟨a', b', h, h2, h3⟩
                    · subst h h'
                      rw [hi, hj] at h3
                      rcases h3 with h | h
                      · exact absurd h hxi
                      · exact absurd h hxj
                  · rintro ⟨a', b', h1, h2, h3⟩
                    exact ⟨a', b', (hpr a' b').mpr (Or.inl h1), h2, h3⟩
                exact ⟨fun z => (w1 x hx).1 (this.mp z), fun z => (w1 x hx).2 (fun y => z (this.mpr y))⟩
          · rw [if_neg (by rw [p_eq (by omega) (by omega)]; exact hm), hx4]
            refine ⟨_, rfl, rfl, c1, hno (fun q => hm ?_)⟩
            rw [← hi, ← hj]; exact q.2.2
    · rintro ⟨x4, g1⟩ ⟨hx, c1, w1⟩
      simp only at hx c1 w1
      subst hx
      have hb : a + 1 + (l.length - (a + 1)) = l.length := by omega
      rw [hb] at w1 ⊢
      show ∃ r, DX1_loseOn_L15s (nI d) (nI D) order (nI l.length) (nI a) (nI l.length) g1 = some (.inr r) ∧ _
      unfold DX1_loseOn_L15s
      rw [if_pos (by rw [p_le (by omega) (by omega)]; omega)]
      exact ⟨_, rfl, c1, w1⟩
  have key := it_for2 (S := Int32 × (Nat → Int32)) (R := Nat → Int32) (f := fun st => DX1_loseOn_L2s (nI d) (nI D) order (nI l.length) (st.1) (st.2))
    (fun k st => st.1 = nI k ∧ Cols st.2 n l T A V K P B ∧ W7 st.2 l P T V W D d (prc l.length k 0)) (fun r => Cols r n l T A V K P B ∧ W7 r l P T V W D d (prc l.length l.length 0)) l.length (s0 := ((0 : Int32), f)) ⟨rfl, hc, fun i hi => ⟨fun h => ?_, fun _ => h7 i hi⟩⟩ ?_ ?_ (by omega)
  · obtain ⟨r, q1, q2, q3⟩ := key
    refine ⟨r, ?_, q2, q3.congr (fun a' b' => ?_)⟩
    · unfold DX1_loseOn DX1_loseOn_L2
      rw [q1, bd1_eq]
    · unfold prc
      constructor
      · rintro ⟨h1, h2, h3⟩; exact ⟨h1, h2⟩
      · rintro ⟨h1, h2⟩; exact ⟨h1, h2, by omega⟩
  · obtain ⟨a, b, h1, -⟩ := h
    have := h1.2.2
    omega
  · rintro k ⟨x3, g1⟩ hk ⟨hx, c1, w1⟩
    simp only at hx c1 w1
    subst hx
    left
    show ∃ s', DX1_loseOn_L2s (nI d) (nI D) order (nI l.length) (nI k) g1 = some (.inl s') ∧ _
    unfold DX1_loseOn_L2s
    have hx3 : nI k + (1 : Int32) = nI (k + 1) := p_add k 1
    obtain ⟨g2, i1, i2, i3⟩ := inner k g1 hk c1 (w1.congr (fun a' b' => by
      unfold prc
      constructor
      · rintro ⟨h1, h2, h3⟩; exact ⟨h1, h2, by omega⟩
      · rintro ⟨h1, h2, h3⟩; exact ⟨h1, h2, by omega⟩))
    rw [if_neg (by rw [p_le (by omega) (by omega)]; omega), hx3, i1, bd1_eq]
    exact ⟨_, rfl, rfl, i2, i3⟩
  · rintro ⟨x3, g1⟩ ⟨hx, c1, w1⟩
    simp only at hx c1 w1
    subst hx
    show ∃ r, DX1_loseOn_L2s (nI d) (nI D) order (nI l.length) (nI l.length) g1 = some (.inr r) ∧ _
    unfold DX1_loseOn_L2s
    rw [if_pos (by rw [p_le (by omega) (by omega)]; omega)]
    exact ⟨_, rfl, c1, w1⟩
