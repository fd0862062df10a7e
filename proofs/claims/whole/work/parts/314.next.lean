/-! PURE: the meeting day of two loads; nextMeeting -/
def md (a v b u D : Nat) : Nat := match DX8_meetingDay (nI a) (nI v) (nI b) (nI u) (nI D) with
  | some x => x.toNatClampNeg
  | none => 0
/-- what is told of a load's throw, in its bounds -/
def Tok (n : Nat) (T V : Nat → Nat) (D : Nat) : Prop := (∀ i, i < n → T i ≤ 40 ∧ 1 ≤ V i ∧ V i ≤ 6) ∧ 1 ≤ D ∧ D ≤ 60
theorem md_spec {a v b u D : Nat} (ha : a ≤ 40) (hb : b ≤ 40) (hv : 1 ≤ v) (hv6 : v ≤ 6) (hu : 1 ≤ u) (hu6 : u ≤ 6) (hD : D ≤ 60) (hD1 : 1 ≤ D) :
    DX8_meetingDay (nI a) (nI v) (nI b) (nI u) (nI D) = some (nI (md a v b u D)) ∧ ((md a v b u D = 1000 ∧ ∀ t, ¬ EE a v b u D t) ∨ (md a v b u D ≤ 100 ∧ EE a v b u D (md a v b u D) ∧ ∀ t, EE a v b u D t → md a v b u D ≤ t ∧ (md a v b u D = t ∨ (v = u ∧ a = b)))) := by
  obtain ⟨m, h1, h2⟩ := D8_meetingDay_eq ha hb hv hv6 hu hu6 hD hD1
  have hm : md a v b u D = m := by
    unfold md
    rw [h1]
    exact p_tn (by rcases h2 with h | h <;> omega)
  rw [hm]
  exact ⟨h1, h2⟩
theorem EE_symm {a v b u D t : Nat} (h : EE a v b u D t) : EE b u a v D t := ⟨h.2.1, h.1, h.2.2.1.symm, by rw [← h.2.2.1]; exact h.2.2.2⟩
theorem md_symm {a v b u D : Nat} (ha : a ≤ 40) (hb : b ≤ 40) (hv : 1 ≤ v) (hv6 : v ≤ 6) (hu : 1 ≤ u) (hu6 : u ≤ 6) (hD : D ≤ 60) (hD1 : 1 ≤ D) : md a v b u D = md b u a v D := by
  have h1 := (md_spec ha hb hv hv6 hu hu6 hD hD1).2
  have h2 := (md_spec hb ha hu hu6 hv hv6 hD hD1).2
  rcases h1 with ⟨h1, g1⟩ | ⟨h1, g1, k1⟩
  · rcases h2 with ⟨h2, g2⟩ | ⟨h2, g2, k2⟩
    · omega
    · exact absurd (EE_symm g2) (g1 _)
  · rcases h2 with ⟨h2, g2⟩ | ⟨h2, g2, k2⟩
    · exact absurd (EE_symm g1) (g2 _)
    · have := (k1 _ (EE_symm g2)).1
      have := (k2 _ (EE_symm g1)).1
      omega
/-- of two loads: 1000, if they are thrown to different places -/
def md2 (P T V : Nat → Nat) (D i j : Nat) : Nat := if P i = P j then md (T i) (V i) (T j) (V j) D else 1000
theorem md2_symm {n : Nat} {P T V : Nat → Nat} {D i j : Nat} (h : Tok n T V D) (hi : i < n) (hj : j < n) : md2 P T V D i j = md2 P T V D j i := by
  unfold md2
  obtain ⟨a1, a2, a3⟩ := h.1 i hi
  obtain ⟨b1, b2, b3⟩ := h.1 j hj
  by_cases hp : P i = P j
  · rw [if_pos hp, if_pos hp.symm]
    exact md_symm a1 b1 a2 a3 b2 b3 h.2.2 h.2.1
  · rw [if_neg hp, if_neg (fun q => hp q.symm)]
theorem md2_le {n : Nat} {P T V : Nat → Nat} {D i j : Nat} (h : Tok n T V D) (hi : i < n) (hj : j < n) : md2 P T V D i j ≤ 100 ∨ md2 P T V D i j = 1000 := by
  unfold md2
  obtain ⟨a1, a2, a3⟩ := h.1 i hi
  obtain ⟨b1, b2, b3⟩ := h.1 j hj
  by_cases hp : P i = P j
  · rw [if_pos hp]
    rcases (md_spec a1 b1 a2 a3 b2 b3 h.2.2 h.2.1).2 with q | q
    · exact Or.inr q.1
    · exact Or.inl q.1
  · rw [if_neg hp]; exact Or.inr rfl
theorem D1_meetingOf_eq {f : Nat → Int32} {n : Nat} {l : List Nat} {P T V : Nat → Nat} {D i j : Nat} (hn : n ≤ 7) (hl : ∀ i ∈ l, i < n) (ht : Tok n T V D) (h0 : Col f 0 n T) (h2 : Col f 2 n V) (h4 : ColM f 4 l P) (hP : ∀ i, P i < 24) (hi : i ∈ l) (hj : j ∈ l) :
    DX1_meetingOf (nI i) (nI j) (nI D) f = some (nI (md2 P T V D i j)) := by
  have hin := hl i hi
  have hjn := hl j hj
  obtain ⟨a1, a2, a3⟩ := ht.1 i hin
  obtain ⟨b1, b2, b3⟩ := ht.1 j hjn
  have g : ∀ x, x ∈ l → DX5_get (nI x) (4 : Int32) (7 : Int32) (10 : Int32) 70 f = some (nI (P x)) ∧ DX5_get (nI x) (0 : Int32) (7 : Int32) (10 : Int32) 70 f = some (nI (T x)) ∧ DX5_get (nI x) (2 : Int32) (7 : Int32) (10 : Int32) 70 f = some (nI (V x)) := by
    intro x hx
    have hxn := hl x hx
    refine ⟨?_, ?_, ?_⟩
    · have := getL (f := f) (i := x) (c := 4) (by omega) (by decide)
      rw [h4 x hx] at this; exact this
    · have := getL (f := f) (i := x) (c := 0) (by omega) (by decide)
      rw [h0 x hxn] at this; exact this
    · have := getL (f := f) (i := x) (c := 2) (by omega) (by decide)
      rw [h2 x hxn] at this; exact this
  obtain ⟨gi4, gi0, gi2⟩ := g i hi
  obtain ⟨gj4, gj0, gj2⟩ := g j hj
  unfold DX1_meetingOf md2
  rw [gi4, bd1_eq, gj4, bd1_eq]
  by_cases hp : P i = P j
  · rw [if_pos (by rw [hp]), if_pos hp, gi0, bd1_eq, gi2, bd1_eq, gj0, bd1_eq, gj2, bd1_eq, (md_spec a1 b1 a2 a3 b2 b3 ht.2.2 ht.2.1).1, bd1_eq]
  · rw [if_neg (by rw [p_eq (by have := hP i; omega) (by have := hP j; omega)]; exact hp), if_neg hp]; rfl
/-- places of a list by their numbers -/
def at0 (l : List Nat) (k : Nat) : Nat := l.getD k 0
theorem at0_some {l : List Nat} {k : Nat} (h : k < l.length) : l[k]? = some (at0 l k) := by
  unfold at0
  rw [List.getD_eq_getElem?_getD, List.getElem?_eq_getElem h]; rfl
theorem at0_mem {l : List Nat} {k : Nat} (h : k < l.length) : at0 l k ∈ l := List.mem_of_getElem? (at0_some h)
theorem at0_of_mem {l : List Nat} {i : Nat} (h : i ∈ l) : ∃ k, k < l.length ∧ at0 l k = i := by
  obtain ⟨k, hk⟩ := List.getElem?_of_mem h
  have hl := (List.getElem?_eq_some_iff.mp hk).1
  exact ⟨k, hl, Option.some.inj ((at0_some hl).symm.trans hk)⟩
theorem at0_inj {l : List Nat} (hnd : l.Nodup) {a b : Nat} (ha : a < l.length) (hb : b < l.length) (h : at0 l a = at0 l b) : a = b := by
  have h1 := at0_some ha
  have h2 := at0_some hb
  rw [h] at h1
  exact (List.getElem?_inj ha hnd).mp (h1.trans h2.symm)
/-- pairs of places that the two loops have been at -/
def prc (len a b a' b' : Nat) : Prop := a' < b' ∧ b' < len ∧ (a' < a ∨ (a' = a ∧ b' < b))
theorem D1_next_eq {f order : Nat → Int32} {n D : Nat} {l : List Nat} {P T V W : Nat → Nat} (hn : n ≤ 7) (hl : ∀ i ∈ l, i < n) (hlen : l.length ≤ 7) (ht : Tok n T V D) (hL : Lr order l)
    (h0 : Col f 0 n T) (h2 : Col f 2 n V) (h4 : ColM f 4 l P) (h7 : ColM f 7 l W) (hP : ∀ i, P i < 24) (hW : ∀ i ∈ l, W i ≤ 1000) :
    ∃ m, DX1_nextMeeting (nI D) f order (nI l.length) = some (nI m) ∧ m ≤ 1000 ∧ (∀ a b, a < b → b < l.length → W (at0 l a) = 1000 → W (at0 l b) = 1000 → m ≤ md2 P T V D (at0 l a) (at0 l b)) ∧
      (m = 1000 ∨ ∃ a b, a < b ∧ b < l.length ∧ W (at0 l a) = 1000 ∧ W (at0 l b) = 1000 ∧ md2 P T V D (at0 l a) (at0 l b) = m) := by
  have e1000 : (1000 : Int32) = nI 1000 := rfl
  have hget : ∀ k, k < l.length → DX8_at (nI k) 7 order = some (nI (at0 l k)) := fun k hk => by
    rw [D8_at_eq (by omega) (by decide), hL k _ (at0_some hk)]
  have g7 : ∀ x, x ∈ l → DX5_get (nI x) (7 : Int32) (7 : Int32) (10 : Int32) 70 f = some (nI (W x)) := by
    intro x hx
    have hxn := hl x hx
    have := getL (f := f) (i := x) (c := 7) (by omega) (by decide)
    rw [h7 x hx] at this; exact this
  let J : Nat → Nat → Nat → Prop := fun a b m => m ≤ 1000 ∧ (∀ a' b', prc l.length a b a' b' → W (at0 l a') = 1000 → W (at0 l b') = 1000 → m ≤ md2 P T V D (at0 l a') (at0 l b')) ∧
      (m = 1000 ∨ ∃ a b, a < b ∧ b < l.length ∧ W (at0 l a) = 1000 ∧ W (at0 l b) = 1000 ∧ md2 P T V D (at0 l a) (at0 l b) = m)
  have inner : ∀ a m, a < l.length → J a (a + 1) m → ∃ m', DX1_nextMeeting_L19 (nI D) f order (nI l.length) (nI a) FU (nI m) (nI (a + 1)) = some (nI m') ∧ J (a + 1) 0 m' := by
    intro a m ha hJ
    have key := it_for2 (S := Int32 × Int32) (R := Int32) (f := fun st => DX1_nextMeeting_L19s (nI D) f order (nI l.length) (nI a) (st.1) (st.2))
      (fun k st => ∃ m, st.1 = nI m ∧ st.2 = nI (a + 1 + k) ∧ J a (a + 1 + k) m) (fun r => ∃ m, r = nI m ∧ J a l.length m) (l.length - (a + 1)) (s0 := (nI m, nI (a + 1))) ⟨m, rfl, rfl, hJ⟩ ?_ ?_ (by omega)
    · obtain ⟨r, q1, q2⟩ := key
      obtain ⟨m', rfl, j1, j2, j3⟩ := q2
      refine ⟨m', q1, j1, fun a' b' hp => j2 a' b' ⟨hp.1, hp.2.1, ?_⟩, j3⟩
      rcases hp.2.2 with h | h
      · rcases Nat.lt_or_ge a' a with h' | h'
        · exact Or.inl h'
        · exact Or.inr ⟨by omega, hp.2.1⟩
      · omega
    · rintro k ⟨x2, x4⟩ hk ⟨m, hm, hx, j1, j2, j3⟩
      simp only at hm hx
      subst hm hx
      left
      have hb : a + 1 + k < l.length := by omega
      show ∃ s', DX1_nextMeeting_L19s (nI D) f order (nI l.length) (nI a) (nI m) (nI (a + 1 + k)) = some (.inl s') ∧ _
      unfold DX1_nextMeeting_L19s
      have hx4 : nI (a + 1 + k) + (1 : Int32) = nI (a + 1 + (k + 1)) := p_add (a + 1 + k) 1
      rw [if_neg (by rw [p_le (by omega) (by omega)]; omega), hget a ha, bd1_eq, hget _ hb, bd1_eq, g7 _ (at0_mem ha), bd1_eq, hx4]
      have grow : ∀ m', m' ≤ 1000 → m' ≤ m → (W (at0 l a) = 1000 → W (at0 l (a + 1 + k)) = 1000 → m' ≤ md2 P T V D (at0 l a) (at0 l (a + 1 + k))) → ∀ a' b', prc l.length a (a + 1 + (k + 1)) a' b' → W (at0 l a') = 1000 → W (at0 l b') = 1000 → m' ≤ md2 P T V D (at0 l a') (at0 l b') := by
        intro m' _ hle hnew a' b' hp w1 w2
        by_cases hq : a' = a ∧ b' = a + 1 + k
        · obtain ⟨hqa, hqb⟩ := hq
          subst hqa hqb
          exact hnew w1 w2
        · have := j2 a' b' ⟨hp.1, hp.2.1, by rcases hp.2.2 with h | h <;> omega⟩ w1 w2
          omega
      by_cases w1 : W (at0 l a) = 1000
      · rw [if_pos (by rw [w1]; rfl), g7 _ (at0_mem hb), bd1_eq]
        by_cases w2 : W (at0 l (a + 1 + k)) = 1000
        · rw [if_pos (by rw [w2]; rfl), D1_meetingOf_eq hn hl ht h0 h2 h4 hP (at0_mem ha) (at0_mem hb), bd1_eq]
          have hmd : md2 P T V D (at0 l a) (at0 l (a + 1 + k)) ≤ 1000 := by
            rcases md2_le (P := P) ht (hl _ (at0_mem ha)) (hl _ (at0_mem hb)) with h | h <;> omega
          by_cases hlt : md2 P T V D (at0 l a) (at0 l (a + 1 + k)) < m
          · rw [if_pos (by rw [p_lt (by omega) (by omega)]; exact hlt)]
            exact ⟨_, rfl, _, rfl, rfl, hmd, grow _ hmd (by omega) (fun _ _ => Nat.le_refl _), Or.inr ⟨a, a + 1 + k, by omega, hb, w1, w2, rfl⟩⟩
          · rw [if_neg (by rw [p_lt (by omega) (by omega)]; exact hlt)]
            exact ⟨_, rfl, _, rfl, rfl, j1, grow _ j1 (Nat.le_refl _) (fun _ _ => by omega), j3⟩
        · rw [if_neg (by rw [e1000, p_eq (by have := hW _ (at0_mem hb); omega) (by omega)]; exact w2)]
          exact ⟨_, rfl, _, rfl, rfl, j1, grow _ j1 (Nat.le_refl _) (fun _ q => absurd q w2), j3⟩
      · rw [if_neg (by rw [e1000, p_eq (by have := hW _ (at0_mem ha); omega) (by omega)]; exact w1)]
        exact ⟨_, rfl, _, rfl, rfl, j1, grow _ j1 (Nat.le_refl _) (fun q _ => absurd q w1), j3⟩
    · rintro ⟨x2, x4⟩ ⟨m, hm, hx, j⟩
      simp only at hm hx
      subst hm hx
      have hb : a + 1 + (l.length - (a + 1)) = l.length := by omega
      rw [hb] at j ⊢
      show ∃ r, DX1_nextMeeting_L19s (nI D) f order (nI l.length) (nI a) (nI m) (nI l.length) = some (.inr r) ∧ _
      unfold DX1_nextMeeting_L19s
      rw [if_pos (by rw [p_le (by omega) (by omega)]; omega)]
      exact ⟨_, rfl, m, rfl, j⟩
  have key := it_for2 (S := Int32 × Int32) (R := Int32) (f := fun st => DX1_nextMeeting_L6s (nI D) f order (nI l.length) (st.1) (st.2))
    (fun k st => ∃ m, st.1 = nI m ∧ st.2 = nI k ∧ J k 0 m) (fun r => ∃ m, r = nI m ∧ J l.length 0 m) l.length (s0 := ((1000 : Int32), (0 : Int32))) ⟨1000, rfl, rfl, Nat.le_refl _, fun a' b' hp => by have := hp.2.2; omega, Or.inl rfl⟩ ?_ ?_ (by omega)
  · obtain ⟨r, q1, q2⟩ := key
    obtain ⟨m, rfl, j1, j2, j3⟩ := q2
    refine ⟨m, ?_, j1, fun a b h1 h2 => j2 a b ⟨h1, h2, Or.inl (by omega)⟩, j3⟩
    unfold DX1_nextMeeting DX1_nextMeeting_L6
    rw [q1, bd1_eq]
  · rintro k ⟨x2, x3⟩ hk ⟨m, hm, hx, j1, j2, j3⟩
    simp only at hm hx
    subst hm hx
    left
    show ∃ s', DX1_nextMeeting_L6s (nI D) f order (nI l.length) (nI m) (nI k) = some (.inl s') ∧ _
    unfold DX1_nextMeeting_L6s
    have hx3 : nI k + (1 : Int32) = nI (k + 1) := p_add k 1
    obtain ⟨m', i1, i2⟩ := inner k m hk ⟨j1, fun a' b' hp => j2 a' b' ⟨hp.1, hp.2.1, by have := hp.1; rcases hp.2.2 with h | h <;> omega⟩, j3⟩
    rw [if_neg (by rw [p_le (by omega) (by omega)]; omega), hx3, i1, bd1_eq]
    exact ⟨_, rfl, m', rfl, rfl, i2⟩
  · rintro ⟨x2, x3⟩ ⟨m, hm, hx, j⟩
    simp only at hm hx
    subst hm hx
    show ∃ r, DX1_nextMeeting_L6s (nI D) f order (nI l.length) (nI m) (nI l.length) = some (.inr r) ∧ _
    unfold DX1_nextMeeting_L6s
    rw [if_pos (by rw [p_le (by omega) (by omega)]; omega)]
    exact ⟨_, rfl, m, rfl, j⟩
