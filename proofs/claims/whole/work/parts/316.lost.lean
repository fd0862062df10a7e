/-! PURE: who is lost by which day; meetAll -/
def eeb (a v b u D t : Nat) : Bool := decide (a ≤ t) && decide (b ≤ t) && decide (v * (t - a) = u * (t - b)) && decide (v * (t - a) < D)
theorem eeb_iff {a v b u D t : Nat} : eeb a v b u D t = true ↔ EE a v b u D t := by
  unfold eeb EE
  simp [and_assoc]
/-- the day on which a load is lost, of the days before t; 10000: it is not -/
def lostS (P T V : Nat → Nat) (D : Nat) (l : List Nat) : Nat → Nat → Nat
  | 0, _ => 10000
  | t + 1, i => if lostS P T V D l t i = 10000 ∧ (l.any fun j => decide (j ≠ i) && decide (lostS P T V D l t j = 10000) && decide (P i = P j) && eeb (T i) (V i) (T j) (V j) D t) = true then t else lostS P T V D l t i
theorem any_iff {P T V : Nat → Nat} {D : Nat} {l : List Nat} {t i : Nat} : (l.any fun j => decide (j ≠ i) && decide (lostS P T V D l t j = 10000) && decide (P i = P j) && eeb (T i) (V i) (T j) (V j) D t) = true ↔ ∃ j, j ∈ l ∧ j ≠ i ∧ lostS P T V D l t j = 10000 ∧ P i = P j ∧ EE (T i) (V i) (T j) (V j) D t := by
  rw [List.any_eq_true]
  constructor
  · rintro ⟨j, h1, h2⟩
    simp only [Bool.and_eq_true, decide_eq_true_eq] at h2
    exact ⟨j, h1, h2.1.1.1, h2.1.1.2, h2.1.2, eeb_iff.mp h2.2⟩
  · rintro ⟨j, h1, h2, h3, h4, h5⟩
    refine ⟨j, h1, ?_⟩
    simp only [Bool.and_eq_true, decide_eq_true_eq]
    exact ⟨⟨⟨h2, h3⟩, h4⟩, eeb_iff.mpr h5⟩
section LOST
variable {P T V : Nat → Nat} {D n : Nat} {l : List Nat}
theorem lost_or (t i : Nat) : lostS P T V D l t i = 10000 ∨ lostS P T V D l t i < t := by
  induction t with
  | zero => exact Or.inl rfl
  | succ t ih =>
    rw [lostS]
    split
    · exact Or.inr (by omega)
    · rcases ih with h | h
      · exact Or.inl h
      · exact Or.inr (by omega)
theorem lost_back {t i : Nat} (h : lostS P T V D l (t + 1) i = 10000) (ht : t < 10000) : lostS P T V D l t i = 10000 := by
  rw [lostS] at h
  split at h
  · omega
  · exact h
theorem md2_EE {i j t : Nat} (ht : Tok n T V D) (hi : i < n) (hj : j < n) (h : md2 P T V D i j = t) (h1 : t < 1000) : P i = P j ∧ EE (T i) (V i) (T j) (V j) D t := by
  unfold md2 at h
  obtain ⟨a1, a2, a3⟩ := ht.1 i hi
  obtain ⟨b1, b2, b3⟩ := ht.1 j hj
  by_cases hp : P i = P j
  · rw [if_pos hp] at h
    refine ⟨hp, ?_⟩
    rcases (md_spec a1 b1 a2 a3 b2 b3 ht.2.2 ht.2.1).2 with q | q
    · omega
    · rw [← h]; exact q.2.1
  · rw [if_neg hp] at h; omega
theorem EE_md2 {i j t : Nat} (ht : Tok n T V D) (hi : i < n) (hj : j < n) (hp : P i = P j) (h : EE (T i) (V i) (T j) (V j) D t) : md2 P T V D i j ≤ t := by
  unfold md2
  obtain ⟨a1, a2, a3⟩ := ht.1 i hi
  obtain ⟨b1, b2, b3⟩ := ht.1 j hj
  rw [if_pos hp]
  rcases (md_spec a1 b1 a2 a3 b2 b3 ht.2.2 ht.2.1).2 with q | q
  · exact absurd h (q.2 t)
  · exact (q.2.2 t h).1
/-- two that are not lost by day t meet on no day before it -/
theorem lost_inv (ht : Tok n T V D) (hl : ∀ i ∈ l, i < n) : ∀ t, t ≤ 1000 → ∀ i j, i ∈ l → j ∈ l → i ≠ j → lostS P T V D l t i = 10000 → lostS P T V D l t j = 10000 → t ≤ md2 P T V D i j := by
  intro t
  induction t with
  | zero => intro _ i j _ _ _ _ _; exact Nat.zero_le _
  | succ t ih =>
    intro hT i j hi hj hij h1 h2
    have b1 := lost_back h1 (by omega)
    have b2 := lost_back h2 (by omega)
    have h3 := ih (by omega) i j hi hj hij b1 b2
    rcases Nat.eq_or_lt_of_le h3 with h | h
    · exfalso
      obtain ⟨hp, he⟩ := md2_EE ht (hl i hi) (hl j hj) h.symm (by omega)
      rw [lostS, if_pos ⟨b1, any_iff.mpr ⟨j, hj, fun e => hij e.symm, b2, hp, he⟩⟩] at h1
      omega
    · exact h
/-- the rule of a day, by the meeting days -/
theorem lost_rule (ht : Tok n T V D) (hl : ∀ i ∈ l, i < n) {t i : Nat} (hT : t < 1000) (hi : i ∈ l) :
    (lostS P T V D l t i = 10000 ∧ (∃ j, j ∈ l ∧ j ≠ i ∧ lostS P T V D l t j = 10000 ∧ md2 P T V D i j = t) → lostS P T V D l (t + 1) i = t) ∧
    (¬ (lostS P T V D l t i = 10000 ∧ (∃ j, j ∈ l ∧ j ≠ i ∧ lostS P T V D l t j = 10000 ∧ md2 P T V D i j = t)) → lostS P T V D l (t + 1) i = lostS P T V D l t i) := by
  rw [lostS]
  constructor
  · rintro ⟨h1, j, h2, h3, h4, h5⟩
    obtain ⟨hp, he⟩ := md2_EE ht (hl i hi) (hl j h2) h5 hT
    rw [if_pos ⟨h1, any_iff.mpr ⟨j, h2, h3, h4, hp, he⟩⟩]
  · intro h
    rw [if_neg]
    rintro ⟨h1, h2⟩
    obtain ⟨j, h3, h4, h5, h6, h7⟩ := any_iff.mp h2
    refine h ⟨h1, j, h3, h4, h5, ?_⟩
    have g1 := EE_md2 ht (hl i hi) (hl j h3) h6 h7
    have g2 := lost_inv ht hl t (by omega) i j hi h3 (fun e => h4 e.symm) h1 h5
    omega
/-- while none meet, nothing changes -/
theorem lost_const (ht : Tok n T V D) (hl : ∀ i ∈ l, i < n) {t : Nat} : ∀ d, t + d ≤ 1000 → (∀ i j, i ∈ l → j ∈ l → i ≠ j → lostS P T V D l t i = 10000 → lostS P T V D l t j = 10000 → t + d ≤ md2 P T V D i j) → ∀ i, i ∈ l → lostS P T V D l (t + d) i = lostS P T V D l t i := by
  intro d
  induction d with
  | zero => intro _ _ i _; rfl
  | succ d ih =>
    intro hd h i hi
    have ih' := ih (by omega) (fun i j a b c e f => by have := h i j a b c e f; omega)
    rw [← ih' i hi]
    refine (lost_rule ht hl (t := t + d) (by omega) hi).2 ?_
    rintro ⟨h1, j, h2, h3, h4, h5⟩
    rw [ih' i hi] at h1
    rw [ih' j h2] at h4
    have := h i j hi h2 (fun e => h3 e.symm) h1 h4
    omega
end LOST
/-- the day that the class notes: 1000, if not lost -/
def Wt (P T V : Nat → Nat) (D : Nat) (l : List Nat) (t i : Nat) : Nat := if lostS P T V D l t i = 10000 then 1000 else lostS P T V D l t i
theorem Wt_1000 {P T V : Nat → Nat} {D : Nat} {l : List Nat} {t i : Nat} (ht : t ≤ 1000) : Wt P T V D l t i = 1000 ↔ lostS P T V D l t i = 10000 := by
  unfold Wt
  rcases lost_or (P := P) (T := T) (V := V) (D := D) (l := l) t i with h | h
  · rw [if_pos h]; exact ⟨fun _ => h, fun _ => rfl⟩
  · rw [if_neg (by omega)]
    constructor <;> intro q <;> omega
theorem cnt_lt {l : List Nat} {p q : Nat → Bool} (h : ∀ x ∈ l, p x = true → q x = true) {x0 : Nat} (hx : x0 ∈ l) (h1 : q x0 = true) (h2 : p x0 = false) : l.countP p < l.countP q := by
  induction l with
  | nil => cases hx
  | cons a l ih =>
    have hle : l.countP p ≤ l.countP q := List.countP_mono_left (fun x hx => h x (List.mem_cons_of_mem _ hx))
    rw [List.countP_cons, List.countP_cons]
    rcases List.mem_cons.mp hx with e | e
    · subst e
      rw [if_pos h1, if_neg (by rw [h2]; decide)]
      omega
    · have := ih (fun x hx => h x (List.mem_cons_of_mem _ hx)) e
      have hc : (if p a = true then 1 else 0) ≤ (if q a = true then 1 else 0) := by
        by_cases ha : p a = true
        · rw [if_pos ha, if_pos (h a List.mem_cons_self ha)]; exact Nat.le_refl _
        · rw [if_neg ha]; exact Nat.zero_le _
      omega
theorem D1_meetAll_eq {f order : Nat → Int32} {n D : Nat} {l : List Nat} {P T A V K B : Nat → Nat} (hn : n ≤ 7) (hl : ∀ i ∈ l, i < n) (hlen : l.length ≤ 7) (hnd : l.Nodup) (ht : Tok n T V D) (hL : Lr order l)
    (hc : Cols f n l T A V K P B) (h7 : ColM f 7 l (fun _ => 1000)) (hP : ∀ i, P i < 24) :
    ∃ f', DX1_meetAll (nI D) f order (nI l.length) = some f' ∧ Cols f' n l T A V K P B ∧ ColM f' 7 l (Wt P T V D l 101) := by
  have hWle : ∀ t i, t ≤ 101 → Wt P T V D l t i = 1000 ∨ Wt P T V D l t i < t := by
    intro t i h
    unfold Wt
    rcases lost_or (P := P) (T := T) (V := V) (D := D) (l := l) t i with q | q
    · rw [if_pos q]; exact Or.inl rfl
    · rw [if_neg (by omega)]; exact Or.inr q
  -- all pairs of members, by their places
  have pairs : ∀ i j, i ∈ l → j ∈ l → i ≠ j → ∃ a b, a < b ∧ b < l.length ∧ ((at0 l a = i ∧ at0 l b = j) ∨ (at0 l a = j ∧ at0 l b = i)) := by
    intro i j hi hj hij
    obtain ⟨a, ha, ea⟩ := at0_of_mem hi
    obtain ⟨b, hb, eb⟩ := at0_of_mem hj
    rcases Nat.lt_trichotomy a b with h | h | h
    · exact ⟨a, b, h, hb, Or.inl ⟨ea, eb⟩⟩
    · subst h; exact absurd (ea.symm.trans eb) hij
    · exact ⟨b, a, h, ha, Or.inr ⟨eb, ea⟩⟩
  have key := it_for2 (S := Int32 × (Nat → Int32)) (R := (Nat → Int32) ⊕ (Nat → Int32)) (f := fun st => DX1_meetAll_L2s (nI D) order (nI l.length) (st.1) (st.2))
    (fun k st => st.1 = nI k ∧ Cols st.2 n l T A V K P B ∧ ∃ t, t ≤ 101 ∧ ColM st.2 7 l (Wt P T V D l t) ∧ l.countP (fun i => decide (lostS P T V D l t i = 10000)) + k ≤ 7)
    (fun r => ∃ g, (r = .inl g ∨ r = .inr g) ∧ Cols g n l T A V K P B ∧ ColM g 7 l (Wt P T V D l 101)) 7 (s0 := ((0 : Int32), f)) ⟨rfl, hc, 0, by omega, fun i hi => (h7 i hi).trans rfl, ?_⟩ ?_ ?_ (by omega)
  · obtain ⟨r, q1, g, q2, q3, q4⟩ := key
    refine ⟨g, ?_, q3, q4⟩
    unfold DX1_meetAll DX1_meetAll_L2
    rw [q1]
    rcases q2 with e | e
    · rw [e]; rfl
    · rw [e]; rfl
  · have := List.countP_le_length (p := fun i => decide (lostS P T V D l 0 i = 10000)) (l := l)
    omega
  · rintro k ⟨x2, g⟩ hk ⟨hx, c1, t, t1, w1, cnt⟩
    simp only at hx c1 w1 cnt
    subst hx
    show (∃ s', DX1_meetAll_L2s (nI D) order (nI l.length) (nI k) g = some (.inl s') ∧ _) ∨ ∃ r, DX1_meetAll_L2s (nI D) order (nI l.length) (nI k) g = some (.inr r) ∧ _
    unfold DX1_meetAll_L2s
    have e7 : (7 : Int32) = nI 7 := rfl
    have e1000 : (1000 : Int32) = nI 1000 := rfl
    obtain ⟨m, m1, m2, m3, m4⟩ := D1_next_eq hn hl hlen ht hL c1.1 c1.2.2.1 c1.2.2.2.2.1 w1 hP (fun i _ => by rcases hWle t i t1 with h | h <;> omega)
    rw [if_neg (by rw [e7, p_le (by omega) (by omega)]; omega), m1, bd1_eq]
    have low : ∀ i j, i ∈ l → j ∈ l → i ≠ j → lostS P T V D l t i = 10000 → lostS P T V D l t j = 10000 → m ≤ md2 P T V D i j := by
      intro i j hi hj hij a1 a2
      obtain ⟨a, b, hab, hb, e | e⟩ := pairs i j hi hj hij
      · have := m3 a b hab hb (by rw [e.1, Wt_1000 (by omega)]; exact a1) (by rw [e.2, Wt_1000 (by omega)]; exact a2)
        rw [e.1, e.2] at this; exact this
      · have := m3 a b hab hb (by rw [e.1, Wt_1000 (by omega)]; exact a2) (by rw [e.2, Wt_1000 (by omega)]; exact a1)
        rw [e.1, e.2, md2_symm ht (hl j hj) (hl i hi)] at this; exact this
    by_cases hm : m = 1000
    · rw [if_pos (by rw [hm]; rfl)]
      right
      refine ⟨_, rfl, g, Or.inr rfl, c1, fun i hi => ?_⟩
      rw [w1 i hi]
      have := lost_const ht hl (t := t) (101 - t) (by omega) (fun i j a b c e f => by have := low i j a b c e f; omega) i hi
      rw [show t + (101 - t) = 101 by omega] at this
      unfold Wt; rw [this]
    · rw [if_neg (by rw [e1000, p_eq (by omega) (by omega)]; exact hm)]
      left
      rcases m4 with h | ⟨pa, pb, p1, p2, p3, p4, p5⟩
      · exact absurd h hm
      have hpa := at0_mem (l := l) (k := pa) (by omega)
      have hpb := at0_mem (l := l) (k := pb) p2
      have hne : at0 l pa ≠ at0 l pb := fun e => by have := at0_inj hnd (by omega) p2 e; omega
      rw [Wt_1000 (by omega)] at p3 p4
      have hm100 : m ≤ 100 := by rcases md2_le (P := P) ht (hl _ hpa) (hl _ hpb) with h | h <;> omega
      have htm : t ≤ m := by
        have := lost_inv ht hl t (by omega) _ _ hpa hpb hne p3 p4
        omega
      obtain ⟨g', r1, r2, r3⟩ := D1_lose_eq hn hl hlen ht hL c1 w1 hP (d := m) (by omega) (fun i hi => by rcases hWle t i t1 with h | h <;> omega)
      rw [r1, bd1_eq]
      have hst : ∀ i, i ∈ l → lostS P T V D l m i = lostS P T V D l t i := fun i hi => by
        have := lost_const ht hl (t := t) (m - t) (by omega) (fun i j a b c e f => by have := low i j a b c e f; omega) i hi
        rw [show t + (m - t) = m by omega] at this; exact this
      -- who is hit is who is lost on that day
      have hhit : ∀ i, i ∈ l → (hit l P T V (Wt P T V D l t) D m (fun a b => a < b ∧ b < l.length) i ↔ (lostS P T V D l m i = 10000 ∧ (∃ j, j ∈ l ∧ j ≠ i ∧ lostS P T V D l m j = 10000 ∧ md2 P T V D i j = m))) := by
        intro i hi
        constructor
        · rintro ⟨a, b, ⟨hab, hb⟩, ⟨z1, z2, z3⟩, e⟩
          rw [Wt_1000 (by omega)] at z1 z2
          have ha' := at0_mem (l := l) (k := a) (by omega)
          have hb' := at0_mem (l := l) (k := b) hb
          have hab' : at0 l a ≠ at0 l b := fun e => by have := at0_inj hnd (by omega) hb e; omega
          rcases e with e | e
          · subst e
            exact ⟨by rw [hst _ hi]; exact z1, at0 l b, hb', fun q => hab' q.symm, by rw [hst _ hb']; exact z2, z3⟩
          · subst e
            exact ⟨by rw [hst _ hi]; exact z2, at0 l a, ha', hab', by rw [hst _ ha']; exact z1, by rw [md2_symm ht (hl _ hi) (hl _ ha')]; exact z3⟩
        · rintro ⟨z1, j, hj, hji, z2, z3⟩
          rw [hst i hi] at z1
          rw [hst j hj] at z2
          obtain ⟨a, b, hab, hb, e | e⟩ := pairs i j hi hj (fun q => hji q.symm)
          · exact ⟨a, b, ⟨hab, hb⟩, ⟨by rw [e.1, Wt_1000 (by omega)]; exact z1, by rw [e.2, Wt_1000 (by omega)]; exact z2, by rw [e.1, e.2]; exact z3⟩, Or.inl e.1.symm⟩
          · exact ⟨a, b, ⟨hab, hb⟩, ⟨by rw [e.1, Wt_1000 (by omega)]; exact z2, by rw [e.2, Wt_1000 (by omega)]; exact z1, by rw [e.1, e.2, md2_symm ht (hl j hj) (hl i hi)]; exact z3⟩, Or.inr e.2.symm⟩
      refine ⟨_, rfl, p_add k 1, r2, m + 1, by omega, fun i hi => ?_, ?_⟩
      · rcases Classical.em (hit l P T V (Wt P T V D l t) D m (fun a b => a < b ∧ b < l.length) i) with h | h
        · show g' (i * 10 + 7) = _
          rw [(r3 i hi).1 h]
          have h2 := (lost_rule ht hl (t := m) (by omega) hi).1 ((hhit i hi).mp h)
          unfold Wt
          rw [h2, if_neg (by omega)]
        · show g' (i * 10 + 7) = _
          rw [(r3 i hi).2 h]
          have h2 := (lost_rule ht hl (t := m) (by omega) hi).2 (fun q => h ((hhit i hi).mpr q))
          unfold Wt
          rw [h2, hst i hi]
      · have hlt := cnt_lt (l := l) (p := fun i => decide (lostS P T V D l (m + 1) i = 10000)) (q := fun i => decide (lostS P T V D l t i = 10000)) (fun x hx h => by
          have h := of_decide_eq_true h
          have := lost_back h (by omega)
          rw [hst x hx] at this
          exact decide_eq_true this) hpa (decide_eq_true p3) (by
          have h2 := (lost_rule ht hl (t := m) (by omega) hpa).1 ⟨by rw [hst _ hpa]; exact p3, at0 l pb, hpb, fun e => hne e.symm, by rw [hst _ hpb]; exact p4, p5⟩
          rw [h2]
          exact decide_eq_false (by omega))
        omega
  · rintro ⟨x2, g⟩ ⟨hx, c1, t, t1, w1, cnt⟩
    simp only at hx c1 w1 cnt
    subst hx
    show ∃ r, DX1_meetAll_L2s (nI D) order (nI l.length) (nI 7) g = some (.inr r) ∧ _
    unfold DX1_meetAll_L2s
    rw [if_pos (by decide)]
    refine ⟨_, rfl, g, Or.inl rfl, c1, fun i hi => ?_⟩
    rw [w1 i hi]
    have hz : l.countP (fun i => decide (lostS P T V D l t i = 10000)) = 0 := by omega
    have hno : ∀ i, i ∈ l → ¬ lostS P T V D l t i = 10000 := fun i hi h => by
      have := List.countP_eq_zero.mp hz i hi
      exact this (decide_eq_true h)
    have := lost_const ht hl (t := t) (101 - t) (by omega) (fun i j a b c e f => absurd e (hno i a)) i hi
    rw [show t + (101 - t) = 101 by omega] at this
    unfold Wt; rw [this]
