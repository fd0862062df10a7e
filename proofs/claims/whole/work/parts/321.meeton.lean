/-! PURE: the reference's meetOn -/
theorem or128 : ∀ a, a < 128 → ∀ b, b < 128 → nI a ||| nI b = nI (a ||| b) := by decide +kernel
theorem bit2 : ∀ i, i < 7 → ∀ j, j < 7 → (((1 : Int32) <<< (nI i &&& 31)) ||| ((1 : Int32) <<< (nI j &&& 31))) = nI (2 ^ i ||| 2 ^ j) := by decide +kernel
theorem or_lt128 {a b : Nat} (ha : a < 128) (hb : b < 128) : a ||| b < 128 := Nat.or_lt_two_pow (n := 7) ha hb
theorem bit_lt {i : Nat} (h : i < 7) : 2 ^ i < 128 := Nat.pow_lt_pow_right (by decide) (show i < 7 from h)
theorem far_iff {x V D : Nat} (hV : 1 ≤ V) (hD : 1 ≤ D) : x < (D + V - 1) / V ↔ V * x < D := by
  rw [Nat.lt_div_iff_mul_lt (by omega)]
  rw [Nat.mul_comm x V]
  omega
theorem D9_isOnWay_eq {days home lost : Nat → Int32} {i t w Ti hi li : Nat} (hi7 : i < 7) (hw : w < 128) (ht : t < 100000) (h1 : days i = nI Ti) (h2 : home i = nI hi) (h3 : lost i = nI li) (b1 : Ti < 100000) (b2 : hi < 100000) (b3 : li < 100000) :
    DX9_isOnWay (nI i) (nI t) days home lost (nI w) = some (if wout w i = false ∧ Ti ≤ t ∧ t < hi ∧ t ≤ li then 1 else 0) := by
  unfold DX9_isOnWay
  rw [has_eq w hw i hi7, bd1_eq]
  by_cases ho : w.testBit i = true
  · have : wout w i = true := ho
    rw [if_pos ho, if_neg (by decide), if_neg (by rw [this]; rintro ⟨q, -⟩; cases q)]
  · have ho' : wout w i = false := by unfold wout; simpa using ho
    rw [if_neg ho, if_pos rfl, p_g (by omega) (by decide), p_tn (by omega), h1]
    by_cases c1 : t < Ti
    · rw [if_pos (by rw [p_lt (by omega) (by omega)]; exact c1), if_neg (by omega)]
    · rw [if_neg (by rw [p_lt (by omega) (by omega)]; exact c1), p_h (by omega) (by omega), h2]
      by_cases c2 : hi ≤ t
      · rw [if_pos (by rw [p_le (by omega) (by omega)]; exact c2), if_neg (by omega)]
      · rw [if_neg (by rw [p_le (by omega) (by omega)]; exact c2), p_h (by omega) (by omega), h3]
        by_cases c3 : li < t
        · rw [if_pos (by rw [p_lt (by omega) (by omega)]; exact c3), if_neg (by omega)]
        · rw [if_neg (by rw [p_lt (by omega) (by omega)]; exact c3), if_pos ⟨ho', by omega, by omega, by omega⟩]
theorem D9_farOf_eq {days speeds : Nat → Int32} {i t Ti Vi : Nat} (hi7 : i < 28) (h1 : days i = nI Ti) (h2 : speeds i = nI Vi) (hT : Ti ≤ t) : DX9_farOf (nI i) (nI t) days speeds = some (nI (Vi * (t - Ti))) := by
  unfold DX9_farOf
  rw [p_g hi7 (by decide), p_g hi7 (by decide), p_tn (by omega), h1, h2, p_sub hT, p_mul]
/-- the reference's arrays at the beginning of day t -/
def Mday (home lost : Nat → Int32) (n w : Nat) (P T V : Nat → Nat) (D : Nat) (l : List Nat) (t : Nat) : Prop := ∀ i, i < n →
  (wout w i = false → lost i = nI (lostS P T V D l t i) ∧ home i = nI (if lostS P T V D l t i = 10000 then hday T V D i else lostS P T V D l t i)) ∧
  (wout w i = true → lost i = nI 10000 ∧ home i = nI (hday T V D i))
/-- two meet on day t -/
def MT (P T V : Nat → Nat) (D : Nat) (l : List Nat) (w t i j : Nat) : Prop := wout w i = false ∧ lostS P T V D l t i = 10000 ∧ wout w j = false ∧ lostS P T V D l t j = 10000 ∧ P i = P j ∧ EE (T i) (V i) (T j) (V j) D t
theorem D9_meet_eq {days speeds to home lost : Nat → Int32} {n w t D i j : Nat} {T V P : Nat → Nat} {l : List Nat} (hn : n ≤ 7) (hw : w < 128) (ht : t ≤ 100) (hok : Tok n T V D) (hd : ∀ i, i < n → days i = nI (T i)) (hs : ∀ i, i < n → speeds i = nI (V i)) (hto : ∀ i, i < n → wout w i = false → to i = nI (P i)) (hP : ∀ i, P i < 24)
    (hm : Mday home lost n w P T V D l t) (hi : i < n) (hj : j < n) {m : Nat} :
    ∃ b : Bool, (b = true ↔ MT P T V D l w t i j) ∧ DX9_meetOn_L17s (nI t) days speeds to home lost (nI w) (nI i) (nI m) (nI j) = if j < i then DX9_meetOn_J79 (if b = true then 1 else 0) (nI m) (nI i) (nI j) else some (.inr (nI m)) := by
  have hl10 : ∀ x, lostS P T V D l t x < 100000 := fun x => by rcases lost_or (P := P) (T := T) (V := V) (D := D) (l := l) t x with q | q <;> omega
  have on : ∀ x, x < n → ∃ b : Bool, DX9_isOnWay (nI x) (nI t) days home lost (nI w) = some (if b = true then 1 else 0) ∧ (b = true ↔ wout w x = false ∧ lostS P T V D l t x = 10000 ∧ T x ≤ t ∧ V x * (t - T x) < D) := by
    intro x hx
    obtain ⟨t1, t2, t3⟩ := hok.1 x hx
    have hh : hday T V D x ≤ 100 := by unfold hday; have := dys_le (V := V) (i := x) t2 hok.2.2; omega
    have hfar : T x ≤ t → (t < hday T V D x ↔ V x * (t - T x) < D) := fun h => by
      rw [← far_iff t2 hok.2.1]; unfold hday dys; omega
    cases ho : wout w x with
    | true =>
      obtain ⟨q1, q2⟩ := (hm x hx).2 ho
      refine ⟨false, ?_, ?_⟩
      · rw [D9_isOnWay_eq (by omega) hw (by omega) (hd x hx) q2 q1 (by omega) (by omega) (by omega), if_neg (by rw [ho]; rintro ⟨q, -⟩; cases q), if_neg (by decide)]
      · constructor
        · intro h; cases h
        · rintro ⟨h, -⟩; cases h
    | false =>
      obtain ⟨q1, q2⟩ := (hm x hx).1 ho
      refine ⟨decide (lostS P T V D l t x = 10000 ∧ T x ≤ t ∧ V x * (t - T x) < D), ?_, ?_⟩
      · rw [D9_isOnWay_eq (by omega) hw (by omega) (hd x hx) q2 q1 (by omega) (by have := hl10 x; split <;> omega) (hl10 x)]
        congr 1
        have hiff : (wout w x = false ∧ T x ≤ t ∧ t < (if lostS P T V D l t x = 10000 then hday T V D x else lostS P T V D l t x) ∧ t ≤ lostS P T V D l t x) ↔ (lostS P T V D l t x = 10000 ∧ T x ≤ t ∧ V x * (t - T x) < D) := by
          rcases lost_or (P := P) (T := T) (V := V) (D := D) (l := l) t x with q | q
          · rw [if_pos q, q]
            constructor
            · rintro ⟨-, h1, h2, -⟩; exact ⟨rfl, h1, (hfar h1).mp h2⟩
            · rintro ⟨-, h1, h2⟩; exact ⟨ho, h1, (hfar h1).mpr h2, by omega⟩
          · rw [if_neg (by omega)]
            constructor
            · rintro ⟨-, h1, h2, -⟩; omega
            · rintro ⟨h0, -⟩; omega
        by_cases hc : lostS P T V D l t x = 10000 ∧ T x ≤ t ∧ V x * (t - T x) < D
        · rw [if_pos (hiff.mpr hc), if_pos (decide_eq_true hc)]
        · rw [if_neg (fun z => hc (hiff.mp z)), if_neg (by rw [decide_eq_false hc]; decide)]
      · rw [decide_eq_true_iff]
        exact ⟨fun h => ⟨rfl, h⟩, fun h => h.2⟩
  obtain ⟨bi, o1, o2⟩ := on i hi
  obtain ⟨bj, o3, o4⟩ := on j hj
  unfold DX9_meetOn_L17s
  by_cases hji : j < i
  · rw [if_neg (by rw [p_le (by omega) (by omega)]; omega), o1, bd1_eq]
    simp only [if_pos hji]
    cases bi with
    | false =>
      refine ⟨false, ⟨fun h => (by cases h), fun h => ?_⟩, ?_⟩
      · exact absurd (o2.mpr ⟨h.1, h.2.1, h.2.2.2.2.2.1, h.2.2.2.2.2.2.2.2⟩) (by decide)
      · rw [show (if false = true then (1 : Int32) else 0) = 0 from rfl, if_pos rfl]
    | true =>
      obtain ⟨a1, a2, a3, a4⟩ := o2.mp rfl
      rw [show (if true = true then (1 : Int32) else 0) = 1 from rfl, if_neg (by decide), o3, bd1_eq]
      cases bj with
      | false =>
        refine ⟨false, ⟨fun h => (by cases h), fun h => ?_⟩, ?_⟩
        · have he := EE_symm h.2.2.2.2.2
          exact absurd (o4.mpr ⟨h.2.2.1, h.2.2.2.1, he.1, he.2.2.2⟩) (by decide)
        · rw [show (if false = true then (1 : Int32) else 0) = 0 from rfl, if_pos rfl]
      | true =>
        obtain ⟨b1, b2, b3, b4⟩ := o4.mp rfl
        rw [show (if true = true then (1 : Int32) else 0) = 1 from rfl, if_neg (by decide), p_g (by omega) (by decide), p_g (by omega) (by decide), p_tn (by omega), p_tn (by omega), hto i hi a1, hto j hj b1]
        have hPi := hP i
        have hPj := hP j
        by_cases hp : P i = P j
        · rw [if_pos (by rw [hp]), D9_farOf_eq (by omega) (hd i hi) (hs i hi) a3, bd1_eq, D9_farOf_eq (by omega) (hd j hj) (hs j hj) b3, bd1_eq]
          have hD60 := hok.2.2
          by_cases hf : V i * (t - T i) = V j * (t - T j)
          · refine ⟨true, ⟨fun _ => ⟨a1, a2, b1, b2, hp, a3, b3, hf, a4⟩, fun _ => rfl⟩, ?_⟩
            rw [if_pos (by rw [hf]), show (if true = true then (1 : Int32) else 0) = 1 from rfl]
          · refine ⟨false, ⟨fun h => (by cases h), fun h => absurd h.2.2.2.2.2.2.2.1 hf⟩, ?_⟩
            rw [if_neg (by rw [p_eq (by omega) (by omega)]; exact hf), show (if false = true then (1 : Int32) else 0) = 0 from rfl]
        · refine ⟨false, ⟨fun h => (by cases h), fun h => absurd h.2.2.2.2.1 hp⟩, ?_⟩
          rw [if_neg (by rw [p_eq (by omega) (by omega)]; exact hp), show (if false = true then (1 : Int32) else 0) = 0 from rfl]
  · rw [if_pos (by rw [p_le (by omega) (by omega)]; omega)]
    rcases Classical.em (MT P T V D l w t i j) with h | h
    · exact ⟨true, ⟨fun _ => h, fun _ => rfl⟩, by rw [if_neg hji]⟩
    · exact ⟨false, ⟨fun q => (by cases q), fun q => absurd q h⟩, by rw [if_neg hji]⟩
