/-! PURE: numbers as nI n (naturals under 2^31), guards, loops -/
theorem p_lit (n : Nat) : (OfNat.ofNat n : Int32) = nI n := rfl
theorem p_tn {n : Nat} (h : n < 2147483648) : (nI n).toNatClampNeg = n := nI_clamp h
theorem p_ti {n : Nat} (h : n < 2147483648) : (nI n).toInt = (n : Int) := nI_toInt h
theorem p_le {a b : Nat} (ha : a < 2147483648) (hb : b < 2147483648) : nI a ≤ nI b ↔ a ≤ b := nI_leI ha hb
theorem p_lt {a b : Nat} (ha : a < 2147483648) (hb : b < 2147483648) : nI a < nI b ↔ a < b := nI_ltI ha hb
theorem p_eq {a b : Nat} (ha : a < 2147483648) (hb : b < 2147483648) : nI a = nI b ↔ a = b := nI_eq ha hb
theorem p_neg {a : Nat} (ha : a < 2147483648) : ¬ nI a < 0 := nI_pos ha
theorem p_sub {a b : Nat} (h : b ≤ a) : nI a - nI b = nI (a - b) := pk_sub h
theorem p_add (a b : Nat) : nI a + nI b = nI (a + b) := nI_add a b
theorem p_mul (a b : Nat) : nI a * nI b = nI (a * b) := pk_mul a b
theorem p_div {a d : Nat} (ha : a < 2147483648) (h0 : 0 < d) (hd : d < 2147483648) : nI a / nI d = nI (a / d) := pk_div ha h0 hd
theorem p_rem {a d : Nat} (ha : a < 2147483648) (h0 : 0 < d) (hd : d < 2147483648) : nI a - nI a / nI d * nI d = nI (a % d) := pk_rem ha h0 hd
theorem p_m1 (n : Nat) : nI (n + 1) + (-1) = nI n := pk_m1 n
/-- a guard that holds -/
theorem p_g {α : Type} {a N : Nat} {b : Option α} (h : a < N) (hN : N < 2147483648) : (if nI a < 0 ∨ N ≤ (nI a).toNatClampNeg then none else b) = b := by
  rw [if_neg]
  rw [p_tn (by omega)]
  rintro (h1 | h1)
  · exact p_neg (by omega) h1
  · omega
theorem p_ofNat (n : Nat) : Int32.ofNat n = nI n := rfl
/-! loops -/
theorem it_next {S R : Type} {f : S → Option (S ⊕ R)} {n : Nat} {s s' : S} (h : f s = some (.inl s')) : it f (n + 1) s = it f n s' := by rw [it, h]
theorem it_done {S R : Type} {f : S → Option (S ⊕ R)} {n : Nat} {s : S} {r : R} (h : f s = some (.inr r)) : it f (n + 1) s = some r := by rw [it, h]
/-- a loop by a row of states -/
theorem it_run {S R : Type} {f : S → Option (S ⊕ R)} (σ : Nat → S) {r : R} (N : Nat) (hs : ∀ k, k < N → f (σ k) = some (.inl (σ (k + 1)))) (hr : f (σ N) = some (.inr r)) : ∀ (d k n : Nat), k + d = N → d < n → it f n (σ k) = some r := by
  intro d
  induction d with
  | zero =>
    intro k n hk hn
    obtain ⟨n', rfl⟩ : ∃ n', n = n' + 1 := ⟨n - 1, by omega⟩
    have : k = N := by omega
    subst this
    exact it_done hr
  | succ d ih =>
    intro k n hk hn
    obtain ⟨n', rfl⟩ : ∃ n', n = n' + 1 := ⟨n - 1, by omega⟩
    rw [it_next (hs k (by omega))]
    exact ih (k + 1) n' (by omega) (by omega)
theorem it_for {S R : Type} {f : S → Option (S ⊕ R)} (σ : Nat → S) {r : R} (N : Nat) (hs : ∀ k, k < N → f (σ k) = some (.inl (σ (k + 1)))) (hr : f (σ N) = some (.inr r)) (hN : N < 2100) : it f FU (σ 0) = some r := it_run σ N hs hr N 0 FU (by omega) (by unfold FU; omega)
/-- a loop by an invariant that tells the state up to what matters -/
theorem it_inv {S R : Type} {f : S → Option (S ⊕ R)} (P : Nat → S → Prop) (Z : R → Prop) (N : Nat) (hs : ∀ k s, k < N → P k s → (∃ s', f s = some (.inl s') ∧ P (k + 1) s') ∨ ∃ r, f s = some (.inr r) ∧ Z r) (hr : ∀ s, P N s → ∃ r, f s = some (.inr r) ∧ Z r) :
    ∀ (d k n : Nat) (s : S), k + d = N → d < n → P k s → ∃ r, it f n s = some r ∧ Z r := by
  intro d
  induction d with
  | zero =>
    intro k n s hk hn hP
    obtain ⟨n', rfl⟩ : ∃ n', n = n' + 1 := ⟨n - 1, by omega⟩
    have : k = N := by omega
    subst this
    obtain ⟨r, h1, h2⟩ := hr s hP
    exact ⟨r, it_done h1, h2⟩
  | succ d ih =>
    intro k n s hk hn hP
    obtain ⟨n', rfl⟩ : ∃ n', n = n' + 1 := ⟨n - 1, by omega⟩
    rcases hs k s (by omega) hP with ⟨s', h1, h2⟩ | ⟨r, h1, h2⟩
    · rw [it_next h1]
      exact ih (k + 1) n' s' (by omega) (by omega) h2
    · exact ⟨r, it_done h1, h2⟩
theorem it_for2 {S R : Type} {f : S → Option (S ⊕ R)} (P : Nat → S → Prop) (Z : R → Prop) (N : Nat) {s0 : S} (h0 : P 0 s0) (hs : ∀ k s, k < N → P k s → (∃ s', f s = some (.inl s') ∧ P (k + 1) s') ∨ ∃ r, f s = some (.inr r) ∧ Z r) (hr : ∀ s, P N s → ∃ r, f s = some (.inr r) ∧ Z r) (hN : N < 2100) : ∃ r, it f FU s0 = some r ∧ Z r :=
  it_inv P Z N hs hr N 0 FU s0 (by omega) (by unfold FU; omega) h0
/-! bytes and arrays -/
theorem upd_same (f : Nat → Int32) (k : Nat) (x : Int32) : upd f k x k = x := pk_us
theorem upd_ne (f : Nat → Int32) {k j : Nat} (x : Int32) (h : j ≠ k) : upd f k x j = f j := pk_un h
theorem upd_at (f : Nat → Int32) (k j : Nat) (x : Int32) : upd f k x j = if j = k then x else f j := by
  by_cases h : j = k
  · subst h; rw [if_pos rfl, upd_same]
  · rw [if_neg h, upd_ne f x h]
/-! the small methods of both sides -/
theorem D8_within_eq {x lo hi : Int32} : DX8_within x lo hi = some (if lo ≤ x ∧ x ≤ hi then 1 else 0) := by
  unfold DX8_within
  by_cases h1 : x < lo
  · rw [if_pos h1, if_neg]
    rintro ⟨h2, -⟩
    rw [Int32.lt_iff_toInt_lt] at h1; rw [Int32.le_iff_toInt_le] at h2; omega
  · rw [if_neg h1]
    by_cases h2 : hi < x
    · rw [if_pos h2, if_neg]
      rintro ⟨-, h3⟩
      rw [Int32.lt_iff_toInt_lt] at h2; rw [Int32.le_iff_toInt_le] at h3; omega
    · rw [if_neg h2, if_pos]
      rw [Int32.lt_iff_toInt_lt] at h1 h2
      rw [Int32.le_iff_toInt_le, Int32.le_iff_toInt_le]
      omega
theorem pq_cmp_lt (x y : Int64) : lg_cmp x y < 0 ↔ x < y := by
  unfold lg_cmp
  by_cases h1 : x > y
  · rw [if_pos h1]
    constructor
    · intro h; exact absurd h (by decide)
    · intro h; rw [gt_iff_lt, Int64.lt_iff_toInt_lt] at h1; rw [Int64.lt_iff_toInt_lt] at h; omega
  · rw [if_neg h1]
    by_cases h2 : x = y
    · rw [if_pos h2]
      subst h2
      constructor
      · intro h; exact absurd h (by decide)
      · intro h; rw [Int64.lt_iff_toInt_lt] at h; omega
    · rw [if_neg h2]
      constructor
      · intro _
        rw [gt_iff_lt, Int64.lt_iff_toInt_lt] at h1
        rw [Int64.lt_iff_toInt_lt]
        have : x.toInt ≠ y.toInt := fun h => h2 (Int64.toInt_inj.mp h)
        omega
      · intro _; decide
theorem pq_cmp_gt (x y : Int64) : 0 < lg_cmp x y ↔ y < x := by
  unfold lg_cmp
  by_cases h1 : x > y
  · rw [if_pos h1]
    exact ⟨fun _ => h1, fun _ => by decide⟩
  · rw [if_neg h1]
    by_cases h2 : x = y
    · rw [if_pos h2]
      exact ⟨fun h => absurd h (by decide), fun h => absurd h h1⟩
    · rw [if_neg h2]
      exact ⟨fun h => absurd h (by decide), fun h => absurd h h1⟩
theorem D9_in_eq {x lo hi : Int64} : DX9_in x lo hi = some (if lo ≤ x ∧ x ≤ hi then 1 else 0) := by
  unfold DX9_in
  by_cases h1 : x < lo
  · rw [if_pos ((pq_cmp_lt _ _).mpr h1), if_neg]
    rintro ⟨h2, -⟩
    rw [Int64.lt_iff_toInt_lt] at h1; rw [Int64.le_iff_toInt_le] at h2; omega
  · rw [if_neg (fun h => h1 ((pq_cmp_lt _ _).mp h))]
    by_cases h2 : hi < x
    · rw [if_pos ((pq_cmp_gt _ _).mpr h2), if_neg]
      rintro ⟨-, h3⟩
      rw [Int64.lt_iff_toInt_lt] at h2; rw [Int64.le_iff_toInt_le] at h3; omega
    · rw [if_neg (fun h => h2 ((pq_cmp_gt _ _).mp h)), if_pos]
      rw [Int64.lt_iff_toInt_lt] at h1 h2
      rw [Int64.le_iff_toInt_le, Int64.le_iff_toInt_le]
      omega
/-- the reference's 'in' over widened ints is the class's 'within' -/
theorem D9_in_wide {x : Int32} {lo hi : Int32} {l h : Int64} (hl : lo.toInt64 = l) (hh : hi.toInt64 = h) : DX9_in x.toInt64 l h = some (if lo ≤ x ∧ x ≤ hi then 1 else 0) := by
  subst hl hh
  rw [D9_in_eq]
  simp only [Int64.le_iff_toInt_le, Int32.le_iff_toInt_le, Int32.toInt_toInt64]
