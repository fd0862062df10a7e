/-! PURE: nets, coming home, bringHome -/
/-- the plan's nets -/
def Net (g : Nat → Int32) (nn : Nat) (NP NW NF NU : Nat → Nat) : Prop := ∀ k, k < nn → g (k * 4 + 0) = nI (NP k) ∧ g (k * 4 + 1) = nI (NW k) ∧ g (k * 4 + 2) = nI (NF k) ∧ g (k * 4 + 3) = nI (NU k)
def Nok (nn : Nat) (NP NW NF NU : Nat → Nat) : Prop := nn ≤ 6 ∧ ∀ k, k < nn → NP k < 24 ∧ NW k ≤ 3 ∧ NF k ≤ 99 ∧ NU k ≤ 100000
/-- a net of the first nn is out on the day and near the place -/
def caughtB (NP NW NF NU : Nat → Nat) (nn p d : Nat) : Bool := (List.range nn).any (fun k => decide (NF k ≤ d) && decide (d ≤ NU k) && decide (ap p (NP k) ≤ NW k))
theorem caughtB_succ (NP NW NF NU : Nat → Nat) (nn p d : Nat) : caughtB NP NW NF NU (nn + 1) p d = (caughtB NP NW NF NU nn p d || (decide (NF nn ≤ d) && decide (d ≤ NU nn) && decide (ap p (NP nn) ≤ NW nn))) := by
  unfold caughtB
  rw [List.range_succ, List.any_append]
  simp
theorem caughtB_mono {NP NW NF NU : Nat → Nat} {k nn p d : Nat} (h : k < nn) (h1 : NF k ≤ d) (h2 : d ≤ NU k) (h3 : ap p (NP k) ≤ NW k) : caughtB NP NW NF NU nn p d = true := by
  unfold caughtB
  rw [List.any_eq_true]
  exact ⟨k, List.mem_range.mpr h, by simp [h1, h2, h3]⟩
theorem ap_lt (a b : Nat) : ap a b < 24 := by
  unfold ap
  have := Nat.mod_lt (a + 24 - b) (show 24 > 0 by decide)
  omega
theorem D3_catches_eq {g : Nat → Int32} {nn p d : Nat} {NP NW NF NU : Nat → Nat} (hnn : nn ≤ 5) (hok : Nok nn NP NW NF NU) (hg : Net g nn NP NW NF NU) (hp : p < 24) (hd : d < 1000) :
    DX3_catches (nI p) (nI d) g (nI nn) = some (if caughtB NP NW NF NU nn p d = true then 1 else 0) := by
  have key := it_for2 (S := Int32) (R := Unit ⊕ Int32) (f := fun st => DX3_catches_L2s (nI p) (nI d) g (nI nn) st)
    (fun k st => st = nI k ∧ caughtB NP NW NF NU k p d = false) (fun r => (r = .inl () ∧ caughtB NP NW NF NU nn p d = false) ∨ (r = .inr 1 ∧ caughtB NP NW NF NU nn p d = true)) nn (s0 := (0 : Int32)) ⟨rfl, rfl⟩ ?_ ?_ (by omega)
  · obtain ⟨r, q1, q2⟩ := key
    unfold DX3_catches DX3_catches_L2
    rw [q1]
    rcases q2 with ⟨e, h⟩ | ⟨e, h⟩
    · rw [e, h]; rfl
    · rw [e, h]; rfl
  · rintro k x3 hk ⟨hx, hc⟩
    subst hx
    show (∃ s', DX3_catches_L2s (nI p) (nI d) g (nI nn) (nI k) = some (.inl s') ∧ _) ∨ ∃ r, DX3_catches_L2s (nI p) (nI d) g (nI nn) (nI k) = some (.inr r) ∧ _
    unfold DX3_catches_L2s DX5_rows
    obtain ⟨o1, o2, o3, o4⟩ := hok.2 k hk
    obtain ⟨n0, n1, n2, n3⟩ := hg k hk
    have g0 : DX5_get (nI k) (0 : Int32) (5 : Int32) (4 : Int32) 20 g = some (nI (NP k)) := by
      have := getN (f := g) (i := k) (c := 0) (by omega) (by decide)
      rw [n0] at this; exact this
    have g1 : DX5_get (nI k) (1 : Int32) (5 : Int32) (4 : Int32) 20 g = some (nI (NW k)) := by
      have := getN (f := g) (i := k) (c := 1) (by omega) (by decide)
      rw [n1] at this; exact this
    have g2 : DX5_get (nI k) (2 : Int32) (5 : Int32) (4 : Int32) 20 g = some (nI (NF k)) := by
      have := getN (f := g) (i := k) (c := 2) (by omega) (by decide)
      rw [n2] at this; exact this
    have g3 : DX5_get (nI k) (3 : Int32) (5 : Int32) (4 : Int32) 20 g = some (nI (NU k)) := by
      have := getN (f := g) (i := k) (c := 3) (by omega) (by decide)
      rw [n3] at this; exact this
    have hs := caughtB_succ NP NW NF NU k p d
    rw [hc, Bool.false_or] at hs
    have hk1 : nI k + (1 : Int32) = nI (k + 1) := p_add k 1
    rw [bd1_eq, if_neg (by rw [p_le (by omega) (by omega)]; omega), g2, bd1_eq]
    by_cases h1 : d < NF k
    · left
      rw [if_pos (by rw [p_lt (by omega) (by omega)]; exact h1)]
      unfold DX3_catches_J44
      rw [if_pos rfl, hk1]
      exact ⟨_, rfl, rfl, by rw [hs, decide_eq_false (by omega)]; rfl⟩
    · rw [if_neg (by rw [p_lt (by omega) (by omega)]; exact h1), g3, bd1_eq]
      by_cases h2 : NU k < d
      · left
        rw [if_pos (by rw [p_lt (by omega) (by omega)]; exact h2)]
        unfold DX3_catches_J44
        rw [if_pos rfl, hk1]
        exact ⟨_, rfl, rfl, by rw [hs, decide_eq_false (p := d ≤ NU k) (by omega)]; simp⟩
      · rw [if_neg (by rw [p_lt (by omega) (by omega)]; exact h2)]
        unfold DX3_catches_J44
        have hap := ap_lt p (NP k)
        rw [if_neg (by decide), g0, bd1_eq, apart_x p hp _ o1, bd1_eq, g1, bd1_eq]
        by_cases h3 : NW k < ap p (NP k)
        · left
          rw [if_pos (by rw [p_lt (by omega) (by omega)]; exact h3), hk1]
          exact ⟨_, rfl, rfl, by rw [hs, decide_eq_false (p := ap p (NP k) ≤ NW k) (by omega)]; simp⟩
        · right
          rw [if_neg (by rw [p_lt (by omega) (by omega)]; exact h3)]
          exact ⟨_, rfl, Or.inr ⟨rfl, caughtB_mono hk (by omega) (by omega) (by omega)⟩⟩
  · rintro x3 ⟨hx, hc⟩
    subst hx
    show ∃ r, DX3_catches_L2s (nI p) (nI d) g (nI nn) (nI nn) = some (.inr r) ∧ _
    unfold DX3_catches_L2s DX5_rows
    rw [bd1_eq, if_pos (by rw [p_le (by omega) (by omega)]; omega)]
    exact ⟨_, rfl, Or.inl ⟨rfl, hc⟩⟩
/-! what becomes of a load that is not lost -/
def dys (V : Nat → Nat) (D i : Nat) : Nat := (D + V i - 1) / V i
def hday (T V : Nat → Nat) (D i : Nat) : Nat := T i + dys V D i
def hplc (P V K : Nat → Nat) (D i : Nat) : Nat := (P i + (if K i = 3 then dys V D i / 4 else 0)) % 24
def prc1 (px py d : Nat) : Nat := (px + py * d) % 50 + 1
theorem dys_le {V : Nat → Nat} {D i : Nat} (h1 : 1 ≤ V i) (hD : D ≤ 60) : dys V D i ≤ 60 := by
  unfold dys
  have h : (D + V i - 1) / V i < 61 := by
    rw [Nat.div_lt_iff_lt_mul (by omega)]
    have : 60 + V i ≤ 61 * V i := by
      have := Nat.mul_le_mul_left 60 h1
      omega
    omega
  omega
theorem D3_price_eq {px py d : Nat} (h1 : px < 50) (h2 : py < 50) (hd : d < 1000) : DX3_priceOn (nI d) (nI px) (nI py) = some (nI (prc1 px py d)) := by
  unfold DX3_priceOn prc1
  have hm : py * d ≤ 50 * 1000 := Nat.mul_le_mul (by omega) (by omega)
  have e : (50 : Int32) = nI 50 := rfl
  rw [p_mul, p_add, e, p_rem (by omega) (by decide) (by decide)]
  exact congrArg some (p_add _ 1)
/-- a load comes home: its columns 6 to 9 -/
theorem D1_come_eq {f g : Nat → Int32} {n D px py nn i : Nat} {l : List Nat} {P T A V K B NP NW NF NU : Nat → Nat} (hn : n ≤ 7) (hl : ∀ i ∈ l, i < n) (hi : i ∈ l) (ht : Tok n T V D) (hK : ∀ i, i < n → K i ≤ 3) (hc : Cols f n l T A V K P B) (hP : ∀ i, P i < 24)
    (hnn : nn ≤ 5) (hok : Nok nn NP NW NF NU) (hg : Net g nn NP NW NF NU) (h1 : px < 50) (h2 : py < 50) :
    ∃ f', DX1_come (nI i) f (nI D) (nI px) (nI py) g (nI nn) = some f' ∧ (∀ j, (∀ c, 6 ≤ c → c < 10 → j ≠ i * 10 + c) → f' j = f j) ∧ f' (i * 10 + 9) = nI (hplc P V K D i) ∧ f' (i * 10 + 7) = nI (hday T V D i) ∧
      f' (i * 10 + 6) = nI (if caughtB NP NW NF NU nn (hplc P V K D i) (hday T V D i) = true then 0 else 1) ∧ f' (i * 10 + 8) = nI (if caughtB NP NW NF NU nn (hplc P V K D i) (hday T V D i) = true then prc1 px py (hday T V D i) else 0) := by
  have hin := hl i hi
  obtain ⟨t1, t2, t3⟩ := ht.1 i hin
  have hd60 := dys_le (V := V) (i := i) t2 ht.2.2
  have hD60 := ht.2.2
  have hD1 := ht.2.1
  have gg : ∀ c, c < 10 → DX5_get (nI i) (nI c) (7 : Int32) (10 : Int32) 70 f = some (f (i * 10 + c)) := fun c hc => getL (by omega) hc
  have g2 : DX5_get (nI i) (2 : Int32) (7 : Int32) (10 : Int32) 70 f = some (nI (V i)) := by
    have := gg 2 (by decide); rw [hc.2.2.1 i hin] at this; exact this
  have g3 : DX5_get (nI i) (3 : Int32) (7 : Int32) (10 : Int32) 70 f = some (nI (K i)) := by
    have := gg 3 (by decide); rw [hc.2.2.2.1 i hin] at this; exact this
  have g4 : DX5_get (nI i) (4 : Int32) (7 : Int32) (10 : Int32) 70 f = some (nI (P i)) := by
    have := gg 4 (by decide); rw [hc.2.2.2.2.1 i hi] at this; exact this
  have g0 : DX5_get (nI i) (0 : Int32) (7 : Int32) (10 : Int32) 70 f = some (nI (T i)) := by
    have := gg 0 (by decide); rw [hc.1 i hin] at this; exact this
  have hmax : (if (1 : Int32) < nI (V i) then nI (V i) else (1 : Int32)) = nI (V i) := by
    have e : (1 : Int32) = nI 1 := rfl
    by_cases h : 1 < V i
    · rw [if_pos (by rw [e, p_lt (by omega) (by omega)]; exact h)]
    · rw [if_neg (by rw [e, p_lt (by omega) (by omega)]; exact h)]
      have : V i = 1 := by omega
      rw [this]; rfl
  have hdy : ((nI D + nI (V i)) - (1 : Int32)) / nI (V i) = nI (dys V D i) := by
    have e : (nI D + nI (V i)) - (1 : Int32) = nI (D + V i - 1) := by
      rw [p_add]; exact p_sub (a := D + V i) (b := 1) (by omega)
    rw [e, p_div (by omega) (by omega) (by omega)]; rfl
  have main : ∀ y, y ≤ 15 → hplc P V K D i = (P i + y) % 24 → ∃ f', DX1_come_J47 (nI i) f (nI px) (nI py) g (nI nn) (nI y) (nI (dys V D i)) = some f' ∧ (∀ j, (∀ c, 6 ≤ c → c < 10 → j ≠ i * 10 + c) → f' j = f j) ∧ f' (i * 10 + 9) = nI (hplc P V K D i) ∧ f' (i * 10 + 7) = nI (hday T V D i) ∧
      f' (i * 10 + 6) = nI (if caughtB NP NW NF NU nn (hplc P V K D i) (hday T V D i) = true then 0 else 1) ∧ f' (i * 10 + 8) = nI (if caughtB NP NW NF NU nn (hplc P V K D i) (hday T V D i) = true then prc1 px py (hday T V D i) else 0) := by
    intro y hy hpl
    unfold DX1_come_J47
    have hPi := hP i
    have e24 : (24 : Int32) = nI 24 := rfl
    have hpp : (nI (P i) + nI y) - (nI (P i) + nI y) / (24 : Int32) * (24 : Int32) = nI (hplc P V K D i) := by
      rw [p_add, e24, p_rem (by omega) (by decide) (by decide), hpl]
    have hdd : nI (T i) + nI (dys V D i) = nI (hday T V D i) := p_add _ _
    have hp24 : hplc P V K D i < 24 := by rw [hpl]; exact Nat.mod_lt _ (by decide)
    have hdl : hday T V D i ≤ 100 := by unfold hday; omega
    rw [g4, bd1_eq, g0, bd1_eq, hpp, hdd, D3_catches_eq hnn hok hg hp24 (by omega), bd1_eq]
    have ss : ∀ (q : Nat → Int32) (c : Nat) (x : Int32), c < 10 → DX5_set (nI i) (nI c) x (7 : Int32) (10 : Int32) 70 q = some (upd q (i * 10 + c) x) := fun q c x hc => setL (by omega) hc
    have s9 : ∀ (q : Nat → Int32) (x : Int32), DX5_set (nI i) (9 : Int32) x (7 : Int32) (10 : Int32) 70 q = some (upd q (i * 10 + 9) x) := fun q x => ss q 9 x (by decide)
    have s7 : ∀ (q : Nat → Int32) (x : Int32), DX5_set (nI i) (7 : Int32) x (7 : Int32) (10 : Int32) 70 q = some (upd q (i * 10 + 7) x) := fun q x => ss q 7 x (by decide)
    have s6 : ∀ (q : Nat → Int32) (x : Int32), DX5_set (nI i) (6 : Int32) x (7 : Int32) (10 : Int32) 70 q = some (upd q (i * 10 + 6) x) := fun q x => ss q 6 x (by decide)
    have s8 : ∀ (q : Nat → Int32) (x : Int32), DX5_set (nI i) (8 : Int32) x (7 : Int32) (10 : Int32) 70 q = some (upd q (i * 10 + 8) x) := fun q x => ss q 8 x (by decide)
    rw [s9, bd1_eq, s7, bd1_eq]
    have fin : ∀ (a b : Int32), (∀ j, (∀ c, 6 ≤ c → c < 10 → j ≠ i * 10 + c) → upd (upd (upd (upd f (i * 10 + 9) (nI (hplc P V K D i))) (i * 10 + 7) (nI (hday T V D i))) (i * 10 + 6) a) (i * 10 + 8) b j = f j) ∧
        upd (upd (upd (upd f (i * 10 + 9) (nI (hplc P V K D i))) (i * 10 + 7) (nI (hday T V D i))) (i * 10 + 6) a) (i * 10 + 8) b (i * 10 + 9) = nI (hplc P V K D i) ∧
        upd (upd (upd (upd f (i * 10 + 9) (nI (hplc P V K D i))) (i * 10 + 7) (nI (hday T V D i))) (i * 10 + 6) a) (i * 10 + 8) b (i * 10 + 7) = nI (hday T V D i) ∧
        upd (upd (upd (upd f (i * 10 + 9) (nI (hplc P V K D i))) (i * 10 + 7) (nI (hday T V D i))) (i * 10 + 6) a) (i * 10 + 8) b (i * 10 + 6) = a ∧
        upd (upd (upd (upd f (i * 10 + 9) (nI (hplc P V K D i))) (i * 10 + 7) (nI (hday T V D i))) (i * 10 + 6) a) (i * 10 + 8) b (i * 10 + 8) = b := by
      intro a b
      refine ⟨fun j hj => ?_, ?_, ?_, ?_, upd_same _ _ _⟩
      · rw [upd_ne _ _ (hj 8 (by decide) (by decide)), upd_ne _ _ (hj 6 (by decide) (by decide)), upd_ne _ _ (hj 7 (by decide) (by decide)), upd_ne _ _ (hj 9 (by decide) (by decide))]
      · rw [upd_ne _ _ (by omega), upd_ne _ _ (by omega), upd_ne _ _ (by omega), upd_same]
      · rw [upd_ne _ _ (by omega), upd_ne _ _ (by omega), upd_same]
      · rw [upd_ne _ _ (by omega), upd_same]
    by_cases hcb : caughtB NP NW NF NU nn (hplc P V K D i) (hday T V D i) = true
    · rw [if_pos hcb, if_neg (by decide), if_pos hcb, if_pos hcb]
      unfold DX1_come_J131
      rw [s6, bd1_eq, if_neg (by decide), D3_price_eq h1 h2 (by omega), bd1_eq, s8, bd1_eq]
      exact ⟨_, rfl, fin _ _⟩
    · rw [if_neg hcb, if_pos rfl, if_neg hcb, if_neg hcb]
      unfold DX1_come_J131
      rw [s6, bd1_eq, if_pos rfl, s8, bd1_eq]
      exact ⟨_, rfl, fin _ _⟩
  unfold DX1_come
  have e3 : (3 : Int32) = nI 3 := rfl
  have e0 : (0 : Int32) = nI 0 := rfl
  have e4 : (4 : Int32) = nI 4 := rfl
  rw [g2, bd1_eq, hmax, if_neg (by rw [e0, p_eq (by omega) (by omega)]; omega), g3, bd1_eq, hdy]
  by_cases hk : K i = 3
  · rw [if_pos (by rw [hk]; rfl), e4, p_div (by omega) (by decide) (by decide)]
    exact main _ (by omega) (by unfold hplc; rw [if_pos hk])
  · rw [if_neg (by rw [e3, p_eq (by have := hK i hin; omega) (by omega)]; exact hk), e0]
    exact main 0 (by omega) (by unfold hplc; rw [if_neg hk])
