/-! PURE: meeters -/
def stp (c : Nat × Int32) (b : Bool) (x : Nat) : Nat × Int32 := if b = true then (c.1 + 1, if c.1 = 0 then nI x else c.2) else c
def inn (q : Nat → Nat → Bool) (d : Nat) (c : Nat × Int32) : Nat → Nat × Int32
  | 0 => c
  | k + 1 => stp (inn q d c k) (q d (k + 1)) (10 * d + (k + 1))
def oul (q : Nat → Nat → Bool) : Nat → Nat × Int32
  | 0 => (0, -4)
  | d + 1 => inn q d (oul q d) 6
/-- a count up to m, and the first only if there is one -/
def Gst (m : Nat) (c : Nat × Int32) : Prop := c.1 ≤ m ∧ (c.1 = 0 → c.2 = -4) ∧ (c.1 ≠ 0 → ∃ x, x ≤ 1000 ∧ c.2 = nI x)
theorem stp_good {m : Nat} {c : Nat × Int32} {b : Bool} {x : Nat} (h : Gst m c) (hx : x ≤ 1000) : Gst (m + 1) (stp c b x) := by
  obtain ⟨h1, h2, h3⟩ := h
  unfold stp
  cases b
  · rw [if_neg (by decide)]; exact ⟨by omega, h2, h3⟩
  · rw [if_pos rfl]
    refine ⟨by show c.1 + 1 ≤ m + 1; omega, fun h => absurd h (by show ¬ c.1 + 1 = 0; omega), fun _ => ?_⟩
    by_cases h0 : c.1 = 0
    · exact ⟨x, hx, by show (if c.1 = 0 then nI x else c.2) = _; rw [if_pos h0]⟩
    · obtain ⟨y, y1, y2⟩ := h3 h0
      exact ⟨y, y1, by show (if c.1 = 0 then nI x else c.2) = _; rw [if_neg h0]; exact y2⟩
theorem inn_good {q : Nat → Nat → Bool} {d m : Nat} {c : Nat × Int32} (h : Gst m c) (hd : d ≤ 40) : ∀ k, k ≤ 6 → Gst (m + k) (inn q d c k)
  | 0, _ => h
  | k + 1, hk => stp_good (inn_good h hd k (by omega)) (by omega)
theorem oul_good {q : Nat → Nat → Bool} : ∀ d, d ≤ 41 → Gst (6 * d) (oul q d)
  | 0, _ => ⟨Nat.le_refl _, fun _ => rfl, fun h => absurd rfl h⟩
  | d + 1, hd => by
    have := inn_good (q := q) (oul_good (q := q) d (by omega)) (show d ≤ 40 by omega) 6 (Nat.le_refl _)
    rw [show 6 * (d + 1) = 6 * d + 6 by omega]
    exact this
theorem g_first {m : Nat} {c : Nat × Int32} (h : Gst m c) : c.2 = -4 ↔ c.1 = 0 := by
  constructor
  · intro h4
    by_cases h0 : c.1 = 0
    · exact h0
    · obtain ⟨y, y1, y2⟩ := h.2.2 h0
      rw [y2] at h4
      have h2 := congrArg Int32.toInt h4
      rw [p_ti (by omega)] at h2
      have e4 : (-4 : Int32).toInt = -4 := rfl
      omega
  · exact h.2.1
section ME
variable {n D i : Nat} {T A V K : Nat → Nat}
def qM (a v D : Nat) : Nat → Nat → Bool := fun d u => decide (md a v d u D ≠ 1000)
theorem D8_meeters_L44_eq {lc : Nat → Int32} {lh : Int32} {d : Nat} {c : Nat × Int32} (hn : n ≤ 7) (hi : i < n) (hlh : lh = nI D) (hg : Thr lc n T A V K) (hk : Tok n T V D) (hd : d ≤ 40) (hc : Gst (6 * d) c) :
    DX8_meeters_L44 (nI i) lh lc (nI d) FU (nI c.1) c.2 (1 : Int32) = some (nI (inn (qM (T i) (V i) D) d c 6).1, (inn (qM (T i) (V i) D) d c 6).2) := by
  unfold DX8_meeters_L44
  obtain ⟨t1, t2, t3⟩ := hk.1 i hi
  refine it_for (fun k => (nI (inn (qM (T i) (V i) D) d c k).1, (inn (qM (T i) (V i) D) d c k).2, nI (k + 1))) 6 ?_ ?_ (by omega)
  · intro k hkk
    show DX8_meeters_L44s (nI i) lh lc (nI d) (nI (inn (qM (T i) (V i) D) d c k).1) (inn (qM (T i) (V i) D) d c k).2 (nI (k + 1)) = some (.inl (nI (inn (qM (T i) (V i) D) d c (k + 1)).1, (inn (qM (T i) (V i) D) d c (k + 1)).2, nI (k + 1 + 1)))
    unfold DX8_meeters_L44s
    have hk1 : nI (k + 1) + (1 : Int32) = nI (k + 1 + 1) := p_add (k + 1) 1
    have g0 : DX5_get (nI i) (0 : Int32) (7 : Int32) (4 : Int32) 28 lc = some (nI (T i)) := by
      have := getT (f := lc) (i := i) (c := 0) (by omega) (by decide)
      rw [(hg i hi).1] at this; exact this
    have g2 : DX5_get (nI i) (2 : Int32) (7 : Int32) (4 : Int32) 28 lc = some (nI (V i)) := by
      have := getT (f := lc) (i := i) (c := 2) (by omega) (by decide)
      rw [(hg i hi).2.2.1] at this; exact this
    obtain ⟨m1, m2⟩ := md_spec (a := T i) (v := V i) (b := d) (u := k + 1) t1 hd t2 t3 (by omega) (by omega) hk.2.2 hk.2.1
    have hmd : md (T i) (V i) d (k + 1) D ≤ 1000 := by rcases m2 with h | h <;> omega
    have e6 : (6 : Int32) = nI 6 := rfl
    have e1000 : (1000 : Int32) = nI 1000 := rfl
    have gk := inn_good (q := qM (T i) (V i) D) hc hd k (by omega)
    have gf := g_first gk
    have hs : inn (qM (T i) (V i) D) d c (k + 1) = stp (inn (qM (T i) (V i) D) d c k) (qM (T i) (V i) D d (k + 1)) (10 * d + (k + 1)) := rfl
    rw [e6, if_neg (by rw [p_lt (by omega) (by omega)]; omega), g0, bd1_eq, g2, bd1_eq, hlh, m1, bd1_eq, hk1, hs]
    generalize inn (qM (T i) (V i) D) d c k = s at *
    by_cases hm : md (T i) (V i) d (k + 1) D = 1000
    · rw [if_pos (by rw [hm]; rfl)]
      have : qM (T i) (V i) D d (k + 1) = false := by unfold qM; rw [hm]; rfl
      rw [this]; rfl
    · rw [if_neg (by rw [e1000, p_eq (by omega) (by omega)]; exact hm)]
      have : qM (T i) (V i) D d (k + 1) = true := by unfold qM; exact decide_eq_true hm
      rw [this]
      unfold stp
      rw [if_pos rfl]
      have ei : nI s.1 + (1 : Int32) = nI (s.1 + 1) := p_add s.1 1
      have ex : (10 : Int32) * nI d + nI (k + 1) = nI (10 * d + (k + 1)) := by
        have e10 : (10 : Int32) * nI d = nI (10 * d) := p_mul 10 d
        rw [e10, p_add]
      by_cases h4 : s.2 = -4
      · rw [if_pos h4, ei, ex]
        show _ = some (Sum.inl (nI (s.1 + 1), (if s.1 = 0 then nI (10 * d + (k + 1)) else s.2), nI (k + 1 + 1)))
        rw [if_pos (gf.mp h4)]
      · rw [if_neg h4, ei]
        show _ = some (Sum.inl (nI (s.1 + 1), (if s.1 = 0 then nI (10 * d + (k + 1)) else s.2), nI (k + 1 + 1)))
        rw [if_neg (fun h => h4 (gf.mpr h))]
  · show DX8_meeters_L44s (nI i) lh lc (nI d) (nI (inn (qM (T i) (V i) D) d c 6).1) (inn (qM (T i) (V i) D) d c 6).2 (nI 7) = _
    unfold DX8_meeters_L44s
    rw [if_pos (by decide)]
theorem D8_meeters_L34_eq {lc : Nat → Int32} {lh : Int32} (hn : n ≤ 7) (hi : i < n) (hlh : lh = nI D) (hg : Thr lc n T A V K) (hk : Tok n T V D) :
    DX8_meeters_L34 (nI i) lh lc FU (0 : Int32) (-4 : Int32) (0 : Int32) = some (nI (oul (qM (T i) (V i) D) 41).1, (oul (qM (T i) (V i) D) 41).2) := by
  unfold DX8_meeters_L34
  refine it_for (fun d => (nI (oul (qM (T i) (V i) D) d).1, (oul (qM (T i) (V i) D) d).2, nI d)) 41 ?_ ?_ (by omega)
  · intro d hd
    show DX8_meeters_L34s (nI i) lh lc (nI (oul (qM (T i) (V i) D) d).1) (oul (qM (T i) (V i) D) d).2 (nI d) = some (.inl (nI (oul (qM (T i) (V i) D) (d + 1)).1, (oul (qM (T i) (V i) D) (d + 1)).2, nI (d + 1)))
    unfold DX8_meeters_L34s
    have hd1 : nI d + (1 : Int32) = nI (d + 1) := p_add d 1
    have e40 : (40 : Int32) = nI 40 := rfl
    rw [e40, if_neg (by rw [p_lt (by omega) (by omega)]; omega), D8_meeters_L44_eq hn hi hlh hg hk (by omega) (oul_good d (by omega)), bd2_eq, hd1]
    rfl
  · show DX8_meeters_L34s (nI i) lh lc (nI (oul (qM (T i) (V i) D) 41).1) (oul (qM (T i) (V i) D) 41).2 (nI 41) = _
    unfold DX8_meeters_L34s
    rw [if_pos (by decide)]
theorem D9_isMeeter_eq {mf days speeds : Nat → Int32} {d u : Nat} (hn : n ≤ 7) (hi : i < n) (h0 : mf 0 = nI D) (hda : days i = nI (T i)) (hsp : speeds i = nI (V i)) (hk : Tok n T V D) (hd : d ≤ 40) (hu : 1 ≤ u) (hu6 : u ≤ 6) :
    DX9_isMeeter (nI i) (nI d) (nI u) mf days speeds = some (if qM (T i) (V i) D d u = true then 1 else 0) := by
  obtain ⟨t1, t2, t3⟩ := hk.1 i hi
  have hD1 := hk.2.1
  have hD60 := hk.2.2
  obtain ⟨m1, m2⟩ := md_spec (a := T i) (v := V i) (b := d) (u := u) t1 hd t2 t3 hu hu6 hD60 hD1
  have he60 := dys_le (V := V) (D := D) (i := i) t2 hD60
  unfold dys at he60
  have ho60 := dys_le (V := fun _ => u) (D := D) (i := i) hu hD60
  unfold dys at ho60
  have ho60 : (D + u - 1) / u ≤ 60 := ho60
  have loop : ∀ t0, d ≤ t0 → T i ≤ t0 → t0 ≤ 40 → (t0 = d ∨ t0 = T i) → DX9_isMeeter_L51 (nI i) (nI d) (nI u) days speeds (nI (T i + (D + V i - 1) / V i)) (nI (d + (D + u - 1) / u)) FU (0 : Int32) (nI t0) = some (if qM (T i) (V i) D d u = true then 1 else 0) := by
    intro t0 hd0 hT0 ht0 hor
    have hfe := fun x => far_iff (x := x) (V := V i) (D := D) t2 hD1
    have hfo := fun x => far_iff (x := x) (V := u) (D := D) hu hD1
    generalize hee : (D + V i - 1) / V i = ee at *
    generalize hoo : (D + u - 1) / u = oo at *
    have hfin : (List.range (min (T i + ee) (d + oo) - t0)).any (fun j => decide (V i * (t0 + j - T i) = u * (t0 + j - d))) = qM (T i) (V i) D d u := by
      rw [Bool.eq_iff_iff, List.any_eq_true]
      unfold qM
      rw [decide_eq_true_eq]
      constructor
      · rintro ⟨j, hj, hq⟩ hc
        rw [List.mem_range] at hj
        have hq := of_decide_eq_true hq
        have hf : V i * (t0 + j - T i) < D := (hfe _).mp (by omega)
        rcases m2 with h | h
        · exact h.2 (t0 + j) ⟨by omega, by omega, hq, hf⟩
        · omega
      · intro hne
        rcases m2 with h | ⟨h1, h2, h3⟩
        · exact absurd h.1 hne
        · obtain ⟨g1, g2, g3, g4⟩ := h2
          have k1 := (hfe (md (T i) (V i) d u D - T i)).mpr g4
          have k2 := (hfo (md (T i) (V i) d u D - d)).mpr (by rw [← g3]; exact g4)
          refine ⟨md (T i) (V i) d u D - t0, List.mem_range.mpr (by omega), decide_eq_true ?_⟩
          rw [show t0 + (md (T i) (V i) d u D - t0) = md (T i) (V i) d u D by omega]
          exact g3
    rw [← hfin]
    generalize hN : min (T i + ee) (d + oo) - t0 = N
    have hNb : N ≤ 100 := by omega
    unfold DX9_isMeeter_L51
    refine it_for (fun k => ((if (List.range k).any (fun j => decide (V i * (t0 + j - T i) = u * (t0 + j - d))) = true then 1 else 0 : Int32), nI (t0 + k))) N ?_ ?_ (by omega)
    · intro k hkk
      show DX9_isMeeter_L51s (nI i) (nI d) (nI u) days speeds (nI (T i + ee)) (nI (d + oo)) (if (List.range k).any (fun j => decide (V i * (t0 + j - T i) = u * (t0 + j - d))) = true then 1 else 0 : Int32) (nI (t0 + k)) = some (.inl ((if (List.range (k + 1)).any (fun j => decide (V i * (t0 + j - T i) = u * (t0 + j - d))) = true then 1 else 0 : Int32), nI (t0 + (k + 1))))
      unfold DX9_isMeeter_L51s
      have hk1 : nI (t0 + k) + (1 : Int32) = nI (t0 + (k + 1)) := p_add (t0 + k) 1
      have hsub : nI (t0 + k) - nI d = nI (t0 + k - d) := p_sub (by omega)
      have hs : (List.range (k + 1)).any (fun j => decide (V i * (t0 + j - T i) = u * (t0 + j - d))) = ((List.range k).any (fun j => decide (V i * (t0 + j - T i) = u * (t0 + j - d))) || decide (V i * (t0 + k - T i) = u * (t0 + k - d))) := by
        rw [List.range_succ, List.any_append]; simp
      have hb1 : V i * (t0 + k - T i) ≤ 6 * 200 := Nat.mul_le_mul t3 (by omega)
      have hb2 : u * (t0 + k - d) ≤ 6 * 200 := Nat.mul_le_mul hu6 (by omega)
      rw [if_neg (by rw [p_le (by omega) (by omega)]; omega), if_neg (by rw [p_le (by omega) (by omega)]; omega), hk1, hs, D9_farOf_eq (by omega) hda hsp (by omega), bd1_eq, hsub, p_mul]
      cases (List.range k).any (fun j => decide (V i * (t0 + j - T i) = u * (t0 + j - d)))
      · rw [if_pos (show (if false = true then (1 : Int32) else 0) = 0 from rfl)]
        by_cases hq : V i * (t0 + k - T i) = u * (t0 + k - d)
        · rw [if_pos (by rw [hq]), decide_eq_true hq]; rfl
        · rw [if_neg (by rw [p_eq (by omega) (by omega)]; exact hq), decide_eq_false hq]; rfl
      · rw [if_neg (show ¬ (if true = true then (1 : Int32) else 0) = 0 by decide)]; rfl
    · show DX9_isMeeter_L51s (nI i) (nI d) (nI u) days speeds (nI (T i + ee)) (nI (d + oo)) (if (List.range N).any (fun j => decide (V i * (t0 + j - T i) = u * (t0 + j - d))) = true then 1 else 0 : Int32) (nI (t0 + N)) = _
      unfold DX9_isMeeter_L51s
      by_cases he : T i + ee ≤ t0 + N
      · rw [if_pos (by rw [p_le (by omega) (by omega)]; exact he)]
      · rw [if_neg (by rw [p_le (by omega) (by omega)]; exact he), if_pos (by rw [p_le (by omega) (by omega)]; omega)]
  have hbool : ∀ b : Bool, ¬ ¬ ((if b = true then (1 : Int32) else 0) = 0 ∨ (if b = true then (1 : Int32) else 0) = 1) := by decide
  unfold DX9_isMeeter
  have gd : ∀ {α : Type} (b : Option α), (if nI i < 0 ∨ 28 ≤ i then none else b) = b := fun b => p_h (by omega) (by omega)
  rw [p_tn (show i < 2147483648 by omega), gd, gd, hda, hsp, D9_homeDay_eq h0 t2 t3 hD60 hD1, bd1_eq, D9_homeDay_eq h0 hu hu6 hD60 hD1, bd1_eq, gd]
  by_cases hc : d ≤ T i
  · rw [if_pos (by rw [p_le (by omega) (by omega)]; exact hc), gd, loop (T i) hc (Nat.le_refl _) t1 (Or.inr rfl), bd1_eq, if_neg (hbool _)]
  · rw [if_neg (by rw [p_le (by omega) (by omega)]; exact hc), loop d (Nat.le_refl _) (by omega) hd (Or.inl rfl), bd1_eq, if_neg (hbool _)]
theorem D9_meeters_L39_eq {mf days speeds : Nat → Int32} {d : Nat} {c : Nat × Int32} (hn : n ≤ 7) (hi : i < n) (h0 : mf 0 = nI D) (hda : days i = nI (T i)) (hsp : speeds i = nI (V i)) (hk : Tok n T V D) (hd : d ≤ 40) (hc : Gst (6 * d) c) :
    DX9_meeters_L39 (nI i) mf days speeds (nI d) FU (nI c.1) c.2 (1 : Int32) = some (nI (inn (qM (T i) (V i) D) d c 6).1, (inn (qM (T i) (V i) D) d c 6).2) := by
  unfold DX9_meeters_L39
  refine it_for (fun k => (nI (inn (qM (T i) (V i) D) d c k).1, (inn (qM (T i) (V i) D) d c k).2, nI (k + 1))) 6 ?_ ?_ (by omega)
  · intro k hkk
    show DX9_meeters_L39s (nI i) mf days speeds (nI d) (nI (inn (qM (T i) (V i) D) d c k).1) (inn (qM (T i) (V i) D) d c k).2 (nI (k + 1)) = some (.inl (nI (inn (qM (T i) (V i) D) d c (k + 1)).1, (inn (qM (T i) (V i) D) d c (k + 1)).2, nI (k + 1 + 1)))
    unfold DX9_meeters_L39s
    have hk1 : nI (k + 1) + (1 : Int32) = nI (k + 1 + 1) := p_add (k + 1) 1
    have e6 : (6 : Int32) = nI 6 := rfl
    have e0 : (0 : Int32) = nI 0 := rfl
    have gk := inn_good (q := qM (T i) (V i) D) hc hd k (by omega)
    have hs : inn (qM (T i) (V i) D) d c (k + 1) = stp (inn (qM (T i) (V i) D) d c k) (qM (T i) (V i) D d (k + 1)) (10 * d + (k + 1)) := rfl
    rw [e6, if_neg (by rw [p_lt (by omega) (by omega)]; omega), D9_isMeeter_eq hn hi h0 hda hsp hk hd (by omega) (by omega), bd1_eq, hk1, hs]
    generalize inn (qM (T i) (V i) D) d c k = s at *
    have hs1 := gk.1
    cases qM (T i) (V i) D d (k + 1)
    · rw [if_pos (show (if false = true then (1 : Int32) else 0) = 0 from rfl)]; rfl
    · rw [if_neg (show ¬ (if true = true then (1 : Int32) else 0) = 0 by decide)]
      unfold stp
      rw [if_pos rfl]
      have ei : nI s.1 + (1 : Int32) = nI (s.1 + 1) := p_add s.1 1
      have ex : (10 : Int32) * nI d + nI (k + 1) = nI (10 * d + (k + 1)) := by
        have e10 : (10 : Int32) * nI d = nI (10 * d) := p_mul 10 d
        rw [e10, p_add]
      by_cases h4 : s.1 = 0
      · rw [if_pos (by rw [h4]; rfl), ei, ex]
        show _ = some (Sum.inl (nI (s.1 + 1), (if s.1 = 0 then nI (10 * d + (k + 1)) else s.2), nI (k + 1 + 1)))
        rw [if_pos h4]
      · rw [if_neg (by rw [e0, p_eq (by omega) (by omega)]; exact h4), ei]
        show _ = some (Sum.inl (nI (s.1 + 1), (if s.1 = 0 then nI (10 * d + (k + 1)) else s.2), nI (k + 1 + 1)))
        rw [if_neg h4]
  · show DX9_meeters_L39s (nI i) mf days speeds (nI d) (nI (inn (qM (T i) (V i) D) d c 6).1) (inn (qM (T i) (V i) D) d c 6).2 (nI 7) = _
    unfold DX9_meeters_L39s
    rw [if_pos (by decide)]
theorem D9_meeters_L29_eq {mf days speeds : Nat → Int32} (hn : n ≤ 7) (hi : i < n) (h0 : mf 0 = nI D) (hda : days i = nI (T i)) (hsp : speeds i = nI (V i)) (hk : Tok n T V D) :
    DX9_meeters_L29 (nI i) mf days speeds FU (0 : Int32) (-4 : Int32) (0 : Int32) = some (nI (oul (qM (T i) (V i) D) 41).1, (oul (qM (T i) (V i) D) 41).2) := by
  unfold DX9_meeters_L29
  refine it_for (fun d => (nI (oul (qM (T i) (V i) D) d).1, (oul (qM (T i) (V i) D) d).2, nI d)) 41 ?_ ?_ (by omega)
  · intro d hd
    show DX9_meeters_L29s (nI i) mf days speeds (nI (oul (qM (T i) (V i) D) d).1) (oul (qM (T i) (V i) D) d).2 (nI d) = some (.inl (nI (oul (qM (T i) (V i) D) (d + 1)).1, (oul (qM (T i) (V i) D) (d + 1)).2, nI (d + 1)))
    unfold DX9_meeters_L29s
    have hd1 : nI d + (1 : Int32) = nI (d + 1) := p_add d 1
    have e40 : (40 : Int32) = nI 40 := rfl
    rw [e40, if_neg (by rw [p_lt (by omega) (by omega)]; omega), D9_meeters_L39_eq hn hi h0 hda hsp hk (by omega) (oul_good d (by omega)), bd2_eq, hd1]
    rfl
  · show DX9_meeters_L29s (nI i) mf days speeds (nI (oul (qM (T i) (V i) D) 41).1) (oul (qM (T i) (V i) D) 41).2 (nI 41) = _
    unfold DX9_meeters_L29s
    rw [if_pos (by decide)]
end ME
theorem s_meeters : S_meeters Inv0 := by
  intro c_text_bytes c_text_length c_reader_numbers c_reader_next c_laid_stand c_laid_home c_laid_priceStart c_laid_priceStep c_laid_thrown_cells c_laid_thrown_filled c_laid_nets_cells c_laid_nets_filled c_trial_stand c_trial_home c_trial_priceStart c_trial_priceStep c_trial_thrown_cells c_trial_thrown_filled c_trial_nets_cells c_trial_nets_filled c_flight_loads_cells c_flight_loads_filled c_flight_order c_flight_done c_flight_start c_flight_end c_changes_who c_changes_column c_changes_was c_changes_held c_kept_older_cells c_kept_older_filled c_kept_newer_cells c_kept_newer_filled c_kept_held c_turns_need m_length m_text m_stands m_homeFar m_nets m_netAt m_netWide m_netFrom m_netTo m_priceX m_priceY m_many m_days m_aims m_speeds m_kinds m_keptMany m_undoMany m_undos m_spot m_told m_to m_stood m_home m_lost m_out m_fewest m_ways m_next m_held hI x1 x2
  have hI0 := hI
  obtain ⟨hT, n, ⟨S, D, px, py, nn, T, A, V, K, NP, NW, NF, NU, hn1, hp, hx, hm⟩, hU, hK⟩ := hI
  have hn7 := hp.2.2.2.1
  have hlf := hx.2.2.2.2.1
  have hmm := hm.2.2.2.2.2.1
  unfold DX8_meeters DX9_meeters
  rcases thr_x x1 hmm hn1 hn7 with ⟨i, hi, e1, q1, q2⟩ | ⟨q1, q2⟩
  · rw [← hlf] at q1
    rw [q1, q2]
    rcases win_x x2 0 1 (a := 0) (b := 1) (l := 0) (h := 1) rfl rfl rfl rfl (by decide) (by decide) with ⟨c, r0, r1, e2, r3, r4⟩ | ⟨r1, r3, r4⟩
    · obtain ⟨b1, b2, b3, b4, b5, b6, b7, b8⟩ := hm
      rw [r3, r4, e1]
      simp only [bd1_eq, if_neg (show ¬ ((1 : Int32) = 0) by decide)]
      rw [D8_meeters_L34_eq hn7 hi hx.2.1 hx.2.2.2.2.2.2.1 hp.tok, bd2_eq, D9_meeters_L29_eq hn7 hi b2 (b7 i hi).1 (b7 i hi).2.2.1 hp.tok, bd2_eq]
      by_cases h0 : x2 = 0
      · rw [if_pos h0]
        exact ⟨_, rfl, rfl, hI0⟩
      · rw [if_neg h0]
        exact ⟨_, rfl, rfl, hI0⟩
    · rw [r3, r4]
      exact ⟨_, rfl, rfl, hI0⟩
  · rw [← hlf] at q1
    rw [q1, q2]
    exact ⟨_, rfl, rfl, hI0⟩
