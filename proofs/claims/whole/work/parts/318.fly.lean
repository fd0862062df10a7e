/-! PURE: bringHome, and fly whole -/
section FLYS
variable (P T V K : Nat → Nat) (D : Nat) (l : List Nat) (NP NW NF NU : Nat → Nat) (nn px py : Nat)
def ctB (i : Nat) : Bool := caughtB NP NW NF NU nn (hplc P V K D i) (hday T V D i)
def howS (i : Nat) : Nat := if lostS P T V D l 101 i = 10000 then (if ctB P T V K D NP NW NF NU nn i = true then 0 else 1) else 2
def whnS (i : Nat) : Nat := if lostS P T V D l 101 i = 10000 then hday T V D i else lostS P T V D l 101 i
def padS (i : Nat) : Nat := if lostS P T V D l 101 i = 10000 then (if ctB P T V K D NP NW NF NU nn i = true then prc1 px py (hday T V D i) else 0) else 0
end FLYS
/-- what stands of a load when all is worked out -/
def Fin (f : Nat → Int32) (P T V K : Nat → Nat) (D : Nat) (l : List Nat) (NP NW NF NU : Nat → Nat) (nn px py i : Nat) : Prop :=
  f (i * 10 + 6) = nI (howS P T V K D l NP NW NF NU nn i) ∧ f (i * 10 + 7) = nI (whnS P T V D l i) ∧ f (i * 10 + 8) = nI (padS P T V K D l NP NW NF NU nn px py i) ∧ (lostS P T V D l 101 i = 10000 → f (i * 10 + 9) = nI (hplc P V K D i))
theorem Cols.keep {f f' : Nat → Int32} {n i : Nat} {l : List Nat} {T A V K P B : Nat → Nat} (h : Cols f n l T A V K P B) (hk : ∀ j, (∀ c, 6 ≤ c → c < 10 → j ≠ i * 10 + c) → f' j = f j) : Cols f' n l T A V K P B := by
  obtain ⟨h0, h1, h2, h3, h4, h5⟩ := h
  refine ⟨fun j hj => ?_, fun j hj => ?_, fun j hj => ?_, fun j hj => ?_, fun j hj => ?_, fun j hj => ?_⟩
  · rw [hk _ (fun c _ _ => by omega)]; exact h0 j hj
  · rw [hk _ (fun c _ _ => by omega)]; exact h1 j hj
  · rw [hk _ (fun c _ _ => by omega)]; exact h2 j hj
  · rw [hk _ (fun c _ _ => by omega)]; exact h3 j hj
  · rw [hk _ (fun c _ _ => by omega)]; exact h4 j hj
  · rw [hk _ (fun c _ _ => by omega)]; exact h5 j hj
theorem D1_bringHome_eq {f g order : Nat → Int32} {n D px py nn : Nat} {l : List Nat} {P T A V K B NP NW NF NU : Nat → Nat} (hn : n ≤ 7) (hl : ∀ i ∈ l, i < n) (hlen : l.length ≤ 7) (hnd : l.Nodup) (ht : Tok n T V D) (hL : Lr order l) (hK : ∀ i, i < n → K i ≤ 3) (hc : Cols f n l T A V K P B) (h7 : ColM f 7 l (Wt P T V D l 101)) (hP : ∀ i, P i < 24)
    (hnn : nn ≤ 5) (hok : Nok nn NP NW NF NU) (hg : Net g nn NP NW NF NU) (h1 : px < 50) (h2 : py < 50) :
    ∃ f', DX1_bringHome f order (nI l.length) (nI D) (nI px) (nI py) g (nI nn) = some f' ∧ Cols f' n l T A V K P B ∧ (∀ i, i ∈ l → Fin f' P T V K D l NP NW NF NU nn px py i) := by
  have key := it_for2 (S := Int32 × (Nat → Int32)) (R := Nat → Int32) (f := fun st => DX1_bringHome_L2s order (nI l.length) (nI D) (nI px) (nI py) g (nI nn) (st.1) (st.2))
    (fun k st => st.1 = nI k ∧ Cols st.2 n l T A V K P B ∧ (∀ i, i ∈ l.take k → Fin st.2 P T V K D l NP NW NF NU nn px py i) ∧ (∀ i, i ∈ l.drop k → st.2 (i * 10 + 7) = nI (Wt P T V D l 101 i)))
    (fun r => Cols r n l T A V K P B ∧ (∀ i, i ∈ l → Fin r P T V K D l NP NW NF NU nn px py i)) l.length (s0 := ((0 : Int32), f)) ⟨rfl, hc, fun i h => by simp at h, fun i h => h7 i (by simpa using h)⟩ ?_ ?_ (by omega)
  · obtain ⟨r, q1, q2, q3⟩ := key
    refine ⟨r, ?_, q2, q3⟩
    unfold DX1_bringHome DX1_bringHome_L2
    rw [q1, bd1_eq]
  · rintro k ⟨x2, f1⟩ hk ⟨hx, c1, w1, w2⟩
    simp only at hx c1 w1 w2
    subst hx
    left
    show ∃ s', DX1_bringHome_L2s order (nI l.length) (nI D) (nI px) (nI py) g (nI nn) (nI k) f1 = some (.inl s') ∧ _
    unfold DX1_bringHome_L2s
    have hki : l[k]? = some l[k] := List.getElem?_eq_getElem hk
    generalize hi0 : l[k] = i at hki
    have hil : i ∈ l := List.mem_of_getElem? hki
    have hin := hl i hil
    have hsp : l = l.take k ++ i :: l.drop (k + 1) := by
      rw [← hi0, List.getElem_cons_drop, List.take_append_drop]
    have hdr : l.drop k = i :: l.drop (k + 1) := by rw [← hi0, List.getElem_cons_drop]
    have hnd2 := hnd
    rw [hsp, List.nodup_append, List.nodup_cons] at hnd2
    have hni : i ∉ l.take k := fun h => hnd2.2.2 i h i List.mem_cons_self rfl
    have hni2 : i ∉ l.drop (k + 1) := hnd2.2.1.1
    have htake : l.take (k + 1) = l.take k ++ [i] := by rw [List.take_succ, hki]; rfl
    have hk1 : nI k + (1 : Int32) = nI (k + 1) := p_add k 1
    have s6 : ∀ (q : Nat → Int32) (x : Int32), DX5_set (nI i) (6 : Int32) x (7 : Int32) (10 : Int32) 70 q = some (upd q (i * 10 + 6) x) := fun q x => setL (c := 6) (by omega) (by decide)
    have s8 : ∀ (q : Nat → Int32) (x : Int32), DX5_set (nI i) (8 : Int32) x (7 : Int32) (10 : Int32) 70 q = some (upd q (i * 10 + 8) x) := fun q x => setL (c := 8) (by omega) (by decide)
    rw [if_neg (by rw [p_le (by omega) (by omega)]; omega), D8_at_eq (by omega) (by decide), bd1_eq, hL k i hki, s6, bd1_eq, s8, bd1_eq]
    generalize hf2 : upd (upd f1 (i * 10 + 6) (2 : Int32)) (i * 10 + 8) (0 : Int32) = f2
    have keep2 : ∀ j, (∀ c, 6 ≤ c → c < 10 → j ≠ i * 10 + c) → f2 j = f1 j := fun j hj => by
      rw [← hf2, upd_ne _ _ (hj 8 (by decide) (by decide)), upd_ne _ _ (hj 6 (by decide) (by decide))]
    have c2 := c1.keep keep2
    have f27 : f2 (i * 10 + 7) = nI (Wt P T V D l 101 i) := by
      rw [← hf2, upd_ne _ _ (by omega), upd_ne _ _ (by omega)]
      exact w2 i (by rw [hdr]; exact List.mem_cons_self)
    have g7 : DX5_get (nI i) (7 : Int32) (7 : Int32) (10 : Int32) 70 f2 = some (nI (Wt P T V D l 101 i)) := by
      have := getL (f := f2) (i := i) (c := 7) (by omega) (by decide)
      rw [f27] at this; exact this
    have others : ∀ (f3 : Nat → Int32), (∀ j, (∀ c, 6 ≤ c → c < 10 → j ≠ i * 10 + c) → f3 j = f1 j) → Fin f3 P T V K D l NP NW NF NU nn px py i → (∀ x, x ∈ l.take (k + 1) → Fin f3 P T V K D l NP NW NF NU nn px py x) ∧ (∀ x, x ∈ l.drop (k + 1) → f3 (x * 10 + 7) = nI (Wt P T V D l 101 x)) := by
      intro f3 h3 hfi
      refine ⟨fun x hx => ?_, fun x hx => ?_⟩
      · rw [htake] at hx
        rcases List.mem_append.mp hx with h | h
        · have hxi : x ≠ i := fun e => hni (e ▸ h)
          obtain ⟨a1, a2, a3, a4⟩ := w1 x h
          refine ⟨?_, ?_, ?_, fun q => ?_⟩
          · rw [h3 _ (fun c _ _ => by omega)]; exact a1
          · rw [h3 _ (fun c _ _ => by omega)]; exact a2
          · rw [h3 _ (fun c _ _ => by omega)]; exact a3
          · rw [h3 _ (fun c _ _ => by omega)]; exact a4 q
        · have : x = i := by simpa using h
          rw [this]; exact hfi
      · have hxi : x ≠ i := fun e => hni2 (e ▸ hx)
        rw [h3 _ (fun c _ _ => by omega)]
        exact w2 x (by rw [hdr]; exact List.mem_cons_of_mem _ hx)
    have e1000 : (1000 : Int32) = nI 1000 := rfl
    have hW : Wt P T V D l 101 i ≤ 1000 := by
      unfold Wt
      rcases lost_or (P := P) (T := T) (V := V) (D := D) (l := l) 101 i with q | q
      · rw [if_pos q]; exact Nat.le_refl _
      · rw [if_neg (by omega)]; omega
    rw [g7, bd1_eq]
    by_cases ha : lostS P T V D l 101 i = 10000
    · rw [if_pos (by rw [(Wt_1000 (by omega)).mpr ha]; rfl)]
      obtain ⟨f3, r1, r2, r3, r4, r5, r6⟩ := D1_come_eq hn hl hil ht hK c2 hP hnn hok hg h1 h2
      rw [r1, bd1_eq, hk1]
      have keep3 : ∀ j, (∀ c, 6 ≤ c → c < 10 → j ≠ i * 10 + c) → f3 j = f1 j := fun j hj => by rw [r2 j hj, keep2 j hj]
      have hfin : Fin f3 P T V K D l NP NW NF NU nn px py i := by
        refine ⟨?_, ?_, ?_, fun _ => r3⟩
        · rw [r5]; unfold howS; rw [if_pos ha]; rfl
        · rw [r4]; unfold whnS; rw [if_pos ha]
        · rw [r6]; unfold padS; rw [if_pos ha]; rfl
      have := others f3 keep3 hfin
      exact ⟨_, rfl, rfl, c1.keep keep3, this.1, this.2⟩
    · rw [if_neg (by rw [e1000, p_eq (by omega) (by omega)]; exact fun q => ha ((Wt_1000 (by omega)).mp q)), hk1]
      have hfin : Fin f2 P T V K D l NP NW NF NU nn px py i := by
        refine ⟨?_, ?_, ?_, fun q => absurd q ha⟩
        · rw [← hf2, upd_ne _ _ (by omega), upd_same]; unfold howS; rw [if_neg ha]; rfl
        · rw [f27]; unfold whnS Wt; rw [if_neg ha, if_neg ha]
        · rw [← hf2, upd_same]; unfold padS; rw [if_neg ha]; rfl
      have := others f2 keep2 hfin
      exact ⟨_, rfl, rfl, c2, this.1, this.2⟩
  · rintro ⟨x2, f1⟩ ⟨hx, c1, w1, w2⟩
    simp only at hx c1 w1 w2
    subst hx
    show ∃ r, DX1_bringHome_L2s order (nI l.length) (nI D) (nI px) (nI py) g (nI nn) (nI l.length) f1 = some (.inr r) ∧ _
    unfold DX1_bringHome_L2s
    rw [if_pos (by rw [p_le (by omega) (by omega)]; omega)]
    rw [List.take_length] at w1
    exact ⟨_, rfl, c1, w1⟩
/-- a plan in its bounds -/
def Pok (S D n px py nn : Nat) (T A V K NP NW NF NU : Nat → Nat) : Prop := S < 24 ∧ 1 ≤ D ∧ D ≤ 60 ∧ n ≤ 7 ∧ px < 50 ∧ py < 50 ∧ nn ≤ 5 ∧ (∀ i, i < n → T i ≤ 40 ∧ A i < 24 ∧ 1 ≤ V i ∧ V i ≤ 6 ∧ K i ≤ 3) ∧ ∀ k, k < nn → NP k < 24 ∧ NW k ≤ 3 ∧ NF k ≤ 99 ∧ NU k ≤ 99
theorem Pok.tok {S D n px py nn : Nat} {T A V K NP NW NF NU : Nat → Nat} (h : Pok S D n px py nn T A V K NP NW NF NU) : Tok n T V D := ⟨fun i hi => by have := h.2.2.2.2.2.2.2.1 i hi; omega, h.2.1, h.2.2.1⟩
theorem Pok.nok {S D n px py nn : Nat} {T A V K NP NW NF NU : Nat → Nat} (h : Pok S D n px py nn T A V K NP NW NF NU) : Nok nn NP NW NF NU := ⟨by have := h.2.2.2.2.2.2.1; omega, fun k hk => by have := h.2.2.2.2.2.2.2.2 k hk; omega⟩
/-- all that fly works out, of the throws not left out -/
theorem D1_fly_eq {f order g gn : Nat → Int32} {S D n px py nn w : Nat} {T A V K NP NW NF NU : Nat → Nat} (hp : Pok S D n px py nn T A V K NP NW NF NU) (hw : w < 128) (hg : Thr g n T A V K) (hgn : Net gn nn NP NW NF NU) :
    ∃ f' order', DX1_fly (nI w) f order (nI S) (nI D) (nI px) (nI py) g (nI n) gn (nI nn) = some (f', order', nI (ordL T (wout w) n).length, nI S, nI (run V K (ordL T (wout w) n) S)) ∧
      Lr order' (ordL T (wout w) n) ∧ Cols f' n (ordL T (wout w) n) T A V K (toP A V K (ordL T (wout w) n) S) (bhP V K (ordL T (wout w) n) S) ∧
      (∀ i, i ∈ ordL T (wout w) n → Fin f' (toP A V K (ordL T (wout w) n) S) T V K D (ordL T (wout w) n) NP NW NF NU nn px py i) := by
  obtain ⟨hS, hD1, hD, hn, h1, h2, hnn, hT, hN⟩ := id hp
  have hl : ∀ i ∈ ordL T (wout w) n, i < n := fun i hi => (mem_ordM.mp hi).1
  have hlen : (ordL T (wout w) n).length ≤ 7 := Nat.le_trans (ordM_len T (wout w) n 41) hn
  have hnd : (ordL T (wout w) n).Nodup := ordM_nodup T (wout w) n 41
  obtain ⟨f1, o1, a1, a2, a3, a4, a5, a6⟩ := D1_fly_L7_eq (f := f) (order := order) hn hw hg (fun i hi => by have := hT i hi; omega)
  obtain ⟨f2, b1, b2, b3, b4, b5, b6, b7, b8⟩ := D1_throwAll_eq (s := S) hn hS hl hnd hlen a6 a2 a3 a4 a5 (fun i hi => (hT i hi).2.1) (fun i hi => (hT i hi).2.2.2.1) (fun i hi => (hT i hi).2.2.2.2)
  have hP : ∀ i, toP A V K (ordL T (wout w) n) S i < 24 := fun i => Nat.mod_lt _ (by decide)
  obtain ⟨f3, c1, c2, c3⟩ := D1_meetAll_eq hn hl hlen hnd hp.tok a6 ⟨b2, b3, b4, b5, b6, b7⟩ b8 hP
  obtain ⟨f4, d1, d2, d3⟩ := D1_bringHome_eq hn hl hlen hnd hp.tok a6 (fun i hi => (hT i hi).2.2.2.2) c2 c3 hP hnn hp.nok hgn h1 h2
  refine ⟨f4, o1, ?_, a6, d2, d3⟩
  unfold DX1_fly
  rw [a1, bd3_eq, b1, bd3_eq, c1, bd1_eq, d1, bd1_eq]
