/-! PURE: both sides fly the plan -/
section FG
variable {S D n px py nn : Nat} {T A V K NP NW NF NU : Nat → Nat}
theorem fly_w {ls lh lp lq lf nf : Int32} {lc nc f order : Nat → Int32} {w : Nat} (hp : Pok S D n px py nn T A V K NP NW NF NU) (hx : PX S D n px py nn T A V K NP NW NF NU ls lh lp lq lc lf nc nf) (hw : w < 128) :
    ∃ f' order', DX1_fly (nI w) f order ls lh lp lq lc lf nc nf = some (f', order', nI (ordL T (wout w) n).length, nI S, nI (run V K (ordL T (wout w) n) S)) ∧
      Lr order' (ordL T (wout w) n) ∧ Cols f' n (ordL T (wout w) n) T A V K (toP A V K (ordL T (wout w) n) S) (bhP V K (ordL T (wout w) n) S) ∧
      (∀ i, i ∈ ordL T (wout w) n → Fin f' (toP A V K (ordL T (wout w) n) S) T V K D (ordL T (wout w) n) NP NW NF NU nn px py i) := by
  obtain ⟨a1, a2, a3, a4, a5, a6, a7, a8⟩ := hx
  rw [a1, a2, a3, a4, a5, a6]
  exact D1_fly_eq hp hw a7 a8
theorem in_ordL (hp : Pok S D n px py nn T A V K NP NW NF NU) {w i : Nat} (hi : i < n) (ho : wout w i = false) : i ∈ ordL T (wout w) n := by
  have := (hp.2.2.2.2.2.2.2.1 i hi).1
  exact mem_ordM.mpr ⟨hi, by omega, ho⟩
theorem go_w {ms mf mn na nw ng nt mx my mm days aims speeds kinds to stood home lost : Nat → Int32} {w : Nat} (hp : Pok S D n px py nn T A V K NP NW NF NU) (hm : PM S D n px py nn T A V K NP NW NF NU ms mf mn na nw ng nt mx my mm days aims speeds kinds) (hw : w < 128) :
    ∃ to' stood' home' lost', DX9_go (nI w) ms mf mm days aims speeds kinds to stood home lost = some (to', stood', home', lost', nI w) ∧
      (∀ i, i < n → wout w i = false → stood' i = nI (bhP V K (ordL T (wout w) n) S i)) ∧
      Mend mn na nw ng nt mx my mm days kinds to' home' lost' n D nn px py w (toP A V K (ordL T (wout w) n) S) T V K NP NW NF NU (ordL T (wout w) n) := by
  obtain ⟨b1, b2, b3, b4, b5, b6, b7, b8⟩ := hm
  obtain ⟨hS, hD1, hD, hn, h1, h2, hnn, hT, hN⟩ := id hp
  obtain ⟨to', stood', home', lost', g1, g2, g3⟩ := D9_go_eq (to := to) (stood := stood) (home := home) (lost := lost) hn hS hw b1 b2 b6 b7 hT hD1 hD
  refine ⟨to', stood', home', lost', g1, fun i hi ho => (g2 i (in_ordL hp hi ho)).2, b3, b8, hp.nok, b4, b5, h1, h2, b6, hn, fun i hi => ?_, fun i hi ho => (g2 i (in_ordL hp hi ho)).1, fun i => Nat.mod_lt _ (by decide), g3⟩
  obtain ⟨q1, q2, q3, q4⟩ := b7 i hi
  obtain ⟨r1, r2, r3, r4, r5⟩ := hT i hi
  exact ⟨q1, q4, r1, r5, dys_le r3 hD⟩
theorem whn_le (hp : Pok S D n px py nn T A V K NP NW NF NU) {P : Nat → Nat} {l : List Nat} {i : Nat} (hi : i < n) : whnS P T V D l i ≤ 101 := by
  obtain ⟨hS, hD1, hD, hn, h1, h2, hnn, hT, hN⟩ := id hp
  obtain ⟨r1, r2, r3, r4, r5⟩ := hT i hi
  have := dys_le (V := V) (D := D) r3 hD
  have hlt := lost_or (P := P) (T := T) (V := V) (D := D) (l := l) 101 i
  unfold whnS hday
  split <;> omega
theorem home_whn {mn na nw ng nt mx my mm days kinds to home lost : Nat → Int32} {P : Nat → Nat} {l : List Nat} {w i : Nat} (h : Mend mn na nw ng nt mx my mm days kinds to home lost n D nn px py w P T V K NP NW NF NU l) (hi : i < n) (ho : wout w i = false) : home i = nI (whnS P T V D l i) := by
  obtain ⟨h1, h2, h3, h4, h5, h6, h7, h8, h9, h10, h11, h12, h13⟩ := h
  exact ((h13 i hi).1 ho).2
end FG
