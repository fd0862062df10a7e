/-! PURE: the one side's item -/
section IC
variable {B : Nat → Nat} {L : Nat} {tb mt : Nat → Int32}
theorem C_none (hT : Tx B L tb mt) {j c w : Nat} {nu lc nc : Nat → Int32} {ls lh lp lq lf nf : Int32} (hj : j < L) (hB : B j = c) (hc : c < 256) (hw : w ≤ 4) (hnb : DX4_numbersBehind (nI c) = some (nI w)) (hn : ndS B L w (j + 1) w = none) :
    ∃ nu' nx', DX4_readItem nu (nI j) tb (nI L) ls lh lp lq lc lf nc nf = some (0, nu', nx', ls, lh, lp, lq, lc, lf, nc, nf) := by
  have hL := hT.1
  have ej : nI j + (1 : Int32) = nI (j + 1) := p_add j 1
  unfold DX4_readItem
  rw [D6_signAt_eq hT (by omega), if_pos hj, hB, bd1_eq, hnb, bd1_eq, ej]
  rcases D4_numbers_eq hT (w := w) (j0 := j + 1) (nu := nu) (ls := ls) (lh := lh) (lp := lp) (lq := lq) (lf := lf) (nf := nf) (lc := lc) (nc := nc) hw (by omega) with ⟨h1, nu', nx', h2⟩ | ⟨j', f, nu', h1, h2, h3⟩
  · exact ⟨nu', nx', by rw [h2, el2_inr]⟩
  · rw [hn] at h1; cases h1
theorem C_some (hT : Tx B L tb mt) {j c w j' : Nat} {f : Nat → Nat} {nu lc nc : Nat → Int32} {ls lh lp lq lf nf : Int32} (hj : j < L) (hB : B j = c) (hc : c < 256) (hw : w ≤ 4) (hnb : DX4_numbersBehind (nI c) = some (nI w)) (hn : ndS B L w (j + 1) w = some (j', f)) :
    ∃ nu', (∀ i, i < w → nu' i = nI (f i)) ∧ ∀ (r p1 p2 p3 p4 : Int32) (p5 : Nat → Int32) (p6 : Int32) (p7 : Nat → Int32) (p8 : Int32), (r = 0 ∨ r = 1) → DX3_tell (nI c) (nu' 0) (nu' 1) (nu' 2) (nu' 3) ls lh lp lq lc lf nc nf = some (r, p1, p2, p3, p4, p5, p6, p7, p8) → DX4_readItem nu (nI j) tb (nI L) ls lh lp lq lc lf nc nf = some (r, nu', nI j', p1, p2, p3, p4, p5, p6, p7, p8) := by
  have hL := hT.1
  have ej : nI j + (1 : Int32) = nI (j + 1) := p_add j 1
  unfold DX4_readItem
  rw [D6_signAt_eq hT (by omega), if_pos hj, hB, bd1_eq, hnb, bd1_eq, ej]
  rcases D4_numbers_eq hT (w := w) (j0 := j + 1) (nu := nu) (ls := ls) (lh := lh) (lp := lp) (lq := lq) (lf := lf) (nf := nf) (lc := lc) (nc := nc) hw (by omega) with ⟨h1, nu', nx', h2⟩ | ⟨j2, f2, nu', h1, h2, h3⟩
  · rw [hn] at h1; cases h1
  · rw [hn] at h1
    cases h1
    refine ⟨nu', h3, fun r p1 p2 p3 p4 p5 p6 p7 p8 hr ht => ?_⟩
    have d0 : DX8_at (0 : Int32) 4 nu' = some (nu' 0) := D8_at_eq (i := 0) (by decide) (by decide)
    have d1 : DX8_at (1 : Int32) 4 nu' = some (nu' 1) := D8_at_eq (i := 1) (by decide) (by decide)
    have d2 : DX8_at (2 : Int32) 4 nu' = some (nu' 2) := D8_at_eq (i := 2) (by decide) (by decide)
    have d3 : DX8_at (3 : Int32) 4 nu' = some (nu' 3) := D8_at_eq (i := 3) (by decide) (by decide)
    rw [h2, el2_inl, d0, bd1_eq, d1, bd1_eq, d2, bd1_eq, d3, bd1_eq, ht, bd9_eq, if_neg (fun q => q hr)]
end IC
section TE
variable {x2 x3 x4 x5 ls lh lp lq lf nf : Int32} {lc nc : Nat → Int32}
theorem tell_else {c : Nat} (hc : c < 256) (h0 : c ≠ 110) (h2 : c ≠ 112) (h4 : c ≠ 114) (h6 : c ≠ 116) : DX3_tell (nI c) x2 x3 x4 x5 ls lh lp lq lc lf nc nf = some (0, ls, lh, lp, lq, lc, lf, nc, nf) := by
  have k : ∀ d, d < 256 → c ≠ d → ¬ nI c = nI d := fun d hd hne => by rw [p_eq (by omega) (by omega)]; exact hne
  unfold DX3_tell
  rw [if_neg (show ¬ nI c = 110 from k 110 (by decide) h0), if_neg (show ¬ nI c = 112 from k 112 (by decide) h2), if_neg (show ¬ nI c = 114 from k 114 (by decide) h4), if_neg (show ¬ nI c = 116 from k 116 (by decide) h6)]
  split
  · rfl
  · split
    · rfl
    · split <;> rfl
end TE
/-! the other side's item -/
section IM
variable {ms mf mn na nw ng nt mx my mm days aims speeds kinds td : Nat → Int32} {mt : Nat → Int32} {sp j L : Nat}
theorem M_else {c : Nat} (hby : DX9_byteAt (nI j) (nI L) mt = some (nI c)) (hc : c < 256) (h0 : c ≠ 110) (h2 : c ≠ 112) (h4 : c ≠ 114) (h6 : c ≠ 116) : ∃ sp', DX9_item (nI L) mt ms mf mn na nw ng nt mx my mm days aims speeds kinds (nI j) td = some (0, ms, mf, mn, na, nw, ng, nt, mx, my, mm, days, aims, speeds, kinds, sp', td) := by
  have k : ∀ d, d < 256 → c ≠ d → ¬ nI c = nI d := fun d hd hne => by rw [p_eq (by omega) (by omega)]; exact hne
  refine ⟨nI j + (1 : Int32), ?_⟩
  unfold DX9_item
  rw [hby, bd1_eq, if_neg (show ¬ nI c = 110 from k 110 (by decide) h0), if_neg (show ¬ nI c = 112 from k 112 (by decide) h2), if_neg (show ¬ nI c = 114 from k 114 (by decide) h4), if_neg (show ¬ nI c = 116 from k 116 (by decide) h6)]
  split
  · rfl
  · split
    · rfl
    · split <;> rfl
variable {td' : Nat → Int32} {sp' : Int32} {a b c d n : Nat}
theorem M_t0 (hby : DX9_byteAt (nI j) (nI L) mt = some (nI 116)) (hf : DX9_figures (4 : Int32) (nI L) mt (nI j + (1 : Int32)) td = some (0, sp', td')) : DX9_item (nI L) mt ms mf mn na nw ng nt mx my mm days aims speeds kinds (nI j) td = some (0, ms, mf, mn, na, nw, ng, nt, mx, my, mm, days, aims, speeds, kinds, sp', td') := by
  unfold DX9_item
  rw [hby, bd1_eq, if_neg (show ¬ nI 116 = 110 by decide), if_neg (show ¬ nI 116 = 111 by decide), if_neg (show ¬ nI 116 = 112 by decide), if_neg (show ¬ nI 116 = 113 by decide), if_neg (show ¬ nI 116 = 114 by decide), if_neg (show ¬ nI 116 = 115 by decide), if_pos (show nI 116 = 116 from rfl), hf, bd3_eq, if_pos rfl]
theorem M_n0 (hby : DX9_byteAt (nI j) (nI L) mt = some (nI 110)) (hf : DX9_figures (4 : Int32) (nI L) mt (nI j + (1 : Int32)) td = some (0, sp', td')) : DX9_item (nI L) mt ms mf mn na nw ng nt mx my mm days aims speeds kinds (nI j) td = some (0, ms, mf, mn, na, nw, ng, nt, mx, my, mm, days, aims, speeds, kinds, sp', td') := by
  unfold DX9_item
  rw [hby, bd1_eq, if_pos (show nI 110 = 110 from rfl), hf, bd3_eq, if_pos rfl]
theorem M_p0 (hby : DX9_byteAt (nI j) (nI L) mt = some (nI 112)) (hf : DX9_figures (2 : Int32) (nI L) mt (nI j + (1 : Int32)) td = some (0, sp', td')) : DX9_item (nI L) mt ms mf mn na nw ng nt mx my mm days aims speeds kinds (nI j) td = some (0, ms, mf, mn, na, nw, ng, nt, mx, my, mm, days, aims, speeds, kinds, sp', td') := by
  unfold DX9_item
  rw [hby, bd1_eq, if_neg (show ¬ nI 112 = 110 by decide), if_neg (show ¬ nI 112 = 111 by decide), if_pos (show nI 112 = 112 from rfl), hf, bd3_eq, if_pos rfl]
theorem M_r0 (hby : DX9_byteAt (nI j) (nI L) mt = some (nI 114)) (hf : DX9_figures (2 : Int32) (nI L) mt (nI j + (1 : Int32)) td = some (0, sp', td')) : DX9_item (nI L) mt ms mf mn na nw ng nt mx my mm days aims speeds kinds (nI j) td = some (0, ms, mf, mn, na, nw, ng, nt, mx, my, mm, days, aims, speeds, kinds, sp', td') := by
  unfold DX9_item
  rw [hby, bd1_eq, if_neg (show ¬ nI 114 = 110 by decide), if_neg (show ¬ nI 114 = 111 by decide), if_neg (show ¬ nI 114 = 112 by decide), if_neg (show ¬ nI 114 = 113 by decide), if_pos (show nI 114 = 114 from rfl), hf, bd3_eq, if_pos rfl]
theorem M_t1 (hby : DX9_byteAt (nI j) (nI L) mt = some (nI 116)) (hf : DX9_figures (4 : Int32) (nI L) mt (nI j + (1 : Int32)) td = some (1, sp', td')) (hm : mm 1 = nI n) (hn : n ≤ 7) (h0 : td' 0 = nI a) (h1 : td' 1 = nI b) (h2 : td' 2 = nI c) (h3 : td' 3 = nI d) (ha : a ≤ 99) (hb : b ≤ 99) (hc : c ≤ 99) (hd : d ≤ 99) :
    DX9_item (nI L) mt ms mf mn na nw ng nt mx my mm days aims speeds kinds (nI j) td = if a ≤ 40 ∧ b ≤ 23 ∧ (1 ≤ c ∧ c ≤ 6) ∧ d ≤ 3 ∧ n < 7 then some (1, ms, mf, mn, na, nw, ng, nt, mx, my, upd mm 1 (nI (n + 1)), upd days (7 + n) (nI a), upd aims (7 + n) (nI b), upd speeds (7 + n) (nI c), upd kinds (7 + n) (nI d), sp', td') else some (0, ms, mf, mn, na, nw, ng, nt, mx, my, mm, days, aims, speeds, kinds, sp', td') := by
  have t0 : (0 : Int32).toNatClampNeg = 0 := rfl
  have t1 : (1 : Int32).toNatClampNeg = 1 := rfl
  have t2 : (2 : Int32).toNatClampNeg = 2 := rfl
  have t3 : (3 : Int32).toNatClampNeg = 3 := rfl
  have e7 : (7 : Int32) = nI 7 := rfl
  have e40 : (40 : Int32) = nI 40 := rfl
  have e23 : (23 : Int32) = nI 23 := rfl
  have e3 : (3 : Int32) = nI 3 := rfl
  have en : nI n + (1 : Int32) = nI (n + 1) := p_add n 1
  have hin := in_nI (x := nI c) (lo := 1) (hi := 6) (l := 1) (h := 6) 1 6 rfl rfl rfl rfl (by decide) (by decide) (i := c) (by omega) rfl
  unfold DX9_item
  rw [hby, bd1_eq, if_neg (show ¬ nI 116 = 110 by decide), if_neg (show ¬ nI 116 = 111 by decide), if_neg (show ¬ nI 116 = 112 by decide), if_neg (show ¬ nI 116 = 113 by decide), if_neg (show ¬ nI 116 = 114 by decide), if_neg (show ¬ nI 116 = 115 by decide), if_pos (show nI 116 = 116 from rfl), hf, bd3_eq, if_neg (by decide), t0, t1, t2, t3, hm, h0, h1, h2, h3]
  by_cases c1 : n < 7
  · rw [if_neg (show ¬ nI n = (7 : Int32) by rw [e7, p_eq (by omega) (by omega)]; omega)]
    by_cases c2 : a ≤ 40
    · rw [if_neg (show ¬ (40 : Int32) < nI a by rw [e40, p_lt (by omega) (by omega)]; omega)]
      by_cases c3 : b ≤ 23
      · rw [if_neg (show ¬ (23 : Int32) < nI b by rw [e23, p_lt (by omega) (by omega)]; omega), hin, bd1_eq]
        by_cases c4 : 1 ≤ c ∧ c ≤ 6
        · rw [if_pos c4, if_neg (by decide)]
          by_cases c5 : d ≤ 3
          · have gd : ∀ {α : Type} (b : Option α), (if nI (7 + n) < 0 ∨ 28 ≤ 7 + n then none else b) = b := fun b => p_h (by omega) (by omega)
            have e7n : (7 : Int32) + nI n = nI (7 + n) := p_add 7 n
            rw [if_pos (show nI d ≤ (3 : Int32) by rw [e3, p_le (by omega) (by omega)]; exact c5), e7n, p_tn (by omega), gd, gd, gd, gd, en, if_pos ⟨c2, c3, c4, c5, c1⟩]
          · rw [if_neg (show ¬ nI d ≤ (3 : Int32) by rw [e3, p_le (by omega) (by omega)]; exact c5), if_neg (fun q => c5 q.2.2.2.1)]
        · rw [if_neg c4, if_pos rfl, if_neg (fun q => c4 q.2.2.1)]
      · rw [if_pos (show (23 : Int32) < nI b by rw [e23, p_lt (by omega) (by omega)]; omega), if_neg (fun q => c3 q.2.1)]
    · rw [if_pos (show (40 : Int32) < nI a by rw [e40, p_lt (by omega) (by omega)]; omega), if_neg (fun q => c2 q.1)]
  · rw [if_pos (show nI n = (7 : Int32) by rw [e7, p_eq (by omega) (by omega)]; omega), if_neg (fun q => c1 q.2.2.2.2)]
theorem M_n1 (hby : DX9_byteAt (nI j) (nI L) mt = some (nI 110)) (hf : DX9_figures (4 : Int32) (nI L) mt (nI j + (1 : Int32)) td = some (1, sp', td')) (hm : mn 1 = nI n) (hn : n ≤ 5) (h0 : td' 0 = nI a) (h1 : td' 1 = nI b) (h2 : td' 2 = nI c) (h3 : td' 3 = nI d) (ha : a ≤ 99) (hb : b ≤ 99) (hc : c ≤ 99) (hd : d ≤ 99) :
    DX9_item (nI L) mt ms mf mn na nw ng nt mx my mm days aims speeds kinds (nI j) td = if a ≤ 23 ∧ b ≤ 3 ∧ n < 5 then some (1, ms, mf, upd mn 1 (nI (n + 1)), upd na (6 + n) (nI a), upd nw (6 + n) (nI b), upd ng (6 + n) (nI c), upd nt (6 + n) (nI d), mx, my, mm, days, aims, speeds, kinds, sp', td') else some (0, ms, mf, mn, na, nw, ng, nt, mx, my, mm, days, aims, speeds, kinds, sp', td') := by
  have t0 : (0 : Int32).toNatClampNeg = 0 := rfl
  have t1 : (1 : Int32).toNatClampNeg = 1 := rfl
  have t2 : (2 : Int32).toNatClampNeg = 2 := rfl
  have t3 : (3 : Int32).toNatClampNeg = 3 := rfl
  have e5 : (5 : Int32) = nI 5 := rfl
  have e23 : (23 : Int32) = nI 23 := rfl
  have e3 : (3 : Int32) = nI 3 := rfl
  have en : nI n + (1 : Int32) = nI (n + 1) := p_add n 1
  unfold DX9_item
  rw [hby, bd1_eq, if_pos (show nI 110 = 110 from rfl), hf, bd3_eq, if_neg (by decide), t0, t1, t2, t3, hm, h0, h1, h2, h3]
  by_cases c1 : n < 5
  · rw [if_neg (show ¬ nI n = (5 : Int32) by rw [e5, p_eq (by omega) (by omega)]; omega)]
    by_cases c2 : a ≤ 23
    · rw [if_neg (show ¬ (23 : Int32) < nI a by rw [e23, p_lt (by omega) (by omega)]; omega)]
      by_cases c3 : b ≤ 3
      · have gd : ∀ {α : Type} (b : Option α), (if nI (6 + n) < 0 ∨ 12 ≤ 6 + n then none else b) = b := fun b => p_h (by omega) (by omega)
        have e6n : (6 : Int32) + nI n = nI (6 + n) := p_add 6 n
        rw [if_pos (show nI b ≤ (3 : Int32) by rw [e3, p_le (by omega) (by omega)]; exact c3), e6n, p_tn (by omega), gd, gd, gd, gd, en, if_pos ⟨c2, c3, c1⟩]
      · rw [if_neg (show ¬ nI b ≤ (3 : Int32) by rw [e3, p_le (by omega) (by omega)]; exact c3), if_neg (fun q => c3 q.2.1)]
    · rw [if_pos (show (23 : Int32) < nI a by rw [e23, p_lt (by omega) (by omega)]; omega), if_neg (fun q => c2 q.1)]
  · rw [if_pos (show nI n = (5 : Int32) by rw [e5, p_eq (by omega) (by omega)]; omega), if_neg (fun q => c1 q.2.2)]
theorem M_p1 (hby : DX9_byteAt (nI j) (nI L) mt = some (nI 112)) (hf : DX9_figures (2 : Int32) (nI L) mt (nI j + (1 : Int32)) td = some (1, sp', td')) (h0 : td' 0 = nI a) (h1 : td' 1 = nI b) (ha : a ≤ 99) (hb : b ≤ 99) :
    DX9_item (nI L) mt ms mf mn na nw ng nt mx my mm days aims speeds kinds (nI j) td = if a ≤ 49 ∧ b ≤ 49 then some (1, ms, mf, mn, na, nw, ng, nt, upd mx 1 (nI a), upd my 1 (nI b), mm, days, aims, speeds, kinds, sp', td') else some (0, ms, mf, mn, na, nw, ng, nt, mx, my, mm, days, aims, speeds, kinds, sp', td') := by
  have t0 : (0 : Int32).toNatClampNeg = 0 := rfl
  have t1 : (1 : Int32).toNatClampNeg = 1 := rfl
  have e49 : (49 : Int32) = nI 49 := rfl
  unfold DX9_item
  rw [hby, bd1_eq, if_neg (show ¬ nI 112 = 110 by decide), if_neg (show ¬ nI 112 = 111 by decide), if_pos (show nI 112 = 112 from rfl), hf, bd3_eq, if_neg (by decide), t0, t1, h0, h1]
  by_cases c1 : a ≤ 49
  · rw [if_neg (show ¬ (49 : Int32) < nI a by rw [e49, p_lt (by omega) (by omega)]; omega)]
    by_cases c2 : b ≤ 49
    · rw [if_pos (show nI b ≤ (49 : Int32) by rw [e49, p_le (by omega) (by omega)]; exact c2), if_pos ⟨c1, c2⟩]
    · rw [if_neg (show ¬ nI b ≤ (49 : Int32) by rw [e49, p_le (by omega) (by omega)]; exact c2), if_neg (fun q => c2 q.2)]
  · rw [if_pos (show (49 : Int32) < nI a by rw [e49, p_lt (by omega) (by omega)]; omega), if_neg (fun q => c1 q.1)]
theorem M_r1 (hby : DX9_byteAt (nI j) (nI L) mt = some (nI 114)) (hf : DX9_figures (2 : Int32) (nI L) mt (nI j + (1 : Int32)) td = some (1, sp', td')) (h0 : td' 0 = nI a) (h1 : td' 1 = nI b) (ha : a ≤ 99) (hb : b ≤ 99) :
    DX9_item (nI L) mt ms mf mn na nw ng nt mx my mm days aims speeds kinds (nI j) td = if a ≤ 23 ∧ (1 ≤ b ∧ b ≤ 60) then some (1, upd ms 1 (nI a), upd mf 1 (nI b), mn, na, nw, ng, nt, mx, my, mm, days, aims, speeds, kinds, sp', td') else some (0, ms, mf, mn, na, nw, ng, nt, mx, my, mm, days, aims, speeds, kinds, sp', td') := by
  have t0 : (0 : Int32).toNatClampNeg = 0 := rfl
  have t1 : (1 : Int32).toNatClampNeg = 1 := rfl
  have e23 : (23 : Int32) = nI 23 := rfl
  have hin := in_nI (x := nI b) (lo := 1) (hi := 60) (l := 1) (h := 60) 1 60 rfl rfl rfl rfl (by decide) (by decide) (i := b) (by omega) rfl
  unfold DX9_item
  rw [hby, bd1_eq, if_neg (show ¬ nI 114 = 110 by decide), if_neg (show ¬ nI 114 = 111 by decide), if_neg (show ¬ nI 114 = 112 by decide), if_neg (show ¬ nI 114 = 113 by decide), if_pos (show nI 114 = 114 from rfl), hf, bd3_eq, if_neg (by decide), t0, t1, h0, h1, hin]
  by_cases c1 : a ≤ 23
  · rw [if_neg (show ¬ (23 : Int32) < nI a by rw [e23, p_lt (by omega) (by omega)]; omega), bd1_eq]
    by_cases c2 : 1 ≤ b ∧ b ≤ 60
    · rw [if_pos c2, if_neg (by decide), if_pos ⟨c1, c2⟩]
    · rw [if_neg c2, if_pos rfl, if_neg (fun q => c2 q.2)]
  · rw [if_pos (show (23 : Int32) < nI a by rw [e23, p_lt (by omega) (by omega)]; omega), if_neg (fun q => c1 q.1)]
end IM
