/-! PURE: an item on both sides -/
def ItemOut (L : Nat) (tb mt : Nat → Int32) (j : Nat) (nu : Nat → Int32) (ls lh lp lq : Int32) (lc : Nat → Int32) (lf : Int32) (nc : Nat → Int32) (nf : Int32) (ms mf mn na nw ng nt mx my mm days aims speeds kinds td : Nat → Int32) : Prop :=
  (∃ (nu' : Nat → Int32) (j' : Nat) (ls' lh' lp' lq' : Int32) (lc' : Nat → Int32) (lf' : Int32) (nc' : Nat → Int32) (nf' : Int32) (ms' mf' mn' na' nw' ng' nt' mx' my' mm' days' aims' speeds' kinds' td' : Nat → Int32), DX4_readItem nu (nI j) tb (nI L) ls lh lp lq lc lf nc nf = some (1, nu', nI j', ls', lh', lp', lq', lc', lf', nc', nf') ∧ DX9_item (nI L) mt ms mf mn na nw ng nt mx my mm days aims speeds kinds (nI j) td = some (1, ms', mf', mn', na', nw', ng', nt', mx', my', mm', days', aims', speeds', kinds', nI j', td') ∧
    (∃ (S D n px py nn : Nat) (T A V K NP NW NF NU : Nat → Nat), Pok S D n px py nn T A V K NP NW NF NU ∧ PX S D n px py nn T A V K NP NW NF NU ls' lh' lp' lq' lc' lf' nc' nf' ∧ PM1 S D n px py nn T A V K NP NW NF NU ms' mf' mn' na' nw' ng' nt' mx' my' mm' days' aims' speeds' kinds') ∧ Frm ms' mf' mn' na' nw' ng' nt' mx' my' mm' days' aims' speeds' kinds' ms mf mn na nw ng nt mx my mm days aims speeds kinds ∧ j < j' ∧ j' ≤ L) ∨
  (∃ (nu' : Nat → Int32) (nx' : Int32) (ls' lh' lp' lq' : Int32) (lc' : Nat → Int32) (lf' : Int32) (nc' : Nat → Int32) (nf' : Int32) (sp' : Int32) (td' : Nat → Int32), DX4_readItem nu (nI j) tb (nI L) ls lh lp lq lc lf nc nf = some (0, nu', nx', ls', lh', lp', lq', lc', lf', nc', nf') ∧ DX9_item (nI L) mt ms mf mn na nw ng nt mx my mm days aims speeds kinds (nI j) td = some (0, ms, mf, mn, na, nw, ng, nt, mx, my, mm, days, aims, speeds, kinds, sp', td'))
section IE
variable {B : Nat → Nat} {L : Nat} {tb mt : Nat → Int32} {S D n px py nn j : Nat} {T A V K NP NW NF NU : Nat → Nat} {ls lh lp lq lf nf : Int32} {lc nc nu : Nat → Int32} {ms mf mn na nw ng nt mx my mm days aims speeds kinds td : Nat → Int32}
theorem item_t (hT : Tx B L tb mt) (hj : j < L) (hB : B j = 116) (hp : Pok S D n px py nn T A V K NP NW NF NU) (hx : PX S D n px py nn T A V K NP NW NF NU ls lh lp lq lc lf nc nf) (hm : PM1 S D n px py nn T A V K NP NW NF NU ms mf mn na nw ng nt mx my mm days aims speeds kinds) : ItemOut L tb mt j nu ls lh lp lq lc lf nc nf ms mf mn na nw ng nt mx my mm days aims speeds kinds td := by
  have hL := hT.1
  have hby : DX9_byteAt (nI j) (nI L) mt = some (nI 116) := by rw [D9_byteAt_eq hT (by omega), if_pos hj, hB]
  have nb : DX4_numbersBehind (nI 116) = some (nI 4) := nb_eq 116 (by decide)
  have ej : nI j + (1 : Int32) = nI (j + 1) := p_add j 1
  obtain ⟨a1, a2, a3, a4, a5, a6, a7, a8⟩ := hx
  obtain ⟨b1, b2, b3, b4, b5, b6, b7, b8⟩ := hm
  obtain ⟨h1, h2, h3, h4, h5, h6, h7, h8, h9⟩ := hp
  cases hn : ndS B L 4 (j + 1) 4 with
  | none =>
    obtain ⟨nu', nx', hC⟩ := C_none hT (nu := nu) (ls := ls) (lh := lh) (lp := lp) (lq := lq) (lf := lf) (nf := nf) (lc := lc) (nc := nc) hj hB (by decide) (by decide) nb hn
    rcases D9_figures_eq hT (w := 4) (j0 := j + 1) (td := td) (by decide) (by omega) with ⟨q1, sp', td', q2⟩ | ⟨j', f, td', q1, q2, q3⟩
    · have hf : DX9_figures (4 : Int32) (nI L) mt (nI j + (1 : Int32)) td = some (0, sp', td') := by rw [ej]; exact q2
      exact Or.inr ⟨nu', nx', ls, lh, lp, lq, lc, lf, nc, nf, sp', td', hC, M_t0 hby hf⟩
    · rw [hn] at q1; cases q1
  | some jf =>
    obtain ⟨j', f⟩ := jf
    obtain ⟨g1, g2, g3⟩ := ndS_ok hn
    have g2 := g2 (by decide)
    obtain ⟨nu', hnu, hC⟩ := C_some hT (nu := nu) (ls := ls) (lh := lh) (lp := lp) (lq := lq) (lf := lf) (nf := nf) (lc := lc) (nc := nc) hj hB (by decide) (by decide) nb hn
    rcases D9_figures_eq hT (w := 4) (j0 := j + 1) (td := td) (by decide) (by omega) with ⟨q1, sp', td', q2⟩ | ⟨j2, f2, td', q1, q2, q3⟩
    · rw [hn] at q1; cases q1
    · rw [hn] at q1
      cases q1
      have hf : DX9_figures (4 : Int32) (nI L) mt (nI j + (1 : Int32)) td = some (1, nI j', td') := by rw [ej]; exact q2
      have hM := M_t1 (ms := ms) (mf := mf) (mn := mn) (na := na) (nw := nw) (ng := ng) (nt := nt) (mx := mx) (my := my) (days := days) (aims := aims) (speeds := speeds) (kinds := kinds) hby hf b6 h4 (q3 0 (by decide)) (q3 1 (by decide)) (q3 2 (by decide)) (q3 3 (by decide)) (g3 0 (by decide)) (g3 1 (by decide)) (g3 2 (by decide)) (g3 3 (by decide))
      have hTl := tellThrow_eq (f := lc) (g3 0 (by decide)) (g3 1 (by decide)) (g3 2 (by decide)) (g3 3 (by decide)) h4
      by_cases hc : f 0 ≤ 40 ∧ f 1 ≤ 23 ∧ (1 ≤ f 2 ∧ f 2 ≤ 6) ∧ f 3 ≤ 3 ∧ n < 7
      · rw [if_pos hc] at hM hTl
        have htell : DX3_tell (nI 116) (nu' 0) (nu' 1) (nu' 2) (nu' 3) ls lh lp lq lc lf nc nf = some (1, ls, lh, lp, lq, upd (upd (upd (upd lc (n * 4 + 0) (nI (f 0))) (n * 4 + 1) (nI (f 1))) (n * 4 + 2) (nI (f 2))) (n * 4 + 3) (nI (f 3)), nI (n + 1), nc, nf) := by
          unfold DX3_tell
          rw [if_neg (show ¬ nI 116 = 110 by decide), if_neg (show ¬ nI 116 = 111 by decide), if_neg (show ¬ nI 116 = 112 by decide), if_neg (show ¬ nI 116 = 113 by decide), if_neg (show ¬ nI 116 = 114 by decide), if_neg (show ¬ nI 116 = 115 by decide), if_pos (show nI 116 = 116 from rfl), hnu 0 (by decide), hnu 1 (by decide), hnu 2 (by decide), hnu 3 (by decide), a5, hTl, bd3_eq, if_neg (by decide)]
        refine Or.inl ⟨nu', j', ls, lh, lp, lq, _, _, nc, nf, _, _, _, _, _, _, _, _, _, _, _, _, _, _, td', hC 1 _ _ _ _ _ _ _ _ (Or.inr rfl) htell, hM, ⟨S, D, n + 1, px, py, nn, setF T n (f 0), setF A n (f 1), setF V n (f 2), setF K n (f 3), NP, NW, NF, NU, ⟨h1, h2, h3, by omega, h5, h6, h7, fun x hx => ?_, h9⟩, ⟨a1, a2, a3, a4, rfl, a6, Thr_add a7, a8⟩, b1, b2, b3, b4, b5, upd_same _ _ _, fun x hx => ?_, b8⟩, ⟨fun i hi => ⟨rfl, rfl, rfl, rfl, rfl, upd_ne _ _ hi⟩, fun i hi => ⟨rfl, rfl, rfl, rfl⟩, fun i hi => ⟨upd_ne _ _ (by omega), upd_ne _ _ (by omega), upd_ne _ _ (by omega), upd_ne _ _ (by omega)⟩⟩, by omega, g2⟩
        · by_cases e : x = n
          · subst e
            rw [setF_at, setF_at, setF_at, setF_at]
            omega
          · rw [setF_ne _ e, setF_ne _ e, setF_ne _ e, setF_ne _ e]
            exact h8 x (by omega)
        · by_cases e : x = n
          · subst e
            rw [setF_at, setF_at, setF_at, setF_at]
            exact ⟨upd_same _ _ _, upd_same _ _ _, upd_same _ _ _, upd_same _ _ _⟩
          · rw [setF_ne _ e, setF_ne _ e, setF_ne _ e, setF_ne _ e]
            show upd days (7 + n) _ (7 + x) = _ ∧ upd aims (7 + n) _ (7 + x) = _ ∧ upd speeds (7 + n) _ (7 + x) = _ ∧ upd kinds (7 + n) _ (7 + x) = _
            rw [upd_ne _ _ (by omega), upd_ne _ _ (by omega), upd_ne _ _ (by omega), upd_ne _ _ (by omega)]
            exact b7 x (by omega)
      · rw [if_neg hc] at hM hTl
        have htell : DX3_tell (nI 116) (nu' 0) (nu' 1) (nu' 2) (nu' 3) ls lh lp lq lc lf nc nf = some (0, ls, lh, lp, lq, lc, nI n, nc, nf) := by
          unfold DX3_tell
          rw [if_neg (show ¬ nI 116 = 110 by decide), if_neg (show ¬ nI 116 = 111 by decide), if_neg (show ¬ nI 116 = 112 by decide), if_neg (show ¬ nI 116 = 113 by decide), if_neg (show ¬ nI 116 = 114 by decide), if_neg (show ¬ nI 116 = 115 by decide), if_pos (show nI 116 = 116 from rfl), hnu 0 (by decide), hnu 1 (by decide), hnu 2 (by decide), hnu 3 (by decide), a5, hTl, bd3_eq, if_neg (by decide)]
        exact Or.inr ⟨nu', _, _, _, _, _, _, _, _, _, _, td', hC 0 _ _ _ _ _ _ _ _ (Or.inl rfl) htell, hM⟩
theorem item_n (hT : Tx B L tb mt) (hj : j < L) (hB : B j = 110) (hp : Pok S D n px py nn T A V K NP NW NF NU) (hx : PX S D n px py nn T A V K NP NW NF NU ls lh lp lq lc lf nc nf) (hm : PM1 S D n px py nn T A V K NP NW NF NU ms mf mn na nw ng nt mx my mm days aims speeds kinds) : ItemOut L tb mt j nu ls lh lp lq lc lf nc nf ms mf mn na nw ng nt mx my mm days aims speeds kinds td := by
  have hL := hT.1
  have hby : DX9_byteAt (nI j) (nI L) mt = some (nI 110) := by rw [D9_byteAt_eq hT (by omega), if_pos hj, hB]
  have nb : DX4_numbersBehind (nI 110) = some (nI 4) := nb_eq 110 (by decide)
  have ej : nI j + (1 : Int32) = nI (j + 1) := p_add j 1
  obtain ⟨a1, a2, a3, a4, a5, a6, a7, a8⟩ := hx
  obtain ⟨b1, b2, b3, b4, b5, b6, b7, b8⟩ := hm
  obtain ⟨h1, h2, h3, h4, h5, h6, h7, h8, h9⟩ := hp
  cases hn : ndS B L 4 (j + 1) 4 with
  | none =>
    obtain ⟨nu', nx', hC⟩ := C_none hT (nu := nu) (ls := ls) (lh := lh) (lp := lp) (lq := lq) (lf := lf) (nf := nf) (lc := lc) (nc := nc) hj hB (by decide) (by decide) nb hn
    rcases D9_figures_eq hT (w := 4) (j0 := j + 1) (td := td) (by decide) (by omega) with ⟨q1, sp', td', q2⟩ | ⟨j', f, td', q1, q2, q3⟩
    · have hf : DX9_figures (4 : Int32) (nI L) mt (nI j + (1 : Int32)) td = some (0, sp', td') := by rw [ej]; exact q2
      exact Or.inr ⟨nu', nx', ls, lh, lp, lq, lc, lf, nc, nf, sp', td', hC, M_n0 hby hf⟩
    · rw [hn] at q1; cases q1
  | some jf =>
    obtain ⟨j', f⟩ := jf
    obtain ⟨g1, g2, g3⟩ := ndS_ok hn
    have g2 := g2 (by decide)
    obtain ⟨nu', hnu, hC⟩ := C_some hT (nu := nu) (ls := ls) (lh := lh) (lp := lp) (lq := lq) (lf := lf) (nf := nf) (lc := lc) (nc := nc) hj hB (by decide) (by decide) nb hn
    rcases D9_figures_eq hT (w := 4) (j0 := j + 1) (td := td) (by decide) (by omega) with ⟨q1, sp', td', q2⟩ | ⟨j2, f2, td', q1, q2, q3⟩
    · rw [hn] at q1; cases q1
    · rw [hn] at q1
      cases q1
      have hf : DX9_figures (4 : Int32) (nI L) mt (nI j + (1 : Int32)) td = some (1, nI j', td') := by rw [ej]; exact q2
      have hM := M_n1 (ms := ms) (mf := mf) (na := na) (nw := nw) (ng := ng) (nt := nt) (mx := mx) (my := my) (mm := mm) (days := days) (aims := aims) (speeds := speeds) (kinds := kinds) hby hf b3 h7 (q3 0 (by decide)) (q3 1 (by decide)) (q3 2 (by decide)) (q3 3 (by decide)) (g3 0 (by decide)) (g3 1 (by decide)) (g3 2 (by decide)) (g3 3 (by decide))
      have hTl := tellNet_eq (f := nc) (g3 0 (by decide)) (g3 1 (by decide)) (g3 2 (by decide)) (g3 3 (by decide)) h7
      by_cases hc : f 0 ≤ 23 ∧ f 1 ≤ 3 ∧ nn < 5
      · rw [if_pos hc] at hM hTl
        have htell : DX3_tell (nI 110) (nu' 0) (nu' 1) (nu' 2) (nu' 3) ls lh lp lq lc lf nc nf = some (1, ls, lh, lp, lq, lc, lf, upd (upd (upd (upd nc (nn * 4 + 0) (nI (f 0))) (nn * 4 + 1) (nI (f 1))) (nn * 4 + 2) (nI (f 2))) (nn * 4 + 3) (nI (f 3)), nI (nn + 1)) := by
          unfold DX3_tell
          rw [if_pos (show nI 110 = 110 from rfl), hnu 0 (by decide), hnu 1 (by decide), hnu 2 (by decide), hnu 3 (by decide), a6, hTl, bd3_eq, if_neg (by decide)]
        have f2 := g3 2 (by decide)
        have f3 := g3 3 (by decide)
        refine Or.inl ⟨nu', j', ls, lh, lp, lq, lc, lf, _, _, _, _, _, _, _, _, _, _, _, _, _, _, _, _, td', hC 1 _ _ _ _ _ _ _ _ (Or.inr rfl) htell, hM, ⟨S, D, n, px, py, nn + 1, T, A, V, K, setF NP nn (f 0), setF NW nn (f 1), setF NF nn (f 2), setF NU nn (f 3), ⟨h1, h2, h3, h4, h5, h6, by omega, h8, fun x hx => ?_⟩, ⟨a1, a2, a3, a4, a5, rfl, a7, Net_add a8⟩, b1, b2, upd_same _ _ _, b4, b5, b6, b7, fun x hx => ?_⟩, ⟨fun i hi => ⟨rfl, rfl, upd_ne _ _ hi, rfl, rfl, rfl⟩, fun i hi => ⟨upd_ne _ _ (by omega), upd_ne _ _ (by omega), upd_ne _ _ (by omega), upd_ne _ _ (by omega)⟩, fun i hi => ⟨rfl, rfl, rfl, rfl⟩⟩, by omega, g2⟩
        · by_cases e : x = nn
          · subst e
            rw [setF_at, setF_at, setF_at, setF_at]
            omega
          · rw [setF_ne _ e, setF_ne _ e, setF_ne _ e, setF_ne _ e]
            exact h9 x (by omega)
        · by_cases e : x = nn
          · subst e
            rw [setF_at, setF_at, setF_at, setF_at]
            exact ⟨upd_same _ _ _, upd_same _ _ _, upd_same _ _ _, upd_same _ _ _⟩
          · rw [setF_ne _ e, setF_ne _ e, setF_ne _ e, setF_ne _ e]
            show upd na (6 + nn) _ (6 + x) = _ ∧ upd nw (6 + nn) _ (6 + x) = _ ∧ upd ng (6 + nn) _ (6 + x) = _ ∧ upd nt (6 + nn) _ (6 + x) = _
            rw [upd_ne _ _ (by omega), upd_ne _ _ (by omega), upd_ne _ _ (by omega), upd_ne _ _ (by omega)]
            exact b8 x (by omega)
      · rw [if_neg hc] at hM hTl
        have htell : DX3_tell (nI 110) (nu' 0) (nu' 1) (nu' 2) (nu' 3) ls lh lp lq lc lf nc nf = some (0, ls, lh, lp, lq, lc, lf, nc, nI nn) := by
          unfold DX3_tell
          rw [if_pos (show nI 110 = 110 from rfl), hnu 0 (by decide), hnu 1 (by decide), hnu 2 (by decide), hnu 3 (by decide), a6, hTl, bd3_eq, if_neg (by decide)]
        exact Or.inr ⟨nu', _, _, _, _, _, _, _, _, _, _, td', hC 0 _ _ _ _ _ _ _ _ (Or.inl rfl) htell, hM⟩
theorem item_r (hT : Tx B L tb mt) (hj : j < L) (hB : B j = 114) (hp : Pok S D n px py nn T A V K NP NW NF NU) (hx : PX S D n px py nn T A V K NP NW NF NU ls lh lp lq lc lf nc nf) (hm : PM1 S D n px py nn T A V K NP NW NF NU ms mf mn na nw ng nt mx my mm days aims speeds kinds) : ItemOut L tb mt j nu ls lh lp lq lc lf nc nf ms mf mn na nw ng nt mx my mm days aims speeds kinds td := by
  have hL := hT.1
  have hby : DX9_byteAt (nI j) (nI L) mt = some (nI 114) := by rw [D9_byteAt_eq hT (by omega), if_pos hj, hB]
  have nb : DX4_numbersBehind (nI 114) = some (nI 2) := nb_eq 114 (by decide)
  have ej : nI j + (1 : Int32) = nI (j + 1) := p_add j 1
  obtain ⟨a1, a2, a3, a4, a5, a6, a7, a8⟩ := hx
  obtain ⟨b1, b2, b3, b4, b5, b6, b7, b8⟩ := hm
  obtain ⟨h1, h2, h3, h4, h5, h6, h7, h8, h9⟩ := hp
  cases hn : ndS B L 2 (j + 1) 2 with
  | none =>
    obtain ⟨nu', nx', hC⟩ := C_none hT (nu := nu) (ls := ls) (lh := lh) (lp := lp) (lq := lq) (lf := lf) (nf := nf) (lc := lc) (nc := nc) hj hB (by decide) (by decide) nb hn
    rcases D9_figures_eq hT (w := 2) (j0 := j + 1) (td := td) (by decide) (by omega) with ⟨q1, sp', td', q2⟩ | ⟨j', f, td', q1, q2, q3⟩
    · have hf : DX9_figures (2 : Int32) (nI L) mt (nI j + (1 : Int32)) td = some (0, sp', td') := by rw [ej]; exact q2
      exact Or.inr ⟨nu', nx', ls, lh, lp, lq, lc, lf, nc, nf, sp', td', hC, M_r0 hby hf⟩
    · rw [hn] at q1; cases q1
  | some jf =>
    obtain ⟨j', f⟩ := jf
    obtain ⟨g1, g2, g3⟩ := ndS_ok hn
    have g2 := g2 (by decide)
    obtain ⟨nu', hnu, hC⟩ := C_some hT (nu := nu) (ls := ls) (lh := lh) (lp := lp) (lq := lq) (lf := lf) (nf := nf) (lc := lc) (nc := nc) hj hB (by decide) (by decide) nb hn
    rcases D9_figures_eq hT (w := 2) (j0 := j + 1) (td := td) (by decide) (by omega) with ⟨q1, sp', td', q2⟩ | ⟨j2, f2, td', q1, q2, q3⟩
    · rw [hn] at q1; cases q1
    · rw [hn] at q1
      cases q1
      have hf : DX9_figures (2 : Int32) (nI L) mt (nI j + (1 : Int32)) td = some (1, nI j', td') := by rw [ej]; exact q2
      have hM := M_r1 (ms := ms) (mf := mf) (mn := mn) (na := na) (nw := nw) (ng := ng) (nt := nt) (mx := mx) (my := my) (mm := mm) (days := days) (aims := aims) (speeds := speeds) (kinds := kinds) hby hf (q3 0 (by decide)) (q3 1 (by decide)) (g3 0 (by decide)) (g3 1 (by decide))
      have hTl := tellRock_eq (x := ls) (y := lh) (g3 0 (by decide)) (g3 1 (by decide))
      by_cases hc : f 0 ≤ 23 ∧ (1 ≤ f 1 ∧ f 1 ≤ 60)
      · rw [if_pos hc] at hM hTl
        have htell : DX3_tell (nI 114) (nu' 0) (nu' 1) (nu' 2) (nu' 3) ls lh lp lq lc lf nc nf = some (1, nI (f 0), nI (f 1), lp, lq, lc, lf, nc, nf) := by
          unfold DX3_tell
          rw [if_neg (show ¬ nI 114 = 110 by decide), if_neg (show ¬ nI 114 = 111 by decide), if_neg (show ¬ nI 114 = 112 by decide), if_neg (show ¬ nI 114 = 113 by decide), if_pos (show nI 114 = 114 from rfl), hnu 0 (by decide), hnu 1 (by decide), hTl, bd3_eq, if_neg (by decide)]
        exact Or.inl ⟨nu', j', _, _, lp, lq, lc, lf, nc, nf, _, _, _, _, _, _, _, _, _, _, _, _, _, _, td', hC 1 _ _ _ _ _ _ _ _ (Or.inr rfl) htell, hM, ⟨f 0, f 1, n, px, py, nn, T, A, V, K, NP, NW, NF, NU, ⟨by omega, hc.2.1, hc.2.2, h4, h5, h6, h7, h8, h9⟩, ⟨rfl, rfl, a3, a4, a5, a6, a7, a8⟩, upd_same _ _ _, upd_same _ _ _, b3, b4, b5, b6, b7, b8⟩, ⟨fun i hi => ⟨upd_ne _ _ hi, upd_ne _ _ hi, rfl, rfl, rfl, rfl⟩, fun i hi => ⟨rfl, rfl, rfl, rfl⟩, fun i hi => ⟨rfl, rfl, rfl, rfl⟩⟩, by omega, g2⟩
      · rw [if_neg hc] at hM hTl
        have htell : DX3_tell (nI 114) (nu' 0) (nu' 1) (nu' 2) (nu' 3) ls lh lp lq lc lf nc nf = some (0, ls, lh, lp, lq, lc, lf, nc, nf) := by
          unfold DX3_tell
          rw [if_neg (show ¬ nI 114 = 110 by decide), if_neg (show ¬ nI 114 = 111 by decide), if_neg (show ¬ nI 114 = 112 by decide), if_neg (show ¬ nI 114 = 113 by decide), if_pos (show nI 114 = 114 from rfl), hnu 0 (by decide), hnu 1 (by decide), hTl, bd3_eq, if_neg (by decide)]
        exact Or.inr ⟨nu', _, _, _, _, _, _, _, _, _, _, td', hC 0 _ _ _ _ _ _ _ _ (Or.inl rfl) htell, hM⟩
theorem item_p (hT : Tx B L tb mt) (hj : j < L) (hB : B j = 112) (hp : Pok S D n px py nn T A V K NP NW NF NU) (hx : PX S D n px py nn T A V K NP NW NF NU ls lh lp lq lc lf nc nf) (hm : PM1 S D n px py nn T A V K NP NW NF NU ms mf mn na nw ng nt mx my mm days aims speeds kinds) : ItemOut L tb mt j nu ls lh lp lq lc lf nc nf ms mf mn na nw ng nt mx my mm days aims speeds kinds td := by
  have hL := hT.1
  have hby : DX9_byteAt (nI j) (nI L) mt = some (nI 112) := by rw [D9_byteAt_eq hT (by omega), if_pos hj, hB]
  have nb : DX4_numbersBehind (nI 112) = some (nI 2) := nb_eq 112 (by decide)
  have ej : nI j + (1 : Int32) = nI (j + 1) := p_add j 1
  obtain ⟨a1, a2, a3, a4, a5, a6, a7, a8⟩ := hx
  obtain ⟨b1, b2, b3, b4, b5, b6, b7, b8⟩ := hm
  obtain ⟨h1, h2, h3, h4, h5, h6, h7, h8, h9⟩ := hp
  cases hn : ndS B L 2 (j + 1) 2 with
  | none =>
    obtain ⟨nu', nx', hC⟩ := C_none hT (nu := nu) (ls := ls) (lh := lh) (lp := lp) (lq := lq) (lf := lf) (nf := nf) (lc := lc) (nc := nc) hj hB (by decide) (by decide) nb hn
    rcases D9_figures_eq hT (w := 2) (j0 := j + 1) (td := td) (by decide) (by omega) with ⟨q1, sp', td', q2⟩ | ⟨j', f, td', q1, q2, q3⟩
    · have hf : DX9_figures (2 : Int32) (nI L) mt (nI j + (1 : Int32)) td = some (0, sp', td') := by rw [ej]; exact q2
      exact Or.inr ⟨nu', nx', ls, lh, lp, lq, lc, lf, nc, nf, sp', td', hC, M_p0 hby hf⟩
    · rw [hn] at q1; cases q1
  | some jf =>
    obtain ⟨j', f⟩ := jf
    obtain ⟨g1, g2, g3⟩ := ndS_ok hn
    have g2 := g2 (by decide)
    obtain ⟨nu', hnu, hC⟩ := C_some hT (nu := nu) (ls := ls) (lh := lh) (lp := lp) (lq := lq) (lf := lf) (nf := nf) (lc := lc) (nc := nc) hj hB (by decide) (by decide) nb hn
    rcases D9_figures_eq hT (w := 2) (j0 := j + 1) (td := td) (by decide) (by omega) with ⟨q1, sp', td', q2⟩ | ⟨j2, f2, td', q1, q2, q3⟩
    · rw [hn] at q1; cases q1
    · rw [hn] at q1
      cases q1
      have hf : DX9_figures (2 : Int32) (nI L) mt (nI j + (1 : Int32)) td = some (1, nI j', td') := by rw [ej]; exact q2
      have hM := M_p1 (ms := ms) (mf := mf) (mn := mn) (na := na) (nw := nw) (ng := ng) (nt := nt) (mx := mx) (my := my) (mm := mm) (days := days) (aims := aims) (speeds := speeds) (kinds := kinds) hby hf (q3 0 (by decide)) (q3 1 (by decide)) (g3 0 (by decide)) (g3 1 (by decide))
      have hTl := tellPrice_eq (x := lp) (y := lq) (g3 0 (by decide)) (g3 1 (by decide))
      by_cases hc : f 0 ≤ 49 ∧ f 1 ≤ 49
      · rw [if_pos hc] at hM hTl
        have htell : DX3_tell (nI 112) (nu' 0) (nu' 1) (nu' 2) (nu' 3) ls lh lp lq lc lf nc nf = some (1, ls, lh, nI (f 0), nI (f 1), lc, lf, nc, nf) := by
          unfold DX3_tell
          rw [if_neg (show ¬ nI 112 = 110 by decide), if_neg (show ¬ nI 112 = 111 by decide), if_pos (show nI 112 = 112 from rfl), hnu 0 (by decide), hnu 1 (by decide), hTl, bd3_eq, if_neg (by decide)]
        exact Or.inl ⟨nu', j', ls, lh, _, _, lc, lf, nc, nf, _, _, _, _, _, _, _, _, _, _, _, _, _, _, td', hC 1 _ _ _ _ _ _ _ _ (Or.inr rfl) htell, hM, ⟨S, D, n, f 0, f 1, nn, T, A, V, K, NP, NW, NF, NU, ⟨h1, h2, h3, h4, by omega, by omega, h7, h8, h9⟩, ⟨a1, a2, rfl, rfl, a5, a6, a7, a8⟩, b1, b2, b3, upd_same _ _ _, upd_same _ _ _, b6, b7, b8⟩, ⟨fun i hi => ⟨rfl, rfl, rfl, upd_ne _ _ hi, upd_ne _ _ hi, rfl⟩, fun i hi => ⟨rfl, rfl, rfl, rfl⟩, fun i hi => ⟨rfl, rfl, rfl, rfl⟩⟩, by omega, g2⟩
      · rw [if_neg hc] at hM hTl
        have htell : DX3_tell (nI 112) (nu' 0) (nu' 1) (nu' 2) (nu' 3) ls lh lp lq lc lf nc nf = some (0, ls, lh, lp, lq, lc, lf, nc, nf) := by
          unfold DX3_tell
          rw [if_neg (show ¬ nI 112 = 110 by decide), if_neg (show ¬ nI 112 = 111 by decide), if_pos (show nI 112 = 112 from rfl), hnu 0 (by decide), hnu 1 (by decide), hTl, bd3_eq, if_neg (by decide)]
        exact Or.inr ⟨nu', _, _, _, _, _, _, _, _, _, _, td', hC 0 _ _ _ _ _ _ _ _ (Or.inl rfl) htell, hM⟩
theorem item_eq (hT : Tx B L tb mt) (hj : j < L) (hp : Pok S D n px py nn T A V K NP NW NF NU) (hx : PX S D n px py nn T A V K NP NW NF NU ls lh lp lq lc lf nc nf) (hm : PM1 S D n px py nn T A V K NP NW NF NU ms mf mn na nw ng nt mx my mm days aims speeds kinds) : ItemOut L tb mt j nu ls lh lp lq lc lf nc nf ms mf mn na nw ng nt mx my mm days aims speeds kinds td := by
  have hL := hT.1
  by_cases c0 : B j = 116
  · exact item_t hT hj c0 hp hx hm
  by_cases c1 : B j = 110
  · exact item_n hT hj c1 hp hx hm
  by_cases c2 : B j = 114
  · exact item_r hT hj c2 hp hx hm
  by_cases c3 : B j = 112
  · exact item_p hT hj c3 hp hx hm
  have hb := (hT.2 j hj).1
  have hby : DX9_byteAt (nI j) (nI L) mt = some (nI (B j)) := by rw [D9_byteAt_eq hT (by omega), if_pos hj]
  have nb : DX4_numbersBehind (nI (B j)) = some (nI 0) := by rw [nb_eq (B j) hb, if_neg (by omega), if_neg (by omega)]
  obtain ⟨sp', hM⟩ := M_else (ms := ms) (mf := mf) (mn := mn) (na := na) (nw := nw) (ng := ng) (nt := nt) (mx := mx) (my := my) (mm := mm) (days := days) (aims := aims) (speeds := speeds) (kinds := kinds) (td := td) hby hb c1 c3 c2 c0
  have hn : ndS B L 0 (j + 1) 0 = some (j + 1, fun _ => 0) := rfl
  obtain ⟨nu', hnu, hC⟩ := C_some hT (nu := nu) (ls := ls) (lh := lh) (lp := lp) (lq := lq) (lf := lf) (nf := nf) (lc := lc) (nc := nc) hj rfl hb (by decide) nb hn
  exact Or.inr ⟨nu', _, _, _, _, _, _, _, _, _, sp', td, hC 0 _ _ _ _ _ _ _ _ (Or.inl rfl) (tell_else hb c1 c3 c2 c0), hM⟩
end IE
