/-! PURE: the text read to its end -/
section RL
variable {B : Nat → Nat} {L : Nat} {tb mt : Nat → Int32}
theorem read_loop (hT : Tx B L tb mt) : ∀ (e j k m1 m2 : Nat), L - j ≤ e → j ≤ L → k ≤ j → e < m1 → e < m2 → ∀ {S D n px py nn : Nat} {T A V K NP NW NF NU : Nat → Nat} {ls lh lp lq lf nf : Int32} {lc nc nu : Nat → Int32} {ms mf mn na nw ng nt mx my mm days aims speeds kinds td : Nat → Int32}, Pok S D n px py nn T A V K NP NW NF NU → PX S D n px py nn T A V K NP NW NF NU ls lh lp lq lc lf nc nf → PM1 S D n px py nn T A V K NP NW NF NU ms mf mn na nw ng nt mx my mm days aims speeds kinds →
    (∃ (nu' : Nat → Int32) (ls' lh' lp' lq' : Int32) (lc' : Nat → Int32) (lf' : Int32) (nc' : Nat → Int32) (nf' : Int32) (ms' mf' mn' na' nw' ng' nt' mx' my' mm' days' aims' speeds' kinds' td' : Nat → Int32), DX4_firstFault_L11 tb (nI L) m1 (nI k) nu (nI j) ls lh lp lq lc lf nc nf = some (.inl (nu', nI L, ls', lh', lp', lq', lc', lf', nc', nf')) ∧ DX9_readAll_L10 (nI L) mt m2 ms mf mn na nw ng nt mx my mm days aims speeds kinds (nI j) td = some (.inl (ms', mf', mn', na', nw', ng', nt', mx', my', mm', days', aims', speeds', kinds', nI L, td')) ∧
      (∃ (S D n px py nn : Nat) (T A V K NP NW NF NU : Nat → Nat), Pok S D n px py nn T A V K NP NW NF NU ∧ PX S D n px py nn T A V K NP NW NF NU ls' lh' lp' lq' lc' lf' nc' nf' ∧ PM1 S D n px py nn T A V K NP NW NF NU ms' mf' mn' na' nw' ng' nt' mx' my' mm' days' aims' speeds' kinds') ∧ Frm ms' mf' mn' na' nw' ng' nt' mx' my' mm' days' aims' speeds' kinds' ms mf mn na nw ng nt mx my mm days aims speeds kinds) ∨
    (∃ (b : Nat) (nu' : Nat → Int32) (nx' ls' lh' lp' lq' : Int32) (lc' : Nat → Int32) (lf' : Int32) (nc' : Nat → Int32) (nf' : Int32) (ms' mf' mn' na' nw' ng' nt' mx' my' mm' days' aims' speeds' kinds' : Nat → Int32) (sp' : Int32) (td' : Nat → Int32), b < L ∧ DX4_firstFault_L11 tb (nI L) m1 (nI k) nu (nI j) ls lh lp lq lc lf nc nf = some (.inr (nI b, nu', nx', ls', lh', lp', lq', lc', lf', nc', nf')) ∧ DX9_readAll_L10 (nI L) mt m2 ms mf mn na nw ng nt mx my mm days aims speeds kinds (nI j) td = some (.inr (nI b, ms', mf', mn', na', nw', ng', nt', mx', my', mm', days', aims', speeds', kinds', sp', td')) ∧ Frm ms' mf' mn' na' nw' ng' nt' mx' my' mm' days' aims' speeds' kinds' ms mf mn na nw ng nt mx my mm days aims speeds kinds) := by
  have hL := hT.1
  have e300 : (300 : Int32) = nI 300 := rfl
  intro e
  induction e with
  | zero =>
    intro j k m1 m2 he hj hk h1 h2 S D n px py nn T A V K NP NW NF NU ls lh lp lq lf nf lc nc nu ms mf mn na nw ng nt mx my mm days aims speeds kinds td hp hx hm
    have hjL : j = L := by omega
    subst hjL
    obtain ⟨p1, rfl⟩ : ∃ p, m1 = p + 1 := ⟨m1 - 1, by omega⟩
    obtain ⟨p2, rfl⟩ : ∃ p, m2 = p + 1 := ⟨m2 - 1, by omega⟩
    left
    refine ⟨nu, ls, lh, lp, lq, lc, lf, nc, nf, ms, mf, mn, na, nw, ng, nt, mx, my, mm, days, aims, speeds, kinds, td, ?_, ?_, ⟨S, D, n, px, py, nn, T, A, V, K, NP, NW, NF, NU, hp, hx, hm⟩, Frm_refl⟩
    · unfold DX4_firstFault_L11
      refine it_done ?_
      show DX4_firstFault_L11s tb (nI j) (nI k) nu (nI j) ls lh lp lq lc lf nc nf = _
      unfold DX4_firstFault_L11s
      by_cases h : 300 ≤ k
      · rw [e300, if_pos (by rw [p_le (by omega) (by omega)]; exact h)]
      · rw [e300, if_neg (by rw [p_le (by omega) (by omega)]; exact h), if_pos (by rw [p_le (by omega) (by omega)]; omega)]
    · unfold DX9_readAll_L10
      refine it_done ?_
      show DX9_readAll_L10s (nI j) mt ms mf mn na nw ng nt mx my mm days aims speeds kinds (nI j) td = _
      unfold DX9_readAll_L10s
      rw [if_pos (by rw [p_le (by omega) (by omega)]; omega)]
  | succ e ih =>
    intro j k m1 m2 he hj hk h1 h2 S D n px py nn T A V K NP NW NF NU ls lh lp lq lf nf lc nc nu ms mf mn na nw ng nt mx my mm days aims speeds kinds td hp hx hm
    by_cases hjL : j = L
    · exact ih j k m1 m2 (by omega) hj hk (by omega) (by omega) hp hx hm
    · have hjl : j < L := by omega
      obtain ⟨p1, rfl⟩ : ∃ p, m1 = p + 1 := ⟨m1 - 1, by omega⟩
      obtain ⟨p2, rfl⟩ : ∃ p, m2 = p + 1 := ⟨m2 - 1, by omega⟩
      have hk1 : nI k + (1 : Int32) = nI (k + 1) := p_add k 1
      rcases item_eq (nu := nu) (td := td) hT hjl hp hx hm with ⟨nu', j', ls', lh', lp', lq', lc', lf', nc', nf', ms', mf', mn', na', nw', ng', nt', mx', my', mm', days', aims', speeds', kinds', td', i1, i2, ⟨S', D', n', px', py', nn', T', A', V', K', NP', NW', NF', NU', hp', hx', hm'⟩, hF, j1, j2⟩ | ⟨nu', nx', ls', lh', lp', lq', lc', lf', nc', nf', sp', td', i1, i2⟩
      · have s1 : DX4_firstFault_L11 tb (nI L) (p1 + 1) (nI k) nu (nI j) ls lh lp lq lc lf nc nf = DX4_firstFault_L11 tb (nI L) p1 (nI (k + 1)) nu' (nI j') ls' lh' lp' lq' lc' lf' nc' nf' := by
          unfold DX4_firstFault_L11
          refine it_next ?_
          show DX4_firstFault_L11s tb (nI L) (nI k) nu (nI j) ls lh lp lq lc lf nc nf = _
          unfold DX4_firstFault_L11s
          rw [e300, if_neg (by rw [p_le (by omega) (by omega)]; omega), if_neg (by rw [p_le (by omega) (by omega)]; omega), i1, bd11_eq, if_neg (by decide), hk1]
        have s2 : DX9_readAll_L10 (nI L) mt (p2 + 1) ms mf mn na nw ng nt mx my mm days aims speeds kinds (nI j) td = DX9_readAll_L10 (nI L) mt p2 ms' mf' mn' na' nw' ng' nt' mx' my' mm' days' aims' speeds' kinds' (nI j') td' := by
          unfold DX9_readAll_L10
          refine it_next ?_
          show DX9_readAll_L10s (nI L) mt ms mf mn na nw ng nt mx my mm days aims speeds kinds (nI j) td = _
          unfold DX9_readAll_L10s
          rw [if_neg (by rw [p_le (by omega) (by omega)]; omega), i2, bd17_eq, if_neg (by decide)]
        rw [s1, s2]
        rcases ih j' (k + 1) p1 p2 (by omega) j2 (by omega) (by omega) (by omega) (nu := nu') (td := td') hp' hx' hm' with ⟨nu2, ls2, lh2, lp2, lq2, lc2, lf2, nc2, nf2, ms2, mf2, mn2, na2, nw2, ng2, nt2, mx2, my2, mm2, days2, aims2, speeds2, kinds2, td2, r1, r2, r3, r4⟩ | ⟨b, nu2, nx2, ls2, lh2, lp2, lq2, lc2, lf2, nc2, nf2, ms2, mf2, mn2, na2, nw2, ng2, nt2, mx2, my2, mm2, days2, aims2, speeds2, kinds2, sp2, td2, r0, r1, r2, r4⟩
        · exact Or.inl ⟨nu2, ls2, lh2, lp2, lq2, lc2, lf2, nc2, nf2, ms2, mf2, mn2, na2, nw2, ng2, nt2, mx2, my2, mm2, days2, aims2, speeds2, kinds2, td2, r1, r2, r3, Frm_trans r4 hF⟩
        · exact Or.inr ⟨b, nu2, nx2, ls2, lh2, lp2, lq2, lc2, lf2, nc2, nf2, ms2, mf2, mn2, na2, nw2, ng2, nt2, mx2, my2, mm2, days2, aims2, speeds2, kinds2, sp2, td2, r0, r1, r2, Frm_trans r4 hF⟩
      · right
        refine ⟨j, nu', nx', ls', lh', lp', lq', lc', lf', nc', nf', ms, mf, mn, na, nw, ng, nt, mx, my, mm, days, aims, speeds, kinds, sp', td', hjl, ?_, ?_, Frm_refl⟩
        · unfold DX4_firstFault_L11
          refine it_done ?_
          show DX4_firstFault_L11s tb (nI L) (nI k) nu (nI j) ls lh lp lq lc lf nc nf = _
          unfold DX4_firstFault_L11s
          rw [e300, if_neg (by rw [p_le (by omega) (by omega)]; omega), if_neg (by rw [p_le (by omega) (by omega)]; omega), i1, bd11_eq, if_pos rfl]
        · unfold DX9_readAll_L10
          refine it_done ?_
          show DX9_readAll_L10s (nI L) mt ms mf mn na nw ng nt mx my mm days aims speeds kinds (nI j) td = _
          unfold DX9_readAll_L10s
          rw [if_neg (by rw [p_le (by omega) (by omega)]; omega), i2, bd17_eq, if_pos rfl]
theorem read_all (hT : Tx B L tb mt) {nu lc nc : Nat → Int32} {ms mf mn na nw ng nt mx my mm days aims speeds kinds td : Nat → Int32} :
    (∃ (nu' : Nat → Int32) (ls' lh' lp' lq' : Int32) (lc' : Nat → Int32) (lf' : Int32) (nc' : Nat → Int32) (nf' : Int32) (ms' mf' mn' na' nw' ng' nt' mx' my' mm' days' aims' speeds' kinds' td' : Nat → Int32), DX4_firstFault nu tb (nI L) lc nc = some (-4, nu', nI L, ls', lh', lp', lq', lc', lf', nc', nf') ∧ DX9_readAll (nI L) mt ms mf mn na nw ng nt mx my mm days aims speeds kinds td = some (-4, ms', mf', mn', na', nw', ng', nt', mx', my', mm', days', aims', speeds', kinds', nI L, td') ∧
      (∃ (S D n px py nn : Nat) (T A V K NP NW NF NU : Nat → Nat), Pok S D n px py nn T A V K NP NW NF NU ∧ PX S D n px py nn T A V K NP NW NF NU ls' lh' lp' lq' lc' lf' nc' nf' ∧ PM1 S D n px py nn T A V K NP NW NF NU ms' mf' mn' na' nw' ng' nt' mx' my' mm' days' aims' speeds' kinds') ∧ Frm ms' mf' mn' na' nw' ng' nt' mx' my' mm' days' aims' speeds' kinds' ms mf mn na nw ng nt mx my mm days aims speeds kinds) ∨
    (∃ (b : Nat) (nu' : Nat → Int32) (nx' ls' lh' lp' lq' : Int32) (lc' : Nat → Int32) (lf' : Int32) (nc' : Nat → Int32) (nf' : Int32) (ms' mf' mn' na' nw' ng' nt' mx' my' mm' days' aims' speeds' kinds' : Nat → Int32) (sp' : Int32) (td' : Nat → Int32), b < L ∧ DX4_firstFault nu tb (nI L) lc nc = some (nI b, nu', nx', ls', lh', lp', lq', lc', lf', nc', nf') ∧ DX9_readAll (nI L) mt ms mf mn na nw ng nt mx my mm days aims speeds kinds td = some (nI b, ms', mf', mn', na', nw', ng', nt', mx', my', mm', days', aims', speeds', kinds', sp', td') ∧ Frm ms' mf' mn' na' nw' ng' nt' mx' my' mm' days' aims' speeds' kinds' ms mf mn na nw ng nt mx my mm days aims speeds kinds) := by
  have hL := hT.1
  have bare : DX3_makeBare = some (nI 0, nI 12, nI 0, nI 7, nI 0, nI 0) := rfl
  have t1 : (1 : Int32).toNatClampNeg = 1 := rfl
  have rock : DX9_noRock (1 : Int32) ms mf mn mx my mm = some (upd ms 1 (nI 0), upd mf 1 (nI 12), upd mn 1 (nI 0), upd mx 1 (nI 0), upd my 1 (nI 7), upd mm 1 (nI 0)) := by
    unfold DX9_noRock
    rw [t1, if_neg (by decide), if_neg (by decide), if_neg (by decide), if_neg (by decide), if_neg (by decide), if_neg (by decide)]
    rfl
  have hp : Pok 0 12 0 0 7 0 (fun _ => 0) (fun _ => 0) (fun _ => 0) (fun _ => 0) (fun _ => 0) (fun _ => 0) (fun _ => 0) (fun _ => 0) := ⟨by decide, by decide, by decide, by decide, by decide, by decide, by decide, fun i hi => absurd hi (by omega), fun i hi => absurd hi (by omega)⟩
  have hx : PX 0 12 0 0 7 0 (fun _ => 0) (fun _ => 0) (fun _ => 0) (fun _ => 0) (fun _ => 0) (fun _ => 0) (fun _ => 0) (fun _ => 0) (nI 0) (nI 12) (nI 0) (nI 7) lc (nI 0) nc (nI 0) := ⟨rfl, rfl, rfl, rfl, rfl, rfl, fun i hi => absurd hi (by omega), fun i hi => absurd hi (by omega)⟩
  have hm : PM1 0 12 0 0 7 0 (fun _ => 0) (fun _ => 0) (fun _ => 0) (fun _ => 0) (fun _ => 0) (fun _ => 0) (fun _ => 0) (fun _ => 0) (upd ms 1 (nI 0)) (upd mf 1 (nI 12)) (upd mn 1 (nI 0)) na nw ng nt (upd mx 1 (nI 0)) (upd my 1 (nI 7)) (upd mm 1 (nI 0)) days aims speeds kinds := ⟨upd_same _ _ _, upd_same _ _ _, upd_same _ _ _, upd_same _ _ _, upd_same _ _ _, upd_same _ _ _, fun i hi => absurd hi (by omega), fun i hi => absurd hi (by omega)⟩
  have hF : Frm (upd ms 1 (nI 0)) (upd mf 1 (nI 12)) (upd mn 1 (nI 0)) na nw ng nt (upd mx 1 (nI 0)) (upd my 1 (nI 7)) (upd mm 1 (nI 0)) days aims speeds kinds ms mf mn na nw ng nt mx my mm days aims speeds kinds := ⟨fun i hi => ⟨upd_ne _ _ hi, upd_ne _ _ hi, upd_ne _ _ hi, upd_ne _ _ hi, upd_ne _ _ hi, upd_ne _ _ hi⟩, fun _ _ => ⟨rfl, rfl, rfl, rfl⟩, fun _ _ => ⟨rfl, rfl, rfl, rfl⟩⟩
  unfold DX4_firstFault DX9_readAll
  rw [bare, bd6_eq, rock, bd6_eq]
  rcases read_loop hT 300 0 0 FU FU (by omega) (by omega) (by omega) (by decide) (by decide) (nu := nu) (td := td) hp hx hm with ⟨nu2, ls2, lh2, lp2, lq2, lc2, lf2, nc2, nf2, ms2, mf2, mn2, na2, nw2, ng2, nt2, mx2, my2, mm2, days2, aims2, speeds2, kinds2, td2, r1, r2, r3, r4⟩ | ⟨b, nu2, nx2, ls2, lh2, lp2, lq2, lc2, lf2, nc2, nf2, ms2, mf2, mn2, na2, nw2, ng2, nt2, mx2, my2, mm2, days2, aims2, speeds2, kinds2, sp2, td2, r0, r1, r2, r4⟩
  · have r1 : DX4_firstFault_L11 tb (nI L) FU (0 : Int32) nu (0 : Int32) (nI 0) (nI 12) (nI 0) (nI 7) lc (nI 0) nc (nI 0) = _ := r1
    have r2 : DX9_readAll_L10 (nI L) mt FU (upd ms 1 (nI 0)) (upd mf 1 (nI 12)) (upd mn 1 (nI 0)) na nw ng nt (upd mx 1 (nI 0)) (upd my 1 (nI 7)) (upd mm 1 (nI 0)) days aims speeds kinds (0 : Int32) td = _ := r2
    rw [r1, el10_inl, r2, el16_inl]
    exact Or.inl ⟨nu2, ls2, lh2, lp2, lq2, lc2, lf2, nc2, nf2, ms2, mf2, mn2, na2, nw2, ng2, nt2, mx2, my2, mm2, days2, aims2, speeds2, kinds2, td2, rfl, rfl, r3, Frm_trans r4 hF⟩
  · have r1 : DX4_firstFault_L11 tb (nI L) FU (0 : Int32) nu (0 : Int32) (nI 0) (nI 12) (nI 0) (nI 7) lc (nI 0) nc (nI 0) = _ := r1
    have r2 : DX9_readAll_L10 (nI L) mt FU (upd ms 1 (nI 0)) (upd mf 1 (nI 12)) (upd mn 1 (nI 0)) na nw ng nt (upd mx 1 (nI 0)) (upd my 1 (nI 7)) (upd mm 1 (nI 0)) days aims speeds kinds (0 : Int32) td = _ := r2
    rw [r1, el10_inr, r2, el16_inr]
    exact Or.inr ⟨b, nu2, nx2, ls2, lh2, lp2, lq2, lc2, lf2, nc2, nf2, ms2, mf2, mn2, na2, nw2, ng2, nt2, mx2, my2, mm2, days2, aims2, speeds2, kinds2, sp2, td2, r0, rfl, rfl, Frm_trans r4 hF⟩
end RL
theorem Txt_Tx {tb mt : Nat → Int32} {tl ml : Int32} (h : Txt tb tl ml mt) : ∃ B L, Tx B L tb mt ∧ tl = nI L ∧ ml = nI L := by
  obtain ⟨L, t1, t2, t3, t4⟩ := h
  refine ⟨fun j => (tb j).toNatClampNeg, L, ⟨t1, fun j hj => ?_⟩, t2, t3⟩
  obtain ⟨b, b1, b2, b3⟩ := t4 j hj
  have : (tb j).toNatClampNeg = b := by rw [b2]; exact p_tn (by omega)
  show (tb j).toNatClampNeg < 256 ∧ _ = nI (tb j).toNatClampNeg ∧ _ = nI (tb j).toNatClampNeg
  rw [this]
  exact ⟨b1, b2, b3⟩
theorem Lai_frm {n : Nat} {ls lh lp lq lf nf : Int32} {lc nc : Nat → Int32} {ms mf mn na nw ng nt mx my mm days aims speeds kinds ms' mf' mn' na' nw' ng' nt' mx' my' mm' days' aims' speeds' kinds' : Nat → Int32} (h : Lai n ls lh lp lq lc lf nc nf ms mf mn na nw ng nt mx my mm days aims speeds kinds) (hF : Frm ms' mf' mn' na' nw' ng' nt' mx' my' mm' days' aims' speeds' kinds' ms mf mn na nw ng nt mx my mm days aims speeds kinds) : Lai n ls lh lp lq lc lf nc nf ms' mf' mn' na' nw' ng' nt' mx' my' mm' days' aims' speeds' kinds' := by
  obtain ⟨S, D, px, py, nn, T, A, V, K, NP, NW, NF, NU, hn1, hp, hx, ⟨b1, b2, b3, b4, b5, b6, b7, b8⟩⟩ := h
  obtain ⟨c1, c2, c3, c4, c5, c6⟩ := hF.1 0 (by decide)
  have hn7 := hp.2.2.2.1
  have hnn5 := hp.2.2.2.2.2.2.1
  refine ⟨S, D, px, py, nn, T, A, V, K, NP, NW, NF, NU, hn1, hp, hx, c1.trans b1, c2.trans b2, c3.trans b3, c4.trans b4, c5.trans b5, c6.trans b6, fun i hi => ?_, fun k hk => ?_⟩
  · obtain ⟨d1, d2, d3, d4⟩ := hF.2.2 i (by omega)
    obtain ⟨z1, z2, z3, z4⟩ := b7 i hi
    exact ⟨d1.trans z1, d2.trans z2, d3.trans z3, d4.trans z4⟩
  · obtain ⟨d1, d2, d3, d4⟩ := hF.2.1 k (by omega)
    obtain ⟨z1, z2, z3, z4⟩ := b8 k hk
    exact ⟨d1.trans z1, d2.trans z2, d3.trans z3, d4.trans z4⟩
theorem Kep_frm {oc kc : Nat → Int32} {of kf kh km : Int32} {ms mf mn na nw ng nt mx my mm days aims speeds kinds ms' mf' mn' na' nw' ng' nt' mx' my' mm' days' aims' speeds' kinds' : Nat → Int32} (h : Kep oc of kc kf kh km mm days aims speeds kinds) (hF : Frm ms' mf' mn' na' nw' ng' nt' mx' my' mm' days' aims' speeds' kinds' ms mf mn na nw ng nt mx my mm days aims speeds kinds) : Kep oc of kc kf kh km mm' days' aims' speeds' kinds' := by
  obtain ⟨k, k1, k2, k3, k4, k5⟩ := h
  have g : ∀ (f : Nat → Int32) (fl : Int32) (b : Nat), 2 ≤ b → KS f fl b mm days aims speeds kinds → KS f fl b mm' days' aims' speeds' kinds' := fun f fl b hb hk => KS_move hk (hF.1 b (by omega)).2.2.2.2.2 (fun i hi => hF.2.2 (7 * b + i) (by omega))
  exact ⟨k, k1, k2, k3, fun h => g _ _ 2 (by decide) (k4 h), fun h => g _ _ 3 (by decide) (k5 h)⟩
