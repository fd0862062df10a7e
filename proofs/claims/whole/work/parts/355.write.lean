/-! PURE: write -/
def byt (v : Int64) (k : Nat) : Nat := v.toBitVec.toNat / 2 ^ (8 * k) % 2 ^ 8
theorem byt_lt (v : Int64) (k : Nat) : byt v k < 256 := Nat.mod_lt _ (by decide)
theorem sh_x : ∀ k, k < 8 → ((UInt64.mod (((8 : Int32) * nI k).toInt64.toUInt64 &&& Int64.toUInt64 63) 64).toBitVec).toNat = 8 * k := by decide +kernel
theorem sh_m : ∀ k, k < 8 → ((((8 : Int32) * nI k).toInt64 &&& 63).toBitVec.smod 64).toNat = 8 * k := by decide +kernel
theorem b255 : ∀ i, i < 32 → (255#32).getLsbD i = decide (i < 8) := by decide
theorem b255L : ∀ i, i < 64 → (255#64).getLsbD i = decide (i < 8) := by decide
theorem byt_bit (v : Int64) (k i : Nat) (hi : i < 32) : (BitVec.ofNat 32 (byt v k)).getLsbD i = (decide (i < 8) && v.toBitVec.getLsbD (8 * k + i)) := by
  rw [BitVec.getLsbD_ofNat, decide_eq_true hi, Bool.true_and]
  unfold byt
  rw [Nat.testBit_mod_two_pow, Nat.testBit_div_two_pow, Nat.add_comm i]
  rfl
theorem byte_x (v : Int64) {k : Nat} (hk : k < 8) : ((((v.toUInt64 >>> (((8 : Int32) * nI k).toInt64.toUInt64 &&& Int64.toUInt64 63)).toInt64).toInt32) &&& (255 : Int32)) = nI (byt v k) := by
  apply Int32.toBitVec.inj
  show (BitVec.signExtend 32 (v.toBitVec >>> (UInt64.mod (((8 : Int32) * nI k).toInt64.toUInt64 &&& Int64.toUInt64 63) 64).toBitVec)) &&& 255#32 = BitVec.ofNat 32 (byt v k)
  apply BitVec.eq_of_getLsbD_eq
  intro i hi
  rw [byt_bit v k i hi, BitVec.getLsbD_and, BitVec.getLsbD_signExtend, b255 i hi, decide_eq_true hi, Bool.true_and, if_pos (by omega), BitVec.ushiftRight_eq', sh_x k hk, BitVec.getLsbD_ushiftRight, Bool.and_comm]
theorem byte_m (v : Int64) {k : Nat} (hk : k < 8) : ((((v >>> (((8 : Int32) * nI k).toInt64 &&& 63))) &&& (255 : Int64)).toInt32) = nI (byt v k) := by
  apply Int32.toBitVec.inj
  show BitVec.signExtend 32 ((BitVec.sshiftRight' v.toBitVec ((((8 : Int32) * nI k).toInt64 &&& 63).toBitVec.smod 64)) &&& 255#64) = BitVec.ofNat 32 (byt v k)
  apply BitVec.eq_of_getLsbD_eq
  intro i hi
  rw [byt_bit v k i hi, BitVec.getLsbD_signExtend, decide_eq_true hi, Bool.true_and, if_pos (by omega), BitVec.getLsbD_and, BitVec.getLsbD_sshiftRight', b255L i (by omega), sh_m k hk]
  by_cases h : i < 8
  · rw [decide_eq_true h, if_pos (by omega), decide_eq_false (show ¬ 64 ≤ i by omega)]
    simp
  · rw [decide_eq_false h]; simp
section WR
variable {L n : Nat} {v : Int64} {B : Nat → Nat}
def addB (B : Nat → Nat) (L n : Nat) (v : Int64) : Nat → Nat := fun j => if j < L then B j else byt v (n - 1 - (j - L))
theorem D8_write_L_eq {tb : Nat → Int32} (hn1 : 1 ≤ n) (hn8 : n ≤ 8) (hL : L + n ≤ 300) (hb : ∀ j, j < L → tb j = nI (B j)) : ∃ tb', DX8_write_L35 v FU (nI n - (1 : Int32)) tb (nI L) = some (tb', nI (L + n)) ∧ ∀ j, j < L + n → tb' j = nI (addB B L n v j) := by
  have key := it_for2 (S := Int32 × (Nat → Int32) × Int32) (R := (Nat → Int32) × Int32) (f := fun st => DX8_write_L35s v (st.1) (st.2.1) (st.2.2))
    (fun m st => st.1 = nI (n - m) + (-1 : Int32) ∧ st.2.2 = nI (L + m) ∧ ∀ j, j < L + m → st.2.1 j = nI (addB B L n v j)) (fun r => r.2 = nI (L + n) ∧ ∀ j, j < L + n → r.1 j = nI (addB B L n v j)) n (s0 := (nI n - (1 : Int32), tb, nI L))
    ⟨by
      have e1 : nI n - (1 : Int32) = nI (n - 1) := p_sub (a := n) (b := 1) hn1
      have e2 := p_m1 (n - 1)
      rw [show n - 1 + 1 = n by omega] at e2
      show nI n - (1 : Int32) = nI (n - 0) + (-1 : Int32)
      rw [e1, Nat.sub_zero, e2], rfl, fun j hj => by
      show tb j = _
      have hj : j < L := hj
      rw [hb j hj]; unfold addB; rw [if_pos hj]⟩ ?_ ?_ (by omega)
  · obtain ⟨⟨r1, r2⟩, q1, q2, q3⟩ := key
    simp only at q2 q3
    refine ⟨r1, ?_, q3⟩
    unfold DX8_write_L35
    rw [q1, q2]
  · rintro m ⟨x4, t1, l1⟩ hm ⟨h1, h2, h3⟩
    simp only at h1 h2 h3
    have hx : x4 = nI (n - m - 1) := by
      have e2 := p_m1 (n - m - 1)
      rw [show n - m - 1 + 1 = n - m by omega] at e2
      rw [h1, e2]
    subst hx h2
    left
    show ∃ s', DX8_write_L35s v (nI (n - m - 1)) t1 (nI (L + m)) = some (.inl s') ∧ _
    unfold DX8_write_L35s DX6_append
    have e300 : (300 : Int32) = nI 300 := rfl
    have hl1 : nI (L + m) + (1 : Int32) = nI (L + (m + 1)) := p_add (L + m) 1
    rw [if_neg (p_neg (by omega)), byte_x v (by omega), e300, if_neg (by rw [p_le (by omega) (by omega)]; omega), D8_put_eq (by omega) (by decide), bd1_eq, bd2_eq, hl1]
    refine ⟨_, rfl, by rw [show n - m - 1 = n - (m + 1) by omega], rfl, fun j hj => ?_⟩
    show upd t1 (L + m) _ j = _
    by_cases e : j = L + m
    · rw [e, upd_same]; unfold addB
      rw [if_neg (by omega), show L + m - L = m by omega, show n - 1 - m = n - m - 1 by omega]
    · rw [upd_ne _ _ e]; exact h3 j (by omega)
  · rintro ⟨x4, t1, l1⟩ ⟨h1, h2, h3⟩
    simp only at h1 h2 h3
    rw [Nat.sub_self] at h1
    subst h1 h2
    show ∃ r, DX8_write_L35s v (nI 0 + (-1 : Int32)) t1 (nI (L + n)) = some (.inr r) ∧ _
    unfold DX8_write_L35s
    rw [if_pos (by decide)]
    exact ⟨_, rfl, rfl, h3⟩
theorem D9_write_L_eq {tb : Nat → Int32} (hn1 : 1 ≤ n) (hn8 : n ≤ 8) (hL : L + n ≤ 300) (hb : ∀ j, j < L → tb j = nI (B j)) : ∃ tb', DX9_write_L34 v FU (nI n - (1 : Int32)) (nI L) tb = some (nI (L + n), tb') ∧ ∀ j, j < L + n → tb' j = nI (addB B L n v j) := by
  have key := it_for2 (S := Int32 × Int32 × (Nat → Int32)) (R := Int32 × (Nat → Int32)) (f := fun st => DX9_write_L34s v (st.1) (st.2.1) (st.2.2))
    (fun m st => st.1 = nI (n - m) + (-1 : Int32) ∧ st.2.1 = nI (L + m) ∧ ∀ j, j < L + m → st.2.2 j = nI (addB B L n v j)) (fun r => r.1 = nI (L + n) ∧ ∀ j, j < L + n → r.2 j = nI (addB B L n v j)) n (s0 := (nI n - (1 : Int32), nI L, tb))
    ⟨by
      have e1 : nI n - (1 : Int32) = nI (n - 1) := p_sub (a := n) (b := 1) hn1
      have e2 := p_m1 (n - 1)
      rw [show n - 1 + 1 = n by omega] at e2
      show nI n - (1 : Int32) = nI (n - 0) + (-1 : Int32)
      rw [e1, Nat.sub_zero, e2], rfl, fun j hj => by
      show tb j = _
      have hj : j < L := hj
      rw [hb j hj]; unfold addB; rw [if_pos hj]⟩ ?_ ?_ (by omega)
  · obtain ⟨⟨r1, r2⟩, q1, q2, q3⟩ := key
    simp only at q2 q3
    refine ⟨r2, ?_, q3⟩
    unfold DX9_write_L34
    rw [q1, q2]
  · rintro m ⟨x4, l1, t1⟩ hm ⟨h1, h2, h3⟩
    simp only at h1 h2 h3
    have hx : x4 = nI (n - m - 1) := by
      have e2 := p_m1 (n - m - 1)
      rw [show n - m - 1 + 1 = n - m by omega] at e2
      rw [h1, e2]
    subst hx h2
    left
    show ∃ s', DX9_write_L34s v (nI (n - m - 1)) (nI (L + m)) t1 = some (.inl s') ∧ _
    unfold DX9_write_L34s
    have hl1 : nI (L + m) + (1 : Int32) = nI (L + (m + 1)) := p_add (L + m) 1
    rw [if_neg (p_neg (by omega)), p_g (by omega) (by decide), p_tn (by omega), byte_m v (by omega), hl1]
    refine ⟨_, rfl, by rw [show n - m - 1 = n - (m + 1) by omega], rfl, fun j hj => ?_⟩
    show upd t1 (L + m) _ j = _
    by_cases e : j = L + m
    · rw [e, upd_same]; unfold addB
      rw [if_neg (by omega), show L + m - L = m by omega, show n - 1 - m = n - m - 1 by omega]
    · rw [upd_ne _ _ e]; exact h3 j (by omega)
  · rintro ⟨x4, l1, t1⟩ ⟨h1, h2, h3⟩
    simp only at h1 h2 h3
    rw [Nat.sub_self] at h1
    subst h1 h2
    show ∃ r, DX9_write_L34s v (nI 0 + (-1 : Int32)) (nI (L + n)) t1 = some (.inr r) ∧ _
    unfold DX9_write_L34s
    rw [if_pos (by decide)]
    exact ⟨_, rfl, rfl, h3⟩
end WR
theorem s_write : S_write Inv0 := by
  intro c_text_bytes c_text_length c_reader_numbers c_reader_next c_laid_stand c_laid_home c_laid_priceStart c_laid_priceStep c_laid_thrown_cells c_laid_thrown_filled c_laid_nets_cells c_laid_nets_filled c_trial_stand c_trial_home c_trial_priceStart c_trial_priceStep c_trial_thrown_cells c_trial_thrown_filled c_trial_nets_cells c_trial_nets_filled c_flight_loads_cells c_flight_loads_filled c_flight_order c_flight_done c_flight_start c_flight_end c_changes_who c_changes_column c_changes_was c_changes_held c_kept_older_cells c_kept_older_filled c_kept_newer_cells c_kept_newer_filled c_kept_held c_turns_need m_length m_text m_stands m_homeFar m_nets m_netAt m_netWide m_netFrom m_netTo m_priceX m_priceY m_many m_days m_aims m_speeds m_kinds m_keptMany m_undoMany m_undos m_spot m_told m_to m_stood m_home m_lost m_out m_fewest m_ways m_next m_held hI x1 x2
  have hI0 := hI
  obtain ⟨⟨L, t1, t2, t3, t4⟩, hR⟩ := hI
  unfold DX8_write DX9_write
  rcases win_x x1 1 8 (a := 1) (b := 8) (l := 1) (h := 8) rfl rfl rfl rfl (by decide) (by decide) with ⟨n, s0, s1, e1, s3, s4⟩ | ⟨s1, s3, s4⟩
  · rw [s3, s4, e1, t2, t3]
    simp only [bd1_eq, if_neg (show ¬ ((1 : Int32) = 0) by decide)]
    have e300 : (300 : Int32) = nI 300 := rfl
    rw [p_add, e300]
    by_cases hc : L + n ≤ 300
    · rw [if_pos (show nI (L + n) ≤ nI 300 by rw [p_le (by omega) (by omega)]; exact hc), if_pos (show nI (L + n) ≤ nI 300 by rw [p_le (by omega) (by omega)]; exact hc)]
      have hB : ∃ B : Nat → Nat, ∀ j, j < L → B j < 256 ∧ c_text_bytes j = nI (B j) ∧ m_text j = nI (B j) := by
        refine ⟨fun j => (c_text_bytes j).toNatClampNeg, fun j hj => ?_⟩
        obtain ⟨b, b1, b2, b3⟩ := t4 j hj
        have : (c_text_bytes j).toNatClampNeg = b := by rw [b2]; exact p_tn (by omega)
        show (c_text_bytes j).toNatClampNeg < 256 ∧ _ = nI (c_text_bytes j).toNatClampNeg ∧ _ = nI (c_text_bytes j).toNatClampNeg
        rw [this]
        exact ⟨b1, b2, b3⟩
      obtain ⟨B, hB⟩ := hB
      obtain ⟨tb', k1, k2⟩ := D8_write_L_eq (v := x2) s0 s1 hc (fun j hj => (hB j hj).2.1)
      obtain ⟨mt', k3, k4⟩ := D9_write_L_eq (v := x2) s0 s1 hc (fun j hj => (hB j hj).2.2)
      rw [k1, k3, bd2_eq, bd2_eq]
      refine ⟨_, _, _, _, _, rfl, rfl, ⟨L + n, hc, rfl, rfl, fun j hj => ⟨addB B L n x2 j, ?_, k2 j hj, k4 j hj⟩⟩, hR⟩
      unfold addB
      by_cases h : j < L
      · rw [if_pos h]; exact (hB j h).1
      · rw [if_neg h]; exact byt_lt _ _
    · rw [if_neg (show ¬ nI (L + n) ≤ nI 300 by rw [p_le (by omega) (by omega)]; exact hc), if_neg (show ¬ nI (L + n) ≤ nI 300 by rw [p_le (by omega) (by omega)]; exact hc)]
      exact ⟨_, _, _, _, _, rfl, rfl, ⟨L, t1, rfl, rfl, t4⟩, hR⟩
  · rw [s3, s4]
    exact ⟨_, _, _, _, _, rfl, rfl, hI0⟩
