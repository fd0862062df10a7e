/-! PURE: when two loads meet -/
theorem z_add {x y : Int32} {a b : Int} (hx : x.toInt = a) (hy : y.toInt = b) (h1 : -1000000000 ≤ a + b) (h2 : a + b ≤ 1000000000) : (x + y).toInt = a + b := by
  rw [Int32.toInt_add, hx, hy, Int.bmod_eq_of_le (by omega) (by omega)]
theorem z_sub {x y : Int32} {a b : Int} (hx : x.toInt = a) (hy : y.toInt = b) (h1 : -1000000000 ≤ a - b) (h2 : a - b ≤ 1000000000) : (x - y).toInt = a - b := by
  rw [Int32.toInt_sub, hx, hy, Int.bmod_eq_of_le (by omega) (by omega)]
theorem z_mul {x y : Int32} {a b : Int} (hx : x.toInt = a) (hy : y.toInt = b) (h1 : -1000000000 ≤ a * b) (h2 : a * b ≤ 1000000000) : (x * y).toInt = a * b := by
  rw [Int32.toInt_mul, hx, hy, Int.bmod_eq_of_le (by omega) (by omega)]
theorem z_div {x y : Int32} {a b : Int} (hx : x.toInt = a) (hy : y.toInt = b) (h1 : -1000000000 ≤ a.tdiv b) (h2 : a.tdiv b ≤ 1000000000) : (x / y).toInt = a.tdiv b := by
  rw [Int32.toInt_div, hx, hy, Int.bmod_eq_of_le (by omega) (by omega)]
theorem z_eq0 {x : Int32} {a : Int} (hx : x.toInt = a) : x = 0 ↔ a = 0 := by
  rw [← Int32.toInt_inj, hx]; exact Iff.rfl
theorem z_nI {x : Int32} {n : Nat} (hn : n < 2147483648) (hx : x.toInt = (n : Int)) : x = nI n := by
  rw [← Int32.toInt_inj, hx, p_ti hn]
/-- two loads thrown to one place, on days a and b, of speeds v and u, are as far on day t, neither being home -/
def EE (a v b u D t : Nat) : Prop := a ≤ t ∧ b ≤ t ∧ v * (t - a) = u * (t - b) ∧ v * (t - a) < D
theorem EE_int {a v b u D t : Nat} (ha : a ≤ t) (hb : b ≤ t) : (v * (t - a) = u * (t - b)) ↔ ((v : Int) - u) * t = v * a - u * b := by
  have h1 : ((v * (t - a) : Nat) : Int) = v * t - v * a := by rw [Int.natCast_mul, Int.ofNat_sub ha, Int.mul_sub]
  have h2 : ((u * (t - b) : Nat) : Int) = u * t - u * b := by rw [Int.natCast_mul, Int.ofNat_sub hb, Int.mul_sub]
  rw [Int.sub_mul]
  constructor
  · intro h
    have h3 : ((v * (t - a) : Nat) : Int) = ((u * (t - b) : Nat) : Int) := by rw [h]
    rw [h1, h2] at h3
    omega
  · intro h
    have h3 : ((v * (t - a) : Nat) : Int) = ((u * (t - b) : Nat) : Int) := by rw [h1, h2]; omega
    exact Int.ofNat.inj h3
theorem D8_meetingDay_eq {a v b u D : Nat} (ha : a ≤ 40) (hb : b ≤ 40) (hv : 1 ≤ v) (hv6 : v ≤ 6) (hu : 1 ≤ u) (hu6 : u ≤ 6) (hD : D ≤ 60) (hD1 : 1 ≤ D) :
    ∃ m, DX8_meetingDay (nI a) (nI v) (nI b) (nI u) (nI D) = some (nI m) ∧ ((m = 1000 ∧ ∀ t, ¬ EE a v b u D t) ∨ (m ≤ 100 ∧ EE a v b u D m ∧ ∀ t, EE a v b u D t → m ≤ t ∧ (m = t ∨ (v = u ∧ a = b)))) := by
  have ta : (nI a).toInt = (a : Int) := p_ti (by omega)
  have tv : (nI v).toInt = (v : Int) := p_ti (by omega)
  have tb : (nI b).toInt = (b : Int) := p_ti (by omega)
  have tu : (nI u).toInt = (u : Int) := p_ti (by omega)
  have hva : v * a ≤ 240 := Nat.le_trans (Nat.mul_le_mul hv6 ha) (by decide)
  have hub : u * b ≤ 240 := Nat.le_trans (Nat.mul_le_mul hu6 hb) (by decide)
  have tS : (nI v - nI u).toInt = (v : Int) - u := z_sub tv tu (by omega) (by omega)
  have tva : (nI v * nI a).toInt = (v : Int) * a := by rw [p_mul, p_ti (by omega)]; exact Int.natCast_mul v a
  have tub : (nI u * nI b).toInt = (u : Int) * b := by rw [p_mul, p_ti (by omega)]; exact Int.natCast_mul u b
  have bva : ((v : Int) * a) ≤ 240 ∧ 0 ≤ (v : Int) * a := by rw [← Int.natCast_mul]; omega
  have bub : ((u : Int) * b) ≤ 240 ∧ 0 ≤ (u : Int) * b := by rw [← Int.natCast_mul]; omega
  have tX : (nI v * nI a - nI u * nI b).toInt = (v : Int) * a - u * b := z_sub tva tub (by omega) (by omega)
  unfold DX8_meetingDay
  by_cases hS : v = u
  · rw [if_pos ((z_eq0 tS).mpr (by omega))]
    by_cases hab : a = b
    · rw [if_pos (by rw [hab])]
      refine ⟨a, rfl, Or.inr ⟨by omega, ⟨Nat.le_refl _, by omega, ?_, ?_⟩, fun t ht => ⟨ht.1, Or.inr ⟨hS, hab⟩⟩⟩⟩
      · rw [← hab, Nat.sub_self, Nat.mul_zero, Nat.mul_zero]
      · rw [Nat.sub_self, Nat.mul_zero]; omega
    · rw [if_neg (by rw [p_eq (by omega) (by omega)]; exact hab)]
      refine ⟨1000, rfl, Or.inl ⟨rfl, fun t ht => ?_⟩⟩
      obtain ⟨h1, h2, h3, -⟩ := ht
      rw [← hS] at h3
      have := Nat.eq_of_mul_eq_mul_left (by omega) h3
      omega
  · have hS0 : (v : Int) - u ≠ 0 := by omega
    have hY : ¬ (nI v - nI u) = 0 := fun h => hS0 ((z_eq0 tS).mp h)
    rw [if_neg hY, if_neg hY]
    generalize hP : (v : Int) * a - u * b = P at tX
    generalize hSd : (v : Int) - u = S at tS hS0
    have hq1 : (P.tdiv S).natAbs ≤ P.natAbs := Int.natAbs_tdiv_le_natAbs P S
    generalize hq : P.tdiv S = q at hq1
    have tq : ((nI v * nI a - nI u * nI b) / (nI v - nI u)).toInt = q := by
      rw [← hq]; exact z_div tX tS (by rw [hq]; omega) (by rw [hq]; omega)
    have hqS : (q * S).natAbs ≤ 240 * 5 := by
      rw [Int.natAbs_mul]
      exact Nat.mul_le_mul (by omega) (by omega)
    generalize hqs : q * S = qs at hqS
    have tqS : ((nI v * nI a - nI u * nI b) / (nI v - nI u) * (nI v - nI u)).toInt = qs := by
      rw [← hqs]; exact z_mul tq tS (by rw [hqs]; omega) (by rw [hqs]; omega)
    have tR : ((nI v * nI a - nI u * nI b) - (nI v * nI a - nI u * nI b) / (nI v - nI u) * (nI v - nI u)).toInt = P - qs := z_sub tX tqS (by omega) (by omega)
    have huniq : ∀ t : Nat, a ≤ t → b ≤ t → v * (t - a) = u * (t - b) → P = qs ∧ (t : Int) = q := by
      intro t h1 h2 h3
      have h4 := (EE_int (D := D) h1 h2).mp h3
      rw [hSd, hP] at h4
      have h5 : q = t := by rw [← hq, ← h4]; exact Int.mul_tdiv_cancel_left _ hS0
      exact ⟨by rw [← hqs, ← h4, h5, Int.mul_comm], h5.symm⟩
    by_cases hr : P - qs = 0
    · rw [if_pos ((z_eq0 tR).mpr hr), if_neg hY]
      unfold DX8_meetingDay_J68
      generalize hX7 : (nI v * nI a - nI u * nI b) / (nI v - nI u) = x7 at tq
      by_cases hqa : q < a
      · rw [if_pos (by rw [Int32.lt_iff_toInt_lt, tq, ta]; exact hqa), if_pos rfl]
        refine ⟨1000, rfl, Or.inl ⟨rfl, fun t ht => ?_⟩⟩
        have := huniq t ht.1 ht.2.1 ht.2.2.1
        have := ht.1
        omega
      · rw [if_neg (by rw [Int32.lt_iff_toInt_lt, tq, ta]; exact hqa)]
        by_cases hqb : q < b
        · rw [if_pos (by rw [Int32.lt_iff_toInt_lt, tq, tb]; exact hqb), if_pos rfl]
          refine ⟨1000, rfl, Or.inl ⟨rfl, fun t ht => ?_⟩⟩
          have := huniq t ht.1 ht.2.1 ht.2.2.1
          have := ht.2.1
          omega
        · rw [if_neg (by rw [Int32.lt_iff_toInt_lt, tq, tb]; exact hqb), if_neg (by decide)]
          obtain ⟨m, hm⟩ : ∃ m : Nat, q = (m : Int) := ⟨q.toNat, by omega⟩
          have hx7 : x7 = nI m := z_nI (by omega) (by rw [tq, hm])
          have ham : a ≤ m := by omega
          have hbm : b ≤ m := by omega
          have hvm : v * (m - a) ≤ 6 * 240 := Nat.mul_le_mul hv6 (by omega)
          have hfar : nI v * (x7 - nI a) = nI (v * (m - a)) := by rw [hx7, p_sub ham, p_mul]
          have heq : v * (m - a) = u * (m - b) := by
            rw [EE_int (D := D) ham hbm, hSd, hP]
            rw [← hm, Int.mul_comm, hqs]; omega
          by_cases hh : D ≤ v * (m - a)
          · rw [hfar, if_pos (by rw [p_le (by omega) (by omega)]; exact hh)]
            refine ⟨1000, rfl, Or.inl ⟨rfl, fun t ht => ?_⟩⟩
            have h5 := (huniq t ht.1 ht.2.1 ht.2.2.1).2
            have : t = m := by omega
            subst this
            have := ht.2.2.2
            omega
          · rw [hfar, if_neg (by rw [p_le (by omega) (by omega)]; exact hh), hx7]
            have hm100 : m ≤ 100 := by
              have : 1 * (m - a) ≤ v * (m - a) := Nat.mul_le_mul_right _ hv
              omega
            refine ⟨m, rfl, Or.inr ⟨hm100, ⟨ham, hbm, heq, by omega⟩, fun t ht => ?_⟩⟩
            have h5 := (huniq t ht.1 ht.2.1 ht.2.2.1).2
            exact ⟨by omega, Or.inl (by omega)⟩
    · rw [if_neg (fun h => hr ((z_eq0 tR).mp h))]
      refine ⟨1000, rfl, Or.inl ⟨rfl, fun t ht => ?_⟩⟩
      have := (huniq t ht.1 ht.2.1 ht.2.2.1).1
      omega
