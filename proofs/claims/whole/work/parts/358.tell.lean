/-! PURE: an item of the text, told to a plan -/
def PM1 (S D n px py nn : Nat) (T A V K NP NW NF NU : Nat → Nat) (ms mf mn na nw ng nt mx my mm days aims speeds kinds : Nat → Int32) : Prop :=
  ms 1 = nI S ∧ mf 1 = nI D ∧ mn 1 = nI nn ∧ mx 1 = nI px ∧ my 1 = nI py ∧ mm 1 = nI n ∧ Mth (fun i => days (7 + i)) (fun i => aims (7 + i)) (fun i => speeds (7 + i)) (fun i => kinds (7 + i)) n T A V K ∧ Mnet (fun k => na (6 + k)) (fun k => nw (6 + k)) (fun k => ng (6 + k)) (fun k => nt (6 + k)) nn NP NW NF NU
/-- what the reading leaves as it was -/
def Frm (ms mf mn na nw ng nt mx my mm days aims speeds kinds ms0 mf0 mn0 na0 nw0 ng0 nt0 mx0 my0 mm0 days0 aims0 speeds0 kinds0 : Nat → Int32) : Prop :=
  (∀ j, j ≠ 1 → ms j = ms0 j ∧ mf j = mf0 j ∧ mn j = mn0 j ∧ mx j = mx0 j ∧ my j = my0 j ∧ mm j = mm0 j) ∧ (∀ j, j < 6 → na j = na0 j ∧ nw j = nw0 j ∧ ng j = ng0 j ∧ nt j = nt0 j) ∧ ∀ j, (j < 7 ∨ 14 ≤ j) → days j = days0 j ∧ aims j = aims0 j ∧ speeds j = speeds0 j ∧ kinds j = kinds0 j
theorem Frm_refl {ms mf mn na nw ng nt mx my mm days aims speeds kinds : Nat → Int32} : Frm ms mf mn na nw ng nt mx my mm days aims speeds kinds ms mf mn na nw ng nt mx my mm days aims speeds kinds := ⟨fun _ _ => ⟨rfl, rfl, rfl, rfl, rfl, rfl⟩, fun _ _ => ⟨rfl, rfl, rfl, rfl⟩, fun _ _ => ⟨rfl, rfl, rfl, rfl⟩⟩
theorem Frm_trans {ms' mf' mn' na' nw' ng' nt' mx' my' mm' days' aims' speeds' kinds' ms mf mn na nw ng nt mx my mm days aims speeds kinds ms0 mf0 mn0 na0 nw0 ng0 nt0 mx0 my0 mm0 days0 aims0 speeds0 kinds0 : Nat → Int32} (h : Frm ms' mf' mn' na' nw' ng' nt' mx' my' mm' days' aims' speeds' kinds' ms mf mn na nw ng nt mx my mm days aims speeds kinds) (h' : Frm ms mf mn na nw ng nt mx my mm days aims speeds kinds ms0 mf0 mn0 na0 nw0 ng0 nt0 mx0 my0 mm0 days0 aims0 speeds0 kinds0) : Frm ms' mf' mn' na' nw' ng' nt' mx' my' mm' days' aims' speeds' kinds' ms0 mf0 mn0 na0 nw0 ng0 nt0 mx0 my0 mm0 days0 aims0 speeds0 kinds0 := by
  refine ⟨fun j hj => ?_, fun j hj => ?_, fun j hj => ?_⟩
  · obtain ⟨a1, a2, a3, a4, a5, a6⟩ := h.1 j hj
    obtain ⟨b1, b2, b3, b4, b5, b6⟩ := h'.1 j hj
    exact ⟨a1.trans b1, a2.trans b2, a3.trans b3, a4.trans b4, a5.trans b5, a6.trans b6⟩
  · obtain ⟨a1, a2, a3, a4⟩ := h.2.1 j hj
    obtain ⟨b1, b2, b3, b4⟩ := h'.2.1 j hj
    exact ⟨a1.trans b1, a2.trans b2, a3.trans b3, a4.trans b4⟩
  · obtain ⟨a1, a2, a3, a4⟩ := h.2.2 j hj
    obtain ⟨b1, b2, b3, b4⟩ := h'.2.2 j hj
    exact ⟨a1.trans b1, a2.trans b2, a3.trans b3, a4.trans b4⟩
theorem within_nI {a : Nat} {lo hi : Int32} (l h : Nat) (hl : lo = nI l) (hh : hi = nI h) (h1 : l < 1000000) (h2 : h < 1000000) (ha : a < 1000000) : DX8_within (nI a) lo hi = some (if l ≤ a ∧ a ≤ h then 1 else 0) := by
  rw [D8_within_eq, hl, hh]
  by_cases hc : l ≤ a ∧ a ≤ h
  · rw [if_pos hc, if_pos]; rw [p_le (by omega) (by omega), p_le (by omega) (by omega)]; exact hc
  · rw [if_neg hc, if_neg]; rw [p_le (by omega) (by omega), p_le (by omega) (by omega)]; exact hc
theorem nb_eq : ∀ c, c < 256 → DX4_numbersBehind (nI c) = some (nI (if c = 110 ∨ c = 116 then 4 else if c = 112 ∨ c = 114 then 2 else 0)) := by decide +kernel
section TL
variable {a b c d n : Nat} {f : Nat → Int32}
theorem add_7 {x1 x2 x3 x4 : Int32} (hn : n < 7) : DX5_add x1 x2 x3 x4 (7 : Int32) (4 : Int32) 28 f (nI n) = some (1, upd (upd (upd (upd f (n * 4 + 0) x1) (n * 4 + 1) x2) (n * 4 + 2) x3) (n * 4 + 3) x4, nI (n + 1)) := by
  have e7 : (7 : Int32) = nI 7 := rfl
  have s : ∀ (q : Nat → Int32) (c : Nat) (x : Int32), c < 4 → DX5_set (nI n) (nI c) x (7 : Int32) (4 : Int32) 28 q = some (upd q (n * 4 + c) x) := fun q c x hc => setT hn hc
  have s0 : ∀ (q : Nat → Int32) (x : Int32), DX5_set (nI n) (0 : Int32) x (7 : Int32) (4 : Int32) 28 q = some (upd q (n * 4 + 0) x) := fun q x => s q 0 x (by decide)
  have s1 : ∀ (q : Nat → Int32) (x : Int32), DX5_set (nI n) (1 : Int32) x (7 : Int32) (4 : Int32) 28 q = some (upd q (n * 4 + 1) x) := fun q x => s q 1 x (by decide)
  have s2 : ∀ (q : Nat → Int32) (x : Int32), DX5_set (nI n) (2 : Int32) x (7 : Int32) (4 : Int32) 28 q = some (upd q (n * 4 + 2) x) := fun q x => s q 2 x (by decide)
  have s3 : ∀ (q : Nat → Int32) (x : Int32), DX5_set (nI n) (3 : Int32) x (7 : Int32) (4 : Int32) 28 q = some (upd q (n * 4 + 3) x) := fun q x => s q 3 x (by decide)
  unfold DX5_add
  rw [if_pos (show nI n < (7 : Int32) by rw [e7, p_lt (by omega) (by omega)]; exact hn), s0, bd1_eq, s1, bd1_eq, s2, bd1_eq, s3, bd1_eq]
  exact congrArg some (Prod.ext rfl (Prod.ext rfl (p_add n 1)))
theorem add_5 {x1 x2 x3 x4 : Int32} (hn : n < 5) : DX5_add x1 x2 x3 x4 (5 : Int32) (4 : Int32) 20 f (nI n) = some (1, upd (upd (upd (upd f (n * 4 + 0) x1) (n * 4 + 1) x2) (n * 4 + 2) x3) (n * 4 + 3) x4, nI (n + 1)) := by
  have e5 : (5 : Int32) = nI 5 := rfl
  have s : ∀ (q : Nat → Int32) (c : Nat) (x : Int32), c < 4 → DX5_set (nI n) (nI c) x (5 : Int32) (4 : Int32) 20 q = some (upd q (n * 4 + c) x) := fun q c x hc => D5_set_eq (m := 5) (w := 4) hn hc (by decide) (by decide) (by decide)
  have s0 : ∀ (q : Nat → Int32) (x : Int32), DX5_set (nI n) (0 : Int32) x (5 : Int32) (4 : Int32) 20 q = some (upd q (n * 4 + 0) x) := fun q x => s q 0 x (by decide)
  have s1 : ∀ (q : Nat → Int32) (x : Int32), DX5_set (nI n) (1 : Int32) x (5 : Int32) (4 : Int32) 20 q = some (upd q (n * 4 + 1) x) := fun q x => s q 1 x (by decide)
  have s2 : ∀ (q : Nat → Int32) (x : Int32), DX5_set (nI n) (2 : Int32) x (5 : Int32) (4 : Int32) 20 q = some (upd q (n * 4 + 2) x) := fun q x => s q 2 x (by decide)
  have s3 : ∀ (q : Nat → Int32) (x : Int32), DX5_set (nI n) (3 : Int32) x (5 : Int32) (4 : Int32) 20 q = some (upd q (n * 4 + 3) x) := fun q x => s q 3 x (by decide)
  unfold DX5_add
  rw [if_pos (show nI n < (5 : Int32) by rw [e5, p_lt (by omega) (by omega)]; exact hn), s0, bd1_eq, s1, bd1_eq, s2, bd1_eq, s3, bd1_eq]
  exact congrArg some (Prod.ext rfl (Prod.ext rfl (p_add n 1)))
theorem tellThrow_eq (ha : a ≤ 99) (hb : b ≤ 99) (hc : c ≤ 99) (hd : d ≤ 99) (hn : n ≤ 7) : DX3_tellThrow (nI a) (nI b) (nI c) (nI d) f (nI n) = if a ≤ 40 ∧ b ≤ 23 ∧ (1 ≤ c ∧ c ≤ 6) ∧ d ≤ 3 ∧ n < 7 then some (1, upd (upd (upd (upd f (n * 4 + 0) (nI a)) (n * 4 + 1) (nI b)) (n * 4 + 2) (nI c)) (n * 4 + 3) (nI d), nI (n + 1)) else some (0, f, nI n) := by
  have e7 : (7 : Int32) = nI 7 := rfl
  unfold DX3_tellThrow
  rw [within_nI (lo := 0) (hi := 40) 0 40 rfl rfl (by decide) (by decide) (by omega), within_nI (lo := 0) (hi := 23) 0 23 rfl rfl (by decide) (by decide) (by omega), within_nI (lo := 1) (hi := 6) 1 6 rfl rfl (by decide) (by decide) (by omega), within_nI (lo := 0) (hi := 3) 0 3 rfl rfl (by decide) (by decide) (by omega)]
  rw [bd1_eq, bd1_eq, bd1_eq, bd1_eq]
  by_cases h1 : a ≤ 40
  · rw [if_pos (show 0 ≤ a ∧ a ≤ 40 from ⟨Nat.zero_le _, h1⟩), if_neg (by decide)]
    by_cases h2 : b ≤ 23
    · rw [if_pos (show 0 ≤ b ∧ b ≤ 23 from ⟨Nat.zero_le _, h2⟩), if_neg (by decide)]
      by_cases h3 : 1 ≤ c ∧ c ≤ 6
      · rw [if_pos h3, if_neg (by decide)]
        by_cases h4 : d ≤ 3
        · rw [if_pos (show 0 ≤ d ∧ d ≤ 3 from ⟨Nat.zero_le _, h4⟩), if_neg (by decide)]
          by_cases h5 : n < 7
          · rw [add_7 h5, bd3_eq, if_neg (by decide), if_pos ⟨h1, h2, h3, h4, h5⟩]
          · unfold DX5_add
            rw [if_neg (show ¬ nI n < (7 : Int32) by rw [e7, p_lt (by omega) (by omega)]; exact h5), bd3_eq, if_pos rfl, if_neg (fun q => h5 q.2.2.2.2)]
        · rw [if_neg (show ¬ (0 ≤ d ∧ d ≤ 3) by omega), if_pos rfl, if_neg (fun q => h4 q.2.2.2.1)]
      · rw [if_neg h3, if_pos rfl, if_neg (fun q => h3 q.2.2.1)]
    · rw [if_neg (show ¬ (0 ≤ b ∧ b ≤ 23) by omega), if_pos rfl, if_neg (fun q => h2 q.2.1)]
  · rw [if_neg (show ¬ (0 ≤ a ∧ a ≤ 40) by omega), if_pos rfl, if_neg (fun q => h1 q.1)]
theorem tellNet_eq (ha : a ≤ 99) (hb : b ≤ 99) (hc : c ≤ 99) (hd : d ≤ 99) (hn : n ≤ 5) : DX3_tellNet (nI a) (nI b) (nI c) (nI d) f (nI n) = if a ≤ 23 ∧ b ≤ 3 ∧ n < 5 then some (1, upd (upd (upd (upd f (n * 4 + 0) (nI a)) (n * 4 + 1) (nI b)) (n * 4 + 2) (nI c)) (n * 4 + 3) (nI d), nI (n + 1)) else some (0, f, nI n) := by
  have e5 : (5 : Int32) = nI 5 := rfl
  unfold DX3_tellNet
  rw [within_nI (lo := 0) (hi := 23) 0 23 rfl rfl (by decide) (by decide) (by omega), within_nI (lo := 0) (hi := 3) 0 3 rfl rfl (by decide) (by decide) (by omega), within_nI (lo := 0) (hi := 99) 0 99 rfl rfl (by decide) (by decide) (by omega), within_nI (lo := 0) (hi := 99) 0 99 rfl rfl (by decide) (by decide) (by omega)]
  rw [bd1_eq, bd1_eq, bd1_eq, bd1_eq, if_pos (show 0 ≤ c ∧ c ≤ 99 from ⟨Nat.zero_le _, hc⟩), if_pos (show 0 ≤ d ∧ d ≤ 99 from ⟨Nat.zero_le _, hd⟩)]
  by_cases h1 : a ≤ 23
  · rw [if_pos (show 0 ≤ a ∧ a ≤ 23 from ⟨Nat.zero_le _, h1⟩), if_neg (by decide)]
    by_cases h2 : b ≤ 3
    · rw [if_pos (show 0 ≤ b ∧ b ≤ 3 from ⟨Nat.zero_le _, h2⟩), if_neg (by decide), if_neg (by decide), if_neg (by decide)]
      by_cases h5 : n < 5
      · rw [add_5 h5, bd3_eq, if_neg (by decide), if_pos ⟨h1, h2, h5⟩]
      · unfold DX5_add
        rw [if_neg (show ¬ nI n < (5 : Int32) by rw [e5, p_lt (by omega) (by omega)]; exact h5), bd3_eq, if_pos rfl, if_neg (fun q => h5 q.2.2)]
    · rw [if_neg (show ¬ (0 ≤ b ∧ b ≤ 3) by omega), if_pos rfl, if_neg (fun q => h2 q.2.1)]
  · rw [if_neg (show ¬ (0 ≤ a ∧ a ≤ 23) by omega), if_pos rfl, if_neg (fun q => h1 q.1)]
theorem tellRock_eq {x y : Int32} (ha : a ≤ 99) (hb : b ≤ 99) : DX3_tellRock (nI a) (nI b) x y = if a ≤ 23 ∧ (1 ≤ b ∧ b ≤ 60) then some (1, nI a, nI b) else some (0, x, y) := by
  unfold DX3_tellRock
  rw [within_nI (lo := 0) (hi := 23) 0 23 rfl rfl (by decide) (by decide) (by omega), within_nI (lo := 1) (hi := 60) 1 60 rfl rfl (by decide) (by decide) (by omega), bd1_eq, bd1_eq]
  by_cases h1 : a ≤ 23
  · rw [if_pos (show 0 ≤ a ∧ a ≤ 23 from ⟨Nat.zero_le _, h1⟩), if_neg (by decide)]
    by_cases h2 : 1 ≤ b ∧ b ≤ 60
    · rw [if_pos h2, if_neg (by decide), if_pos ⟨h1, h2⟩]
    · rw [if_neg h2, if_pos rfl, if_neg (fun q => h2 q.2)]
  · rw [if_neg (show ¬ (0 ≤ a ∧ a ≤ 23) by omega), if_pos rfl, if_neg (fun q => h1 q.1)]
theorem tellPrice_eq {x y : Int32} (ha : a ≤ 99) (hb : b ≤ 99) : DX3_tellPrice (nI a) (nI b) x y = if a ≤ 49 ∧ b ≤ 49 then some (1, nI a, nI b) else some (0, x, y) := by
  unfold DX3_tellPrice
  rw [within_nI (lo := 0) (hi := 49) 0 49 rfl rfl (by decide) (by decide) (by omega), within_nI (lo := 0) (hi := 49) 0 49 rfl rfl (by decide) (by decide) (by omega), bd1_eq, bd1_eq]
  by_cases h1 : a ≤ 49
  · rw [if_pos (show 0 ≤ a ∧ a ≤ 49 from ⟨Nat.zero_le _, h1⟩), if_neg (by decide)]
    by_cases h2 : b ≤ 49
    · rw [if_pos (show 0 ≤ b ∧ b ≤ 49 from ⟨Nat.zero_le _, h2⟩), if_neg (by decide), if_pos ⟨h1, h2⟩]
    · rw [if_neg (show ¬ (0 ≤ b ∧ b ≤ 49) by omega), if_pos rfl, if_neg (fun q => h2 q.2)]
  · rw [if_neg (show ¬ (0 ≤ a ∧ a ≤ 49) by omega), if_pos rfl, if_neg (fun q => h1 q.1)]
theorem Thr_add {T A V K : Nat → Nat} (h : Thr f n T A V K) : Thr (upd (upd (upd (upd f (n * 4 + 0) (nI a)) (n * 4 + 1) (nI b)) (n * 4 + 2) (nI c)) (n * 4 + 3) (nI d)) (n + 1) (setF T n a) (setF A n b) (setF V n c) (setF K n d) := fun x hx => by
  by_cases e : x = n
  · subst e
    rw [setF_at, setF_at, setF_at, setF_at]
    refine ⟨?_, ?_, ?_, upd_same _ _ _⟩
    · rw [upd_ne _ _ (by omega), upd_ne _ _ (by omega), upd_ne _ _ (by omega), upd_same]
    · rw [upd_ne _ _ (by omega), upd_ne _ _ (by omega), upd_same]
    · rw [upd_ne _ _ (by omega), upd_same]
  · rw [setF_ne _ e, setF_ne _ e, setF_ne _ e, setF_ne _ e]
    have k : ∀ c', c' < 4 → upd (upd (upd (upd f (n * 4 + 0) (nI a)) (n * 4 + 1) (nI b)) (n * 4 + 2) (nI c)) (n * 4 + 3) (nI d) (x * 4 + c') = f (x * 4 + c') := fun c' hc' => by
      rw [upd_ne _ _ (by omega), upd_ne _ _ (by omega), upd_ne _ _ (by omega), upd_ne _ _ (by omega)]
    rw [k 0 (by decide), k 1 (by decide), k 2 (by decide), k 3 (by decide)]
    exact h x (by omega)
theorem Net_add {NP NW NF NU : Nat → Nat} (h : Net f n NP NW NF NU) : Net (upd (upd (upd (upd f (n * 4 + 0) (nI a)) (n * 4 + 1) (nI b)) (n * 4 + 2) (nI c)) (n * 4 + 3) (nI d)) (n + 1) (setF NP n a) (setF NW n b) (setF NF n c) (setF NU n d) := Thr_add h
end TL
