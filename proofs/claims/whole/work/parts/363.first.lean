/-! PURE: the first state -/
def T0 : Nat → Nat := fun i => if i = 1 then 1 else 0
def A0 : Nat → Nat := fun i => if i = 1 then 3 else 0
theorem inv_0 : Inv0 (fun _ => (0 : Int32)) (0 : Int32) (0 : Int32) (12 : Int32) (0 : Int32) (7 : Int32) (upd (upd (upd (upd (upd (upd (upd (upd (fun _ => (0 : Int32)) 0 (0 : Int32)) 1 (0 : Int32)) 2 (3 : Int32)) 3 (0 : Int32)) 4 (1 : Int32)) 5 (3 : Int32)) 6 (3 : Int32)) 7 (0 : Int32)) (2 : Int32) (upd (upd (upd (upd (fun _ => (0 : Int32)) 0 (0 : Int32)) 1 (0 : Int32)) 2 (0 : Int32)) 3 (99 : Int32)) (1 : Int32) (fun _ => (0 : Int32)) (fun _ => (0 : Int32)) (fun _ => (0 : Int32)) (0 : Int32) (fun _ => (0 : Int32)) (0 : Int32) (fun _ => (0 : Int32)) (0 : Int32) (0 : Int32) 0 (fun _ => (0 : Int32)) (upd (fun _ => (0 : Int32)) 0 (0 : Int32)) (upd (fun _ => (0 : Int32)) 0 (12 : Int32)) (upd (upd (fun _ => (0 : Int32)) 0 (0 : Int32)) 0 (1 : Int32)) (fun _ => (0 : Int32)) (fun _ => (0 : Int32)) (fun _ => (0 : Int32)) (upd (fun _ => (0 : Int32)) 0 (99 : Int32)) (upd (fun _ => (0 : Int32)) 0 (0 : Int32)) (upd (fun _ => (0 : Int32)) 0 (7 : Int32)) (upd (upd (fun _ => (0 : Int32)) 0 (0 : Int32)) 0 (2 : Int32)) (upd (fun _ => (0 : Int32)) 1 (1 : Int32)) (upd (fun _ => (0 : Int32)) 1 (3 : Int32)) (upd (upd (fun _ => (0 : Int32)) 0 (3 : Int32)) 1 (3 : Int32)) (fun _ => (0 : Int32)) 0 0 (fun _ => (0 : Int32)) := by
  refine ⟨⟨0, by decide, rfl, rfl, fun j hj => absurd hj (by omega)⟩, 2, ⟨0, 12, 0, 7, 1, T0, A0, fun _ => 3, fun _ => 0, fun _ => 0, fun _ => 0, fun _ => 0, fun _ => 99, by decide, ?_, ?_, ?_⟩, ⟨0, by decide, rfl, rfl, fun k hk => absurd hk (by omega)⟩, 0, by decide, rfl, rfl, fun q => absurd q (by decide), fun q => absurd q (by decide)⟩
  · refine ⟨by decide, by decide, by decide, by decide, by decide, by decide, by decide, fun i hi => ?_, fun k hk => ⟨show 0 < 24 by decide, show 0 ≤ 3 by decide, show 0 ≤ 99 by decide, show 99 ≤ 99 by decide⟩⟩
    have h : i = 0 ∨ i = 1 := by omega
    rcases h with h | h <;> subst h
    · exact ⟨by decide, by decide, by decide, by decide, by decide⟩
    · exact ⟨by decide, by decide, by decide, by decide, by decide⟩
  · refine ⟨rfl, rfl, rfl, rfl, rfl, rfl, fun i hi => ?_, fun k hk => ?_⟩
    · have h : i = 0 ∨ i = 1 := by omega
      rcases h with h | h <;> subst h
      · exact ⟨rfl, rfl, rfl, rfl⟩
      · exact ⟨rfl, rfl, rfl, rfl⟩
    · have h : k = 0 := by omega
      subst h
      exact ⟨rfl, rfl, rfl, rfl⟩
  · refine ⟨rfl, rfl, rfl, rfl, rfl, rfl, fun i hi => ?_, fun k hk => ?_⟩
    · have h : i = 0 ∨ i = 1 := by omega
      rcases h with h | h <;> subst h
      · exact ⟨rfl, rfl, rfl, rfl⟩
      · exact ⟨rfl, rfl, rfl, rfl⟩
    · have h : k = 0 := by omega
      subst h
      exact ⟨rfl, rfl, rfl, rfl⟩
