/-! CONSTRUCTORS. Laid by wip/gen/mkinit.py -/
def acons (h : Nat) (u : Nat → Nat) : Nat → Nat := fun k => match k with
  | 0 => h
  | k + 1 => u k
