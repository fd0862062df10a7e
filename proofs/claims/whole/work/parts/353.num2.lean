/-! PURE: odds, the numbers -/
def chs : Nat → Nat → Nat
  | _, 0 => 1
  | 0, _ + 1 => 0
  | n + 1, k + 1 => chs n k + chs n (k + 1)
theorem ways_eq : ∀ n, n < 10 → ∀ c, c < 10 → c ≤ n → DX8_ways (nI n) (nI c) = some (Int64.ofNat (chs n c)) := by decide +kernel
def SXk (n x : Nat) : Nat → Nat
  | 0 => 0
  | k + 1 => SXk n x k + (if 2 * k < n then 0 else chs n k * x ^ k * (10 - x) ^ (n - k))
def Wr (x : Nat) : Nat → Nat → Nat
  | 0, k => if k = 10 then 1 else 0
  | t + 1, k => if 1 ≤ k ∧ k < 20 then Wr x t (k - 1) * x + Wr x t (k + 1) * (10 - x) else Wr x t k
def SMk (n x : Nat) : Nat → Nat
  | 0 => 0
  | k + 1 => SMk n x k + Wr x n (10 + k)
def esB : Nat → Nat → Nat → Bool
  | 0, _, b => b == 0
  | k + 1, a, b => if b = 0 then true else esB k b (a % b)
theorem sum_eq : ∀ n, n < 10 → ∀ x, x < 11 → SMk n x 10 = SXk n x (n + 1) ∧ SXk n x (n + 1) ≤ 1000000000 := by decide +kernel
theorem es_ok : ∀ n, n < 10 → ∀ x, x < 11 → esB 60 (SXk n x (n + 1)) (10 ^ n) = true := by decide +kernel
