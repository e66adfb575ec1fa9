/-! bits counted: mathematics -/
theorem land_sp {a b m M : Nat} (ha : a < 256) (hm : m < 256) : (a + 256 * b) &&& (m + 256 * M) = (a &&& m) + 256 * (b &&& M) := by
  have e1 : ((a + 256 * b) &&& (m + 256 * M)) % 2 ^ 8 = a &&& m := by
    rw [Nat.and_mod_two_pow, show (a + 256 * b) % 2 ^ 8 = a by omega, show (m + 256 * M) % 2 ^ 8 = m by omega]
  have e2 : ((a + 256 * b) &&& (m + 256 * M)) / 2 ^ 8 = b &&& M := by
    rw [← Nat.shiftRight_eq_div_pow, Nat.shiftRight_and_distrib, Nat.shiftRight_eq_div_pow, Nat.shiftRight_eq_div_pow, show (a + 256 * b) / 2 ^ 8 = b by omega, show (m + 256 * M) / 2 ^ 8 = M by omega]
  omega
def pf1 (m n : Nat) : Nat := n - ((n / 2) &&& m)
def pf2 (m n : Nat) : Nat := (n &&& m) + ((n / 4) &&& m)
def pf3 (m n : Nat) : Nat := (n + n / 16) &&& m
def rp : Nat → Nat
  | 0 => 0
  | k + 1 => 1 + 256 * rp k
set_option maxRecDepth 20000 in
theorem pb1 : ∀ a : Fin 256, ∀ c : Fin 2, (a.val / 2 + 128 * c.val) &&& 85 = (a.val / 2) &&& 85 := by decide
set_option maxRecDepth 20000 in
theorem pb2 : ∀ a : Fin 256, ∀ c : Fin 4, (a.val / 4 + 64 * c.val) &&& 51 = (a.val / 4) &&& 51 := by decide
