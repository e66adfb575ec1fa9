/-! bits counted: mathematics -/
theorem land_sp {a b m M : Nat} (ha : a < 256) (hm : m < 256) : (a + 256 * b) &&& (m + 256 * M) = (a &&& m) + 256 * (b &&& M) := by
  have e1 : ((a + 256 * b) &&& (m + 256 * M)) % 2 ^ 8 = a &&& m := by
    rw [Nat.and_mod_two_pow, show (a + 256 * b) % 2 ^ 8 = a by omega, show (m + 256 * M) % 2 ^ 8 = m by omega]
  have e2 : ((a + 256 * b) &&& (m + 256 * M)) / 2 ^ 8 = b &&& M := by
    rw [← Nat.shiftRight_eq_div_pow, Nat.shiftRight_and_distrib, Nat.shiftRight_eq_div_pow, Nat.shiftRight_eq_div_pow, show (a + 256 * b) / 2 ^ 8 = b by omega, show (m + 256 * M) / 2 ^ 8 = M by omega]
  omega
def pf1 (m n : Nat) : Nat := n - ((n / 2) &&& m)
def pf2 (m n : Nat) : Nat := (n &&& m) + ((n / 4) &&& m)
def pf3 (m n : Nat) : Nat := (n + n / 16) &&& m
def rp : Nat → Nat
  | 0 => 0
  | k + 1 => 1 + 256 * rp k
set_option maxRecDepth 20000 in
theorem pb1 : ∀ a : Fin 256, ∀ c : Fin 2, (a.val / 2 + 128 * c.val) &&& 85 = (a.val / 2) &&& 85 := by decide
set_option maxRecDepth 20000 in
theorem pb2 : ∀ a : Fin 256, ∀ c : Fin 4, (a.val / 4 + 64 * c.val) &&& 51 = (a.val / 4) &&& 51 := by decide
set_option maxRecDepth 20000 in
theorem pb3 : ∀ a : Fin 69, ∀ c : Fin 5, (a.val + a.val / 16 + 16 * c.val) &&& 15 = (a.val + a.val / 16) &&& 15 := by decide
theorem land_le {a b : Nat} : a &&& b ≤ a := Nat.and_le_left
theorem pf1_sp {a b k : Nat} (ha : a < 256) : pf1 (85 * rp (k + 1)) (a + 256 * b) = pf1 85 a + 256 * pf1 (85 * rp k) b := by
  unfold pf1
  rw [show 85 * rp (k + 1) = 85 + 256 * (85 * rp k) by show 85 * (1 + 256 * rp k) = _; omega, show (a + 256 * b) / 2 = (a / 2 + 128 * (b % 2)) + 256 * (b / 2) by omega, land_sp (by omega) (by omega)]
  have e := pb1 ⟨a, ha⟩ ⟨b % 2, by omega⟩
  dsimp only at e
  rw [e]
  have l1 := @land_le (a / 2) 85
  have l2 := @land_le (b / 2) (85 * rp k)
  omega
theorem pf2_sp {a b k : Nat} (ha : a < 256) : pf2 (51 * rp (k + 1)) (a + 256 * b) = pf2 51 a + 256 * pf2 (51 * rp k) b := by
  unfold pf2
  rw [show 51 * rp (k + 1) = 51 + 256 * (51 * rp k) by show 51 * (1 + 256 * rp k) = _; omega, show (a + 256 * b) / 4 = (a / 4 + 64 * (b % 4)) + 256 * (b / 4) by omega, land_sp (by omega) (by omega), land_sp (by omega) (by omega)]
  have e := pb2 ⟨a, ha⟩ ⟨b % 4, by omega⟩
  dsimp only at e
  rw [e]
  omega
theorem pf3_sp {a b k : Nat} (ha : a < 69) (hb : b % 16 < 5) : pf3 (15 * rp (k + 1)) (a + 256 * b) = pf3 15 a + 256 * pf3 (15 * rp k) b := by
  unfold pf3
  rw [show 15 * rp (k + 1) = 15 + 256 * (15 * rp k) by show 15 * (1 + 256 * rp k) = _; omega, show (a + 256 * b) + (a + 256 * b) / 16 = (a + a / 16 + 16 * (b % 16)) + 256 * (b + b / 16) by omega, land_sp (by omega) (by omega)]
  have e := pb3 ⟨a, ha⟩ ⟨b % 16, by omega⟩
  dsimp only at e
  rw [e]
def bt (n : Nat) : Nat → Nat
  | 0 => 0
  | k + 1 => bt n k + (n / 2 ^ k) % 2
set_option maxRecDepth 20000 in
theorem pb4 : ∀ a : Fin 256, pf1 85 a.val < 256 ∧ pf2 51 (pf1 85 a.val) < 69 ∧ pf2 51 (pf1 85 a.val) % 16 < 5 ∧ pf3 15 (pf2 51 (pf1 85 a.val)) = bt a.val 8 := by decide
def dg (n : Nat) : Nat → Nat
  | 0 => 0
  | k + 1 => bt (n % 256) 8 + 256 * dg (n / 256) k
theorem pG : ∀ (k n : Nat), n < 256 ^ k → pf2 (51 * rp k) (pf1 (85 * rp k) n) % 16 < 5 ∧ pf3 (15 * rp k) (pf2 (51 * rp k) (pf1 (85 * rp k) n)) = dg n k := by
  intro k
  induction k with
  | zero =>
    intro n hn
    have e0 : n = 0 := by rw [Nat.pow_zero] at hn; omega
    subst e0
    decide
  | succ k ih =>
    intro n hn
    have hq : n / 256 < 256 ^ k := by rw [Nat.pow_succ] at hn; omega
    obtain ⟨i1, i2⟩ := ih (n / 256) hq
    obtain ⟨d1, d2, d3, d4⟩ := pb4 ⟨n % 256, by omega⟩
    dsimp only at d1 d2 d3 d4
    have en : pf1 (85 * rp (k + 1)) n = pf1 85 (n % 256) + 256 * pf1 (85 * rp k) (n / 256) := by
      have := pf1_sp (a := n % 256) (b := n / 256) (k := k) (by omega)
      rwa [show n % 256 + 256 * (n / 256) = n by omega] at this
    rw [en, pf2_sp d1]
    refine ⟨by omega, ?_⟩
    rw [pf3_sp d2 i1, d4, i2]
    rfl
theorem bt_add {n a : Nat} : ∀ b, bt n (a + b) = bt n a + bt (n / 2 ^ a) b := by
  intro b
  induction b with
  | zero => rfl
  | succ b ih =>
    show bt n (a + b) + (n / 2 ^ (a + b)) % 2 = bt n a + (bt (n / 2 ^ a) b + (n / 2 ^ a / 2 ^ b) % 2)
    rw [ih, Nat.pow_add, Nat.div_div_eq_div_mul]
    omega
theorem bt_le {n : Nat} : ∀ k, bt n k ≤ k := by
  intro k
  induction k with
  | zero => exact Nat.le_refl _
  | succ k ih => show bt n k + (n / 2 ^ k) % 2 ≤ k + 1; omega
theorem bt_mod {n : Nat} : bt (n % 256) 8 = bt n 8 := by
  have e : ∀ k, k ≤ 8 → bt (n % 256) k = bt n k := by
    intro k
    induction k with
    | zero => intro _; rfl
    | succ k ih =>
      intro hk
      show bt (n % 256) k + (n % 256 / 2 ^ k) % 2 = bt n k + (n / 2 ^ k) % 2
      rw [ih (by omega)]
      have c : k = 0 ∨ k = 1 ∨ k = 2 ∨ k = 3 ∨ k = 4 ∨ k = 5 ∨ k = 6 ∨ k = 7 := by omega
      clear ih
      rcases c with rfl | rfl | rfl | rfl | rfl | rfl | rfl | rfl <;> omega
  exact e 8 (by omega)
theorem dv256 {c X : Nat} (h : c < 256) : (c + 256 * X) / 256 = X := by omega
theorem pop_s1 {c0 c1 c2 c3 c4 c5 c6 c7 x : Nat} (h0 : c0 ≤ 8) (hx : x = c0 + 256 * (c1 + 256 * (c2 + 256 * (c3 + 256 * (c4 + 256 * (c5 + 256 * (c6 + 256 * c7))))))) : x + x / 256 = (c0 + c1) + 256 * ((c1 + c2) + 256 * ((c2 + c3) + 256 * ((c3 + c4) + 256 * ((c4 + c5) + 256 * ((c5 + c6) + 256 * ((c6 + c7) + 256 * c7)))))) := by
  rw [hx, dv256 (by omega)]
  simp only [Nat.mul_add, ← Nat.mul_assoc]
  omega
theorem dv65536 {c d X : Nat} (h : c < 256) (h2 : d < 256) : (c + 256 * (d + 256 * X)) / 65536 = X := by omega
theorem dv32 {c d e f X : Nat} (h : c < 256) (h2 : d < 256) (h3 : e < 256) (h4 : f < 256) : (c + 256 * (d + 256 * (e + 256 * (f + 256 * X)))) / 4294967296 = X := by
  have e1 : (c + 256 * (d + 256 * (e + 256 * (f + 256 * X)))) / 65536 = e + 256 * (f + 256 * X) := dv65536 h h2
  have e2 : (e + 256 * (f + 256 * X)) / 65536 = X := dv65536 h3 h4
  rw [show (4294967296 : Nat) = 65536 * 65536 from rfl, ← Nat.div_div_eq_div_mul, e1, e2]
theorem pop_s2 {b0 b1 b2 b3 b4 b5 b6 b7 y : Nat} (h0 : b0 ≤ 16) (h1 : b1 ≤ 16) (hy : y = b0 + 256 * (b1 + 256 * (b2 + 256 * (b3 + 256 * (b4 + 256 * (b5 + 256 * (b6 + 256 * b7))))))) : y + y / 65536 = (b0 + b2) + 256 * ((b1 + b3) + 256 * ((b2 + b4) + 256 * ((b3 + b5) + 256 * ((b4 + b6) + 256 * ((b5 + b7) + 256 * (b6 + 256 * b7)))))) := by
  rw [hy, dv65536 (by omega) (by omega)]
  simp only [Nat.mul_add, ← Nat.mul_assoc]
  omega
theorem pop_s3 {b0 b1 b2 b3 b4 b5 b6 b7 z : Nat} (h0 : b0 ≤ 32) (h1 : b1 ≤ 32) (h2 : b2 ≤ 32) (h3 : b3 ≤ 32) (h4 : b4 ≤ 32) (hz : z = b0 + 256 * (b1 + 256 * (b2 + 256 * (b3 + 256 * (b4 + 256 * (b5 + 256 * (b6 + 256 * b7))))))) : (z + z / 4294967296) % 128 = b0 + b4 := by
  rw [hz, dv32 (by omega) (by omega) (by omega) (by omega)]
  generalize b1 + 256 * (b2 + 256 * (b3 + 256 * (b4 + 256 * (b5 + 256 * (b6 + 256 * b7))))) = W
  generalize b5 + 256 * (b6 + 256 * b7) = V
  omega
